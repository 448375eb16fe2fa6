/-! THE MODEL: house -/
def newM (m : Mem) : Prop := (m 44 20 = 0 ∧ ∀ j : Int, 0 ≤ j → j < 10 → m 48 j.toNat = if 2 ≤ j ∧ j ≤ 5 then -9 else 0) ∧ m 44 11 = 0 ∧ m 44 14 = 0 ∧ m 44 16 = 0 ∧ ∀ i : Int, 0 ≤ i → i < 2 → m 51 i.toNat = 0
def mfP (m : Mem) (P : PS) : Prop := (m 44 0 = P.w ∧ m 44 1 = P.h ∧ m 44 2 = P.fa) ∧ (m 44 3 = P.nn ∧ m 44 5 = P.ns ∧ m 44 7 = P.nr) ∧ eqR P.nn (m 45) P.N ∧ eqR P.ns (m 46) P.S ∧ eqR P.nr (m 47) P.R
theorem mf_ok {m : Mem} {i : Int} {P : PS} (hf : mfP m P) (hk : psOK i P) : hsM m := by
  obtain ⟨⟨f1, f2, f3⟩, ⟨f5, f6, f7⟩, f8, f9, f10⟩ := hf
  obtain ⟨⟨h1, h2, h3, h4⟩, ⟨h5, h6, h7, -⟩, h9, h10, h11⟩ := hk
  have hx : ∀ (i : Int) (j : Nat), 0 ≤ i → (4 * i + (j : Int)).toNat = 4 * i.toNat + j := fun i j h => by omega
  have hx0 : ∀ i : Int, 0 ≤ i → (4 * i).toNat = 4 * i.toNat := fun i h => by omega
  have hx1 : ∀ i : Int, 0 ≤ i → (4 * i + 1).toNat = 4 * i.toNat + 1 := fun i h => by omega
  have hx2 : ∀ i : Int, 0 ≤ i → (4 * i + 2).toNat = 4 * i.toNat + 2 := fun i h => by omega
  have hx3 : ∀ i : Int, 0 ≤ i → (4 * i + 3).toNat = 4 * i.toNat + 3 := fun i h => by omega
  unfold hsM mnC mnS mnA mnB mrC mrA mrB mrM mT mW mL mP
  rw [f1, f2, f3]
  refine ⟨h1, h2, h3.1, h3.2, by omega, by omega, by omega, fun i i0 i1 => ?_, fun i i0 i1 => ?_, fun i i0 i1 => ?_⟩
  · have q := h9 i.toNat (by omega)
    rw [hx0 i i0, hx1 i i0, hx2 i i0, hx3 i i0, f8 _ (by omega), f8 _ (by omega), f8 _ (by omega), f8 _ (by omega)]
    exact q
  · have q := h10 i.toNat (by omega)
    rw [hx0 i i0, hx1 i i0, hx2 i i0, hx3 i i0, f9 _ (by omega), f9 _ (by omega), f9 _ (by omega), f9 _ (by omega)]
    exact q
  · have q := h11 i.toNat (by omega)
    rw [hx0 i i0, hx1 i i0, hx2 i i0, hx3 i i0, f10 _ (by omega), f10 _ (by omega), f10 _ (by omega), f10 _ (by omega)]
    exact q
def haM (m0 : Mem) (v : Int) (m : Mem) : Prop := ∃ P' : PS, prP (m0 54) (m0 44 20) 13 0 0 begP v P' ∧ ((v < 0 ∧ Fr [44, 55, 56, 57, 58] m0 m ∧ ∀ k : Nat, (k < 21 ∨ 32 < k) → m 44 k = m0 44 k) ∨ (0 ≤ v ∧ psOK v P' ∧ mfP m P' ∧ newM m ∧ m 44 18 = m0 44 18 ∧ Fr [44, 45, 46, 47, 48, 51, 55, 56, 57, 58] m0 m))
theorem mh_end {m0 mb : Mem} {a1 i : Int} {R0 Q : PS} (h0 : 0 ≤ a1) (hpr : prP (m0 54) (m0 44 20) 13 0 0 begP a1 Q) (hok : psOK a1 Q) (hF : Fr [44, 45, 46, 47, 48, 51, 55, 56, 57, 58] m0 mb) (h18 : mb 44 18 = m0 44 18) (hf : mfP mb Q) : ∀ m1 : Mem, baP mb m1 → (∀ m2 : Mem, m2 = (mset m1 44 11 0) → (∀ m3 : Mem, m3 = (mset m2 44 14 0) → (∀ m4 : Mem, m4 = (mset m3 44 16 0) → (∀ m5 : Mem, m5 = mset m4 51 0 0 → (∀ m6 : Mem, m6 = mset m5 51 1 0 → (∀ m7 : Mem, m7 = (mset m6 44 20 0) → (haM m0 a1 m7))))))) := by
  intro m1 h1 m2 e2 m3 e3 m4 e4 m5 e5 m6 e6 m7 e7
  have x44 : ∀ k : Nat, k ≠ 11 → k ≠ 14 → k ≠ 16 → k ≠ 20 → m7 44 k = mb 44 k := fun k k1 k2 k3 k4 => by
    rw [e7, mset_at, if_neg (by omega), e6, mset_ne 44 (by decide), e5, mset_ne 44 (by decide), e4, mset_at, if_neg (by omega), e3, mset_at, if_neg (by omega), e2, mset_at, if_neg (by omega), h1.1.at 44]
  have xo : ∀ c : Nat, c ≠ 44 → c ≠ 51 → m7 c = m1 c := fun c c1 c2 => by
    rw [e7, mset_ne c c1, e6, mset_ne c c2, e5, mset_ne c c2, e4, mset_ne c c1, e3, mset_ne c c1, e2, mset_ne c c1]
  refine ⟨Q, hpr, Or.inr ⟨h0, hok, ?_, ⟨⟨?_, fun j j0 j1 => ?_⟩, ?_, ?_, ?_, fun j j0 j1 => ?_⟩, ?_, ?_⟩⟩
  · unfold mfP at *
    rw [x44 0 (by decide) (by decide) (by decide) (by decide), x44 1 (by decide) (by decide) (by decide) (by decide), x44 2 (by decide) (by decide) (by decide) (by decide), x44 3 (by decide) (by decide) (by decide) (by decide), x44 5 (by decide) (by decide) (by decide) (by decide), x44 7 (by decide) (by decide) (by decide) (by decide), xo 45 (by decide) (by decide), xo 46 (by decide) (by decide), xo 47 (by decide) (by decide), h1.1.at 45, h1.1.at 46, h1.1.at 47]
    exact hf
  · rw [e7, mset_eq]
  · rw [xo 48 (by decide) (by decide)]
    exact h1.2 j j0 j1
  · rw [e7, mset_at, if_neg (by omega), e6, mset_ne 44 (by decide), e5, mset_ne 44 (by decide), e4, mset_at, if_neg (by omega), e3, mset_at, if_neg (by omega), e2, mset_eq]
  · rw [e7, mset_at, if_neg (by omega), e6, mset_ne 44 (by decide), e5, mset_ne 44 (by decide), e4, mset_at, if_neg (by omega), e3, mset_eq]
  · rw [e7, mset_at, if_neg (by omega), e6, mset_ne 44 (by decide), e5, mset_ne 44 (by decide), e4, mset_eq]
  · rw [e7, mset_ne 51 (by decide), e6, mset_at]
    by_cases c : j.toNat = 1
    · rw [if_pos ⟨rfl, c⟩]
    · rw [if_neg (fun z => c z.2), e5, mset_at, if_pos ⟨rfl, by omega⟩]
  · rw [x44 18 (by decide) (by decide) (by decide) (by decide)]
    exact h18
  · rw [e7, e6, e5, e4, e3, e2]
    exact ((((((hF.tr (h1.1.mono (by decide))).set (by decide)).set (by decide)).set (by decide)).set (by decide)).set (by decide)).set (by decide)
theorem mh_199 {m0 mb : Mem} {a1 i : Int} {R0 Q : PS} (h0 : 0 ≤ a1) (hpr : prP (m0 54) (m0 44 20) 13 0 0 begP a1 Q) (hok : psOK a1 Q) (hF : Fr [44, 45, 46, 47, 48, 51, 55, 56, 57, 58] m0 mb) (h18 : mb 44 18 = m0 44 18) (hf : (mb 44 0 = Q.w ∧ mb 44 1 = Q.h ∧ mb 44 2 = Q.fa) ∧ (mb 44 3 = Q.nn ∧ mb 44 5 = Q.ns ∧ mb 44 7 = Q.nr) ∧ eqR Q.nn (mb 45) Q.N ∧ eqR Q.ns (mb 57) Q.S ∧ eqR Q.nr (mb 47) Q.R) : ∀ (k : Nat) (a2 : Int) (m : Mem), 0 ≤ a2 → a2 ≤ 16 → (16 - a2).toNat ≤ k → Fr [46] mb m → (∀ e : Nat, (e : Int) < a2 → m 46 e = mb 57 e) → w_X10_house_199 i R0 (haM m0) a1 a2 m := by
  have hns := hok.2.1.2.1
  have hfin : ∀ (a2 : Int) (m : Mem), a2 = 16 → Fr [46] mb m → (∀ e : Nat, (e : Int) < a2 → m 46 e = mb 57 e) → mfP m Q := by
    intro a2 m e hFm hx
    obtain ⟨f1, f2, f3, f4, f5⟩ := hf
    refine ⟨by rw [hFm.at 44]; exact f1, by rw [hFm.at 44]; exact f2, by rw [hFm.at 45]; exact f3, fun j hj => ?_, by rw [hFm.at 47]; exact f5⟩
    rw [hx j (by omega)]
    exact f4 j hj
  intro k
  induction k with
  | zero =>
    intro a2 m g0 g1 hk hFm hx
    exact v_X10_house_199 ⟨fun _ => mh_end (i := i) (R0 := R0) h0 hpr hok (hF.tr (hFm.mono (by decide))) (by rw [hFm.at 44]; exact h18) (hfin a2 m (by omega) hFm hx), fun q => by omega⟩
  | succ k ih =>
    intro a2 m g0 g1 hk hFm hx
    refine v_X10_house_199 ⟨fun q => mh_end (i := i) (R0 := R0) h0 hpr hok (hF.tr (hFm.mono (by decide))) (by rw [hFm.at 44]; exact h18) (hfin a2 m (by omega) hFm hx), fun q => ⟨g0, fun m9 e9 => ⟨by unfold inR; omega, ?_⟩⟩⟩
    rw [e9]
    refine ih _ _ (by omega) (by omega) (by omega) (hFm.set (by decide)) (fun e he => ?_)
    rw [mset_at]
    by_cases c : e = a2.toNat
    · rw [if_pos ⟨rfl, c⟩, hFm.at 57, c]
    · rw [if_neg (fun z => c z.2)]
      exact hx e (by omega)
theorem mh_161 {m0 mb : Mem} {a1 i : Int} {R0 Q : PS} (h0 : 0 ≤ a1) (hpr : prP (m0 54) (m0 44 20) 13 0 0 begP a1 Q) (hok : psOK a1 Q) (hF : Fr [44, 45, 46, 47, 48, 51, 55, 56, 57, 58] m0 mb) (h18 : mb 44 18 = m0 44 18) (hf : (mb 44 0 = Q.w ∧ mb 44 1 = Q.h ∧ mb 44 2 = Q.fa) ∧ (mb 44 3 = Q.nn ∧ mb 44 5 = Q.ns ∧ mb 44 7 = Q.nr) ∧ eqR Q.nn (mb 56) Q.N ∧ eqR Q.ns (mb 57) Q.S ∧ eqR Q.nr (mb 58) Q.R) : ∀ (k : Nat) (a2 : Int) (m : Mem), 0 ≤ a2 → a2 ≤ 12 → (12 - a2).toNat ≤ k → Fr [45, 47] mb m → (∀ e : Nat, (e : Int) < a2 → m 45 e = mb 56 e ∧ m 47 e = mb 58 e) → w_X10_house_161 i R0 (haM m0) a1 a2 m := by
  have hb := hok.2.1
  have hfin : ∀ (a2 : Int) (m : Mem), a2 = 12 → Fr [45, 47] mb m → (∀ e : Nat, (e : Int) < a2 → m 45 e = mb 56 e ∧ m 47 e = mb 58 e) → w_X10_house_199 i R0 (haM m0) a1 0 m := by
    intro a2 m e hFm hx
    obtain ⟨f1, f2, f3, f4, f5⟩ := hf
    refine mh_199 h0 hpr hok (hF.tr (hFm.mono (by decide))) (by rw [hFm.at 44]; exact h18) ⟨by rw [hFm.at 44]; exact f1, by rw [hFm.at 44]; exact f2, fun j hj => ?_, by rw [hFm.at 57]; exact f4, fun j hj => ?_⟩ 16 0 m (by omega) (by omega) (by omega) Fr.rf (fun e he => by omega)
    · rw [(hx j (by omega)).1]
      exact f3 j hj
    · rw [(hx j (by omega)).2]
      exact f5 j hj
  intro k
  induction k with
  | zero =>
    intro a2 m g0 g1 hk hFm hx
    exact v_X10_house_161 ⟨fun _ => hfin a2 m (by omega) hFm hx, fun q => by omega⟩
  | succ k ih =>
    intro a2 m g0 g1 hk hFm hx
    refine v_X10_house_161 ⟨fun q => hfin a2 m (by omega) hFm hx, fun q => ⟨g0, fun m2 e2 m3 e3 => ⟨by unfold inR; omega, ?_⟩⟩⟩
    rw [e3, e2]
    refine ih _ _ (by omega) (by omega) (by omega) ((hFm.set (by decide)).set (by decide)) (fun e he => ?_)
    rw [mset_ne 45 (by decide), mset_at, mset_at, mset_ne 47 (by decide), mset_ne 58 (by decide)]
    by_cases c : e = a2.toNat
    · rw [if_pos ⟨rfl, c⟩, if_pos ⟨rfl, c⟩, hFm.at 56, hFm.at 58, c]
      exact ⟨rfl, rfl⟩
    · rw [if_neg (fun z => c z.2), if_neg (fun z => c z.2)]
      exact hx e (by omega)
def hoJ (m0 : Mem) (a1 : Int) (m : Mem) : Prop := Fr [44, 55, 56, 57, 58] m0 m ∧ (∀ k : Nat, (k < 21 ∨ 32 < k) → m 44 k = m0 44 k) ∧ ((m 44 25 = 1 ∧ (0 ≤ m 44 22 ∧ m 44 22 ≤ 200) ∧ ∃ P', prP (m0 54) (m0 44 20) 13 0 0 begP (-10 - m 44 22) P') ∨ (m 44 25 = 0 ∧ (0 ≤ m 44 21 ∧ m 44 21 ≤ m0 44 20) ∧ ∃ (a : Int) (Q : PS), (0 ≤ a ∧ a ≤ m0 44 20) ∧ TKm a m ∧ sdP m Q ∧ psOK a1 Q ∧ ∀ ans P', prP (m0 54) (m0 44 20) (13 - a1).toNat a1 a Q ans P' → prP (m0 54) (m0 44 20) 13 0 0 begP ans P'))
theorem mh_loop {m0 : Mem} {i0 : Int} {R0 : PS} (ht : txM m0) : ∀ (k : Nat) (a1 : Int) (u2 : Vl) (m : Mem), 0 ≤ a1 → (14 - a1).toNat ≤ k → hoJ m0 a1 m → w_X10_house_57 i0 R0 (haM m0) a1 u2 m := by
  have h200 := ht.1
  have hbad : ∀ (m : Mem), Fr [44, 55, 56, 57, 58] m0 m → (∀ k : Nat, (k < 21 ∨ 32 < k) → m 44 k = m0 44 k) → (0 ≤ m 44 22 ∧ m 44 22 ≤ 200) → (∃ P', prP (m0 54) (m0 44 20) 13 0 0 begP (-10 - m 44 22) P') → (inR ((-10) - (m 44 22))) ∧ (haM m0 ((-10) - (m 44 22)) m) := by
    rintro m hF hx h22 ⟨P', hp⟩
    exact ⟨by unfold inR; omega, P', hp, Or.inl ⟨by omega, hF, hx⟩⟩
  intro k
  induction k with
  | zero =>
    intro a1 u2 m h0 hk hJ
    obtain ⟨hF, hx, hc⟩ := hJ
    rcases hc with ⟨h25, h22, hp⟩ | ⟨h25, h21, a, Q, ha, htk, hsd, hok, hch⟩
    · have hb := hbad m hF hx h22 hp
      exact v_X10_house_57 (i := i0) (Q0 := R0) ⟨fun _ => ⟨fun z => by omega, fun _ => hb⟩, fun _ => ⟨fun _ => hb, fun z => by omega⟩⟩
    · obtain ⟨⟨-, -, -, b⟩, ⟨n1, n2, n3, n4, n5⟩, -⟩ := hok
      omega
  | succ k ih =>
    intro a1 u2 m h0 hk hJ
    obtain ⟨hF, hx, hc⟩ := hJ
    rcases hc with ⟨h25, h22, hp⟩ | ⟨h25, h21, a, Q, ha, htk, hsd, hok, hch⟩
    · have hb := hbad m hF hx h22 hp
      exact v_X10_house_57 (i := i0) (Q0 := R0) ⟨fun _ => ⟨fun z => by omega, fun _ => hb⟩, fun _ => ⟨fun _ => hb, fun z => by omega⟩⟩
    · have h12 : a1 ≤ 12 := by
        obtain ⟨⟨-, -, -, b⟩, ⟨n1, n2, n3, n4, n5⟩, -⟩ := hok
        omega
      obtain ⟨K, v, htok, henc⟩ := htk
      have e20 : m 44 20 = m0 44 20 := hx 20 (by omega)
      have e54 : m 54 = m0 54 := hF.at 54
      have htok0 := htok
      rw [e54, e20] at htok0
      have hb := tok_b htok0 ha.2
      have er : (13 - a1).toNat = (13 - (a1 + 1)).toNat + 1 := by omega
      rw [er] at hch
      refine v_X10_house_57 (i := a1) (Q0 := Q) ⟨fun q => ⟨fun _ => ?_, fun z => absurd h25 z⟩, fun q => ⟨fun z => absurd h25 z, fun _ => ?_⟩⟩
      · have hK : K = 0 := by unfold tkE at henc; omega
        have hpr := hch a1 Q ⟨K, v, m 44 22, m 44 21, htok0, Or.inl ⟨hK, rfl, rfl⟩⟩
        obtain ⟨⟨y0, y1, y2, y3⟩, ⟨n1, n2, n3⟩, r1, r2, r3⟩ := hsd
        intro m1 e1 m2 e2 m3 e3 m4 e4 m5 e5 m6 e6
        have xo : ∀ c : Nat, c ≠ 44 → m6 c = m c := fun c hc => by rw [e6, mset_ne c hc, e5, mset_ne c hc, e4, mset_ne c hc, e3, mset_ne c hc, e2, mset_ne c hc, e1, mset_ne c hc]
        have v0 : m6 44 0 = Q.w := by rw [e6, mset_at, if_neg (by omega), e5, mset_at, if_neg (by omega), e4, mset_at, if_neg (by omega), e3, mset_at, if_neg (by omega), e2, mset_at, if_neg (by omega), e1, mset_eq, y0]
        have v1 : m6 44 1 = Q.h := by rw [e6, mset_at, if_neg (by omega), e5, mset_at, if_neg (by omega), e4, mset_at, if_neg (by omega), e3, mset_at, if_neg (by omega), e2, mset_eq, e1, mset_ne 55 (by decide), y1]
        have v2 : m6 44 2 = Q.fa := by rw [e6, mset_at, if_neg (by omega), e5, mset_at, if_neg (by omega), e4, mset_at, if_neg (by omega), e3, mset_eq, e2, mset_ne 55 (by decide), e1, mset_ne 55 (by decide), y2]
        have v3 : m6 44 3 = Q.nn := by rw [e6, mset_at, if_neg (by omega), e5, mset_at, if_neg (by omega), e4, mset_eq, e3, mset_at, if_neg (by omega), e2, mset_at, if_neg (by omega), e1, mset_at, if_neg (by omega), n1]
        have v5 : m6 44 5 = Q.ns := by rw [e6, mset_at, if_neg (by omega), e5, mset_eq, e4, mset_at, if_neg (by omega), e3, mset_at, if_neg (by omega), e2, mset_at, if_neg (by omega), e1, mset_at, if_neg (by omega), n2]
        have v7 : m6 44 7 = Q.nr := by rw [e6, mset_eq, e5, mset_at, if_neg (by omega), e4, mset_at, if_neg (by omega), e3, mset_at, if_neg (by omega), e2, mset_at, if_neg (by omega), e1, mset_at, if_neg (by omega), n3]
        have v18 : m6 44 18 = m0 44 18 := by rw [e6, mset_at, if_neg (by omega), e5, mset_at, if_neg (by omega), e4, mset_at, if_neg (by omega), e3, mset_at, if_neg (by omega), e2, mset_at, if_neg (by omega), e1, mset_at, if_neg (by omega), hx 18 (by omega)]
        refine mh_161 h0 hpr hok ?_ v18 ⟨⟨v0, v1, v2⟩, ⟨v3, v5, v7⟩, by rw [xo 56 (by decide)]; exact r1, by rw [xo 57 (by decide)]; exact r2, by rw [xo 58 (by decide)]; exact r3⟩ 12 0 m6 (by omega) (by omega) (by omega) Fr.rf (fun e he => by omega)
        rw [e6, e5, e4, e3, e2, e1]
        exact (((((((hF.mono (by decide)).set (by decide)).set (by decide)).set (by decide)).set (by decide)).set (by decide)).set (by decide))
      · have hK : K ≠ 0 := by unfold tkE at henc; omega
        have hnq : nxQ m := by
          unfold nxQ txM
          rw [e20, e54]
          exact ⟨ht, h21⟩
        have hnext : ∀ m10 : Mem, irP m a1 Q m10 → (inR (a1 + 1)) ∧ (w_X10_house_57 i0 R0 (haM m0) (a1 + 1) u2 m10) := by
          intro m10 h10
          have hit := h10 K v henc hK
          obtain ⟨g21, gF, gx, gc⟩ := hit
          refine ⟨by unfold inR; omega, ih _ _ m10 (by omega) (by omega) ⟨hF.tr gF, fun k hk => by rw [gx k hk, hx k hk], ?_⟩⟩
          rw [e54, e20] at gc
          rcases gc with ⟨k25, kc⟩ | ⟨k25, ⟨km1, km2⟩, f, st, e, g, hfl, he, htk2, hsd2⟩
          · left
            rcases kc with ⟨kn, k22⟩ | ⟨⟨km1, km2⟩, f, e, g, hfl⟩
            · refine ⟨k25, by rw [k22]; omega, Q, ?_⟩
              rw [k22]
              exact hch _ _ ⟨K, v, m 44 22, m 44 21, htok0, Or.inr (Or.inr ⟨⟨hK, kn⟩, rfl⟩)⟩
            · have hst := (flP_ok _ 0 _ _ _ _ _ _ (by omega) hfl).2.1
              refine ⟨k25, by omega, Q, ?_⟩
              exact hch _ _ ⟨K, v, m 44 22, m 44 21, htok0, Or.inr (Or.inl ⟨⟨km1, km2⟩, f, 0, m10 44 22, e, g, hfl, Or.inr ⟨rfl, rfl⟩⟩)⟩
          · right
            have hfo := (flP_ok _ 0 _ _ _ _ _ _ (by omega) hfl).2.2 rfl
            refine ⟨k25, by rw [e20] at g21; exact g21, e, ent v g Q, he, htk2, hsd2, psOK_ent hok km2 (fun j hj => hfo.2.2 j (by omega) (by omega)), fun ans P' hpr => ?_⟩
            exact hch ans P' ⟨K, v, m 44 22, m 44 21, htok0, Or.inr (Or.inl ⟨⟨km1, km2⟩, f, 1, st, e, g, hfl, Or.inl ⟨rfl, hpr⟩⟩)⟩
        exact ⟨fun z => ⟨⟨hnq, h25, hsd, hok, Or.inr ⟨rfl, z⟩⟩, hnext⟩, fun z => ⟨⟨hnq, h25, hsd, hok, Or.inl ⟨rfl, z⟩⟩, hnext⟩⟩
theorem c_X10_house {m0 : Mem} (ht : txM m0) : Tot mX10_house 0 0 [vR 44] SH m0 (Pr SH (haM m0)) := by
  refine v_X10_house (i := 0) (Q0 := begP) (fun m1 e1 m2 e2 m3 e3 m4 e4 m5 e5 m6 e6 m7 e7 m8 e8 m9 e9 => ?_)
  have x44 : ∀ k : Nat, k ≠ 21 → k ≠ 25 → k ≠ 27 → k ≠ 28 → k ≠ 30 → k ≠ 32 → m9 44 k = m0 44 k := fun k k1 k2 k3 k4 k5 k6 => by
    rw [e9, mset_at, if_neg (by omega), e8, mset_at, if_neg (by omega), e7, mset_at, if_neg (by omega), e6, mset_at, if_neg (by omega), e5, mset_ne 44 (by decide), e4, mset_ne 44 (by decide), e3, mset_ne 44 (by decide), e2, mset_at, if_neg (by omega), e1, mset_at, if_neg (by omega)]
  have v21 : m9 44 21 = 0 := by rw [e9, mset_at, if_neg (by omega), e8, mset_at, if_neg (by omega), e7, mset_at, if_neg (by omega), e6, mset_at, if_neg (by omega), e5, mset_ne 44 (by decide), e4, mset_ne 44 (by decide), e3, mset_ne 44 (by decide), e2, mset_at, if_neg (by omega), e1, mset_eq]
  have v25 : m9 44 25 = 0 := by rw [e9, mset_at, if_neg (by omega), e8, mset_at, if_neg (by omega), e7, mset_at, if_neg (by omega), e6, mset_at, if_neg (by omega), e5, mset_ne 44 (by decide), e4, mset_ne 44 (by decide), e3, mset_ne 44 (by decide), e2, mset_eq]
  have v27 : m9 44 27 = 0 := by rw [e9, mset_at, if_neg (by omega), e8, mset_at, if_neg (by omega), e7, mset_at, if_neg (by omega), e6, mset_eq]
  have v28 : m9 44 28 = 0 := by rw [e9, mset_at, if_neg (by omega), e8, mset_at, if_neg (by omega), e7, mset_eq]
  have v30 : m9 44 30 = 0 := by rw [e9, mset_at, if_neg (by omega), e8, mset_eq]
  have v32 : m9 44 32 = 0 := by rw [e9, mset_eq]
  have y55 : m9 55 = m5 55 := by rw [e9, mset_ne 55 (by decide), e8, mset_ne 55 (by decide), e7, mset_ne 55 (by decide), e6, mset_ne 55 (by decide)]
  have y0 : m9 55 0 = 3 := by rw [y55, e5, mset_at, if_neg (by omega), e4, mset_at, if_neg (by omega), e3, mset_eq]
  have y1 : m9 55 1 = 2 := by rw [y55, e5, mset_at, if_neg (by omega), e4, mset_eq]
  have y2 : m9 55 2 = 5 := by rw [y55, e5, mset_eq]
  have hF9 : Fr [44, 55, 56, 57, 58] m0 m9 := by
    rw [e9, e8, e7, e6, e5, e4, e3, e2, e1]
    exact (((((((((Fr.rf.set (by decide)).set (by decide)).set (by decide)).set (by decide)).set (by decide)).set (by decide)).set (by decide)).set (by decide)).set (by decide))
  have h200 := ht.1
  have e20 : m9 44 20 = m0 44 20 := x44 20 (by decide) (by decide) (by decide) (by decide) (by decide) (by decide)
  have hnq : nxQ m9 := by
    unfold nxQ txM
    rw [e20, hF9.at 54, v21]
    exact ⟨ht, by omega⟩
  refine ⟨hnq, fun m11 h11 => ?_⟩
  have htk := h11.2
  rw [v21] at htk
  have z44 : ∀ k : Nat, k ≠ 21 → k ≠ 22 → k ≠ 23 → k ≠ 24 → m11 44 k = m9 44 k := h11.1.2
  have hz20 : m11 44 20 = m0 44 20 := by rw [z44 20 (by decide) (by decide) (by decide) (by decide), e20]
  refine mh_loop ht 14 0 _ m11 (by omega) (by omega) ⟨hF9.tr (h11.1.1.mono (by decide)), fun k hk => by rw [z44 k (by omega) (by omega) (by omega) (by omega), x44 k (by omega) (by omega) (by omega) (by omega) (by omega) (by omega)], Or.inr ⟨by rw [z44 25 (by decide) (by decide) (by decide) (by decide), v25], ?_, 0, begP, by omega, htk, ⟨⟨?_, ?_, ?_, ?_⟩, ⟨?_, ?_, ?_⟩, fun e he => ?_, fun e he => ?_, fun e he => ?_⟩, beg_ok, fun ans P' h => h⟩⟩
  · obtain ⟨K, v, h2, -⟩ := htk
    rw [hz20] at h2
    have := tok_b h2 h200.1
    omega
  · rw [h11.1.1.at 55, y0]; rfl
  · rw [h11.1.1.at 55, y1]; rfl
  · rw [h11.1.1.at 55, y2]; rfl
  · rw [z44 27 (by decide) (by decide) (by decide) (by decide), v27]; rfl
  · rw [z44 28 (by decide) (by decide) (by decide) (by decide), v28]; rfl
  · rw [z44 30 (by decide) (by decide) (by decide) (by decide), v30]; rfl
  · rw [z44 32 (by decide) (by decide) (by decide) (by decide), v32]; rfl
  all_goals
    have he' : (e : Int) < 4 * 0 := he
    omega
