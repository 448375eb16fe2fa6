/-! THE MODEL: firstWaked, loudRooms; the first hour told in the class' words -/
theorem loudF_gt {A B S C : Int → Int} {D : Int → Int → Int} {c first last M : Int} (hM : 0 ≤ M) : ∀ (k : Nat), M < loudF A B S C D c first last k ↔ ∃ n : Int, 0 ≤ n ∧ n < k ∧ (A n ≤ last ∧ first ≤ B n) ∧ M < S n - D (C n) c
  | 0 => ⟨fun h => by simp only [loudF] at h; omega, fun ⟨n, h0, h1, _⟩ => by omega⟩
  | k + 1 => by
    have ih := loudF_gt (A := A) (B := B) (S := S) (C := C) (D := D) (c := c) (first := first) (last := last) hM k
    have eka : ∀ n : Int, 0 ≤ n → n < ((k + 1 : Nat) : Int) → n = k ∨ n < k := fun n _ h => by omega
    simp only [loudF]
    constructor
    · intro h
      by_cases hc : A k ≤ last ∧ first ≤ B k
      · rw [if_pos hc] at h
        by_cases q : M < loudF A B S C D c first last k
        · obtain ⟨n, n0, nk, h1, h2⟩ := ih.mp q
          exact ⟨n, n0, by omega, h1, h2⟩
        · exact ⟨k, by omega, by omega, hc, by omega⟩
      · rw [if_neg hc] at h
        obtain ⟨n, n0, nk, h1, h2⟩ := ih.mp h
        exact ⟨n, n0, by omega, h1, h2⟩
    · rintro ⟨n, n0, nk, h1, h2⟩
      rcases eka n n0 nk with q | q
      · rw [q] at h1 h2
        rw [if_pos h1]
        omega
      · have := ih.mpr ⟨n, n0, q, h1, h2⟩
        split <;> omega
noncomputable abbrev lrM (m : Mem) (r : Int) : Int := ldM m (mrC m r) (mrA m r) (mrB m r)
abbrev waM (m : Mem) (r : Int) : Prop := mrM m r < lrM m r
theorem waM_iff {m : Mem} (hy : rdM m) {r : Int} (r0 : 0 ≤ r) (rn : r < m 44 7) : waM m r ↔ ∃ n : Int, 0 ≤ n ∧ n < m 44 3 ∧ luM m r n := by
  have hM : 0 ≤ mrM m r := (hy.1.2.2.2.2.2.2.2.2.2 r r0 rn).2.2.1
  have h3 := hy.1.2.2.2.2.1
  have h := loudF_gt (A := mnA m) (B := mnB m) (S := mnS m) (C := mnC m) (D := DM m) (c := mrC m r) (first := mrA m r) (last := mrB m r) hM (m 44 3).toNat
  rw [show (((m 44 3).toNat : Nat) : Int) = m 44 3 by omega] at h
  exact h
theorem mfw_loop {m0 : Mem} (hy : rdM m0) : ∀ (k : Nat) (a1 : Int) (m : Mem), 0 ≤ a1 → a1 ≤ m0 44 7 → (m0 44 7 - a1).toNat ≤ k → Fr [62] m0 m → (∀ i : Int, 0 ≤ i → i < a1 → ¬ waM m0 i) → w_X10_firstWaked_2 (anN m0 (isFirst (waM m0) 0 (m0 44 7))) a1 m := by
  have h7 := hy.1.2.2.2.2.2.2.1
  intro k
  induction k with
  | zero =>
    intro a1 m h0 h1 hk hF hx
    refine v_X10_firstWaked_2 ?_
    rw [hF.at 44]
    exact ⟨fun z => ⟨Or.inl ⟨rfl, fun i i0 i1 => hx i i0 (by omega)⟩, hF⟩, fun z => by omega⟩
  | succ k ih =>
    intro a1 m h0 h1 hk hF hx
    refine v_X10_firstWaked_2 ?_
    rw [hF.at 44]
    refine ⟨fun z => ⟨Or.inl ⟨rfl, fun i i0 i1 => hx i i0 (by omega)⟩, hF⟩, fun z => ⟨rdM_fr hF hy, h0, z, fun v4 m5 h5 => ?_⟩⟩
    have hF5 := hF.tr h5.2
    have hA : 0 ≤ mrA m0 a1 := (hy.1.2.2.2.2.2.2.2.2.2 a1 h0 z).2.1.1
    have hiff := waM_iff hy h0 z
    have hlu : ∀ n : Int, luM m a1 n ↔ luM m0 a1 n := by
      intro n
      unfold luM
      rw [(mno_fr hF).1, (mno_fr hF).2.1, (mno_fr hF).2.2.1, (mno_fr hF).2.2.2, (mro_fr hF).1, (mro_fr hF).2.1, (mro_fr hF).2.2.1, (mro_fr hF).2.2.2, DM_fr hF]
    have hw := h5.1
    refine ⟨fun y => ⟨by omega, ih _ _ (by omega) (by omega) (by omega) hF5 (fun i i0 i1 => ?_)⟩, fun y => ⟨Or.inr ⟨h0, z, ?_, hx⟩, hF5⟩⟩
    · by_cases q : i = a1
      · rw [q, hiff]
        rintro ⟨n, n0, nn, hl⟩
        rcases hw with ⟨_, h2⟩ | ⟨⟨n', _, _, _, h2⟩, _⟩
        · exact h2 n n0 nn ((hlu n).mpr hl)
        · rw [(mno_fr hF).1, (mro_fr hF).1] at h2
          omega
      · exact hx i i0 (by omega)
    · rw [hiff]
      rcases hw with ⟨h2, _⟩ | ⟨⟨n', n0, nn, hl, _⟩, _⟩
      · exact absurd h2 y
      · exact ⟨n', n0, nn, (hlu n').mp hl⟩
theorem c_X10_firstWaked {m0 : Mem} (hy : rdM m0) : Tot mX10_firstWaked 0 0 [vR 44] SH m0 (Pr SH (anN m0 (isFirst (waM m0) 0 (m0 44 7)))) :=
  v_X10_firstWaked (mfw_loop hy _ 0 m0 (by omega) hy.1.2.2.2.2.2.2.1.1 (Nat.le_refl _) Fr.rf (fun i i0 i1 => by omega))
/-- of a room that is waked the model's first hour is the first loud hour -/
theorem wk_first {m : Mem} (hy : rdM m) {r v : Int} (r0 : 0 ≤ r) (rn : r < m 44 7) (hwa : waM m r) (hv : wkM m r (m 44 3) v) : isFirst (fun h => mrM m r < ldM m (mrC m r) h h) (mrA m r) 24 v := by
  have h3 := hy.1.2.2.2.2.1
  have hro := hy.1.2.2.2.2.2.2.2.2.2 r r0 rn
  have hM : 0 ≤ mrM m r := hro.2.2.1
  have hgt : ∀ h : Int, mrM m r < ldM m (mrC m r) h h ↔ ∃ n : Int, 0 ≤ n ∧ n < m 44 3 ∧ (mnA m n ≤ h ∧ h ≤ mnB m n) ∧ mrM m r < mnS m n - DM m (mnC m n) (mrC m r) := by
    intro h
    have q := loudF_gt (A := mnA m) (B := mnB m) (S := mnS m) (C := mnC m) (D := DM m) (c := mrC m r) (first := h) (last := h) hM (m 44 3).toNat
    rw [show (((m 44 3).toNat : Nat) : Int) = m 44 3 by omega] at q
    exact q
  obtain ⟨n1, n10, n1n, hl1⟩ := (waM_iff hy r0 rn).mp hwa
  rcases hv with ⟨_, h2⟩ | ⟨⟨n, n0, nn, hl, hve⟩, h2⟩
  · exact absurd hl1 (h2 n1 n10 n1n)
  · have hno := hy.1.2.2.2.2.2.2.2.1 n n0 nn
    refine Or.inr ⟨by omega, by omega, (hgt v).mpr ⟨n, n0, nn, by omega, hl.2⟩, fun i i0 i1 hi => ?_⟩
    obtain ⟨j, j0, jn, hj1, hj2⟩ := (hgt i).mp hi
    have h4 := h2 j j0 jn ⟨by omega, hj2⟩
    omega
theorem mlr_in {m0 : Mem} {P : Int → Mem → Prop} {a1 r : Int} (hy : rdM m0) (r0 : 0 ≤ r) (rn : r < m0 44 7) (hb : 0 ≤ a1 ∧ a1 ≤ 1000) (K : ∀ (u3 u4 u5 : Vl) (m : Mem), Fr [62] m0 m → w_X10_loudRooms_4 P (a1 + lrM m0 r) (r + 1) u3 u4 u5 m) :
    ∀ (k : Nat) (a3 a4 : Int) (u5 : Vl) (m : Mem), 0 ≤ a4 → a4 ≤ m0 44 3 → (m0 44 3 - a4).toNat ≤ k → Fr [62] m0 m → a3 = loudF (mnA m0) (mnB m0) (mnS m0) (mnC m0) (DM m0) (mrC m0 r) (mrA m0 r) (mrB m0 r) a4.toNat → w_X10_loudRooms_17 P a1 r a3 a4 u5 m := by
  have h3 := hy.1.2.2.2.2.1
  have h7 := hy.1.2.2.2.2.2.2.1
  have hn := okG_n hy.2
  have hro := hy.1.2.2.2.2.2.2.2.2.2 r r0 rn
  have hbd : ∀ a4 : Int, 0 ≤ a4 → a4 ≤ m0 44 3 → 0 ≤ loudF (mnA m0) (mnB m0) (mnS m0) (mnC m0) (DM m0) (mrC m0 r) (mrA m0 r) (mrB m0 r) a4.toNat ∧ loudF (mnA m0) (mnB m0) (mnS m0) (mnC m0) (DM m0) (mrC m0 r) (mrA m0 r) (mrB m0 r) a4.toNat ≤ 99 := by
    intro a4 h0 h1
    refine loudF_b _ (fun i i0 ik => ?_)
    have q1 := hy.1.2.2.2.2.2.2.2.1 i i0 (by omega)
    exact ⟨q1.2.1.2, (DM_b hy q1.1.1 q1.1.2 hro.1.1 hro.1.2).1⟩
  have hend : ∀ (a3 a4 : Int) (m : Mem), m0 44 3 ≤ a4 → a4 ≤ m0 44 3 → Fr [62] m0 m → a3 = loudF (mnA m0) (mnB m0) (mnS m0) (mnC m0) (DM m0) (mrC m0 r) (mrA m0 r) (mrB m0 r) a4.toNat → inR (a1 + a3) ∧ inR (r + 1) ∧ ∀ u3 u4 u5, w_X10_loudRooms_4 P (a1 + a3) (r + 1) u3 u4 u5 m := by
    intro a3 a4 m h1 h2 hF he
    have q := hbd a4 (by omega) h2
    have e : a3 = lrM m0 r := by rw [he, show a4 = m0 44 3 by omega]
    refine ⟨by omega, by omega, fun u3 u4 u5 => ?_⟩
    rw [e]
    exact K _ _ _ _ hF
  intro k
  induction k with
  | zero =>
    intro a3 a4 u5 m h0 h1 hk hF he
    refine v_X10_loudRooms_17 ?_
    rw [hF.at 44]
    exact ⟨fun z => ⟨(hend a3 a4 m z h1 hF he).1, (hend a3 a4 m z h1 hF he).2.1, (hend a3 a4 m z h1 hF he).2.2 _ _ _⟩, fun z => by omega⟩
  | succ k ih =>
    intro a3 a4 u5 m h0 h1 hk hF he
    by_cases z : a4 < m0 44 3
    · have hno := hy.1.2.2.2.2.2.2.2.1 a4 h0 z
      have eA : m0 45 (4 * a4 + 2).toNat = mnA m0 a4 := rfl
      have eB : m0 45 (4 * a4 + 3).toNat = mnB m0 a4 := rfl
      have eS : m0 45 (4 * a4 + 1).toNat = mnS m0 a4 := rfl
      have eC : m0 45 (4 * a4).toNat = mnC m0 a4 := rfl
      have rA : m0 47 (4 * r + 1).toNat = mrA m0 r := rfl
      have rB : m0 47 (4 * r + 2).toNat = mrB m0 r := rfl
      have rC : m0 47 (4 * r).toNat = mrC m0 r := rfl
      have q3 := hbd a4 h0 h1
      have hDb := DM_b hy hno.1.1 hno.1.2 hro.1.1 hro.1.2
      have hq := okGM_fr hF
      have hstep : loudF (mnA m0) (mnB m0) (mnS m0) (mnC m0) (DM m0) (mrC m0 r) (mrA m0 r) (mrB m0 r) (a4 + 1).toNat = if mnA m0 a4 ≤ mrB m0 r ∧ mrA m0 r ≤ mnB m0 a4 then max (loudF (mnA m0) (mnB m0) (mnS m0) (mnC m0) (DM m0) (mrC m0 r) (mrA m0 r) (mrB m0 r) a4.toNat) (mnS m0 a4 - DM m0 (mnC m0 a4) (mrC m0 r)) else loudF (mnA m0) (mnB m0) (mnS m0) (mnC m0) (DM m0) (mrC m0 r) (mrA m0 r) (mrB m0 r) a4.toNat := by
        rw [show (a4 + 1).toNat = a4.toNat + 1 by omega]
        show (if mnA m0 ((a4.toNat : Nat) : Int) ≤ mrB m0 r ∧ mrA m0 r ≤ mnB m0 ((a4.toNat : Nat) : Int) then _ else _) = _
        rw [show ((a4.toNat : Nat) : Int) = a4 by omega]
      refine v_X10_loudRooms_17 ?_
      rw [hF.at 44, hF.at 45, hF.at 47, eA, eB, eC, rA, rB]
      refine ⟨fun q => by omega, fun _ => ⟨by omega, by omega, by omega, by omega, by omega, by omega, by omega, by omega, fun y => ⟨by omega, ih _ _ _ _ (by omega) (by omega) (by omega) hF (by rw [hstep, if_neg (by omega)]; exact he)⟩, fun y => ⟨by omega, by omega, by omega, by omega, by omega, by omega, fun y2 => ⟨by omega, ih _ _ _ _ (by omega) (by omega) (by omega) hF (by rw [hstep, if_neg (by omega)]; exact he)⟩, fun y2 => ⟨by omega, by omega, hq.2.2 hy.2, hno.1.1, by rw [hq.2.1]; exact hno.1.2, fun m24 h24 => ?_⟩⟩⟩⟩
      have hF9 := hF.tr h24.1
      have hd : m24 62 (mrC m0 r).toNat = DM m0 (mnC m0 a4) (mrC m0 r) := by
        rw [h24.2 _ hro.1.1 (by rw [hq.2.1]; exact hro.1.2)]
        show DM m (mnC m0 a4) (mrC m0 r) = _
        rw [DM_fr hF]
      rw [hF9.at 45, hF9.at 47, eS, rC, hd]
      have hs := hno.2.1
      have hC12 : mrC m0 r < 12 := Int.lt_of_lt_of_le hro.1.2 hn.2
      generalize mnS m0 a4 = S at hs hstep ⊢
      generalize DM m0 (mnC m0 a4) (mrC m0 r) = d at hDb hstep ⊢
      refine ⟨by omega, by omega, by omega, by omega, by omega, hro.1.1, hC12, by omega, fun g => ⟨by omega, ih _ _ _ _ (by omega) (by omega) (by omega) hF9 ?_⟩, fun g => ⟨by omega, ih _ _ _ _ (by omega) (by omega) (by omega) hF9 ?_⟩⟩
      · rw [hstep, if_pos ⟨y, y2⟩]; omega
      · rw [hstep, if_pos ⟨y, y2⟩]; omega
    · refine v_X10_loudRooms_17 ?_
      rw [hF.at 44]
      exact ⟨fun q => ⟨(hend a3 a4 m q h1 hF he).1, (hend a3 a4 m q h1 hF he).2.1, (hend a3 a4 m q h1 hF he).2.2 _ _ _⟩, fun q => absurd q z⟩
theorem mlr_out {m0 : Mem} (hy : rdM m0) : ∀ (k : Nat) (a1 a2 : Int) (u3 u4 u5 : Vl) (m : Mem), 0 ≤ a2 → a2 ≤ m0 44 7 → (m0 44 7 - a2).toNat ≤ k → Fr [62] m0 m → a1 = sumF (lrM m0) a2.toNat → w_X10_loudRooms_4 (anM m0 (sumF (lrM m0) (m0 44 7).toNat)) a1 a2 u3 u4 u5 m := by
  have h7 := hy.1.2.2.2.2.2.2.1
  have hbd : ∀ a2 : Int, 0 ≤ a2 → a2 ≤ m0 44 7 → 0 ≤ sumF (lrM m0) a2.toNat ∧ sumF (lrM m0) a2.toNat ≤ 99 * (a2.toNat : Int) := by
    intro a2 h0 h1
    refine sumF_b _ (fun i i0 ik => ?_)
    have q := hy.1.2.2.2.2.2.2.2.2.2 i i0 (by omega)
    refine loudF_b _ (fun j j0 jk => ?_)
    have q1 := hy.1.2.2.2.2.2.2.2.1 j j0 (by omega)
    exact ⟨q1.2.1.2, (DM_b hy q1.1.1 q1.1.2 q.1.1 q.1.2).1⟩
  intro k
  induction k with
  | zero =>
    intro a1 a2 u3 u4 u5 m h0 h1 hk hF he
    refine v_X10_loudRooms_4 ?_
    rw [hF.at 44]
    exact ⟨fun z => ⟨by rw [he, show a2 = m0 44 7 by omega], hF⟩, fun z => by omega⟩
  | succ k ih =>
    intro a1 a2 u3 u4 u5 m h0 h1 hk hF he
    refine v_X10_loudRooms_4 ?_
    rw [hF.at 44]
    have q := hbd a2 h0 h1
    refine ⟨fun z => ⟨by rw [he, show a2 = m0 44 7 by omega], hF⟩, fun z => mlr_in hy h0 z (by omega) (fun u3 u4 u5 m hF' => ih _ _ _ _ _ _ (by omega) (by omega) (by omega) hF' ?_) _ 0 0 u5 m (by omega) hy.1.2.2.2.2.1.1 (Nat.le_refl _) hF rfl⟩
    rw [he, show (a2 + 1).toNat = a2.toNat + 1 by omega]
    show _ = sumF (lrM m0) a2.toNat + lrM m0 ((a2.toNat : Nat) : Int)
    rw [show ((a2.toNat : Nat) : Int) = a2 by omega]
theorem c_X10_loudRooms {m0 : Mem} (hy : rdM m0) : Tot mX10_loudRooms 0 0 [vR 44] SH m0 (Pr SH (anM m0 (sumF (lrM m0) (m0 44 7).toNat))) :=
  v_X10_loudRooms (mlr_out hy _ 0 0 _ _ _ m0 (by omega) hy.1.2.2.2.2.2.2.1.1 (Nat.le_refl _) Fr.rf rfl)
