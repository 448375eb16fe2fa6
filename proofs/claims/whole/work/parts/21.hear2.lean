/-! HEARING, the rest -/
/-- the loudest of the first k cells on which s lies -/
noncomputable def losF (on : Int → Int) (ld : Int → Int) (s : Int) : Nat → Int
  | 0 => 0
  | k + 1 => if on k = s then max (losF on ld s k) (ld k) else losF on ld s k
theorem ldD_b {m0 : Mem} (hr : rdy m0) {c p q : Int} (c0 : 0 ≤ c) (cn : c < m0 4 5) : 0 ≤ ldD m0 c p q ∧ ldD m0 c p q ≤ 99 := by
  have h5 := hr.1.2.2.2.2.2.1
  have hno := hr.1.2.2.2.2.2.2.2.2.1
  refine loudF_b _ (fun i i0 ik => ?_)
  have q1 := hno i i0 (by omega)
  exact ⟨q1.2.1.2, (DD_b hr q1.1.1 q1.1.2 c0 cn).1⟩
theorem ldD_fr {ks : List Nat} {m m' : Mem} (h : Fr ks m m') (h4 : 4 ∉ ks := by decide) (h5 : 5 ∉ ks := by decide) (h6 : 6 ∉ ks := by decide) (h35 : 35 ∉ ks := by decide) (h36 : 36 ∉ ks := by decide) : ldD m' = ldD m := by
  funext c p q
  unfold ldD
  rw [DD_fr h h4 h35 h36, (no_fr h h5 h6).1, (no_fr h h5 h6).2.1, (no_fr h h5 h6).2.2.1, (no_fr h h5 h6).2.2.2, h 5 h5]
theorem los_loop {m0 : Mem} {s hr : Int} (hy : rdy m0) :
    ∀ (k : Nat) (a3 a4 : Int) (m : Mem), 0 ≤ a4 → a4 ≤ m0 4 5 → (m0 4 5 - a4).toNat ≤ k → Fr [39, 40] m0 m → losOK m → a3 = losF (fun c => m0 35 c.toNat) (fun c => ldD m0 c hr hr) s a4.toNat → w_X2_loudOnSheet_5 s hr (anP m0 (losF (fun c => m0 35 c.toNat) (fun c => ldD m0 c hr hr) s (m0 4 5).toNat)) a3 a4 m := by
  have hn := grid_n (okGD_g hy.2.1.1).1
  intro k
  induction k with
  | zero =>
    intro a3 a4 m h0 h1 hk hF hl he
    refine v_X2_loudOnSheet_5 ?_
    rw [hF.at 4]
    exact ⟨fun z => ⟨by rw [he, show a4 = m0 4 5 by omega], hF, hl⟩, fun z => by omega⟩
  | succ k ih =>
    intro a3 a4 m h0 h1 hk hF hl he
    refine v_X2_loudOnSheet_5 ?_
    rw [hF.at 4, hF.at 35, ldD_fr hF]
    refine ⟨fun z => ⟨by rw [he, show a4 = m0 4 5 by omega], hF, hl⟩, fun z => ⟨hn.2, ?_⟩⟩
    rw [if_pos ⟨h0, z⟩]
    have ekk : (a4 + 1).toNat = a4.toNat + 1 := by omega
    have eka : ((a4.toNat : Nat) : Int) = a4 := by omega
    have hstep : losF (fun c => m0 35 c.toNat) (fun c => ldD m0 c hr hr) s (a4 + 1).toNat = if m0 35 a4.toNat = s then max (losF (fun c => m0 35 c.toNat) (fun c => ldD m0 c hr hr) s a4.toNat) (ldD m0 a4 hr hr) else losF (fun c => m0 35 c.toNat) (fun c => ldD m0 c hr hr) s a4.toNat := by
      rw [ekk]
      show (if m0 35 ((a4.toNat : Nat) : Int).toNat = s then max _ (ldD m0 ((a4.toNat : Nat) : Int) hr hr) else _) = _
      rw [eka]
    refine ⟨fun y => ⟨by omega, ih _ _ _ (by omega) (by omega) (by omega) hF hl (by rw [hstep, if_neg y]; exact he)⟩, fun y => ⟨rdy_fr hF hl hy, h0, z, fun v6 m7 h7 => ⟨by omega, ih _ _ _ (by omega) (by omega) (by omega) (hF.tr h7.2.1) h7.2.2 (by rw [hstep, if_pos y, he, h7.1])⟩⟩⟩
theorem c_X2_loudOnSheet {m0 : Mem} {s hr : Int} (hy : rdy m0) : Tot mX2_loudOnSheet 0 0 [vR 41, vI s, vI hr] SH m0 (Pr SH (anP m0 (losF (fun c => m0 35 c.toNat) (fun c => ldD m0 c hr hr) s (m0 4 5).toNat))) := by
  have hn := grid_n (okGD_g hy.2.1.1).1
  exact v_X2_loudOnSheet (los_loop hy _ 0 0 m0 (by omega) (by omega) (Nat.le_refl _) Fr.rf hy.2.2 rfl)
def sumF (f : Int → Int) : Nat → Int
  | 0 => 0
  | k + 1 => sumF f k + f k
theorem sumF_b {f : Int → Int} {M : Int} : ∀ (k : Nat), (∀ i : Int, 0 ≤ i → i < k → 0 ≤ f i ∧ f i ≤ M) → 0 ≤ sumF f k ∧ sumF f k ≤ M * k
  | 0, _ => by simp [sumF]
  | k + 1, h => by
    have h1 := sumF_b k (fun i i0 ik => h i i0 (by omega))
    have h2 := h k (by omega) (by omega)
    have h3 : M * ((k + 1 : Nat) : Int) = M * k + M := by rw [show ((k + 1 : Nat) : Int) = (k : Int) + 1 by omega, Int.mul_add, Int.mul_one]
    simp only [sumF]
    omega
/-- how loud it is in a room, in the loudest of its hours -/
noncomputable abbrev lrD (m : Mem) (r : Int) : Int := ldD m (roC m r) (roA m r) (roB m r)
theorem lrD_fr {ks : List Nat} {m m' : Mem} (h : Fr ks m m') (h4 : 4 ∉ ks := by decide) (h5 : 5 ∉ ks := by decide) (h6 : 6 ∉ ks := by decide) (h9 : 9 ∉ ks := by decide) (h10 : 10 ∉ ks := by decide) (h35 : 35 ∉ ks := by decide) (h36 : 36 ∉ ks := by decide) : lrD m' = lrD m := by
  funext r
  unfold lrD
  rw [ldD_fr h h4 h5 h6 h35 h36, (ro_fr h h9 h10).1, (ro_fr h h9 h10).2.1, (ro_fr h h9 h10).2.2.2]
theorem lir_loop {m0 : Mem} (hy : rdy m0) :
    ∀ (k : Nat) (a2 a3 : Int) (m : Mem), 0 ≤ a3 → a3 ≤ m0 9 2 → (m0 9 2 - a3).toNat ≤ k → Fr [39, 40] m0 m → losOK m → a2 = sumF (lrD m0) a3.toNat → w_X2_loudInRooms_12 (anP m0 (sumF (lrD m0) (m0 9 2).toNat)) a2 a3 m := by
  have h9 := hy.1.2.2.2.2.2.2.2.1
  have hro := hy.1.2.2.2.2.2.2.2.2.2.2
  have hbd : ∀ a3 : Int, 0 ≤ a3 → a3 ≤ m0 9 2 → 0 ≤ sumF (lrD m0) a3.toNat ∧ sumF (lrD m0) a3.toNat ≤ 99 * (a3.toNat : Int) := by
    intro a3 h0 h1
    refine sumF_b _ (fun i i0 ik => ?_)
    have q := hro i i0 (by omega)
    exact ldD_b hy q.1.1 q.1.2
  intro k
  induction k with
  | zero =>
    intro a2 a3 m h0 h1 hk hF hl he
    refine v_X2_loudInRooms_12 ?_
    rw [hF.at 9]
    exact ⟨fun z => ⟨by rw [he, show a3 = m0 9 2 by omega], hF, hl⟩, fun z => by omega⟩
  | succ k ih =>
    intro a2 a3 m h0 h1 hk hF hl he
    refine v_X2_loudInRooms_12 ?_
    rw [hF.at 9, hF.at 10, hF.at 4, ldD_fr hF]
    refine ⟨fun z => ⟨by rw [he, show a3 = m0 9 2 by omega], hF, hl⟩, fun z => ⟨by omega, rdy_fr hF hl hy, ?_⟩⟩
    have q := hro a3 h0 z
    have hb := hbd a3 h0 h1
    have hlb := ldD_b hy (p := roA m0 a3) (q := roB m0 a3) q.1.1 q.1.2
    have ekk : (a3 + 1).toNat = a3.toNat + 1 := by omega
    have eka : ((a3.toNat : Nat) : Int) = a3 := by omega
    refine ⟨q.1.1, q.1.2, fun v5 m6 h6 => ?_⟩
    have hv : v5 = lrD m0 a3 := h6.1
    have hb2 : 0 ≤ lrD m0 a3 ∧ lrD m0 a3 ≤ 99 := hlb
    refine ⟨by omega, by omega, ih _ _ _ (by omega) (by omega) (by omega) (hF.tr h6.2.1) h6.2.2 ?_⟩
    rw [ekk, hv, he]
    show _ = sumF (lrD m0) a3.toNat + lrD m0 ((a3.toNat : Nat) : Int)
    rw [eka]
theorem c_X2_loudInRooms {m0 : Mem} (hy : rdy m0) : Tot mX2_loudInRooms 0 0 [vR 41] SH m0 (Pr SH (anP m0 (sumF (lrD m0) (m0 9 2).toNat))) :=
  v_X2_loudInRooms (lir_loop hy _ 0 0 m0 (by omega) hy.1.2.2.2.2.2.2.2.1.1 (Nat.le_refl _) Fr.rf hy.2.2 rfl)
/-- the first of lo .. hi - 1 of which P holds; -9 -/
def isFirst (P : Int → Prop) (lo hi v : Int) : Prop := (v = -9 ∧ ∀ i : Int, lo ≤ i → i < hi → ¬ P i) ∨ (lo ≤ v ∧ v < hi ∧ P v ∧ ∀ i : Int, lo ≤ i → i < v → ¬ P i)
theorem isFirst_one {P Q : Int → Prop} {lo hi u v : Int} (h0 : 0 ≤ lo) (hPQ : ∀ i : Int, lo ≤ i → i < hi → (P i ↔ Q i)) (hu : isFirst P lo hi u) (hv : isFirst Q lo hi v) : u = v := by
  rcases hu with ⟨u1, u2⟩ | ⟨u1, u2, u3, u4⟩ <;> rcases hv with ⟨v1, v2⟩ | ⟨v1, v2, v3, v4⟩
  · omega
  · exact absurd ((hPQ v v1 v2).mpr v3) (u2 v v1 v2)
  · exact absurd ((hPQ u u1 u2).mp u3) (v2 u u1 u2)
  · rcases Int.lt_trichotomy u v with h | h | h
    · exact absurd ((hPQ u u1 u2).mp u3) (v4 u u1 h)
    · exact h
    · exact absurd ((hPQ v v1 v2).mpr v3) (u4 v v1 h)
def anQ (m0 : Mem) (P : Int → Prop) (v : Int) (m : Mem) : Prop := P v ∧ Fr [39, 40] m0 m ∧ losOK m
abbrev wakP (m : Mem) (r : Int) : Prop := roM m r < lrD m r
theorem fw_loop {m0 : Mem} (hy : rdy m0) :
    ∀ (k : Nat) (a2 : Int) (u3 : Vl) (m : Mem), 0 ≤ a2 → a2 ≤ m0 9 2 → (m0 9 2 - a2).toNat ≤ k → Fr [39, 40] m0 m → losOK m → (∀ i : Int, 0 ≤ i → i < a2 → ¬ wakP m0 i) → w_X2_firstWaked_10 (anQ m0 (isFirst (wakP m0) 0 (m0 9 2))) a2 u3 m := by
  have h9 := hy.1.2.2.2.2.2.2.2.1
  have hro := hy.1.2.2.2.2.2.2.2.2.2.2
  intro k
  induction k with
  | zero =>
    intro a2 u3 m h0 h1 hk hF hl he
    refine v_X2_firstWaked_10 ?_
    rw [hF.at 9]
    exact ⟨fun z => ⟨Or.inl ⟨rfl, fun i i0 i1 => he i i0 (by omega)⟩, hF, hl⟩, fun z => by omega⟩
  | succ k ih =>
    intro a2 u3 m h0 h1 hk hF hl he
    refine v_X2_firstWaked_10 ?_
    rw [hF.at 9, hF.at 10, hF.at 4, ldD_fr hF]
    refine ⟨fun z => ⟨Or.inl ⟨rfl, fun i i0 i1 => he i i0 (by omega)⟩, hF, hl⟩, fun z => ⟨by omega, rdy_fr hF hl hy, ?_⟩⟩
    have q := hro a2 h0 z
    refine ⟨q.1.1, q.1.2, fun v5 m6 h6 => ?_⟩
    have hF6 := hF.tr h6.2.1
    have hv : v5 = lrD m0 a2 := h6.1
    rw [hF6.at 9, hF6.at 10]
    refine ⟨by omega, fun y => ⟨by omega, ih _ _ _ (by omega) (by omega) (by omega) hF6 h6.2.2 (fun i i0 i1 => ?_)⟩, fun y => ⟨Or.inr ⟨h0, z, ?_, he⟩, hF6, h6.2.2⟩⟩
    · by_cases hi : i = a2
      · rw [hi]
        show ¬ roM m0 a2 < lrD m0 a2
        rw [← hv]
        exact Int.not_lt.mpr y
      · exact he i i0 (by omega)
    · show roM m0 a2 < lrD m0 a2
      rw [← hv]
      exact y
theorem c_X2_firstWaked {m0 : Mem} (hy : rdy m0) : Tot mX2_firstWaked 0 0 [vR 41] SH m0 (Pr SH (anQ m0 (isFirst (wakP m0) 0 (m0 9 2)))) :=
  v_X2_firstWaked (fw_loop hy _ 0 _ m0 (by omega) hy.1.2.2.2.2.2.2.2.1.1 (Nat.le_refl _) Fr.rf hy.2.2 (fun i i0 i1 => by omega))
abbrev lhP (m : Mem) (r h : Int) : Prop := roM m r < ldD m (roC m r) h h
theorem lh_loop {m0 : Mem} {r : Int} (hy : rdy m0) (r0 : 0 ≤ r) (rn : r < m0 9 2) :
    ∀ (k : Nat) (a2 : Int) (m : Mem), 0 ≤ a2 → roA m0 r ≤ a2 → a2 ≤ 24 → (24 - a2).toNat ≤ k → Fr [39, 40] m0 m → losOK m → (∀ i : Int, roA m0 r ≤ i → i < a2 → ¬ lhP m0 r i) → w_X2_firstLoudHour_13 r (anQ m0 (isFirst (lhP m0 r) (roA m0 r) 24)) a2 m := by
  have h9 := hy.1.2.2.2.2.2.2.2.1
  have q := hy.1.2.2.2.2.2.2.2.2.2.2 r r0 rn
  intro k
  induction k with
  | zero =>
    intro a2 m h0 hA h1 hk hF hl he
    refine v_X2_firstLoudHour_13 ⟨fun z => ⟨Or.inl ⟨rfl, fun i i0 i1 => he i i0 (by omega)⟩, hF, hl⟩, fun z => by omega⟩
  | succ k ih =>
    intro a2 m h0 hA h1 hk hF hl he
    refine v_X2_firstLoudHour_13 ?_
    rw [hF.at 9, hF.at 10, hF.at 4, ldD_fr hF]
    refine ⟨fun z => ⟨Or.inl ⟨rfl, fun i i0 i1 => he i i0 (by omega)⟩, hF, hl⟩, fun z => ⟨by omega, rdy_fr hF hl hy, ?_⟩⟩
    refine ⟨q.1.1, q.1.2, fun v5 m6 h6 => ?_⟩
    have hF6 := hF.tr h6.2.1
    have hv : v5 = ldD m0 (roC m0 r) a2 a2 := h6.1
    rw [hF6.at 9, hF6.at 10]
    refine ⟨by omega, fun y => ⟨by omega, ih _ _ (by omega) (by omega) (by omega) (by omega) hF6 h6.2.2 (fun i i0 i1 => ?_)⟩, fun y => ⟨Or.inr ⟨hA, z, ?_, he⟩, hF6, h6.2.2⟩⟩
    · by_cases hi : i = a2
      · rw [hi]
        show ¬ roM m0 r < ldD m0 (roC m0 r) a2 a2
        rw [← hv]
        exact Int.not_lt.mpr y
      · exact he i i0 (by omega)
    · show roM m0 r < ldD m0 (roC m0 r) a2 a2
      rw [← hv]
      exact y
theorem c_X2_firstLoudHour {m0 : Mem} {r : Int} (hy : rdy m0) (r0 : 0 ≤ r) (rn : r < m0 9 2) : Tot mX2_firstLoudHour 0 0 [vR 41, vI r] SH m0 (Pr SH (anQ m0 (isFirst (lhP m0 r) (roA m0 r) 24))) := by
  have h9 := hy.1.2.2.2.2.2.2.2.1
  have q := hy.1.2.2.2.2.2.2.2.2.2.2 r r0 rn
  have q1 : 0 ≤ roA m0 r := q.2.1.1
  have q2 : roA m0 r ≤ roB m0 r := q.2.1.2.1
  have q3 : roB m0 r ≤ 23 := q.2.1.2.2
  exact v_X2_firstLoudHour ⟨by omega, lh_loop hy r0 rn _ _ m0 q1 (Int.le_refl _) (Int.le_trans (Int.le_trans q2 q3) (by decide)) (Nat.le_refl _) Fr.rf hy.2.2 (fun i i0 i1 => absurd i1 (Int.not_lt.mpr i0))⟩
