/-! THE CLASS: contracts of its public methods -/
def okD (m : Mem) : Prop := hsD m ∧ moD m 19 20 ∧ nextOK (m 4 5) (m 4 3) (m 37) ∧ thOK m ∧ paOK m
theorem okD_fr {ks : List Nat} {m m' : Mem} (h : Fr ks m m') (ho : okD m) (h4 : 4 ∉ ks := by decide) (h5 : 5 ∉ ks := by decide) (h6 : 6 ∉ ks := by decide) (h7 : 7 ∉ ks := by decide) (h8 : 8 ∉ ks := by decide) (h9 : 9 ∉ ks := by decide) (h10 : 10 ∉ ks := by decide) (h19 : 19 ∉ ks := by decide) (h20 : 20 ∉ ks := by decide) (h36 : 36 ∉ ks := by decide) (h37 : 37 ∉ ks := by decide) (h24 : 24 ∉ ks := by decide) (h25 : 25 ∉ ks := by decide) : okD m' := by
  obtain ⟨a, b, c, d, e⟩ := ho
  refine ⟨(hsD_fr h h4 h5 h6 h7 h8 h9 h10).mpr a, (moD_fr h h19 h20 h4 h7 h8).mpr b, ?_, ?_, ?_⟩
  · rw [h 4 h4, h 37 h37]; exact c
  · unfold thOK; rw [h 36 h36]; exact d
  · unfold paOK; rw [h 24 h24, h 25 h25]; exact e
theorem c_X9_clear {m0 : Mem} : Tot mX9_clear 0 0 [vR 0] SH m0 (Pr SH (fun v m => v = m0 1 2 ∧ m = mset m0 1 2 0)) := v_X9_clear (fun m1 e => ⟨rfl, e⟩)
def tyQ (m0 : Mem) (c v : Int) (m : Mem) : Prop := if 0 ≤ c ∧ c ≤ 255 then (if 200 ≤ m0 1 2 then v = -3 ∧ m = m0 else v = m0 1 2 + 1 ∧ m = mset (mset m0 2 (m0 1 2).toNat c) 1 2 (m0 1 2 + 1)) else v = -1 ∧ m = m0
theorem c_X9_type {m0 : Mem} {c : Int} (h0 : 0 ≤ m0 1 2) : Tot mX9_type 0 0 [vR 0, vI c] SH m0 (Pr SH (tyQ m0 c)) := by
  refine v_X9_type ⟨fun q => ⟨fun r => ⟨h0, fun m2 e2 => ?_⟩, fun r => ?_⟩, fun q => ?_⟩
  · rw [if_neg r] at e2
    unfold tyQ
    rw [if_pos q, if_neg r, e2, mset_eq]
    exact ⟨rfl, rfl⟩
  · unfold tyQ
    rw [if_pos q, if_pos r]
    exact ⟨rfl, rfl⟩
  · unfold tyQ
    rw [if_neg q]
    exact ⟨rfl, rfl⟩
def fgQ (m0 : Mem) (w v : Int) (m : Mem) : Prop := if w = 0 then v = m0 30 2 ∧ m = mset m0 30 2 0 else if w = 1 then v = m0 32 2 ∧ m = mset m0 32 2 0 else v = -1 ∧ m = m0
theorem c_X9_forget {m0 : Mem} {w : Int} : Tot mX9_forget 0 0 [vR 0, vI w] SH m0 (Pr SH (fgQ m0 w)) := by
  refine v_X9_forget ⟨fun q => ⟨fun r m1 e1 => ?_, fun r m1 e1 => ?_⟩, fun q => ?_⟩
  · unfold fgQ
    rw [if_neg r, if_pos (by omega)]
    exact ⟨rfl, e1⟩
  · unfold fgQ
    rw [if_pos r]
    exact ⟨rfl, e1⟩
  · unfold fgQ
    rw [if_neg (by omega), if_neg (by omega)]
    exact ⟨rfl, rfl⟩
theorem c_X9_noise {m0 : Mem} {n w : Int} (hh : hsD m0) : Tot mX9_noise 0 0 [vR 0, vI n, vI w] SH m0 (Pr SH (Pv (if (0 ≤ n ∧ n < m0 5 2) ∧ (0 ≤ w ∧ w ≤ 3) then getF (m0 6) (m0 5 2) n w else -1) m0)) := by
  have h5 := hh.2.2.2.2.2.1
  refine v_X9_noise ⟨fun q => ?_, fun q => ⟨fun r => ?_, fun r => ⟨by omega, ?_⟩⟩⟩
  · rw [if_neg (fun z => q z.1)]; exact ⟨rfl, rfl⟩
  · rw [if_neg (fun z => r z.2)]; exact ⟨rfl, rfl⟩
  · rw [if_pos ⟨q, r⟩]; exact ⟨rfl, rfl⟩
theorem c_X9_room {m0 : Mem} {n w : Int} (hh : hsD m0) : Tot mX9_room 0 0 [vR 0, vI n, vI w] SH m0 (Pr SH (Pv (if (0 ≤ n ∧ n < m0 9 2) ∧ (0 ≤ w ∧ w ≤ 3) then getF (m0 10) (m0 9 2) n w else -1) m0)) := by
  have h5 := hh.2.2.2.2.2.2.2.1
  refine v_X9_room ⟨fun q => ?_, fun q => ⟨fun r => ?_, fun r => ⟨by omega, ?_⟩⟩⟩
  · rw [if_neg (fun z => q z.1)]; exact ⟨rfl, rfl⟩
  · rw [if_neg (fun z => r z.2)]; exact ⟨rfl, rfl⟩
  · rw [if_pos ⟨q, r⟩]; exact ⟨rfl, rfl⟩
/-- what stays when only the floor is shown and asked -/
def scD (m0 m : Mem) : Prop := Fr [35, 36, 38, 39, 40] m0 m ∧ okD m
theorem thD_b {m : Mem} (ho : hsD m) (hm : moD m 19 20) {s : Int} (s0 : 0 ≤ s) (sn : s < m 7 2) : 0 ≤ thD m 20 s ∧ thD m 20 s ≤ 30 := by
  have h7 := ho.2.2.2.2.2.2.1
  have q := (ho.2.2.2.2.2.2.2.2.2.1 s s0 sn).1
  have r := (hm.1 s s0 (by omega)).2
  show 0 ≤ max 0 (shT m s - (if 0 ≤ s ∧ s < 4 then m 20 s.toNat else 0) / 10) ∧ max 0 (shT m s - (if 0 ≤ s ∧ s < 4 then m 20 s.toNat else 0) / 10) ≤ 30
  rw [if_pos ⟨s0, by omega⟩]
  have q1 : 0 ≤ shT m s ∧ shT m s ≤ 30 := q
  generalize shT m s = a at q1 ⊢
  omega
theorem sho_ok {m0 m : Mem} (ho : okD m0) (hs : shoP m0 19 20 m) : okD m ∧ rdy m := by
  obtain ⟨a, b, c, d, e⟩ := ho
  obtain ⟨hF, hf, hl, hon, hth⟩ := hs
  have h7 := a.2.2.2.2.2.2.1
  refine ⟨⟨(hsD_fr hF).mpr a, (moD_fr hF (by decide) (by decide)).mpr b, ?_, ?_, ?_⟩, (hsD_fr hF).mpr a, hf, hl⟩
  · rw [hF.at 4, hF.at 37]; exact c
  · exact hf.1.1.2.2.2.2.2
  · unfold paOK; rw [hF.at 24, hF.at 25]; exact e
theorem sho_scD {m0 m : Mem} (ho : okD m0) (hs : shoP m0 19 20 m) : scD m0 m := ⟨hs.1.mono (by decide), (sho_ok ho hs).1⟩
theorem scD_an {m0 m1 m2 : Mem} (h : scD m0 m1) (hF : Fr [39, 40] m1 m2) : scD m0 m2 := ⟨h.1.tr (hF.mono (by decide)), okD_fr hF h.2⟩
def ocQ (m0 : Mem) (c v : Int) (m : Mem) : Prop := if 0 ≤ c ∧ c < m0 4 5 then v = onD m0 19 (m0 7 2).toNat c ∧ scD m0 m else v = -1 ∧ m = m0
theorem nD_b {m : Mem} (h : hsD m) : 1 ≤ m 4 5 ∧ m 4 5 ≤ 12 := by
  obtain ⟨h1, h2, h3, -⟩ := h
  rw [h3]
  rcases h1 with e | e | e | e <;> rcases h2 with f | f | f <;> rw [e, f] <;> decide
theorem c_X9_onCell {m0 : Mem} {c : Int} (ho : okD m0) : Tot mX9_onCell 0 0 [vR 0, vI c] SH m0 (Pr SH (ocQ m0 c)) := by
  refine v_X9_onCell ⟨fun q => ⟨ho.1, ho.2.1, ho.2.2.1, ho.2.2.2.1, fun m5 h5 => ?_⟩, fun q => ?_⟩
  · have e4 : m5 4 = m0 4 := h5.1.at 4
    have hn := nD_b ho.1
    rw [e4]
    refine ⟨hn.2, ?_⟩
    unfold ocQ
    rw [if_pos q, if_pos q]
    exact ⟨h5.2.2.2.1 c q.1 (by omega), sho_scD ho h5⟩
  · unfold ocQ
    rw [if_neg q]
    exact ⟨rfl, rfl⟩
def ldQ (m0 : Mem) (c hr v : Int) (m : Mem) : Prop := if (0 ≤ c ∧ c < m0 4 5) ∧ (0 ≤ hr ∧ hr ≤ 23) then (∃ m5, shoP m0 19 20 m5 ∧ v = ldD m5 c hr hr) ∧ scD m0 m else v = -1 ∧ m = m0
theorem c_X9_loud {m0 : Mem} {c hr : Int} (ho : okD m0) : Tot mX9_loud 0 0 [vR 0, vI c, vI hr] SH m0 (Pr SH (ldQ m0 c hr)) := by
  refine v_X9_loud ⟨fun q => ?_, fun q => ⟨fun r => ⟨ho.1, ho.2.1, ho.2.2.1, ho.2.2.2.1, fun m5 h5 => ⟨(sho_ok ho h5).2, ?_, fun v8 m9 h9 => ?_⟩⟩, fun r => ?_⟩⟩
  · unfold ldQ
    rw [if_neg (fun z => q z.1)]
    exact ⟨rfl, rfl⟩
  · rw [h5.1.at 4]; exact q.2
  · unfold ldQ
    rw [if_pos ⟨q, r⟩]
    exact ⟨⟨m5, h5, h9.1⟩, scD_an (sho_scD ho h5) h9.2.1⟩
  · unfold ldQ
    rw [if_neg (fun z => r z.2)]
    exact ⟨rfl, rfl⟩
def wdQ (m0 : Mem) (w v : Int) (m : Mem) : Prop := if 0 ≤ w ∧ w ≤ 1 then (∃ m5 f, shoP m0 19 20 m5 ∧ isFirst (wakP m5) 0 (m5 9 2) f ∧ ((w = 0 ∨ f = -9) ∧ v = f ∨ (¬ w = 0 ∧ ¬ f = -9) ∧ isFirst (lhP m5 f) (roA m5 f) 24 v)) ∧ scD m0 m else v = -1 ∧ m = m0
theorem c_X9_waked {m0 : Mem} {w : Int} (ho : okD m0) : Tot mX9_waked 0 0 [vR 0, vI w] SH m0 (Pr SH (wdQ m0 w)) := by
  refine v_X9_waked ⟨fun q => ⟨ho.1, ho.2.1, ho.2.2.1, ho.2.2.2.1, fun m5 h5 => ⟨(sho_ok ho h5).2, fun v7 m8 h8 => ?_⟩⟩, fun q => ?_⟩
  · have hs8 := scD_an (sho_scD ho h5) h8.2.1
    refine ⟨fun r => ?_, fun r => ⟨fun z => ?_, fun z => ?_⟩⟩
    · unfold wdQ
      rw [if_pos q]
      exact ⟨⟨m5, v7, h5, h8.1, Or.inl ⟨Or.inl r, rfl⟩⟩, hs8⟩
    · have hv : 0 ≤ v7 ∧ v7 < m5 9 2 := by
        rcases h8.1 with ⟨e, -⟩ | ⟨a, b, -⟩
        · exact absurd e z
        · exact ⟨a, b⟩
      refine ⟨rdy_fr h8.2.1 h8.2.2 (sho_ok ho h5).2, hv.1, by rw [h8.2.1.at 9]; exact hv.2, fun v12 m13 h13 => ?_⟩
      unfold wdQ
      rw [if_pos q]
      refine ⟨⟨m5, v7, h5, h8.1, Or.inr ⟨⟨r, z⟩, ?_⟩⟩, scD_an hs8 h13.2.1⟩
      have ero := ro_fr h8.2.1
      have eld := ldD_fr h8.2.1
      have e1 : lhP m8 v7 = lhP m5 v7 := by
        funext h
        show (roM m8 v7 < ldD m8 (roC m8 v7) h h) = (roM m5 v7 < ldD m5 (roC m5 v7) h h)
        rw [ero.2.2.1, ero.2.2.2, eld]
      have e2 : roA m8 v7 = roA m5 v7 := by rw [ero.1]
      rw [← e1, ← e2]
      exact h13.1
    · unfold wdQ
      rw [if_pos q]
      exact ⟨⟨m5, v7, h5, h8.1, Or.inl ⟨Or.inr z, rfl⟩⟩, hs8⟩
  · unfold wdQ
    rw [if_neg q]
    exact ⟨rfl, rfl⟩
def gaQ (m0 : Mem) (s v : Int) (m : Mem) : Prop := if (0 ≤ s ∧ s < m0 7 2) ∧ ¬ m0 19 s.toNat = -9 then (∃ m5 m6, shoP m0 19 20 m5 ∧ (Fr [35, 38, 39, 40] m5 m6 ∧ ∀ x : Int, 0 ≤ x → x < 12 → m6 35 x.toNat = if m5 35 x.toNat = s then -9 else m5 35 x.toNat) ∧ rdy m5 ∧ rdy m6 ∧ v = sumF (lrD m6) (m6 9 2).toNat - sumF (lrD m5) (m5 9 2).toNat) ∧ scD m0 m else v = -1000000 ∧ m = m0
theorem lr_b {m : Mem} (hy : rdy m) : 0 ≤ sumF (lrD m) (m 9 2).toNat ∧ sumF (lrD m) (m 9 2).toNat ≤ 300 := by
  have h9 := hy.1.2.2.2.2.2.2.2.1
  have hro := hy.1.2.2.2.2.2.2.2.2.2.2
  have q : 0 ≤ sumF (lrD m) (m 9 2).toNat ∧ sumF (lrD m) (m 9 2).toNat ≤ 99 * ((m 9 2).toNat : Int) := by
    refine sumF_b _ (fun i i0 ik => ?_)
    have q := hro i i0 (by omega)
    exact ldD_b hy q.1.1 q.1.2
  omega
theorem c_X9_gain {m0 : Mem} {s : Int} (ho : okD m0) : Tot mX9_gain 0 0 [vR 0, vI s] SH m0 (Pr SH (gaQ m0 s)) := by
  have h7 := ho.1.2.2.2.2.2.2.1
  refine v_X9_gain ⟨fun q => ?_, fun q => ⟨fun r => ⟨ho.1, ho.2.1, ho.2.2.1, ho.2.2.2.1, fun m5 h5 => ⟨(sho_ok ho h5).2, fun v7 m8 h8 => ?_⟩⟩, fun r => ?_⟩⟩
  · unfold gaQ
    rw [if_neg (fun z => q z.1)]
    exact ⟨rfl, rfl⟩
  · have hy5 := (sho_ok ho h5).2
    refine ⟨(flOK_fr h8.2.1).mpr hy5.2.1, fun m10 h10 => ?_⟩
    have hy10 : rdy m10 := ⟨(hsD_fr h10.1).mpr ((hsD_fr h8.2.1).mpr hy5.1), h10.2.1, h10.2.2.1⟩
    refine ⟨hy10, fun v12 m13 h13 => ?_⟩
    have b1 := lr_b hy5
    have b2 := lr_b hy10
    rw [← h8.1] at b1
    rw [← h13.1] at b2
    refine ⟨by omega, ?_⟩
    unfold gaQ
    rw [if_pos ⟨q, r.2⟩]
    have ho8 := scD_an (sho_scD ho h5) h8.2.1
    refine ⟨⟨m5, m10, h5, ⟨?_, fun x x0 x1 => ?_⟩, hy5, hy10, by rw [h8.1, h13.1]⟩, ?_⟩
    · exact (h8.2.1.mono (by decide)).tr (h10.1.mono (by decide))
    · rw [h10.2.2.2 x x0 x1, h8.2.1.at 35]
    · exact scD_an ⟨ho8.1.tr (h10.1.mono (by decide)), okD_fr h10.1 ho8.2⟩ h13.2.1
  · unfold gaQ
    rw [if_neg (fun z => r ⟨⟨q.1, by omega⟩, z.2⟩)]
    exact ⟨rfl, rfl⟩
