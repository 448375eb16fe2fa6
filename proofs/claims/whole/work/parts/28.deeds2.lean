/-! THE CLASS: contracts of its public methods, more -/
def unQ (m0 : Mem) (v : Int) (m : Mem) : Prop := if m0 24 2 = 0 then v = -2 ∧ m = m0 else v = m0 24 2 - 1 ∧ recP m0 m
theorem c_X9_undo {m0 : Mem} (hp : paOK m0) : Tot mX9_undo 0 0 [vR 0] SH m0 (Pr SH (unQ m0)) := by
  refine v_X9_undo ⟨fun q => ⟨hp, q, fun m3 h3 => ?_⟩, fun q => ?_⟩
  · unfold unQ
    rw [if_neg q]
    exact ⟨h3.2.2.1, h3⟩
  · unfold unQ
    rw [if_pos q]
    exact ⟨rfl, rfl⟩
def liQ (m0 : Mem) (s v : Int) (m : Mem) : Prop := if 0 ≤ s ∧ s < m0 7 2 then (if m0 19 s.toNat = -9 then v = -2 ∧ m = m0 else v = m0 19 s.toNat ∧ ∃ m2, remP m0 m2 ∧ m = mset m2 19 s.toNat (-9)) else v = -1 ∧ m = m0
theorem c_X9_lift {m0 : Mem} {s : Int} (ho : okD m0) : Tot mX9_lift 0 0 [vR 0, vI s] SH m0 (Pr SH (liQ m0 s)) := by
  have h7 := ho.1.2.2.2.2.2.2.1
  refine v_X9_lift ⟨fun q => ⟨fun r => ⟨ho.2.2.2.2, fun m2 h2 m3 h3 => ?_⟩, fun r => ?_⟩, fun q => ?_⟩
  · rw [if_pos r.1] at h3
    unfold liQ
    rw [if_pos q, if_neg r.2, if_pos r.1]
    exact ⟨rfl, m2, h2, h3⟩
  · unfold liQ
    rw [if_pos q, if_pos (Classical.byContradiction fun z => r ⟨⟨q.1, by omega⟩, z⟩)]
    exact ⟨rfl, rfl⟩
  · unfold liQ
    rw [if_neg q]
    exact ⟨rfl, rfl⟩
def tuQ (m0 : Mem) (s v : Int) (m : Mem) : Prop := if 0 ≤ s ∧ s < m0 7 2 then v = m0 20 s.toNat / 2 ∧ ∃ m2, remP m0 m2 ∧ m = mset m2 20 s.toNat (m0 20 s.toNat / 2) else v = -1 ∧ m = m0
theorem c_X9_turn {m0 : Mem} {s : Int} (ho : okD m0) : Tot mX9_turn 0 0 [vR 0, vI s] SH m0 (Pr SH (tuQ m0 s)) := by
  have h7 := ho.1.2.2.2.2.2.2.1
  refine v_X9_turn ⟨fun q => ⟨ho.2.2.2.2, fun m2 h2 => ?_⟩, fun q => ?_⟩
  · have s4 : 0 ≤ s ∧ s < 4 := ⟨q.1, by omega⟩
    rw [if_pos s4, h2.1.at 20]
    refine ⟨(ho.2.1.1 s s4.1 s4.2).2.1, fun m4 h4 => ?_⟩
    rw [if_pos s4] at h4
    unfold tuQ
    rw [if_pos q, if_pos s4, h4, mset_eq]
    exact ⟨rfl, m2, h2, rfl⟩
  · unfold tuQ
    rw [if_neg q]
    exact ⟨rfl, rfl⟩
def hoQ (m0 : Mem) (v : Int) (m : Mem) : Prop := if m0 18 2 < 99 then v = m 18 3 ∧ ∃ m2 m7, remP m0 m2 ∧ shoP m2 19 20 m7 ∧ rdy m7 ∧ phP_18 m7 m else v = -2 ∧ m = m0
theorem rem_ok {m0 m : Mem} (ho : okD m0) (hr : remP m0 m) : okD m := by
  obtain ⟨a, b, c, d, e⟩ := ho
  obtain ⟨hF, h1, h2, h3⟩ := hr
  refine ⟨(hsD_fr hF).mpr a, (moD_fr hF (by decide) (by decide)).mpr b, ?_, ?_, ?_⟩
  · rw [hF.at 4, hF.at 37]; exact c
  · unfold thOK; rw [hF.at 36]; exact d
  · obtain ⟨e1, e2, e3⟩ := e
    refine ⟨by omega, by omega, ?_⟩
    rw [hF.at 25]; exact e3
theorem c_X9_hour {m0 : Mem} (ho : okD m0) (hw : ∀ s : Int, 0 ≤ s → s < 4 → m0 20 s.toNat ≤ 99990) (hd : 0 ≤ m0 18 2) (hh : 0 ≤ m0 18 3 ∧ m0 18 3 ≤ 23) : Tot mX9_hour 0 0 [vR 0] SH m0 (Pr SH (hoQ m0)) := by
  refine v_X9_hour ⟨fun q => ⟨ho.2.2.2.2, fun m2 h2 => ?_⟩, fun q => ?_⟩
  · have ho2 := rem_ok ho h2
    refine ⟨ho2.1, ho2.2.1, ho2.2.2.1, ho2.2.2.2.1, fun m7 h7 => ?_⟩
    have hk := sho_ok ho2 h7
    refine ⟨hk.2, hk.1.2.1, fun s s0 s1 => ?_, ?_, ?_, fun m13 h13 => ?_⟩
    · rw [h7.1.at 20, h2.1.at 20]; exact hw s s0 s1
    · rw [h7.1.at 18, h2.1.at 18]; exact hh
    · rw [h7.1.at 18, h2.1.at 18]; exact ⟨hd, by omega⟩
    · unfold hoQ
      rw [if_pos q]
      exact ⟨rfl, m2, m7, h2, h7, hk.2, h13⟩
  · unfold hoQ
    rw [if_neg (by omega)]
    exact ⟨rfl, rfl⟩
