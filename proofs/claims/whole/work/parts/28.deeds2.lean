/-! THE CLASS: contracts of its public methods, more -/
def unQ (m0 : Mem) (v : Int) (m : Mem) : Prop := if m0 24 2 = 0 then v = -2 ∧ m = m0 else v = m0 24 2 - 1 ∧ recP m0 m
theorem c_X9_undo {m0 : Mem} (hp : paOK m0) : Tot mX9_undo 0 0 [vR 0] SH m0 (Pr SH (unQ m0)) := by
  refine v_X9_undo ⟨fun q => ⟨hp, q, fun m3 h3 => ?_⟩, fun q => ?_⟩
  · unfold unQ
    rw [if_neg q]
    exact ⟨h3.2.2.1, h3⟩
  · unfold unQ
    rw [if_pos q]
    exact ⟨rfl, rfl⟩
def liQ (m0 : Mem) (s v : Int) (m : Mem) : Prop := if 0 ≤ s ∧ s < m0 7 2 then (if m0 19 s.toNat = -9 then v = -2 ∧ m = m0 else v = m0 19 s.toNat ∧ ∃ m2, remP m0 m2 ∧ m = mset m2 19 s.toNat (-9)) else v = -1 ∧ m = m0
theorem c_X9_lift {m0 : Mem} {s : Int} (ho : okD m0) : Tot mX9_lift 0 0 [vR 0, vI s] SH m0 (Pr SH (liQ m0 s)) := by
  have h7 := ho.1.2.2.2.2.2.2.1
  refine v_X9_lift ⟨fun q => ⟨fun r => ⟨ho.2.2.2.2, fun m2 h2 m3 h3 => ?_⟩, fun r => ?_⟩, fun q => ?_⟩
  · rw [if_pos r.1] at h3
    unfold liQ
    rw [if_pos q, if_neg r.2, if_pos r.1]
    exact ⟨rfl, m2, h2, h3⟩
  · unfold liQ
    rw [if_pos q, if_pos (Classical.byContradiction fun z => r ⟨⟨q.1, by omega⟩, z⟩)]
    exact ⟨rfl, rfl⟩
  · unfold liQ
    rw [if_neg q]
    exact ⟨rfl, rfl⟩
def tuQ (m0 : Mem) (s v : Int) (m : Mem) : Prop := if 0 ≤ s ∧ s < m0 7 2 then v = m0 20 s.toNat / 2 ∧ ∃ m2, remP m0 m2 ∧ m = mset m2 20 s.toNat (m0 20 s.toNat / 2) else v = -1 ∧ m = m0
theorem c_X9_turn {m0 : Mem} {s : Int} (ho : okD m0) : Tot mX9_turn 0 0 [vR 0, vI s] SH m0 (Pr SH (tuQ m0 s)) := by
  have h7 := ho.1.2.2.2.2.2.2.1
  refine v_X9_turn ⟨fun q => ⟨ho.2.2.2.2, fun m2 h2 => ?_⟩, fun q => ?_⟩
  · have s4 : 0 ≤ s ∧ s < 4 := ⟨q.1, by omega⟩
    rw [if_pos s4, h2.1.at 20]
    refine ⟨(ho.2.1.1 s s4.1 s4.2).2.1, fun m4 h4 => ?_⟩
    rw [if_pos s4] at h4
    unfold tuQ
    rw [if_pos q, if_pos s4, h4, mset_eq]
    exact ⟨rfl, m2, h2, rfl⟩
  · unfold tuQ
    rw [if_neg q]
    exact ⟨rfl, rfl⟩
def hoQ (m0 : Mem) (v : Int) (m : Mem) : Prop := if m0 18 2 < 99 then v = m 18 3 ∧ ∃ m2 m7, remP m0 m2 ∧ shoP m2 19 20 m7 ∧ rdy m7 ∧ phP_18 m7 m else v = -2 ∧ m = m0
theorem rem_ok {m0 m : Mem} (ho : okD m0) (hr : remP m0 m) : okD m := by
  obtain ⟨a, b, c, d, e⟩ := ho
  obtain ⟨hF, h1, h2, h3⟩ := hr
  refine ⟨(hsD_fr hF).mpr a, (moD_fr hF (by decide) (by decide)).mpr b, ?_, ?_, ?_⟩
  · rw [hF.at 4, hF.at 37]; exact c
  · unfold thOK; rw [hF.at 36]; exact d
  · obtain ⟨e1, e2, e3⟩ := e
    refine ⟨by omega, by omega, ?_⟩
    rw [hF.at 25]; exact e3
theorem c_X9_hour {m0 : Mem} (ho : okD m0) (hw : ∀ s : Int, 0 ≤ s → s < 4 → m0 20 s.toNat ≤ 99990) (hd : 0 ≤ m0 18 2) (hh : 0 ≤ m0 18 3 ∧ m0 18 3 ≤ 23) : Tot mX9_hour 0 0 [vR 0] SH m0 (Pr SH (hoQ m0)) := by
  refine v_X9_hour ⟨fun q => ⟨ho.2.2.2.2, fun m2 h2 => ?_⟩, fun q => ?_⟩
  · have ho2 := rem_ok ho h2
    refine ⟨ho2.1, ho2.2.1, ho2.2.2.1, ho2.2.2.2.1, fun m7 h7 => ?_⟩
    have hk := sho_ok ho2 h7
    refine ⟨hk.2, hk.1.2.1, fun s s0 s1 => ?_, ?_, ?_, fun m13 h13 => ?_⟩
    · rw [h7.1.at 20, h2.1.at 20]; exact hw s s0 s1
    · rw [h7.1.at 18, h2.1.at 18]; exact hh
    · rw [h7.1.at 18, h2.1.at 18]; exact ⟨hd, by omega⟩
    · unfold hoQ
      rw [if_pos q]
      exact ⟨rfl, m2, m7, h2, h7, hk.2, h13⟩
  · unfold hoQ
    rw [if_neg (by omega)]
    exact ⟨rfl, rfl⟩
def shQ (m : Mem) (s w : Int) : Int := if 0 ≤ s ∧ s < m 7 2 then (if 0 ≤ w ∧ w < 4 then getF (m 8) (m 7 2) s w else if w = 4 then m 19 s.toNat else if w = 5 then m 20 s.toNat else if w = 6 then thD m 20 s else -1) else -1
theorem c_X9_sheet {m0 : Mem} {s w : Int} (ho : okD m0) : Tot mX9_sheet 0 0 [vR 0, vI s, vI w] SH m0 (Pr SH (Pv (shQ m0 s w) m0)) := by
  have h7 := ho.1.2.2.2.2.2.2.1
  refine v_X9_sheet ⟨fun q => ⟨fun r => ⟨by omega, ?_⟩, fun r => ?_, fun r => ?_, fun r => ⟨ho.1, ho.2.1, ?_⟩, fun r => ?_⟩, fun q => ?_⟩
  · unfold shQ; rw [if_pos q, if_pos (by omega)]; exact ⟨rfl, rfl⟩
  · unfold shQ; rw [if_pos q, if_neg (by omega), if_pos r, if_pos ⟨q.1, by omega⟩]; exact ⟨rfl, rfl⟩
  · unfold shQ; rw [if_pos q, if_neg (by omega), if_neg (by omega), if_pos r, if_pos ⟨q.1, by omega⟩]; exact ⟨rfl, rfl⟩
  · unfold shQ; rw [if_pos q, if_neg (by omega), if_neg (by omega), if_neg (by omega), if_pos r]; exact ⟨rfl, rfl⟩
  · unfold shQ; rw [if_pos q, if_neg (by omega), if_neg (by omega), if_neg (by omega), if_neg (by omega)]; exact ⟨rfl, rfl⟩
  · unfold shQ; rw [if_neg q]; exact ⟨rfl, rfl⟩
def coQ (m : Mem) (w : Int) : Int := if w = 0 then m 4 3 else if w = 1 then m 4 4 else if w = 2 then m 4 6 else if w = 3 then m 5 2 else if w = 4 then m 7 2 else if w = 5 then m 9 2 else if w = 6 then m 30 2 else if w = 7 then m 32 2 else if w = 8 then m 1 2 else -1
theorem c_X9_count {m0 : Mem} {w : Int} : Tot mX9_count 0 0 [vR 0, vI w] SH m0 (Pr SH (Pv (coQ m0 w) m0)) := by
  refine v_X9_count ⟨?_, ?_, ?_, ?_, ?_, ?_, ?_, ?_, ?_, ?_⟩
  all_goals intro r; refine ⟨?_, rfl⟩; unfold coQ
  all_goals (try subst r) <;> simp_all
theorem c_app_30 {mem : Mem} {a b c d : Int} (h0 : 0 ≤ mem 30 2) (h1 : mem 30 0 * 4 ≤ 16) : Tot mX6_append 0 0 [vR 30, vI a, vI b, vI c, vI d] SH mem (Pn SH (fun m => m = appF mem 30 31 a b c d)) := c_X6_append s30 s31 h0 h1 (by decide) (by decide)
theorem c_app_32 {mem : Mem} {a b c d : Int} (h0 : 0 ≤ mem 32 2) (h1 : mem 32 0 * 4 ≤ 16) : Tot mX6_append 0 0 [vR 32, vI a, vI b, vI c, vI d] SH mem (Pn SH (fun m => m = appF mem 32 33 a b c d)) := c_X6_append s32 s33 h0 h1 (by decide) (by decide)
set_option maxRecDepth 20000 in
theorem v_X9_hear {c v : Int} {P : Int → Mem → Prop} {mem : Mem}  (H : (¬ (0 ≤ c ∧ c < mem 4 5) → P (-1) mem) ∧ ((0 ≤ c ∧ c < mem 4 5) → ((0 ≤ v ∧ v ≤ 99) → (¬ (mem 30 0 ≤ mem 30 2) → (0 ≤ mem 30 2) ∧ ((mem 30 0 * 4 ≤ 16) ∧ (∀ m3 : Mem, m3 = appF mem 30 31 c v 0 0 → (P (m3 30 2) m3)))) ∧ ((mem 30 0 ≤ mem 30 2) → P (-3) mem)) ∧ (¬ (0 ≤ v ∧ v ≤ 99) → P (-1) mem))) : Tot mX9_hear 0 0 [vR 0, vI c, vI v] SH mem (Pr SH P) := by
  refine Tot.of rfl (Nat.le_of_ble_eq_true rfl) (by simp [isJ]) (ls := [vR 0, vI c, vI v]) rfl ?_
  refine q_aload_n dX9_hear_0 rfl ?_
  refine q_getr (r := 4) dX9_hear_1 lf_RX9_19 s0 rfl rfl ?_
  refine q_iload_n dX9_hear_4 rfl ?_
  refine q_cVi (as := [vI _]) dX9_hear_5 kmX3_hasCell kvX3_hasCell lm_RX9_161 ⟨by decide, by decide⟩ s4 ⟨by decide, rfl⟩ rfl rfl (Nat.le_of_ble_eq_true rfl) (c_X3_hasCell s4) (fun v m1 hq => ?_)
  obtain ⟨rfl, rfl⟩ := hq
  refine q_if_eq (tgt := 21) dX9_hear_8 (by decide) (fun c8 => ?_) (fun c8 => ?_)
  · have H := H.1 (b_no c8)
    refine q_iconst dX9_hear_21 (by decide) ?_
    exact q_iret dX9_hear_22 rfl ⟨_, rfl, rfl, H⟩
  · have H := H.2 (b_yes c8)
    refine q_iload_n dX9_hear_11 rfl ?_
    refine q_iconst dX9_hear_12 (by decide) ?_
    refine q_bipush dX9_hear_13 rfl (by decide) ?_
    refine q_cSi (as := [vI _, vI _, vI _]) dX9_hear_15 kmX9_isWithin ktX9_isWithin lm_RX9_97 ⟨by decide, by decide⟩ rfl rfl (Nat.le_of_ble_eq_true rfl) (c_X9_isWithin) (fun v m1 hq => ?_)
    obtain ⟨rfl, rfl⟩ := hq
    refine q_if_ne (tgt := 23) dX9_hear_18 (by decide) (fun c18 => ?_) (fun c18 => ?_)
    · have H := H.1 (b_yes c18)
      refine q_aload_n dX9_hear_23 rfl ?_
      refine q_getr (r := 30) dX9_hear_24 lf_RX9_59 s0 rfl rfl ?_
      refine q_cVi (as := []) dX9_hear_27 kmX6_isFull kvX6_isFull lm_RX9_258 ⟨by decide, by decide⟩ s30 ⟨by decide, rfl⟩ rfl rfl (Nat.le_of_ble_eq_true rfl) (c_X6_isFull s30) (fun v m1 hq => ?_)
      obtain ⟨rfl, rfl⟩ := hq
      refine q_if_eq (tgt := 36) dX9_hear_30 (by decide) (fun c30 => ?_) (fun c30 => ?_)
      · have H := H.1 (b_no c30)
        refine q_aload_n dX9_hear_36 rfl ?_
        refine q_getr (r := 30) dX9_hear_37 lf_RX9_59 s0 rfl rfl ?_
        refine q_iload_n dX9_hear_40 rfl ?_
        refine q_iload_n dX9_hear_41 rfl ?_
        refine q_iconst dX9_hear_42 (by decide) ?_
        refine q_iconst dX9_hear_43 (by decide) ?_
        obtain ⟨h1, H⟩ := H
        obtain ⟨h2, H⟩ := H
        refine q_cVn (as := [vI _, vI _, vI _, vI _]) dX9_hear_44 kmX6_append kvX6_append lm_RX9_259 ⟨by decide, by decide⟩ s30 ⟨by decide, rfl⟩ rfl rfl (Nat.le_of_ble_eq_true rfl) (c_app_30 h1 h2) (fun m1 hq => ?_)
        have H := H m1 hq
        refine q_aload_n dX9_hear_47 rfl ?_
        refine q_getr (r := 30) dX9_hear_48 lf_RX9_59 s0 rfl rfl ?_
        refine q_cVi (as := []) dX9_hear_51 kmX6_size kvX6_size lm_RX9_214 ⟨by decide, by decide⟩ s30 ⟨by decide, rfl⟩ rfl rfl (Nat.le_of_ble_eq_true rfl) (c_X6_size s30) (fun v m1 hq => ?_)
        obtain ⟨rfl, rfl⟩ := hq
        exact q_iret dX9_hear_54 rfl ⟨_, rfl, rfl, H⟩
      · have H := H.2 (b_yes c30)
        refine q_bipush dX9_hear_33 rfl (by decide) ?_
        exact q_iret dX9_hear_35 rfl ⟨_, rfl, rfl, H⟩
    · have H := H.2 (b_no c18)
      refine q_iconst dX9_hear_21 (by decide) ?_
      exact q_iret dX9_hear_22 rfl ⟨_, rfl, rfl, H⟩

set_option maxRecDepth 20000 in
theorem v_X9_tap {f n t v : Int} {P : Int → Mem → Prop} {mem : Mem}  (H : (¬ (0 ≤ f ∧ f < mem 4 5) → P (-1) mem) ∧ ((0 ≤ f ∧ f < mem 4 5) → ((1 ≤ n ∧ n ≤ 99) → (¬ (0 ≤ t ∧ t < mem 4 5) → P (-1) mem) ∧ ((0 ≤ t ∧ t < mem 4 5) → ((0 ≤ v ∧ v ≤ 99) → (¬ (mem 32 0 ≤ mem 32 2) → (0 ≤ mem 32 2) ∧ ((mem 32 0 * 4 ≤ 16) ∧ (∀ m3 : Mem, m3 = appF mem 32 33 f n t v → (P (m3 32 2) m3)))) ∧ ((mem 32 0 ≤ mem 32 2) → P (-3) mem)) ∧ (¬ (0 ≤ v ∧ v ≤ 99) → P (-1) mem))) ∧ (¬ (1 ≤ n ∧ n ≤ 99) → P (-1) mem))) : Tot mX9_tap 0 0 [vR 0, vI f, vI n, vI t, vI v] SH mem (Pr SH P) := by
  refine Tot.of rfl (Nat.le_of_ble_eq_true rfl) (by simp [isJ]) (ls := [vR 0, vI f, vI n, vI t, vI v]) rfl ?_
  refine q_aload_n dX9_tap_0 rfl ?_
  refine q_getr (r := 4) dX9_tap_1 lf_RX9_19 s0 rfl rfl ?_
  refine q_iload_n dX9_tap_4 rfl ?_
  refine q_cVi (as := [vI _]) dX9_tap_5 kmX3_hasCell kvX3_hasCell lm_RX9_161 ⟨by decide, by decide⟩ s4 ⟨by decide, rfl⟩ rfl rfl (Nat.le_of_ble_eq_true rfl) (c_X3_hasCell s4) (fun v m1 hq => ?_)
  obtain ⟨rfl, rfl⟩ := hq
  refine q_if_eq (tgt := 21) dX9_tap_8 (by decide) (fun c8 => ?_) (fun c8 => ?_)
  · have H := H.1 (b_no c8)
    refine q_iconst dX9_tap_21 (by decide) ?_
    exact q_iret dX9_tap_22 rfl ⟨_, rfl, rfl, H⟩
  · have H := H.2 (b_yes c8)
    refine q_iload_n dX9_tap_11 rfl ?_
    refine q_iconst dX9_tap_12 (by decide) ?_
    refine q_bipush dX9_tap_13 rfl (by decide) ?_
    refine q_cSi (as := [vI _, vI _, vI _]) dX9_tap_15 kmX9_isWithin ktX9_isWithin lm_RX9_97 ⟨by decide, by decide⟩ rfl rfl (Nat.le_of_ble_eq_true rfl) (c_X9_isWithin) (fun v m1 hq => ?_)
    obtain ⟨rfl, rfl⟩ := hq
    refine q_if_ne (tgt := 23) dX9_tap_18 (by decide) (fun c18 => ?_) (fun c18 => ?_)
    · have H := H.1 (b_yes c18)
      refine q_aload_n dX9_tap_23 rfl ?_
      refine q_getr (r := 4) dX9_tap_24 lf_RX9_19 s0 rfl rfl ?_
      refine q_iload_n dX9_tap_27 rfl ?_
      refine q_cVi (as := [vI _]) dX9_tap_28 kmX3_hasCell kvX3_hasCell lm_RX9_161 ⟨by decide, by decide⟩ s4 ⟨by decide, rfl⟩ rfl rfl (Nat.le_of_ble_eq_true rfl) (c_X3_hasCell s4) (fun v m1 hq => ?_)
      obtain ⟨rfl, rfl⟩ := hq
      refine q_if_eq (tgt := 45) dX9_tap_31 (by decide) (fun c31 => ?_) (fun c31 => ?_)
      · have H := H.1 (b_no c31)
        refine q_iconst dX9_tap_45 (by decide) ?_
        exact q_iret dX9_tap_46 rfl ⟨_, rfl, rfl, H⟩
      · have H := H.2 (b_yes c31)
        refine q_iload dX9_tap_34 rfl ?_
        refine q_iconst dX9_tap_36 (by decide) ?_
        refine q_bipush dX9_tap_37 rfl (by decide) ?_
        refine q_cSi (as := [vI _, vI _, vI _]) dX9_tap_39 kmX9_isWithin ktX9_isWithin lm_RX9_97 ⟨by decide, by decide⟩ rfl rfl (Nat.le_of_ble_eq_true rfl) (c_X9_isWithin) (fun v m1 hq => ?_)
        obtain ⟨rfl, rfl⟩ := hq
        refine q_if_ne (tgt := 47) dX9_tap_42 (by decide) (fun c42 => ?_) (fun c42 => ?_)
        · have H := H.1 (b_yes c42)
          refine q_aload_n dX9_tap_47 rfl ?_
          refine q_getr (r := 32) dX9_tap_48 lf_RX9_63 s0 rfl rfl ?_
          refine q_cVi (as := []) dX9_tap_51 kmX6_isFull kvX6_isFull lm_RX9_258 ⟨by decide, by decide⟩ s32 ⟨by decide, rfl⟩ rfl rfl (Nat.le_of_ble_eq_true rfl) (c_X6_isFull s32) (fun v m1 hq => ?_)
          obtain ⟨rfl, rfl⟩ := hq
          refine q_if_eq (tgt := 60) dX9_tap_54 (by decide) (fun c54 => ?_) (fun c54 => ?_)
          · have H := H.1 (b_no c54)
            refine q_aload_n dX9_tap_60 rfl ?_
            refine q_getr (r := 32) dX9_tap_61 lf_RX9_63 s0 rfl rfl ?_
            refine q_iload_n dX9_tap_64 rfl ?_
            refine q_iload_n dX9_tap_65 rfl ?_
            refine q_iload_n dX9_tap_66 rfl ?_
            refine q_iload dX9_tap_67 rfl ?_
            obtain ⟨h1, H⟩ := H
            obtain ⟨h2, H⟩ := H
            refine q_cVn (as := [vI _, vI _, vI _, vI _]) dX9_tap_69 kmX6_append kvX6_append lm_RX9_259 ⟨by decide, by decide⟩ s32 ⟨by decide, rfl⟩ rfl rfl (Nat.le_of_ble_eq_true rfl) (c_app_32 h1 h2) (fun m1 hq => ?_)
            have H := H m1 hq
            refine q_aload_n dX9_tap_72 rfl ?_
            refine q_getr (r := 32) dX9_tap_73 lf_RX9_63 s0 rfl rfl ?_
            refine q_cVi (as := []) dX9_tap_76 kmX6_size kvX6_size lm_RX9_214 ⟨by decide, by decide⟩ s32 ⟨by decide, rfl⟩ rfl rfl (Nat.le_of_ble_eq_true rfl) (c_X6_size s32) (fun v m1 hq => ?_)
            obtain ⟨rfl, rfl⟩ := hq
            exact q_iret dX9_tap_79 rfl ⟨_, rfl, rfl, H⟩
          · have H := H.2 (b_yes c54)
            refine q_bipush dX9_tap_57 rfl (by decide) ?_
            exact q_iret dX9_tap_59 rfl ⟨_, rfl, rfl, H⟩
        · have H := H.2 (b_no c42)
          refine q_iconst dX9_tap_45 (by decide) ?_
          exact q_iret dX9_tap_46 rfl ⟨_, rfl, rfl, H⟩
    · have H := H.2 (b_no c18)
      refine q_iconst dX9_tap_21 (by decide) ?_
      exact q_iret dX9_tap_22 rfl ⟨_, rfl, rfl, H⟩


/-- reports: four rows at most -/
def rwOK (m : Mem) (h : Nat) : Prop := m h 0 = 4 ∧ 0 ≤ m h 2 ∧ m h 2 ≤ 4
def heQ (m0 : Mem) (c v w : Int) (m : Mem) : Prop := if (0 ≤ c ∧ c < m0 4 5) ∧ (0 ≤ v ∧ v ≤ 99) then (if m0 30 2 < 4 then w = m0 30 2 + 1 ∧ m = appF m0 30 31 c v 0 0 else w = -3 ∧ m = m0) else w = -1 ∧ m = m0
theorem app_size {m : Mem} {h nb : Nat} {a b c d : Int} (hr : rwOK m h) (q : m h 2 < 4) : appF m h nb a b c d h 2 = m h 2 + 1 := by
  unfold appF
  rw [if_neg (by have := hr.1; omega), mset_eq]
theorem c_X9_hear {m0 : Mem} {c v : Int} (hr : rwOK m0 30) : Tot mX9_hear 0 0 [vR 0, vI c, vI v] SH m0 (Pr SH (heQ m0 c v)) := by
  obtain ⟨r0, r1, r2⟩ := hr
  refine v_X9_hear ⟨fun q => ?_, fun q => ⟨fun r => ⟨fun z => ⟨r1, by omega, fun m3 e3 => ?_⟩, fun z => ?_⟩, fun r => ?_⟩⟩
  · unfold heQ; rw [if_neg (fun y => q y.1)]; exact ⟨rfl, rfl⟩
  · unfold heQ; rw [if_pos ⟨q, r⟩, if_pos (by omega), e3, app_size ⟨r0, r1, r2⟩ (by omega)]; exact ⟨rfl, rfl⟩
  · unfold heQ; rw [if_pos ⟨q, r⟩, if_neg (by omega)]; exact ⟨rfl, rfl⟩
  · unfold heQ; rw [if_neg (fun y => r y.2)]; exact ⟨rfl, rfl⟩
def taQ (m0 : Mem) (f n t v w : Int) (m : Mem) : Prop := if ((0 ≤ f ∧ f < m0 4 5) ∧ (1 ≤ n ∧ n ≤ 99)) ∧ (0 ≤ t ∧ t < m0 4 5) ∧ (0 ≤ v ∧ v ≤ 99) then (if m0 32 2 < 4 then w = m0 32 2 + 1 ∧ m = appF m0 32 33 f n t v else w = -3 ∧ m = m0) else w = -1 ∧ m = m0
theorem c_X9_tap {m0 : Mem} {f n t v : Int} (hr : rwOK m0 32) : Tot mX9_tap 0 0 [vR 0, vI f, vI n, vI t, vI v] SH m0 (Pr SH (taQ m0 f n t v)) := by
  obtain ⟨r0, r1, r2⟩ := hr
  refine v_X9_tap ⟨fun q => ?_, fun q => ⟨fun r => ⟨fun q2 => ?_, fun q2 => ⟨fun r2' => ⟨fun z => ⟨r1, by omega, fun m3 e3 => ?_⟩, fun z => ?_⟩, fun r2' => ?_⟩⟩, fun r => ?_⟩⟩
  · unfold taQ; rw [if_neg (fun y => q y.1.1)]; exact ⟨rfl, rfl⟩
  · unfold taQ; rw [if_neg (fun y => q2 y.2.1)]; exact ⟨rfl, rfl⟩
  · unfold taQ; rw [if_pos ⟨⟨q, r⟩, q2, r2'⟩, if_pos (by omega), e3, app_size ⟨r0, r1, r2⟩ (by omega)]; exact ⟨rfl, rfl⟩
  · unfold taQ; rw [if_pos ⟨⟨q, r⟩, q2, r2'⟩, if_neg (by omega)]; exact ⟨rfl, rfl⟩
  · unfold taQ; rw [if_neg (fun y => r2' y.2.2)]; exact ⟨rfl, rfl⟩
  · unfold taQ; rw [if_neg (fun y => r y.1.2)]; exact ⟨rfl, rfl⟩
