/-! THE MODEL: deeds and what is asked of the floor -/
set_option maxRecDepth 20000 in
theorem v_X10_onCell {c : Int} {P : Int → Mem → Prop} {mem : Mem}  (H : (hsM mem) ∧ (((0 ≤ c ∧ c < nM mem) → (moM mem) ∧ (∀ m3 : Mem, asnP mem m3 → ((c < 12) ∧ (P (m3 61 c.toNat) m3)))) ∧ (¬ (0 ≤ c ∧ c < nM mem) → P (-1) mem))) : Tot mX10_onCell 0 0 [vR 44, vI c] SH mem (Pr SH P) := by
  refine Tot.of rfl (Nat.le_of_ble_eq_true rfl) (by simp [isJ]) (ls := [vR 44, vI c]) rfl ?_
  refine q_aload_n dX10_onCell_0 rfl ?_
  refine q_iload_n dX10_onCell_1 rfl ?_
  obtain ⟨h1, H⟩ := H
  refine q_cVi (as := [vI _]) dX10_onCell_2 kmX10_isCell kvX10_isCell lm_RX10_208 ⟨by decide, by decide⟩ s44 ⟨by decide, rfl⟩ rfl rfl (Nat.le_of_ble_eq_true rfl) (c_X10_isCell h1) (fun v m1 hq => ?_)
  obtain ⟨rfl, rfl⟩ := hq
  refine q_if_ne (tgt := 10) dX10_onCell_5 (by decide) (fun c5 => ?_) (fun c5 => ?_)
  · have H := H.1 (b_yes c5)
    refine q_aload_n dX10_onCell_10 rfl ?_
    obtain ⟨h2, H⟩ := H
    refine q_cVn (as := []) dX10_onCell_11 kmX10_asNow kvX10_asNow lm_RX10_211 ⟨by decide, by decide⟩ s44 ⟨by decide, rfl⟩ rfl rfl (Nat.le_of_ble_eq_true rfl) (c_X10_asNow h1 h2) (fun m1 hq => ?_)
    have H := H m1 hq
    refine q_aload_n dX10_onCell_14 rfl ?_
    refine q_getr (r := 61) dX10_onCell_15 lf_RX10_69 s44 rfl rfl ?_
    refine q_iload_n dX10_onCell_18 rfl ?_
    obtain ⟨h4, H⟩ := H
    refine q_iald dX10_onCell_19 s61 (b_yes c5).1 h4 ?_
    exact q_iret dX10_onCell_20 rfl ⟨_, rfl, rfl, H⟩
  · have H := H.2 (b_no c5)
    refine q_iconst dX10_onCell_8 (by decide) ?_
    exact q_iret dX10_onCell_9 rfl ⟨_, rfl, rfl, H⟩

set_option maxRecDepth 20000 in
theorem v_X10_loud {c h : Int} {P : Int → Mem → Prop} {mem : Mem}  (H : (hsM mem) ∧ ((¬ (0 ≤ c ∧ c < nM mem) → P (-1) mem) ∧ ((0 ≤ c ∧ c < nM mem) → ((0 ≤ h ∧ h ≤ 23) → (moM mem) ∧ (∀ m3 : Mem, asnP mem m3 → ((rdM m3) ∧ ((c < nM m3) ∧ (∀ (v6 : Int) (m7 : Mem), anM m3 (ldM m3 c h h) v6 m7 → (P v6 m7)))))) ∧ (¬ (0 ≤ h ∧ h ≤ 23) → P (-1) mem)))) : Tot mX10_loud 0 0 [vR 44, vI c, vI h] SH mem (Pr SH P) := by
  refine Tot.of rfl (Nat.le_of_ble_eq_true rfl) (by simp [isJ]) (ls := [vR 44, vI c, vI h]) rfl ?_
  refine q_aload_n dX10_loud_0 rfl ?_
  refine q_iload_n dX10_loud_1 rfl ?_
  obtain ⟨h1, H⟩ := H
  refine q_cVi (as := [vI _]) dX10_loud_2 kmX10_isCell kvX10_isCell lm_RX10_208 ⟨by decide, by decide⟩ s44 ⟨by decide, rfl⟩ rfl rfl (Nat.le_of_ble_eq_true rfl) (c_X10_isCell h1) (fun v m1 hq => ?_)
  obtain ⟨rfl, rfl⟩ := hq
  refine q_if_eq (tgt := 18) dX10_loud_5 (by decide) (fun c5 => ?_) (fun c5 => ?_)
  · have H := H.1 (b_no c5)
    refine q_iconst dX10_loud_18 (by decide) ?_
    exact q_iret dX10_loud_19 rfl ⟨_, rfl, rfl, H⟩
  · have H := H.2 (b_yes c5)
    refine q_iload_n dX10_loud_8 rfl ?_
    refine q_iconst dX10_loud_9 (by decide) ?_
    refine q_bipush dX10_loud_10 rfl (by decide) ?_
    refine q_cSi (as := [vI _, vI _, vI _]) dX10_loud_12 kmX10_in ktX10_in lm_RX10_90 ⟨by decide, by decide⟩ rfl rfl (Nat.le_of_ble_eq_true rfl) (c_X10_in) (fun v m1 hq => ?_)
    obtain ⟨rfl, rfl⟩ := hq
    refine q_if_ne (tgt := 20) dX10_loud_15 (by decide) (fun c15 => ?_) (fun c15 => ?_)
    · have H := H.1 (b_yes c15)
      refine q_aload_n dX10_loud_20 rfl ?_
      obtain ⟨h2, H⟩ := H
      refine q_cVn (as := []) dX10_loud_21 kmX10_asNow kvX10_asNow lm_RX10_211 ⟨by decide, by decide⟩ s44 ⟨by decide, rfl⟩ rfl rfl (Nat.le_of_ble_eq_true rfl) (c_X10_asNow h1 h2) (fun m1 hq => ?_)
      have H := H m1 hq
      refine q_aload_n dX10_loud_24 rfl ?_
      refine q_iload_n dX10_loud_25 rfl ?_
      refine q_iload_n dX10_loud_26 rfl ?_
      obtain ⟨h4, H⟩ := H
      obtain ⟨h5, H⟩ := H
      refine q_cVi (as := [vI _, vI _]) dX10_loud_27 kmX10_loudAt kvX10_loudAt lm_RX10_214 ⟨by decide, by decide⟩ s44 ⟨by decide, rfl⟩ rfl rfl (Nat.le_of_ble_eq_true rfl) (c_X10_loudAt h4 (b_yes c5).1 h5) (fun v m1 hq => ?_)
      have H := H v m1 hq
      exact q_iret dX10_loud_30 rfl ⟨_, rfl, rfl, H⟩
    · have H := H.2 (b_no c15)
      refine q_iconst dX10_loud_18 (by decide) ?_
      exact q_iret dX10_loud_19 rfl ⟨_, rfl, rfl, H⟩

set_option maxRecDepth 20000 in
theorem v_X10_lay {s c : Int} {P : Int → Mem → Prop} {mem : Mem}  (H : (hsM mem) ∧ ((¬ (0 ≤ s ∧ s < mem 44 5) → P (-1) mem) ∧ ((0 ≤ s ∧ s < mem 44 5) → ((0 ≤ c ∧ c < nM mem) → (moM mem) ∧ (∀ m3 : Mem, asnP mem m3 → ((inR (2 + s)) ∧ ((0 ≤ (2 + s)) ∧ (((2 + s) < 10) ∧ ((¬ (m3 48 (2 + s).toNat) = (-9) → P (-2) m3) ∧ ((m3 48 (2 + s).toNat) = (-9) → (hsM m3) ∧ ((s < m3 44 5) ∧ ((c < m3 44 0 * m3 44 1) ∧ (∀ (v10 : Int) (m11 : Mem), canV (m3 44 0) (m3 44 1) (mW m3 s) (mL m3 s) c (m3 61) m3 v10 m11 → ((¬ v10 = 0 → (0 ≤ m11 44 11 ∧ m11 44 11 ≤ 10) ∧ (∀ m13 : Mem, reP m11 m13 → (∀ m14 : Mem, m14 = mset m13 48 (2 + s).toNat c → ((hsM m14) ∧ (P (numF (laM m14) (m14 44 5).toNat) m14))))) ∧ (v10 = 0 → P (-2) m11)))))))))))) ∧ (¬ (0 ≤ c ∧ c < nM mem) → P (-1) mem)))) : Tot mX10_lay 0 0 [vR 44, vI s, vI c] SH mem (Pr SH P) := by
  refine Tot.of rfl (Nat.le_of_ble_eq_true rfl) (by simp [isJ]) (ls := [vR 44, vI s, vI c]) rfl ?_
  refine q_aload_n dX10_lay_0 rfl ?_
  refine q_iload_n dX10_lay_1 rfl ?_
  obtain ⟨h1, H⟩ := H
  refine q_cVi (as := [vI _]) dX10_lay_2 kmX10_isSheet kvX10_isSheet lm_RX10_204 ⟨by decide, by decide⟩ s44 ⟨by decide, rfl⟩ rfl rfl (Nat.le_of_ble_eq_true rfl) (c_X10_isSheet h1) (fun v m1 hq => ?_)
  obtain ⟨rfl, rfl⟩ := hq
  refine q_if_eq (tgt := 16) dX10_lay_5 (by decide) (fun c5 => ?_) (fun c5 => ?_)
  · have H := H.1 (b_no c5)
    refine q_iconst dX10_lay_16 (by decide) ?_
    exact q_iret dX10_lay_17 rfl ⟨_, rfl, rfl, H⟩
  · have H := H.2 (b_yes c5)
    refine q_aload_n dX10_lay_8 rfl ?_
    refine q_iload_n dX10_lay_9 rfl ?_
    refine q_cVi (as := [vI _]) dX10_lay_10 kmX10_isCell kvX10_isCell lm_RX10_208 ⟨by decide, by decide⟩ s44 ⟨by decide, rfl⟩ rfl rfl (Nat.le_of_ble_eq_true rfl) (c_X10_isCell h1) (fun v m1 hq => ?_)
    obtain ⟨rfl, rfl⟩ := hq
    refine q_if_ne (tgt := 18) dX10_lay_13 (by decide) (fun c13 => ?_) (fun c13 => ?_)
    · have H := H.1 (b_yes c13)
      refine q_aload_n dX10_lay_18 rfl ?_
      obtain ⟨h2, H⟩ := H
      refine q_cVn (as := []) dX10_lay_19 kmX10_asNow kvX10_asNow lm_RX10_211 ⟨by decide, by decide⟩ s44 ⟨by decide, rfl⟩ rfl rfl (Nat.le_of_ble_eq_true rfl) (c_X10_asNow h1 h2) (fun m1 hq => ?_)
      have H := H m1 hq
      refine q_aload_n dX10_lay_22 rfl ?_
      refine q_getr (r := 48) dX10_lay_23 lf_RX10_29 s44 rfl rfl ?_
      refine q_iconst dX10_lay_26 (by decide) ?_
      refine q_iload_n dX10_lay_27 rfl ?_
      obtain ⟨h4, H⟩ := H
      refine q_iadd dX10_lay_28 h4 ?_
      obtain ⟨h5, H⟩ := H
      obtain ⟨h6, H⟩ := H
      refine q_iald dX10_lay_29 s48 h5 h6 ?_
      refine q_bipush dX10_lay_30 rfl (by decide) ?_
      refine q_icmp_ne (tgt := 44) dX10_lay_32 (by decide) (fun c32 => ?_) (fun c32 => ?_)
      · have H := H.1 c32
        refine q_bipush dX10_lay_44 rfl (by decide) ?_
        exact q_iret dX10_lay_46 rfl ⟨_, rfl, rfl, H⟩
      · have H := H.2 c32
        refine q_aload_n dX10_lay_35 rfl ?_
        refine q_iload_n dX10_lay_36 rfl ?_
        refine q_iload_n dX10_lay_37 rfl ?_
        obtain ⟨h7, H⟩ := H
        obtain ⟨h8, H⟩ := H
        obtain ⟨h9, H⟩ := H
        refine q_cVi (as := [vI _, vI _]) dX10_lay_38 kmX10_mayLie kvX10_mayLie lm_RX10_220 ⟨by decide, by decide⟩ s44 ⟨by decide, rfl⟩ rfl rfl (Nat.le_of_ble_eq_true rfl) (c_X10_mayLie h7 (b_yes c5).1 h8 (b_yes c13).1 h9) (fun v m1 hq => ?_)
        have H := H v m1 hq
        refine q_if_ne (tgt := 47) dX10_lay_41 (by decide) (fun c41 => ?_) (fun c41 => ?_)
        · have H := H.1 c41
          refine q_aload_n dX10_lay_47 rfl ?_
          obtain ⟨h12, H⟩ := H
          refine q_cVn (as := []) dX10_lay_48 kmX10_remembers kvX10_remembers lm_RX10_223 ⟨by decide, by decide⟩ s44 ⟨by decide, rfl⟩ rfl rfl (Nat.le_of_ble_eq_true rfl) (c_X10_remembers h12) (fun m1 hq => ?_)
          have H := H m1 hq
          refine q_aload_n dX10_lay_51 rfl ?_
          refine q_getr (r := 48) dX10_lay_52 lf_RX10_29 s44 rfl rfl ?_
          refine q_iconst dX10_lay_55 (by decide) ?_
          refine q_iload_n dX10_lay_56 rfl ?_
          refine q_iadd dX10_lay_57 h4 ?_
          refine q_iload_n dX10_lay_58 rfl ?_
          refine q_iast dX10_lay_59 s48 h5 h6 ?_
          have H := H _ rfl
          refine q_aload_n dX10_lay_60 rfl ?_
          obtain ⟨h15, H⟩ := H
          refine q_cVi (as := []) dX10_lay_61 kmX10_laidMany kvX10_laidMany lm_RX10_226 ⟨by decide, by decide⟩ s44 ⟨by decide, rfl⟩ rfl rfl (Nat.le_of_ble_eq_true rfl) (c_X10_laidMany h15) (fun v m1 hq => ?_)
          obtain ⟨rfl, rfl⟩ := hq
          exact q_iret dX10_lay_64 rfl ⟨_, rfl, rfl, H⟩
        · have H := H.2 c41
          refine q_bipush dX10_lay_44 rfl (by decide) ?_
          exact q_iret dX10_lay_46 rfl ⟨_, rfl, rfl, H⟩
    · have H := H.2 (b_no c13)
      refine q_iconst dX10_lay_16 (by decide) ?_
      exact q_iret dX10_lay_17 rfl ⟨_, rfl, rfl, H⟩

set_option maxRecDepth 20000 in
theorem v_X10_lift {s : Int} {P : Int → Mem → Prop} {mem : Mem}  (H : (hsM mem) ∧ (((0 ≤ s ∧ s < mem 44 5) → (inR (2 + s)) ∧ ((0 ≤ (2 + s)) ∧ (((2 + s) < 10) ∧ ((¬ (mem 48 (2 + s).toNat) = (-9) → (0 ≤ mem 44 11 ∧ mem 44 11 ≤ 10) ∧ (∀ m6 : Mem, reP mem m6 → (∀ m7 : Mem, m7 = mset m6 48 (2 + s).toNat (-9) → (P (m6 48 (2 + s).toNat) m7)))) ∧ ((mem 48 (2 + s).toNat) = (-9) → P (-2) mem))))) ∧ (¬ (0 ≤ s ∧ s < mem 44 5) → P (-1) mem))) : Tot mX10_lift 0 0 [vR 44, vI s] SH mem (Pr SH P) := by
  refine Tot.of rfl (Nat.le_of_ble_eq_true rfl) (by simp [isJ]) (ls := [vR 44, vI s, vJ 0]) rfl ?_
  refine q_aload_n dX10_lift_0 rfl ?_
  refine q_iload_n dX10_lift_1 rfl ?_
  obtain ⟨h1, H⟩ := H
  refine q_cVi (as := [vI _]) dX10_lift_2 kmX10_isSheet kvX10_isSheet lm_RX10_204 ⟨by decide, by decide⟩ s44 ⟨by decide, rfl⟩ rfl rfl (Nat.le_of_ble_eq_true rfl) (c_X10_isSheet h1) (fun v m1 hq => ?_)
  obtain ⟨rfl, rfl⟩ := hq
  refine q_if_ne (tgt := 10) dX10_lift_5 (by decide) (fun c5 => ?_) (fun c5 => ?_)
  · have H := H.1 (b_yes c5)
    refine q_aload_n dX10_lift_10 rfl ?_
    refine q_getr (r := 48) dX10_lift_11 lf_RX10_29 s44 rfl rfl ?_
    refine q_iconst dX10_lift_14 (by decide) ?_
    refine q_iload_n dX10_lift_15 rfl ?_
    obtain ⟨h2, H⟩ := H
    refine q_iadd dX10_lift_16 h2 ?_
    obtain ⟨h3, H⟩ := H
    obtain ⟨h4, H⟩ := H
    refine q_iald dX10_lift_17 s48 h3 h4 ?_
    refine q_bipush dX10_lift_18 rfl (by decide) ?_
    refine q_icmp_ne (tgt := 26) dX10_lift_20 (by decide) (fun c20 => ?_) (fun c20 => ?_)
    · have H := H.1 c20
      refine q_aload_n dX10_lift_26 rfl ?_
      obtain ⟨h5, H⟩ := H
      refine q_cVn (as := []) dX10_lift_27 kmX10_remembers kvX10_remembers lm_RX10_223 ⟨by decide, by decide⟩ s44 ⟨by decide, rfl⟩ rfl rfl (Nat.le_of_ble_eq_true rfl) (c_X10_remembers h5) (fun m1 hq => ?_)
      have H := H m1 hq
      refine q_aload_n dX10_lift_30 rfl ?_
      refine q_getr (r := 48) dX10_lift_31 lf_RX10_29 s44 rfl rfl ?_
      refine q_iconst dX10_lift_34 (by decide) ?_
      refine q_iload_n dX10_lift_35 rfl ?_
      refine q_iadd dX10_lift_36 h2 ?_
      refine q_iald dX10_lift_37 s48 h3 h4 ?_
      refine q_istore_n dX10_lift_38 (by decide) rfl ?_
      refine q_aload_n dX10_lift_39 rfl ?_
      refine q_getr (r := 48) dX10_lift_40 lf_RX10_29 s44 rfl rfl ?_
      refine q_iconst dX10_lift_43 (by decide) ?_
      refine q_iload_n dX10_lift_44 rfl ?_
      refine q_iadd dX10_lift_45 h2 ?_
      refine q_bipush dX10_lift_46 rfl (by decide) ?_
      refine q_iast dX10_lift_48 s48 h3 h4 ?_
      have H := H _ rfl
      refine q_iload_n dX10_lift_49 rfl ?_
      exact q_iret dX10_lift_50 rfl ⟨_, rfl, rfl, H⟩
    · have H := H.2 c20
      refine q_bipush dX10_lift_23 rfl (by decide) ?_
      exact q_iret dX10_lift_25 rfl ⟨_, rfl, rfl, H⟩
  · have H := H.2 (b_no c5)
    refine q_iconst dX10_lift_8 (by decide) ?_
    exact q_iret dX10_lift_9 rfl ⟨_, rfl, rfl, H⟩

set_option maxRecDepth 20000 in
theorem v_X10_turn {s : Int} {P : Int → Mem → Prop} {mem : Mem}  (H : (hsM mem) ∧ (((0 ≤ s ∧ s < mem 44 5) → (0 ≤ mem 44 11 ∧ mem 44 11 ≤ 10) ∧ (∀ m3 : Mem, reP mem m3 → ((inR (6 + s)) ∧ ((0 ≤ (6 + s)) ∧ (((6 + s) < 10) ∧ ((0 ≤ (m3 48 (6 + s).toNat)) ∧ (∀ m8 : Mem, m8 = mset m3 48 (6 + s).toNat ((m3 48 (6 + s).toNat) / 2) → (P (m8 48 (6 + s).toNat) m8)))))))) ∧ (¬ (0 ≤ s ∧ s < mem 44 5) → P (-1) mem))) : Tot mX10_turn 0 0 [vR 44, vI s] SH mem (Pr SH P) := by
  refine Tot.of rfl (Nat.le_of_ble_eq_true rfl) (by simp [isJ]) (ls := [vR 44, vI s]) rfl ?_
  refine q_aload_n dX10_turn_0 rfl ?_
  refine q_iload_n dX10_turn_1 rfl ?_
  obtain ⟨h1, H⟩ := H
  refine q_cVi (as := [vI _]) dX10_turn_2 kmX10_isSheet kvX10_isSheet lm_RX10_204 ⟨by decide, by decide⟩ s44 ⟨by decide, rfl⟩ rfl rfl (Nat.le_of_ble_eq_true rfl) (c_X10_isSheet h1) (fun v m1 hq => ?_)
  obtain ⟨rfl, rfl⟩ := hq
  refine q_if_ne (tgt := 10) dX10_turn_5 (by decide) (fun c5 => ?_) (fun c5 => ?_)
  · have H := H.1 (b_yes c5)
    refine q_aload_n dX10_turn_10 rfl ?_
    obtain ⟨h2, H⟩ := H
    refine q_cVn (as := []) dX10_turn_11 kmX10_remembers kvX10_remembers lm_RX10_223 ⟨by decide, by decide⟩ s44 ⟨by decide, rfl⟩ rfl rfl (Nat.le_of_ble_eq_true rfl) (c_X10_remembers h2) (fun m1 hq => ?_)
    have H := H m1 hq
    refine q_aload_n dX10_turn_14 rfl ?_
    refine q_getr (r := 48) dX10_turn_15 lf_RX10_29 s44 rfl rfl ?_
    refine q_bipush dX10_turn_18 rfl (by decide) ?_
    refine q_iload_n dX10_turn_20 rfl ?_
    obtain ⟨h4, H⟩ := H
    refine q_iadd dX10_turn_21 h4 ?_
    refine q_dup2 dX10_turn_22 rfl rfl ?_
    obtain ⟨h5, H⟩ := H
    obtain ⟨h6, H⟩ := H
    refine q_iald dX10_turn_23 s48 h5 h6 ?_
    refine q_iconst dX10_turn_24 (by decide) ?_
    obtain ⟨h7, H⟩ := H
    refine q_idiv dX10_turn_25 h7 (by decide) ?_
    refine q_iast dX10_turn_26 s48 h5 h6 ?_
    have H := H _ rfl
    refine q_aload_n dX10_turn_27 rfl ?_
    refine q_getr (r := 48) dX10_turn_28 lf_RX10_29 s44 rfl rfl ?_
    refine q_bipush dX10_turn_31 rfl (by decide) ?_
    refine q_iload_n dX10_turn_33 rfl ?_
    refine q_iadd dX10_turn_34 h4 ?_
    refine q_iald dX10_turn_35 s48 h5 h6 ?_
    exact q_iret dX10_turn_36 rfl ⟨_, rfl, rfl, H⟩
  · have H := H.2 (b_no c5)
    refine q_iconst dX10_turn_8 (by decide) ?_
    exact q_iret dX10_turn_9 rfl ⟨_, rfl, rfl, H⟩

def w_X10_hour_34 (P : Int → Mem → Prop) (a1 : Int) (mem : Mem) : Prop := WP mX10_hour none 0 0 (Pr SH P) 34 [vR 44, vI a1] [] SH mem
set_option maxRecDepth 20000 in
theorem v_X10_hour_34 {P : Int → Mem → Prop} {a1 : Int} {mem : Mem}  (H : ((mem 44 5) ≤ a1 → (¬ (mem 48 1) = 23 → (inR ((mem 48 0) + 0)) ∧ (∀ m2 : Mem, m2 = mset mem 48 0 ((mem 48 0) + 0) → ((inR ((m2 48 1) + 1)) ∧ ((0 ≤ ((m2 48 1) + 1)) ∧ (∀ m5 : Mem, m5 = mset m2 48 1 (((m2 48 1) + 1) % 24) → (P (m5 48 1) m5)))))) ∧ ((mem 48 1) = 23 → (inR ((mem 48 0) + 1)) ∧ (∀ m7 : Mem, m7 = mset mem 48 0 ((mem 48 0) + 1) → ((inR ((m7 48 1) + 1)) ∧ ((0 ≤ ((m7 48 1) + 1)) ∧ (∀ m10 : Mem, m10 = mset m7 48 1 (((m7 48 1) + 1) % 24) → (P (m10 48 1) m10))))))) ∧ (a1 < (mem 44 5) → (inR (6 + a1)) ∧ ((0 ≤ (6 + a1)) ∧ (((6 + a1) < 10) ∧ ((0 ≤ a1) ∧ ((a1 < 4) ∧ ((inR ((mem 48 (6 + a1).toNat) + (mem 63 a1.toNat))) ∧ (∀ m17 : Mem, m17 = mset mem 48 (6 + a1).toNat ((mem 48 (6 + a1).toNat) + (mem 63 a1.toNat)) → ((inR (a1 + 1)) ∧ (w_X10_hour_34 P (a1 + 1) m17)))))))))) : w_X10_hour_34 P a1 mem := by
  unfold w_X10_hour_34
  refine q_iload_n dX10_hour_34 rfl ?_
  refine q_aload_n dX10_hour_35 rfl ?_
  refine q_geti dX10_hour_36 lf_RX10_94 s44 rfl ?_
  refine q_icmp_ge (tgt := 66) dX10_hour_39 (by decide) (fun c39 => ?_) (fun c39 => ?_)
  · have H := H.1 c39
    refine q_aload_n dX10_hour_66 rfl ?_
    refine q_getr (r := 48) dX10_hour_67 lf_RX10_29 s44 rfl rfl ?_
    refine q_iconst dX10_hour_70 (by decide) ?_
    refine q_dup2 dX10_hour_71 rfl rfl ?_
    refine q_iald dX10_hour_72 s48 (by decide) (by decide) ?_
    refine q_aload_n dX10_hour_73 rfl ?_
    refine q_getr (r := 48) dX10_hour_74 lf_RX10_29 s44 rfl rfl ?_
    refine q_iconst dX10_hour_77 (by decide) ?_
    refine q_iald dX10_hour_78 s48 (by decide) (by decide) ?_
    refine q_bipush dX10_hour_79 rfl (by decide) ?_
    refine q_icmp_ne (tgt := 88) dX10_hour_81 (by decide) (fun c81 => ?_) (fun c81 => ?_)
    · have H := H.1 c81
      refine q_iconst dX10_hour_88 (by decide) ?_
      obtain ⟨h1, H⟩ := H
      refine q_iadd dX10_hour_89 h1 ?_
      refine q_iast dX10_hour_90 s48 (by decide) (by decide) ?_
      have H := H _ rfl
      refine q_aload_n dX10_hour_91 rfl ?_
      refine q_getr (r := 48) dX10_hour_92 lf_RX10_29 s44 rfl rfl ?_
      refine q_iconst dX10_hour_95 (by decide) ?_
      refine q_aload_n dX10_hour_96 rfl ?_
      refine q_getr (r := 48) dX10_hour_97 lf_RX10_29 s44 rfl rfl ?_
      refine q_iconst dX10_hour_100 (by decide) ?_
      refine q_iald dX10_hour_101 s48 (by decide) (by decide) ?_
      refine q_iconst dX10_hour_102 (by decide) ?_
      obtain ⟨h3, H⟩ := H
      refine q_iadd dX10_hour_103 h3 ?_
      refine q_bipush dX10_hour_104 rfl (by decide) ?_
      obtain ⟨h4, H⟩ := H
      refine q_irem dX10_hour_106 h4 (by decide) ?_
      refine q_iast dX10_hour_107 s48 (by decide) (by decide) ?_
      have H := H _ rfl
      refine q_aload_n dX10_hour_108 rfl ?_
      refine q_getr (r := 48) dX10_hour_109 lf_RX10_29 s44 rfl rfl ?_
      refine q_iconst dX10_hour_112 (by decide) ?_
      refine q_iald dX10_hour_113 s48 (by decide) (by decide) ?_
      exact q_iret dX10_hour_114 rfl ⟨_, rfl, rfl, H⟩
    · have H := H.2 c81
      refine q_iconst dX10_hour_84 (by decide) ?_
      refine q_goto (tgt := 89) dX10_hour_85 (by decide) ?_
      obtain ⟨h6, H⟩ := H
      refine q_iadd dX10_hour_89 h6 ?_
      refine q_iast dX10_hour_90 s48 (by decide) (by decide) ?_
      have H := H _ rfl
      refine q_aload_n dX10_hour_91 rfl ?_
      refine q_getr (r := 48) dX10_hour_92 lf_RX10_29 s44 rfl rfl ?_
      refine q_iconst dX10_hour_95 (by decide) ?_
      refine q_aload_n dX10_hour_96 rfl ?_
      refine q_getr (r := 48) dX10_hour_97 lf_RX10_29 s44 rfl rfl ?_
      refine q_iconst dX10_hour_100 (by decide) ?_
      refine q_iald dX10_hour_101 s48 (by decide) (by decide) ?_
      refine q_iconst dX10_hour_102 (by decide) ?_
      obtain ⟨h8, H⟩ := H
      refine q_iadd dX10_hour_103 h8 ?_
      refine q_bipush dX10_hour_104 rfl (by decide) ?_
      obtain ⟨h9, H⟩ := H
      refine q_irem dX10_hour_106 h9 (by decide) ?_
      refine q_iast dX10_hour_107 s48 (by decide) (by decide) ?_
      have H := H _ rfl
      refine q_aload_n dX10_hour_108 rfl ?_
      refine q_getr (r := 48) dX10_hour_109 lf_RX10_29 s44 rfl rfl ?_
      refine q_iconst dX10_hour_112 (by decide) ?_
      refine q_iald dX10_hour_113 s48 (by decide) (by decide) ?_
      exact q_iret dX10_hour_114 rfl ⟨_, rfl, rfl, H⟩
  · have H := H.2 c39
    refine q_aload_n dX10_hour_42 rfl ?_
    refine q_getr (r := 48) dX10_hour_43 lf_RX10_29 s44 rfl rfl ?_
    refine q_bipush dX10_hour_46 rfl (by decide) ?_
    refine q_iload_n dX10_hour_48 rfl ?_
    obtain ⟨h11, H⟩ := H
    refine q_iadd dX10_hour_49 h11 ?_
    refine q_dup2 dX10_hour_50 rfl rfl ?_
    obtain ⟨h12, H⟩ := H
    obtain ⟨h13, H⟩ := H
    refine q_iald dX10_hour_51 s48 h12 h13 ?_
    refine q_aload_n dX10_hour_52 rfl ?_
    refine q_getr (r := 63) dX10_hour_53 lf_RX10_75 s44 rfl rfl ?_
    refine q_iload_n dX10_hour_56 rfl ?_
    obtain ⟨h14, H⟩ := H
    obtain ⟨h15, H⟩ := H
    refine q_iald dX10_hour_57 s63 h14 h15 ?_
    obtain ⟨h16, H⟩ := H
    refine q_iadd dX10_hour_58 h16 ?_
    refine q_iast dX10_hour_59 s48 h12 h13 ?_
    have H := H _ rfl
    obtain ⟨h18, H⟩ := H
    refine q_iinc dX10_hour_60 rfl h18 rfl ?_
    refine q_goto (tgt := 34) dX10_hour_63 (by decide) ?_
    exact H
set_option maxRecDepth 20000 in
theorem v_X10_hour {P : Int → Mem → Prop} {mem : Mem}  (H : (¬ (mem 48 0) = 99 → (0 ≤ mem 44 11 ∧ mem 44 11 ≤ 10) ∧ (∀ m2 : Mem, reP mem m2 → ((hsM m2) ∧ ((moM m2) ∧ (∀ m5 : Mem, asnP m2 m5 → ((rdM m5) ∧ (∀ m7 : Mem, fmP m5 (m5 48 1) m7 → (w_X10_hour_34 P 0 m7)))))))) ∧ ((mem 48 0) = 99 → P (-2) mem)) : Tot mX10_hour 0 0 [vR 44] SH mem (Pr SH P) := by
  refine Tot.of rfl (Nat.le_of_ble_eq_true rfl) (by simp [isJ]) (ls := [vR 44, vJ 0]) rfl ?_
  refine q_aload_n dX10_hour_0 rfl ?_
  refine q_getr (r := 48) dX10_hour_1 lf_RX10_29 s44 rfl rfl ?_
  refine q_iconst dX10_hour_4 (by decide) ?_
  refine q_iald dX10_hour_5 s48 (by decide) (by decide) ?_
  refine q_bipush dX10_hour_6 rfl (by decide) ?_
  refine q_icmp_ne (tgt := 14) dX10_hour_8 (by decide) (fun c8 => ?_) (fun c8 => ?_)
  · have H := H.1 c8
    refine q_aload_n dX10_hour_14 rfl ?_
    obtain ⟨h1, H⟩ := H
    refine q_cVn (as := []) dX10_hour_15 kmX10_remembers kvX10_remembers lm_RX10_223 ⟨by decide, by decide⟩ s44 ⟨by decide, rfl⟩ rfl rfl (Nat.le_of_ble_eq_true rfl) (c_X10_remembers h1) (fun m1 hq => ?_)
    have H := H m1 hq
    refine q_aload_n dX10_hour_18 rfl ?_
    obtain ⟨h3, H⟩ := H
    obtain ⟨h4, H⟩ := H
    refine q_cVn (as := []) dX10_hour_19 kmX10_asNow kvX10_asNow lm_RX10_211 ⟨by decide, by decide⟩ s44 ⟨by decide, rfl⟩ rfl rfl (Nat.le_of_ble_eq_true rfl) (c_X10_asNow h3 h4) (fun m1 hq => ?_)
    have H := H m1 hq
    refine q_aload_n dX10_hour_22 rfl ?_
    refine q_aload_n dX10_hour_23 rfl ?_
    refine q_getr (r := 48) dX10_hour_24 lf_RX10_29 s44 rfl rfl ?_
    refine q_iconst dX10_hour_27 (by decide) ?_
    refine q_iald dX10_hour_28 s48 (by decide) (by decide) ?_
    obtain ⟨h6, H⟩ := H
    refine q_cVn (as := [vI _]) dX10_hour_29 kmX10_findMore kvX10_findMore lm_RX10_229 ⟨by decide, by decide⟩ s44 ⟨by decide, rfl⟩ rfl rfl (Nat.le_of_ble_eq_true rfl) (c_X10_findMore h6) (fun m1 hq => ?_)
    have H := H m1 hq
    refine q_iconst dX10_hour_32 (by decide) ?_
    refine q_istore_n dX10_hour_33 (by decide) rfl ?_
    exact H
  · have H := H.2 c8
    refine q_bipush dX10_hour_11 rfl (by decide) ?_
    exact q_iret dX10_hour_13 rfl ⟨_, rfl, rfl, H⟩

set_option maxRecDepth 20000 in
theorem v_X10_waked {w : Int} {P : Int → Mem → Prop} {mem : Mem}  (H : ((0 ≤ w ∧ w ≤ 1) → (hsM mem) ∧ ((moM mem) ∧ (∀ m3 : Mem, asnP mem m3 → ((rdM m3) ∧ (∀ (v5 : Int) (m6 : Mem), anN m3 (isFirst (waM m3) 0 (m3 44 7)) v5 m6 → ((v5 = (-9) → P v5 m6) ∧ (¬ v5 = (-9) → (¬ w = 0 → (rdM m6) ∧ ((0 ≤ v5) ∧ ((v5 < m6 44 7) ∧ (∀ (v10 : Int) (m11 : Mem), anN m6 (wkM m6 v5 (m6 44 3)) v10 m11 → (P v10 m11))))) ∧ (w = 0 → P v5 m6)))))))) ∧ (¬ (0 ≤ w ∧ w ≤ 1) → P (-1) mem)) : Tot mX10_waked 0 0 [vR 44, vI w] SH mem (Pr SH P) := by
  refine Tot.of rfl (Nat.le_of_ble_eq_true rfl) (by simp [isJ]) (ls := [vR 44, vI w, vJ 0]) rfl ?_
  refine q_iload_n dX10_waked_0 rfl ?_
  refine q_iconst dX10_waked_1 (by decide) ?_
  refine q_iconst dX10_waked_2 (by decide) ?_
  refine q_cSi (as := [vI _, vI _, vI _]) dX10_waked_3 kmX10_in ktX10_in lm_RX10_90 ⟨by decide, by decide⟩ rfl rfl (Nat.le_of_ble_eq_true rfl) (c_X10_in) (fun v m1 hq => ?_)
  obtain ⟨rfl, rfl⟩ := hq
  refine q_if_ne (tgt := 11) dX10_waked_6 (by decide) (fun c6 => ?_) (fun c6 => ?_)
  · have H := H.1 (b_yes c6)
    refine q_aload_n dX10_waked_11 rfl ?_
    obtain ⟨h1, H⟩ := H
    obtain ⟨h2, H⟩ := H
    refine q_cVn (as := []) dX10_waked_12 kmX10_asNow kvX10_asNow lm_RX10_211 ⟨by decide, by decide⟩ s44 ⟨by decide, rfl⟩ rfl rfl (Nat.le_of_ble_eq_true rfl) (c_X10_asNow h1 h2) (fun m1 hq => ?_)
    have H := H m1 hq
    refine q_aload_n dX10_waked_15 rfl ?_
    obtain ⟨h4, H⟩ := H
    refine q_cVi (as := []) dX10_waked_16 kmX10_firstWaked kvX10_firstWaked lm_RX10_235 ⟨by decide, by decide⟩ s44 ⟨by decide, rfl⟩ rfl rfl (Nat.le_of_ble_eq_true rfl) (c_X10_firstWaked h4) (fun v m1 hq => ?_)
    have H := H v m1 hq
    refine q_istore_n dX10_waked_19 (by decide) rfl ?_
    refine q_iload_n dX10_waked_20 rfl ?_
    refine q_bipush dX10_waked_21 rfl (by decide) ?_
    refine q_icmp_eq (tgt := 30) dX10_waked_23 (by decide) (fun c23 => ?_) (fun c23 => ?_)
    · have H := H.1 c23
      refine q_iload_n dX10_waked_30 rfl ?_
      refine q_goto (tgt := 39) dX10_waked_31 (by decide) ?_
      exact q_iret dX10_waked_39 rfl ⟨_, rfl, rfl, H⟩
    · have H := H.2 c23
      refine q_iload_n dX10_waked_26 rfl ?_
      refine q_if_ne (tgt := 34) dX10_waked_27 (by decide) (fun c27 => ?_) (fun c27 => ?_)
      · have H := H.1 c27
        refine q_aload_n dX10_waked_34 rfl ?_
        refine q_iload_n dX10_waked_35 rfl ?_
        obtain ⟨h7, H⟩ := H
        obtain ⟨h8, H⟩ := H
        obtain ⟨h9, H⟩ := H
        refine q_cVi (as := [vI _]) dX10_waked_36 kmX10_wakes kvX10_wakes lm_RX10_232 ⟨by decide, by decide⟩ s44 ⟨by decide, rfl⟩ rfl rfl (Nat.le_of_ble_eq_true rfl) (c_X10_wakes h7 h8 h9) (fun v m1 hq => ?_)
        have H := H v m1 hq
        exact q_iret dX10_waked_39 rfl ⟨_, rfl, rfl, H⟩
      · have H := H.2 c27
        refine q_iload_n dX10_waked_30 rfl ?_
        refine q_goto (tgt := 39) dX10_waked_31 (by decide) ?_
        exact q_iret dX10_waked_39 rfl ⟨_, rfl, rfl, H⟩
  · have H := H.2 (b_no c6)
    refine q_iconst dX10_waked_9 (by decide) ?_
    exact q_iret dX10_waked_10 rfl ⟨_, rfl, rfl, H⟩

set_option maxRecDepth 20000 in
theorem v_X10_gain {s : Int} {P : Int → Mem → Prop} {mem : Mem}  (H : (hsM mem) ∧ ((¬ (0 ≤ s ∧ s < mem 44 5) → P (-1000000) mem) ∧ ((0 ≤ s ∧ s < mem 44 5) → (inR (2 + s)) ∧ ((0 ≤ (2 + s)) ∧ (((2 + s) < 10) ∧ ((¬ (mem 48 (2 + s).toNat) = (-9) → (moM mem) ∧ (∀ m6 : Mem, asnP mem m6 → ((rdM m6) ∧ (∀ (v8 : Int) (m9 : Mem), anM m6 (sumF (lrM m6) (m6 44 7).toNat) v8 m9 → ((s < 4) ∧ (∀ m11 : Mem, m11 = mset m9 59 s.toNat (-9) → ((hsM m11) ∧ ((liM m11) ∧ (∀ m14 : Mem, layP m11 m14 → ((rdM m14) ∧ (∀ (v16 : Int) (m17 : Mem), anM m14 (sumF (lrM m14) (m14 44 7).toNat) v16 m17 → ((inR (v16 - v8)) ∧ (P (v16 - v8) m17))))))))))))) ∧ ((mem 48 (2 + s).toNat) = (-9) → P (-1000000) mem))))))) : Tot mX10_gain 0 0 [vR 44, vI s] SH mem (Pr SH P) := by
  refine Tot.of rfl (Nat.le_of_ble_eq_true rfl) (by simp [isJ]) (ls := [vR 44, vI s, vJ 0]) rfl ?_
  refine q_aload_n dX10_gain_0 rfl ?_
  refine q_iload_n dX10_gain_1 rfl ?_
  obtain ⟨h1, H⟩ := H
  refine q_cVi (as := [vI _]) dX10_gain_2 kmX10_isSheet kvX10_isSheet lm_RX10_204 ⟨by decide, by decide⟩ s44 ⟨by decide, rfl⟩ rfl rfl (Nat.le_of_ble_eq_true rfl) (c_X10_isSheet h1) (fun v m1 hq => ?_)
  obtain ⟨rfl, rfl⟩ := hq
  refine q_if_eq (tgt := 21) dX10_gain_5 (by decide) (fun c5 => ?_) (fun c5 => ?_)
  · have H := H.1 (b_no c5)
    refine q_ldcw (n := (-1000000)) dX10_gain_21 lk_RX10_262 (by decide) ?_
    exact q_iret dX10_gain_24 rfl ⟨_, rfl, rfl, H⟩
  · have H := H.2 (b_yes c5)
    refine q_aload_n dX10_gain_8 rfl ?_
    refine q_getr (r := 48) dX10_gain_9 lf_RX10_29 s44 rfl rfl ?_
    refine q_iconst dX10_gain_12 (by decide) ?_
    refine q_iload_n dX10_gain_13 rfl ?_
    obtain ⟨h2, H⟩ := H
    refine q_iadd dX10_gain_14 h2 ?_
    obtain ⟨h3, H⟩ := H
    obtain ⟨h4, H⟩ := H
    refine q_iald dX10_gain_15 s48 h3 h4 ?_
    refine q_bipush dX10_gain_16 rfl (by decide) ?_
    refine q_icmp_ne (tgt := 25) dX10_gain_18 (by decide) (fun c18 => ?_) (fun c18 => ?_)
    · have H := H.1 c18
      refine q_aload_n dX10_gain_25 rfl ?_
      obtain ⟨h5, H⟩ := H
      refine q_cVn (as := []) dX10_gain_26 kmX10_asNow kvX10_asNow lm_RX10_211 ⟨by decide, by decide⟩ s44 ⟨by decide, rfl⟩ rfl rfl (Nat.le_of_ble_eq_true rfl) (c_X10_asNow h1 h5) (fun m1 hq => ?_)
      have H := H m1 hq
      refine q_aload_n dX10_gain_29 rfl ?_
      obtain ⟨h7, H⟩ := H
      refine q_cVi (as := []) dX10_gain_30 kmX10_loudRooms kvX10_loudRooms lm_RX10_263 ⟨by decide, by decide⟩ s44 ⟨by decide, rfl⟩ rfl rfl (Nat.le_of_ble_eq_true rfl) (c_X10_loudRooms h7) (fun v m1 hq => ?_)
      have H := H v m1 hq
      refine q_istore_n dX10_gain_33 (by decide) rfl ?_
      refine q_aload_n dX10_gain_34 rfl ?_
      refine q_getr (r := 59) dX10_gain_35 lf_RX10_63 s44 rfl rfl ?_
      refine q_iload_n dX10_gain_38 rfl ?_
      refine q_bipush dX10_gain_39 rfl (by decide) ?_
      obtain ⟨h10, H⟩ := H
      refine q_iast dX10_gain_41 s59 (b_yes c5).1 h10 ?_
      have H := H _ rfl
      refine q_aload_n dX10_gain_42 rfl ?_
      obtain ⟨h12, H⟩ := H
      obtain ⟨h13, H⟩ := H
      refine q_cVn (as := []) dX10_gain_43 kmX10_layCells kvX10_layCells lm_RX10_184 ⟨by decide, by decide⟩ s44 ⟨by decide, rfl⟩ rfl rfl (Nat.le_of_ble_eq_true rfl) (c_X10_layCells h12 h13) (fun m1 hq => ?_)
      have H := H m1 hq
      refine q_aload_n dX10_gain_46 rfl ?_
      obtain ⟨h15, H⟩ := H
      refine q_cVi (as := []) dX10_gain_47 kmX10_loudRooms kvX10_loudRooms lm_RX10_263 ⟨by decide, by decide⟩ s44 ⟨by decide, rfl⟩ rfl rfl (Nat.le_of_ble_eq_true rfl) (c_X10_loudRooms h15) (fun v m1 hq => ?_)
      have H := H v m1 hq
      refine q_iload_n dX10_gain_50 rfl ?_
      obtain ⟨h18, H⟩ := H
      refine q_isub dX10_gain_51 h18 ?_
      exact q_iret dX10_gain_52 rfl ⟨_, rfl, rfl, H⟩
    · have H := H.2 c18
      refine q_ldcw (n := (-1000000)) dX10_gain_21 lk_RX10_262 (by decide) ?_
      exact q_iret dX10_gain_24 rfl ⟨_, rfl, rfl, H⟩


theorem asn_rd {m0 m : Mem} (hh : hsM m0) (ha : asnP m0 m) : rdM m := ⟨(hsM_fr ha.1).mpr hh, ha.2.1⟩
theorem nM_fr {ks : List Nat} {m m' : Mem} (h : Fr ks m m') (h4 : 44 ∉ ks := by decide) : nM m' = nM m := by
  unfold nM
  rw [h 44 h4]
def ocV (m0 : Mem) (c v : Int) (m : Mem) : Prop := ((0 ≤ c ∧ c < nM m0) ∧ v = onS m0 c ∧ Fr [59, 60, 61] m0 m) ∨ (¬ (0 ≤ c ∧ c < nM m0) ∧ v = -1 ∧ m = m0)
theorem c_X10_onCell {m0 : Mem} {c : Int} (hh : hsM m0) (hm : moM m0) : Tot mX10_onCell 0 0 [vR 44, vI c] SH m0 (Pr SH (ocV m0 c)) := by
  have hn := nM_b hh
  refine v_X10_onCell ⟨hh, fun q => ⟨hm, fun m3 h3 => ⟨by have := q.2; have := hn.2; exact Int.lt_of_lt_of_le q.2 hn.2, Or.inl ⟨q, ?_, h3.1⟩⟩⟩, fun q => Or.inr ⟨q, rfl, rfl⟩⟩
  exact h3.2.2.2.2 c q.1 (Int.lt_of_lt_of_le q.2 hn.2)
def louM (m0 : Mem) (c h v : Int) (m : Mem) : Prop := (((0 ≤ c ∧ c < nM m0) ∧ (0 ≤ h ∧ h ≤ 23)) ∧ (∃ m3, asnP m0 m3 ∧ v = ldM m3 c h h) ∧ Fr [59, 60, 61, 62] m0 m) ∨ (¬ ((0 ≤ c ∧ c < nM m0) ∧ (0 ≤ h ∧ h ≤ 23)) ∧ v = -1 ∧ m = m0)
theorem c_X10_loud {m0 : Mem} {c h : Int} (hh : hsM m0) (hm : moM m0) : Tot mX10_loud 0 0 [vR 44, vI c, vI h] SH m0 (Pr SH (louM m0 c h)) := by
  refine v_X10_loud ⟨hh, fun q => Or.inr ⟨fun z => q z.1, rfl, rfl⟩, fun q => ⟨fun r => ⟨hm, fun m3 h3 => ⟨asn_rd hh h3, by rw [nM_fr h3.1]; exact q.2, fun v6 m7 h7 => Or.inl ⟨⟨q, r⟩, ⟨m3, h3, h7.1⟩, (h3.1.mono (by decide)).tr (h7.2.mono (by decide))⟩⟩⟩, fun r => Or.inr ⟨fun z => r z.2, rfl, rfl⟩⟩⟩
def lyC (m0 : Mem) (s c : Int) : Prop := (0 ≤ s ∧ s < m0 44 5) ∧ (0 ≤ c ∧ c < nM m0)
def lyM (m0 : Mem) (s c v : Int) (m : Mem) : Prop := (lyC m0 s c ∧ ∃ m3, asnP m0 m3 ∧ (((m0 48 (2 + s).toNat = -9 ∧ canP (m0 44 0) (m0 44 1) (mW m0 s) (mL m0 s) c (m3 61)) ∧ ∃ m13, reP m3 m13 ∧ m = mset m13 48 (2 + s).toNat c ∧ v = numF (laM m) (m 44 5).toNat) ∨ (¬ (m0 48 (2 + s).toNat = -9 ∧ canP (m0 44 0) (m0 44 1) (mW m0 s) (mL m0 s) c (m3 61)) ∧ v = -2 ∧ m = m3))) ∨ (¬ lyC m0 s c ∧ v = -1 ∧ m = m0)
theorem hsM_44 {m m' : Mem} (h4 : ∀ k : Nat, k ≠ 11 → m' 44 k = m 44 k) (h5 : m' 45 = m 45) (h6 : m' 46 = m 46) (h7 : m' 47 = m 47) : hsM m' ↔ hsM m := by
  unfold hsM mnC mnS mnA mnB mrC mrA mrB mrM mT mW mL mP
  rw [h4 0 (by decide), h4 1 (by decide), h4 2 (by decide), h4 3 (by decide), h4 5 (by decide), h4 7 (by decide), h5, h6, h7]
theorem re_hs {m0 m : Mem} (h : reP m0 m) : hsM m ↔ hsM m0 := hsM_44 h.2.1 (h.1.at 45) (h.1.at 46) (h.1.at 47)
theorem re_mo {m0 m : Mem} (h : reP m0 m) : moM m ↔ moM m0 := by
  unfold moM mW mL
  rw [h.2.1 0 (by decide), h.2.1 1 (by decide), h.2.1 5 (by decide), h.1.at 46, h.1.at 48]
theorem c_X10_lay {m0 : Mem} {s c : Int} (hh : hsM m0) (hm : moM m0) (hK : 0 ≤ m0 44 11 ∧ m0 44 11 ≤ 10) : Tot mX10_lay 0 0 [vR 44, vI s, vI c] SH m0 (Pr SH (lyM m0 s c)) := by
  have h5 := hh.2.2.2.2.2.1
  refine v_X10_lay ⟨hh, fun q => Or.inr ⟨fun z => q z.1, rfl, rfl⟩, fun q => ⟨fun r => ⟨hm, fun m3 h3 => ⟨by unfold inR; omega, by omega, by omega, ?_⟩⟩, fun r => Or.inr ⟨fun z => r z.2, rfl, rfl⟩⟩⟩
  have hF := h3.1
  rw [hF.at 48]
  have hh3 : hsM m3 := (hsM_fr hF).mpr hh
  refine ⟨fun z => Or.inl ⟨⟨q, r⟩, m3, h3, Or.inr ⟨fun y => z y.1, rfl, rfl⟩⟩, fun z => ⟨hh3, by rw [hF.at 44]; exact q.2, by rw [hF.at 44]; exact r.2, fun v10 m11 h11 => ?_⟩⟩
  obtain ⟨hv, e⟩ := h11
  have e := e.symm
  subst e
  rw [hF.at 44, (msh_fr hF).1, (msh_fr hF).2.1] at hv
  refine ⟨fun y => ⟨by rw [hF.at 44]; exact hK, fun m13 h13 m14 e14 => ⟨?_, ?_⟩⟩, fun y => ?_⟩
  · have hFe : Fr [48] m13 m14 := by rw [e14]; exact Fr.rf.set (by decide)
    exact (hsM_fr hFe).mpr ((re_hs h13).mpr hh3)
  · have hc : canP (m0 44 0) (m0 44 1) (mW m0 s) (mL m0 s) c (m3 61) := by
      rcases hv with ⟨a, -⟩ | ⟨-, a⟩
      · exact a
      · exact absurd a y
    exact Or.inl ⟨⟨q, r⟩, m3, h3, Or.inl ⟨⟨z, hc⟩, m13, h13, e14, rfl⟩⟩
  · have hc : ¬ canP (m0 44 0) (m0 44 1) (mW m0 s) (mL m0 s) c (m3 61) := by
      rcases hv with ⟨-, a⟩ | ⟨a, -⟩
      · omega
      · exact a
    exact Or.inl ⟨⟨q, r⟩, m3, h3, Or.inr ⟨fun x => hc x.2, rfl, rfl⟩⟩
def lfM2 (m0 : Mem) (s v : Int) (m : Mem) : Prop := ((0 ≤ s ∧ s < m0 44 5) ∧ ((m0 48 (2 + s).toNat = -9 ∧ v = -2 ∧ m = m0) ∨ (m0 48 (2 + s).toNat ≠ -9 ∧ v = m0 48 (2 + s).toNat ∧ ∃ m2, reP m0 m2 ∧ m = mset m2 48 (2 + s).toNat (-9)))) ∨ (¬ (0 ≤ s ∧ s < m0 44 5) ∧ v = -1 ∧ m = m0)
theorem c_X10_lift {m0 : Mem} {s : Int} (hh : hsM m0) (hK : 0 ≤ m0 44 11 ∧ m0 44 11 ≤ 10) : Tot mX10_lift 0 0 [vR 44, vI s] SH m0 (Pr SH (lfM2 m0 s)) := by
  have h5 := hh.2.2.2.2.2.1
  refine v_X10_lift ⟨hh, fun q => ⟨by unfold inR; omega, by omega, by omega, fun z => ⟨hK, fun m6 h6 m7 e7 => Or.inl ⟨q, Or.inr ⟨z, ?_, m6, h6, e7⟩⟩⟩, fun z => Or.inl ⟨q, Or.inl ⟨z, rfl, rfl⟩⟩⟩, fun q => Or.inr ⟨q, rfl, rfl⟩⟩
  rw [h6.1.at 48]
def tuM (m0 : Mem) (s v : Int) (m : Mem) : Prop := ((0 ≤ s ∧ s < m0 44 5) ∧ v = m0 48 (6 + s).toNat / 2 ∧ ∃ m2, reP m0 m2 ∧ m = mset m2 48 (6 + s).toNat (m0 48 (6 + s).toNat / 2)) ∨ (¬ (0 ≤ s ∧ s < m0 44 5) ∧ v = -1 ∧ m = m0)
theorem c_X10_turn {m0 : Mem} {s : Int} (hh : hsM m0) (hm : moM m0) (hK : 0 ≤ m0 44 11 ∧ m0 44 11 ≤ 10) : Tot mX10_turn 0 0 [vR 44, vI s] SH m0 (Pr SH (tuM m0 s)) := by
  have h5 := hh.2.2.2.2.2.1
  refine v_X10_turn ⟨hh, fun q => ⟨hK, fun m3 h3 => ?_⟩, fun q => Or.inr ⟨q, rfl, rfl⟩⟩
  have hb := (hm s q.1 q.2).2
  rw [h3.1.at 48]
  refine ⟨by unfold inR; omega, by omega, by omega, hb.1, fun m8 e8 => Or.inl ⟨q, ?_, m3, h3, e8⟩⟩
  rw [e8, mset_eq]
def hoM (m0 : Mem) (v : Int) (m : Mem) : Prop := (m0 48 0 = 99 ∧ v = -2 ∧ m = m0) ∨ (m0 48 0 ≠ 99 ∧ v = m 48 1 ∧ ∃ m2 m5, reP m0 m2 ∧ asnP m2 m5 ∧ Fr [48, 62, 63] m5 m ∧ (∀ s : Int, 0 ≤ s → s < m0 44 5 → m 48 (6 + s).toNat = m0 48 (6 + s).toNat + morM m5 (m0 48 1) s) ∧ (∀ j : Int, 2 ≤ j → ¬ (6 ≤ j ∧ j < 6 + m0 44 5) → m 48 j.toNat = m0 48 j.toNat) ∧ m 48 1 = (m0 48 1 + 1) % 24 ∧ m 48 0 = m0 48 0 + (if m0 48 1 = 23 then 1 else 0))
theorem morM_b {m : Mem} (hy : rdM m) {hr s : Int} : 0 ≤ morM m hr s ∧ morM m hr s ≤ 9 := by
  have hn := nM_b hy.1
  have h3 := hy.1.2.2.2.2.1
  have hno := hy.1.2.2.2.2.2.2.2.1
  have h : 0 ≤ losF (ocM m) (fun c => ldM m c hr hr) s (nM m).toNat ∧ losF (ocM m) (fun c => ldM m c hr hr) s (nM m).toNat ≤ 99 := by
    refine losF_b (by decide) _ (fun i i0 ik => loudF_b _ (fun j j0 jk => ?_))
    have q := hno j j0 (by omega)
    exact ⟨q.2.1.2, (DM_b hy q.1.1 q.1.2 i0 (by omega)).1⟩
  show 0 ≤ losF (ocM m) (fun c => ldM m c hr hr) s (nM m).toNat / 10 ∧ losF (ocM m) (fun c => ldM m c hr hr) s (nM m).toNat / 10 ≤ 9
  omega
theorem ho_loop {m0 m2 m5 m7 : Mem} (hh : hsM m0) (hd : 0 ≤ m0 48 0 ∧ m0 48 0 ≤ 99) (hh1 : 0 ≤ m0 48 1 ∧ m0 48 1 ≤ 23) (hw : ∀ s : Int, 0 ≤ s → s < m0 44 5 → 0 ≤ m0 48 (6 + s).toNat ∧ m0 48 (6 + s).toNat ≤ 99990) (hn99 : m0 48 0 ≠ 99) (h2 : reP m0 m2) (h5 : asnP m2 m5) (hF7 : Fr [62, 63] m5 m7) (hx7 : ∀ s : Int, 0 ≤ s → s < 4 → m7 63 s.toNat = morM m5 (m0 48 1) s) (hy : rdM m5) :
    ∀ (k : Nat) (a1 : Int) (m : Mem), 0 ≤ a1 → a1 ≤ m0 44 5 → (m0 44 5 - a1).toNat ≤ k → Fr [48] m7 m → (∀ s : Int, 0 ≤ s → s < a1 → m 48 (6 + s).toNat = m0 48 (6 + s).toNat + morM m5 (m0 48 1) s) → (∀ j : Int, 0 ≤ j → ¬ (6 ≤ j ∧ j < 6 + a1) → m 48 j.toNat = m0 48 j.toNat) → w_X10_hour_34 (hoM m0) a1 m := by
  have h55 := hh.2.2.2.2.2.1
  have e44 : ∀ m : Mem, Fr [48] m7 m → m 44 5 = m0 44 5 := fun m hF => by rw [hF.at 44, hF7.at 44, h5.1.at 44, h2.2.1 5 (by decide)]
  have hfin : ∀ (a1 : Int) (m mx : Mem) (z : Int), a1 = m0 44 5 → Fr [48] m7 m → (∀ s : Int, 0 ≤ s → s < a1 → m 48 (6 + s).toNat = m0 48 (6 + s).toNat + morM m5 (m0 48 1) s) → (∀ j : Int, 0 ≤ j → ¬ (6 ≤ j ∧ j < 6 + a1) → m 48 j.toNat = m0 48 j.toNat) → z = m0 48 0 + (if m0 48 1 = 23 then 1 else 0) → mx = mset (mset m 48 0 z) 48 1 ((m0 48 1 + 1) % 24) → hoM m0 (mx 48 1) mx := by
    intro a1 m mx z e hF hx hy2 hz em
    refine Or.inr ⟨hn99, rfl, m2, m5, h2, h5, ?_, fun s s0 sn => ?_, fun j j2 hj => ?_, ?_, ?_⟩
    · rw [em]
      exact ((hF7.mono (by decide)).tr (hF.mono (by decide))).set (by decide) |>.set (by decide)
    · rw [em, mset_at, if_neg (by omega), mset_at, if_neg (by omega)]
      exact hx s s0 (by omega)
    · rw [em, mset_at, if_neg (by omega), mset_at, if_neg (by omega)]
      exact hy2 j (by omega) (by omega)
    · rw [em, mset_eq]
    · rw [em, mset_at, if_neg (by omega), mset_eq, hz]
  have hend : ∀ (a1 : Int) (m : Mem), a1 = m0 44 5 → Fr [48] m7 m → (∀ s : Int, 0 ≤ s → s < a1 → m 48 (6 + s).toNat = m0 48 (6 + s).toNat + morM m5 (m0 48 1) s) → (∀ j : Int, 0 ≤ j → ¬ (6 ≤ j ∧ j < 6 + a1) → m 48 j.toNat = m0 48 j.toNat) → (¬ (m 48 1) = 23 → (inR ((m 48 0) + 0)) ∧ (∀ m2 : Mem, m2 = mset m 48 0 ((m 48 0) + 0) → ((inR ((m2 48 1) + 1)) ∧ ((0 ≤ ((m2 48 1) + 1)) ∧ (∀ m5 : Mem, m5 = mset m2 48 1 (((m2 48 1) + 1) % 24) → (hoM m0 (m5 48 1) m5)))))) ∧ ((m 48 1) = 23 → (inR ((m 48 0) + 1)) ∧ (∀ m7 : Mem, m7 = mset m 48 0 ((m 48 0) + 1) → ((inR ((m7 48 1) + 1)) ∧ ((0 ≤ ((m7 48 1) + 1)) ∧ (∀ m10 : Mem, m10 = mset m7 48 1 (((m7 48 1) + 1) % 24) → (hoM m0 (m10 48 1) m10)))))) := by
    intro a1 m e hF hx hy2
    have d0 : m 48 0 = m0 48 0 := hy2 0 (by decide) (by omega)
    have d1 : m 48 1 = m0 48 1 := hy2 1 (by decide) (by omega)
    rw [d0, d1]
    refine ⟨fun z => ⟨by unfold inR; omega, fun m8 e8 => ?_⟩, fun z => ⟨by unfold inR; omega, fun m8 e8 => ?_⟩⟩
    · have d2 : m8 48 1 = m0 48 1 := by rw [e8, mset_at, if_neg (by omega), d1]
      rw [d2]
      refine ⟨by unfold inR; omega, by omega, fun m9 e9 => hfin a1 m m9 (m0 48 0 + 0) e hF hx hy2 ?_ (by rw [e9, e8])⟩
      rw [if_neg z]
    · have d2 : m8 48 1 = m0 48 1 := by rw [e8, mset_at, if_neg (by omega), d1]
      rw [d2]
      refine ⟨by unfold inR; omega, by omega, fun m9 e9 => hfin a1 m m9 (m0 48 0 + 1) e hF hx hy2 ?_ (by rw [e9, e8])⟩
      rw [if_pos z]
  intro k
  induction k with
  | zero =>
    intro a1 m h0 h1 hk hF hx hy2
    exact v_X10_hour_34 ⟨fun _ => hend a1 m (by omega) hF hx hy2, fun q => by rw [e44 m hF] at q; omega⟩
  | succ k ih =>
    intro a1 m h0 h1 hk hF hx hy2
    refine v_X10_hour_34 ⟨fun q => hend a1 m (by rw [e44 m hF] at q; omega) hF hx hy2, fun q => ?_⟩
    rw [e44 m hF] at q
    have hb := hw a1 h0 q
    have hmb := morM_b hy (hr := m0 48 1) (s := a1)
    have e1 : m 48 (6 + a1).toNat = m0 48 (6 + a1).toNat := hy2 (6 + a1) (by omega) (by omega)
    have e2 : m 63 a1.toNat = morM m5 (m0 48 1) a1 := by rw [hF.at 63]; exact hx7 a1 h0 (by omega)
    rw [e1, e2]
    generalize hg : morM m5 (m0 48 1) a1 = z at hmb ⊢
    refine ⟨by unfold inR; omega, by omega, by omega, h0, by omega, by unfold inR; omega, fun m17 e17 => ⟨by unfold inR; omega, ?_⟩⟩
    rw [e17]
    refine ih _ _ (by omega) (by omega) (by omega) (hF.set (by decide)) (fun s s0 s1 => ?_) (fun j j0 hj => ?_)
    · rw [mset_at]
      by_cases c : s = a1
      · rw [c, if_pos ⟨rfl, rfl⟩, hg]
      · rw [if_neg (by omega)]
        exact hx s s0 (by omega)
    · rw [mset_at, if_neg (by omega)]
      exact hy2 j j0 (by omega)
theorem c_X10_hour {m0 : Mem} (hh : hsM m0) (hm : moM m0) (hK : 0 ≤ m0 44 11 ∧ m0 44 11 ≤ 10) (hd : 0 ≤ m0 48 0 ∧ m0 48 0 ≤ 99) (hh1 : 0 ≤ m0 48 1 ∧ m0 48 1 ≤ 23) (hw : ∀ s : Int, 0 ≤ s → s < m0 44 5 → 0 ≤ m0 48 (6 + s).toNat ∧ m0 48 (6 + s).toNat ≤ 99990) : Tot mX10_hour 0 0 [vR 44] SH m0 (Pr SH (hoM m0)) := by
  have h55 := hh.2.2.2.2.2.1
  refine v_X10_hour ⟨fun q => ⟨hK, fun m2 h2 => ⟨(re_hs h2).mpr hh, (re_mo h2).mpr hm, fun m5 h5 => ?_⟩⟩, fun q => Or.inl ⟨q, rfl, rfl⟩⟩
  have hy := asn_rd ((re_hs h2).mpr hh) h5
  have e48 : m5 48 = m0 48 := by rw [h5.1.at 48, h2.1.at 48]
  refine ⟨hy, fun m7 h7 => ?_⟩
  rw [e48] at h7
  exact ho_loop hh hd hh1 hw q h2 h5 h7.1 h7.2 hy _ 0 m7 (by omega) h55.1 (Nat.le_refl _) Fr.rf (fun s s0 s1 => by omega) (fun j j0 hj => by rw [h7.1.at 48, e48])
def wdM (m0 : Mem) (w v : Int) (m : Mem) : Prop := ((0 ≤ w ∧ w ≤ 1) ∧ (∃ m3 f, asnP m0 m3 ∧ isFirst (waM m3) 0 (m3 44 7) f ∧ (((w = 0 ∨ f = -9) ∧ v = f) ∨ ((¬ w = 0 ∧ ¬ f = -9) ∧ isFirst (fun h => mrM m3 f < ldM m3 (mrC m3 f) h h) (mrA m3 f) 24 v))) ∧ Fr [59, 60, 61, 62] m0 m) ∨ (¬ (0 ≤ w ∧ w ≤ 1) ∧ v = -1 ∧ m = m0)
theorem wkM_fr {m m' : Mem} (h : Fr [62] m m') {r k v : Int} (hv : wkM m' r k v) : wkM m r k v := by
  unfold wkM luM at *
  unfold mrA mrB mrC mrM at *
  rw [DM_fr h, (mno_fr h).1, (mno_fr h).2.1, (mno_fr h).2.2.1, (mno_fr h).2.2.2, h.at 47] at hv
  exact hv
theorem c_X10_waked {m0 : Mem} {w : Int} (hh : hsM m0) (hm : moM m0) : Tot mX10_waked 0 0 [vR 44, vI w] SH m0 (Pr SH (wdM m0 w)) := by
  refine v_X10_waked ⟨fun q => ⟨hh, hm, fun m3 h3 => ⟨asn_rd hh h3, fun v5 m6 h6 => ?_⟩⟩, fun q => Or.inr ⟨q, rfl, rfl⟩⟩
  have hF6 : Fr [59, 60, 61, 62] m0 m6 := (h3.1.mono (by decide)).tr (h6.2.mono (by decide))
  have hy3 := asn_rd hh h3
  refine ⟨fun z => Or.inl ⟨q, ⟨m3, v5, h3, h6.1, Or.inl ⟨Or.inr z, rfl⟩⟩, hF6⟩, fun z => ⟨fun y => ?_, fun y => Or.inl ⟨q, ⟨m3, v5, h3, h6.1, Or.inl ⟨Or.inl y, rfl⟩⟩, hF6⟩⟩⟩
  have hv : (0 ≤ v5 ∧ v5 < m3 44 7) ∧ waM m3 v5 := by
    rcases h6.1 with ⟨a, -⟩ | ⟨a, b, c, -⟩
    · exact absurd a z
    · exact ⟨⟨a, b⟩, c⟩
  refine ⟨rdM_fr h6.2 hy3, hv.1.1, by rw [h6.2.at 44]; exact hv.1.2, fun v10 m11 h11 => Or.inl ⟨q, ⟨m3, v5, h3, h6.1, Or.inr ⟨⟨y, z⟩, ?_⟩⟩, hF6.tr (h11.2.mono (by decide))⟩⟩
  have hw := h11.1
  rw [h6.2.at 44] at hw
  exact wk_first hy3 hv.1.1 hv.1.2 hv.2 (wkM_fr h6.2 hw)
def gaM (m0 : Mem) (s v : Int) (m : Mem) : Prop := (((0 ≤ s ∧ s < m0 44 5) ∧ m0 48 (2 + s).toNat ≠ -9) ∧ (∃ m6 m11 m14, asnP m0 m6 ∧ (Fr [59, 62] m6 m11 ∧ ∀ t : Int, 0 ≤ t → t < 4 → m11 59 t.toNat = if t = s then -9 else m6 59 t.toNat) ∧ layP m11 m14 ∧ rdM m14 ∧ v = sumF (lrM m14) (m14 44 7).toNat - sumF (lrM m6) (m6 44 7).toNat) ∧ Fr [59, 60, 61, 62] m0 m) ∨ (¬ ((0 ≤ s ∧ s < m0 44 5) ∧ m0 48 (2 + s).toNat ≠ -9) ∧ v = -1000000 ∧ m = m0)
theorem lrM_b {m : Mem} (hy : rdM m) : 0 ≤ sumF (lrM m) (m 44 7).toNat ∧ sumF (lrM m) (m 44 7).toNat ≤ 300 := by
  have h7 := hy.1.2.2.2.2.2.2.1
  have h3 := hy.1.2.2.2.2.1
  have hno := hy.1.2.2.2.2.2.2.2.1
  have hro := hy.1.2.2.2.2.2.2.2.2.2
  have q : 0 ≤ sumF (lrM m) (m 44 7).toNat ∧ sumF (lrM m) (m 44 7).toNat ≤ 99 * ((m 44 7).toNat : Int) := by
    refine sumF_b _ (fun i i0 ik => loudF_b _ (fun j j0 jk => ?_))
    have q := hno j j0 (by omega)
    have p := hro i i0 (by omega)
    exact ⟨q.2.1.2, (DM_b hy q.1.1 q.1.2 p.1.1 p.1.2).1⟩
  omega
theorem c_X10_gain {m0 : Mem} {s : Int} (hh : hsM m0) (hm : moM m0) : Tot mX10_gain 0 0 [vR 44, vI s] SH m0 (Pr SH (gaM m0 s)) := by
  have h5 := hh.2.2.2.2.2.1
  refine v_X10_gain ⟨hh, fun q => Or.inr ⟨fun z => q z.1, rfl, rfl⟩, fun q => ⟨by unfold inR; omega, by omega, by omega, fun z => ⟨hm, fun m6 h6 => ⟨asn_rd hh h6, fun v8 m9 h9 => ⟨by omega, fun m11 e11 => ?_⟩⟩⟩, fun z => Or.inr ⟨fun y => y.2 z, rfl, rfl⟩⟩⟩
  have hy6 := asn_rd hh h6
  have hF11 : Fr [59, 62] m6 m11 := by rw [e11]; exact (h9.2.mono (by decide)).set (by decide)
  have hh11 : hsM m11 := (hsM_fr hF11).mpr hy6.1
  have hx11 : ∀ t : Int, 0 ≤ t → t < 4 → m11 59 t.toNat = if t = s then -9 else m6 59 t.toNat := by
    intro t t0 t1
    rw [e11, mset_at]
    by_cases c : t = s
    · rw [c, if_pos ⟨rfl, rfl⟩, if_pos rfl]
    · rw [if_neg (by omega), if_neg c, h9.2.at 59]
  have hli : liM m11 := by
    intro t t0 tn
    rw [hF11.at 44, h6.1.at 44] at tn
    rw [hx11 t t0 (by omega)]
    by_cases c : t = s
    · rw [if_pos c]; exact Or.inl rfl
    · rw [if_neg c, h6.2.2.1 t t0 (by omega), if_pos tn, hF11.at 44, h6.1.at 44, (msh_fr hF11).1, (msh_fr hF11).2.1, (msh_fr h6.1).1, (msh_fr h6.1).2.1]
      exact (hm t t0 tn).1
  refine ⟨hh11, hli, fun m14 h14 => ?_⟩
  have hy14 : rdM m14 := by
    refine ⟨(hsM_fr h14.1).mpr hh11, ?_⟩
    have hg := hy6.2
    unfold okGM okG at hg ⊢
    rw [h14.1.at 44, h14.1.at 60, hF11.at 44, hF11.at 60]
    refine ⟨hg.1, hg.2.1, hg.2.2.1, hg.2.2.2.1, fun c c0 c1 => ?_, hg.2.2.2.2.2⟩
    rw [h14.2 c c0 c1]
    have q := onF_b (w := m11 44 0) (wi := mW m11) (lo := mL m11) (li := fun s => m11 59 s.toNat) (m11 44 5).toNat c
    have e5 : m11 44 5 = m0 44 5 := by rw [hF11.at 44, h6.1.at 44]
    rcases q with q | q
    · exact Or.inl q
    · refine Or.inr ⟨q.1, ?_⟩
      have q2 : (((m11 44 5).toNat : Nat) : Int) ≤ 4 := by rw [e5]; omega
      exact Int.lt_of_lt_of_le q.2 q2
  refine ⟨hy14, fun v16 m17 h17 => ?_⟩
  have b1 := lrM_b hy6
  have b2 := lrM_b hy14
  rw [h9.1, h17.1]
  refine ⟨by unfold inR; omega, Or.inl ⟨⟨q, z⟩, ⟨m6, m11, m14, h6, ⟨hF11, hx11⟩, h14, hy14, rfl⟩, ?_⟩⟩
  exact (((h6.1.mono (by decide)).tr (hF11.mono (by decide))).tr (h14.1.mono (by decide))).tr (h17.2.mono (by decide))
