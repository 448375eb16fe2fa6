/-! THE MODEL: its small methods -/
theorem nM_b {m : Mem} (h : hsM m) : 1 ≤ nM m ∧ nM m ≤ 12 := by
  obtain ⟨h1, h2, -⟩ := h
  show 1 ≤ m 44 0 * m 44 1 ∧ m 44 0 * m 44 1 ≤ 12
  rcases h1 with e | e | e | e <;> rcases h2 with f | f | f <;> rw [e, f] <;> decide
theorem c_X10_isCell {mem : Mem} {c : Int} (h : hsM mem) : Tot mX10_isCell 0 0 [vR 44, vI c] SH mem (Pr SH (Pv (if 0 ≤ c ∧ c < nM mem then 1 else 0) mem)) := by
  have hn : 1 ≤ mem 44 0 * mem 44 1 ∧ mem 44 0 * mem 44 1 ≤ 12 := nM_b h
  refine v_X10_isCell ⟨by unfold inR; omega, by unfold inR; omega, ?_⟩
  show Pv _ _ _ _
  unfold Pv nM
  first
    | (refine ⟨?_, rfl⟩; grind)
    | grind
theorem c_X10_isSheet {mem : Mem} {s : Int} (h : hsM mem) : Tot mX10_isSheet 0 0 [vR 44, vI s] SH mem (Pr SH (Pv (if 0 ≤ s ∧ s < mem 44 5 then 1 else 0) mem)) := by
  have h5 := h.2.2.2.2.2.1
  refine v_X10_isSheet ⟨by unfold inR; omega, ?_⟩
  refine ⟨?_, rfl⟩
  by_cases c : 0 ≤ s ∧ s ≤ mem 44 5 - 1
  · rw [if_pos c, if_pos (by omega)]
  · rw [if_neg c, if_neg (by omega)]
theorem c_X10_isStrength {mem : Mem} {n : Int} : Tot mX10_isStrength 0 0 [vI n] SH mem (Pr SH (Pv (if 1 ≤ n ∧ n ≤ 99 then 1 else 0) mem)) := v_X10_isStrength ⟨rfl, rfl⟩
set_option maxRecDepth 20000 in
theorem v_X10_type {c : Int} {P : Int → Mem → Prop} {mem : Mem}  (H : ((0 ≤ c ∧ c ≤ 255) → (¬ (mem 44 20) = 200 → (0 ≤ (mem 44 20)) ∧ (((mem 44 20) < 200) ∧ (∀ m3 : Mem, m3 = mset mem 54 (mem 44 20).toNat c → ((inR ((m3 44 20) + 1)) ∧ (∀ m5 : Mem, m5 = (mset m3 44 20 ((m3 44 20) + 1)) → (P (m5 44 20) m5)))))) ∧ ((mem 44 20) = 200 → P (-3) mem)) ∧ (¬ (0 ≤ c ∧ c ≤ 255) → P (-1) mem)) : Tot mX10_type 0 0 [vR 44, vI c] SH mem (Pr SH P) := by
  refine Tot.of rfl (Nat.le_of_ble_eq_true rfl) (by simp [isJ]) (ls := [vR 44, vI c]) rfl ?_
  refine q_iload_n dX10_type_0 rfl ?_
  refine q_iconst dX10_type_1 (by decide) ?_
  refine q_sipush dX10_type_2 rfl (by decide) ?_
  refine q_cSi (as := [vI _, vI _, vI _]) dX10_type_5 kmX10_in ktX10_in lm_RX10_90 ⟨by decide, by decide⟩ rfl rfl (Nat.le_of_ble_eq_true rfl) (c_X10_in) (fun v m1 hq => ?_)
  obtain ⟨rfl, rfl⟩ := hq
  refine q_if_ne (tgt := 13) dX10_type_8 (by decide) (fun c8 => ?_) (fun c8 => ?_)
  · have H := H.1 (b_yes c8)
    refine q_aload_n dX10_type_13 rfl ?_
    refine q_geti dX10_type_14 lf_RX10_97 s44 rfl ?_
    refine q_sipush dX10_type_17 rfl (by decide) ?_
    refine q_icmp_ne (tgt := 26) dX10_type_20 (by decide) (fun c20 => ?_) (fun c20 => ?_)
    · have H := H.1 c20
      refine q_aload_n dX10_type_26 rfl ?_
      refine q_getr (r := 54) dX10_type_27 lf_RX10_48 s44 rfl rfl ?_
      refine q_aload_n dX10_type_30 rfl ?_
      refine q_geti dX10_type_31 lf_RX10_97 s44 rfl ?_
      refine q_iload_n dX10_type_34 rfl ?_
      obtain ⟨h1, H⟩ := H
      obtain ⟨h2, H⟩ := H
      refine q_iast dX10_type_35 s54 h1 h2 ?_
      have H := H _ rfl
      refine q_aload_n dX10_type_36 rfl ?_
      refine q_dup dX10_type_37 rfl ?_
      refine q_geti dX10_type_38 lf_RX10_97 s44 rfl ?_
      refine q_iconst dX10_type_41 (by decide) ?_
      obtain ⟨h4, H⟩ := H
      refine q_iadd dX10_type_42 h4 ?_
      refine q_puti dX10_type_43 lf_RX10_97 s44 rfl (Or.inl rfl) fit_int ?_
      have H := H _ rfl
      refine q_aload_n dX10_type_46 rfl ?_
      refine q_geti dX10_type_47 lf_RX10_97 s44 rfl ?_
      exact q_iret dX10_type_50 rfl ⟨_, rfl, rfl, H⟩
    · have H := H.2 c20
      refine q_bipush dX10_type_23 rfl (by decide) ?_
      exact q_iret dX10_type_25 rfl ⟨_, rfl, rfl, H⟩
  · have H := H.2 (b_no c8)
    refine q_iconst dX10_type_11 (by decide) ?_
    exact q_iret dX10_type_12 rfl ⟨_, rfl, rfl, H⟩

set_option maxRecDepth 20000 in
theorem v_X10_clear {P : Int → Mem → Prop} {mem : Mem}  (H : ∀ m1 : Mem, m1 = (mset mem 44 20 0) → (P (mem 44 20) m1)) : Tot mX10_clear 0 0 [vR 44] SH mem (Pr SH P) := by
  refine Tot.of rfl (Nat.le_of_ble_eq_true rfl) (by simp [isJ]) (ls := [vR 44, vJ 0]) rfl ?_
  refine q_aload_n dX10_clear_0 rfl ?_
  refine q_geti dX10_clear_1 lf_RX10_97 s44 rfl ?_
  refine q_istore_n dX10_clear_4 (by decide) rfl ?_
  refine q_aload_n dX10_clear_5 rfl ?_
  refine q_iconst dX10_clear_6 (by decide) ?_
  refine q_puti dX10_clear_7 lf_RX10_97 s44 rfl (Or.inl rfl) fit_int ?_
  have H := H _ rfl
  refine q_iload_n dX10_clear_10 rfl ?_
  exact q_iret dX10_clear_11 rfl ⟨_, rfl, rfl, H⟩

set_option maxRecDepth 20000 in
theorem v_X10_noise {n w : Int} {P : Int → Mem → Prop} {mem : Mem}  (H : (inR ((mem 44 3) - 1)) ∧ ((¬ (0 ≤ n ∧ n ≤ ((mem 44 3) - 1)) → P (-1) mem) ∧ ((0 ≤ n ∧ n ≤ ((mem 44 3) - 1)) → (¬ (0 ≤ w ∧ w ≤ 3) → P (-1) mem) ∧ ((0 ≤ w ∧ w ≤ 3) → (inR (4 * n)) ∧ ((inR ((4 * n) + w)) ∧ ((0 ≤ ((4 * n) + w)) ∧ ((((4 * n) + w) < 12) ∧ (P (mem 45 ((4 * n) + w).toNat) mem)))))))) : Tot mX10_noise 0 0 [vR 44, vI n, vI w] SH mem (Pr SH P) := by
  refine Tot.of rfl (Nat.le_of_ble_eq_true rfl) (by simp [isJ]) (ls := [vR 44, vI n, vI w]) rfl ?_
  refine q_iload_n dX10_noise_0 rfl ?_
  refine q_iconst dX10_noise_1 (by decide) ?_
  refine q_aload_n dX10_noise_2 rfl ?_
  refine q_geti dX10_noise_3 lf_RX10_165 s44 rfl ?_
  refine q_iconst dX10_noise_6 (by decide) ?_
  obtain ⟨h1, H⟩ := H
  refine q_isub dX10_noise_7 h1 ?_
  refine q_cSi (as := [vI _, vI _, vI _]) dX10_noise_8 kmX10_in ktX10_in lm_RX10_90 ⟨by decide, by decide⟩ rfl rfl (Nat.le_of_ble_eq_true rfl) (c_X10_in) (fun v m1 hq => ?_)
  obtain ⟨rfl, rfl⟩ := hq
  refine q_if_eq (tgt := 36) dX10_noise_11 (by decide) (fun c11 => ?_) (fun c11 => ?_)
  · have H := H.1 (b_no c11)
    refine q_iconst dX10_noise_36 (by decide) ?_
    exact q_iret dX10_noise_37 rfl ⟨_, rfl, rfl, H⟩
  · have H := H.2 (b_yes c11)
    refine q_iload_n dX10_noise_14 rfl ?_
    refine q_iconst dX10_noise_15 (by decide) ?_
    refine q_iconst dX10_noise_16 (by decide) ?_
    refine q_cSi (as := [vI _, vI _, vI _]) dX10_noise_17 kmX10_in ktX10_in lm_RX10_90 ⟨by decide, by decide⟩ rfl rfl (Nat.le_of_ble_eq_true rfl) (c_X10_in) (fun v m1 hq => ?_)
    obtain ⟨rfl, rfl⟩ := hq
    refine q_if_eq (tgt := 36) dX10_noise_20 (by decide) (fun c20 => ?_) (fun c20 => ?_)
    · have H := H.1 (b_no c20)
      refine q_iconst dX10_noise_36 (by decide) ?_
      exact q_iret dX10_noise_37 rfl ⟨_, rfl, rfl, H⟩
    · have H := H.2 (b_yes c20)
      refine q_aload_n dX10_noise_23 rfl ?_
      refine q_getr (r := 45) dX10_noise_24 lf_RX10_19 s44 rfl rfl ?_
      refine q_iconst dX10_noise_27 (by decide) ?_
      refine q_iload_n dX10_noise_28 rfl ?_
      obtain ⟨h2, H⟩ := H
      refine q_imul dX10_noise_29 h2 ?_
      refine q_iload_n dX10_noise_30 rfl ?_
      obtain ⟨h3, H⟩ := H
      refine q_iadd dX10_noise_31 h3 ?_
      obtain ⟨h4, H⟩ := H
      obtain ⟨h5, H⟩ := H
      refine q_iald dX10_noise_32 s45 h4 h5 ?_
      refine q_goto (tgt := 37) dX10_noise_33 (by decide) ?_
      exact q_iret dX10_noise_37 rfl ⟨_, rfl, rfl, H⟩

set_option maxRecDepth 20000 in
theorem v_X10_sheet {s w : Int} {P : Int → Mem → Prop} {mem : Mem}  (H : (hsM mem) ∧ ((¬ (0 ≤ s ∧ s < mem 44 5) → P (-1) mem) ∧ ((0 ≤ s ∧ s < mem 44 5) → ((0 ≤ w ∧ w ≤ 6) → (4 ≤ w → (¬ w = 4 → (¬ w = 5 → (inR (6 + s)) ∧ ((0 ≤ (6 + s)) ∧ (((6 + s) < 10) ∧ ((0 ≤ (mem 48 (6 + s).toNat)) ∧ (((mem 48 (6 + s).toNat) ≤ 100000) ∧ (P (thM mem s (mem 48 (6 + s).toNat)) mem)))))) ∧ (w = 5 → (inR (6 + s)) ∧ ((0 ≤ (6 + s)) ∧ (((6 + s) < 10) ∧ (P (mem 48 (6 + s).toNat) mem))))) ∧ (w = 4 → (inR (2 + s)) ∧ ((0 ≤ (2 + s)) ∧ (((2 + s) < 10) ∧ (P (mem 48 (2 + s).toNat) mem))))) ∧ (w < 4 → (inR (4 * s)) ∧ ((inR ((4 * s) + w)) ∧ ((0 ≤ ((4 * s) + w)) ∧ ((((4 * s) + w) < 16) ∧ (P (mem 46 ((4 * s) + w).toNat) mem)))))) ∧ (¬ (0 ≤ w ∧ w ≤ 6) → P (-1) mem)))) : Tot mX10_sheet 0 0 [vR 44, vI s, vI w] SH mem (Pr SH P) := by
  refine Tot.of rfl (Nat.le_of_ble_eq_true rfl) (by simp [isJ]) (ls := [vR 44, vI s, vI w]) rfl ?_
  refine q_aload_n dX10_sheet_0 rfl ?_
  refine q_iload_n dX10_sheet_1 rfl ?_
  obtain ⟨h1, H⟩ := H
  refine q_cVi (as := [vI _]) dX10_sheet_2 kmX10_isSheet kvX10_isSheet lm_RX10_204 ⟨by decide, by decide⟩ s44 ⟨by decide, rfl⟩ rfl rfl (Nat.le_of_ble_eq_true rfl) (c_X10_isSheet h1) (fun v m1 hq => ?_)
  obtain ⟨rfl, rfl⟩ := hq
  refine q_if_eq (tgt := 18) dX10_sheet_5 (by decide) (fun c5 => ?_) (fun c5 => ?_)
  · have H := H.1 (b_no c5)
    refine q_iconst dX10_sheet_18 (by decide) ?_
    exact q_iret dX10_sheet_19 rfl ⟨_, rfl, rfl, H⟩
  · have H := H.2 (b_yes c5)
    refine q_iload_n dX10_sheet_8 rfl ?_
    refine q_iconst dX10_sheet_9 (by decide) ?_
    refine q_bipush dX10_sheet_10 rfl (by decide) ?_
    refine q_cSi (as := [vI _, vI _, vI _]) dX10_sheet_12 kmX10_in ktX10_in lm_RX10_90 ⟨by decide, by decide⟩ rfl rfl (Nat.le_of_ble_eq_true rfl) (c_X10_in) (fun v m1 hq => ?_)
    obtain ⟨rfl, rfl⟩ := hq
    refine q_if_ne (tgt := 20) dX10_sheet_15 (by decide) (fun c15 => ?_) (fun c15 => ?_)
    · have H := H.1 (b_yes c15)
      refine q_iload_n dX10_sheet_20 rfl ?_
      refine q_iconst dX10_sheet_21 (by decide) ?_
      refine q_icmp_ge (tgt := 38) dX10_sheet_22 (by decide) (fun c22 => ?_) (fun c22 => ?_)
      · have H := H.1 c22
        refine q_iload_n dX10_sheet_38 rfl ?_
        refine q_iconst dX10_sheet_39 (by decide) ?_
        refine q_icmp_ne (tgt := 54) dX10_sheet_40 (by decide) (fun c40 => ?_) (fun c40 => ?_)
        · have H := H.1 c40
          refine q_iload_n dX10_sheet_54 rfl ?_
          refine q_iconst dX10_sheet_55 (by decide) ?_
          refine q_icmp_ne (tgt := 71) dX10_sheet_56 (by decide) (fun c56 => ?_) (fun c56 => ?_)
          · have H := H.1 c56
            refine q_aload_n dX10_sheet_71 rfl ?_
            refine q_iload_n dX10_sheet_72 rfl ?_
            refine q_aload_n dX10_sheet_73 rfl ?_
            refine q_getr (r := 48) dX10_sheet_74 lf_RX10_29 s44 rfl rfl ?_
            refine q_bipush dX10_sheet_77 rfl (by decide) ?_
            refine q_iload_n dX10_sheet_79 rfl ?_
            obtain ⟨h2, H⟩ := H
            refine q_iadd dX10_sheet_80 h2 ?_
            obtain ⟨h3, H⟩ := H
            obtain ⟨h4, H⟩ := H
            refine q_iald dX10_sheet_81 s48 h3 h4 ?_
            obtain ⟨h5, H⟩ := H
            obtain ⟨h6, H⟩ := H
            refine q_cVi (as := [vI _, vI _]) dX10_sheet_82 kmX10_thickNow kvX10_thickNow lm_RX10_180 ⟨by decide, by decide⟩ s44 ⟨by decide, rfl⟩ rfl rfl (Nat.le_of_ble_eq_true rfl) (c_X10_thickNow h1 (b_yes c5).1 (b_yes c5).2 h5 h6) (fun v m1 hq => ?_)
            obtain ⟨rfl, rfl⟩ := hq
            exact q_iret dX10_sheet_85 rfl ⟨_, rfl, rfl, H⟩
          · have H := H.2 c56
            refine q_aload_n dX10_sheet_59 rfl ?_
            refine q_getr (r := 48) dX10_sheet_60 lf_RX10_29 s44 rfl rfl ?_
            refine q_bipush dX10_sheet_63 rfl (by decide) ?_
            refine q_iload_n dX10_sheet_65 rfl ?_
            obtain ⟨h7, H⟩ := H
            refine q_iadd dX10_sheet_66 h7 ?_
            obtain ⟨h8, H⟩ := H
            obtain ⟨h9, H⟩ := H
            refine q_iald dX10_sheet_67 s48 h8 h9 ?_
            refine q_goto (tgt := 85) dX10_sheet_68 (by decide) ?_
            exact q_iret dX10_sheet_85 rfl ⟨_, rfl, rfl, H⟩
        · have H := H.2 c40
          refine q_aload_n dX10_sheet_43 rfl ?_
          refine q_getr (r := 48) dX10_sheet_44 lf_RX10_29 s44 rfl rfl ?_
          refine q_iconst dX10_sheet_47 (by decide) ?_
          refine q_iload_n dX10_sheet_48 rfl ?_
          obtain ⟨h10, H⟩ := H
          refine q_iadd dX10_sheet_49 h10 ?_
          obtain ⟨h11, H⟩ := H
          obtain ⟨h12, H⟩ := H
          refine q_iald dX10_sheet_50 s48 h11 h12 ?_
          refine q_goto (tgt := 85) dX10_sheet_51 (by decide) ?_
          exact q_iret dX10_sheet_85 rfl ⟨_, rfl, rfl, H⟩
      · have H := H.2 c22
        refine q_aload_n dX10_sheet_25 rfl ?_
        refine q_getr (r := 46) dX10_sheet_26 lf_RX10_23 s44 rfl rfl ?_
        refine q_iconst dX10_sheet_29 (by decide) ?_
        refine q_iload_n dX10_sheet_30 rfl ?_
        obtain ⟨h13, H⟩ := H
        refine q_imul dX10_sheet_31 h13 ?_
        refine q_iload_n dX10_sheet_32 rfl ?_
        obtain ⟨h14, H⟩ := H
        refine q_iadd dX10_sheet_33 h14 ?_
        obtain ⟨h15, H⟩ := H
        obtain ⟨h16, H⟩ := H
        refine q_iald dX10_sheet_34 s46 h15 h16 ?_
        refine q_goto (tgt := 85) dX10_sheet_35 (by decide) ?_
        exact q_iret dX10_sheet_85 rfl ⟨_, rfl, rfl, H⟩
    · have H := H.2 (b_no c15)
      refine q_iconst dX10_sheet_18 (by decide) ?_
      exact q_iret dX10_sheet_19 rfl ⟨_, rfl, rfl, H⟩

set_option maxRecDepth 20000 in
theorem v_X10_room {n w : Int} {P : Int → Mem → Prop} {mem : Mem}  (H : (inR ((mem 44 7) - 1)) ∧ ((¬ (0 ≤ n ∧ n ≤ ((mem 44 7) - 1)) → P (-1) mem) ∧ ((0 ≤ n ∧ n ≤ ((mem 44 7) - 1)) → (¬ (0 ≤ w ∧ w ≤ 3) → P (-1) mem) ∧ ((0 ≤ w ∧ w ≤ 3) → (inR (4 * n)) ∧ ((inR ((4 * n) + w)) ∧ ((0 ≤ ((4 * n) + w)) ∧ ((((4 * n) + w) < 12) ∧ (P (mem 47 ((4 * n) + w).toNat) mem)))))))) : Tot mX10_room 0 0 [vR 44, vI n, vI w] SH mem (Pr SH P) := by
  refine Tot.of rfl (Nat.le_of_ble_eq_true rfl) (by simp [isJ]) (ls := [vR 44, vI n, vI w]) rfl ?_
  refine q_iload_n dX10_room_0 rfl ?_
  refine q_iconst dX10_room_1 (by decide) ?_
  refine q_aload_n dX10_room_2 rfl ?_
  refine q_geti dX10_room_3 lf_RX10_168 s44 rfl ?_
  refine q_iconst dX10_room_6 (by decide) ?_
  obtain ⟨h1, H⟩ := H
  refine q_isub dX10_room_7 h1 ?_
  refine q_cSi (as := [vI _, vI _, vI _]) dX10_room_8 kmX10_in ktX10_in lm_RX10_90 ⟨by decide, by decide⟩ rfl rfl (Nat.le_of_ble_eq_true rfl) (c_X10_in) (fun v m1 hq => ?_)
  obtain ⟨rfl, rfl⟩ := hq
  refine q_if_eq (tgt := 36) dX10_room_11 (by decide) (fun c11 => ?_) (fun c11 => ?_)
  · have H := H.1 (b_no c11)
    refine q_iconst dX10_room_36 (by decide) ?_
    exact q_iret dX10_room_37 rfl ⟨_, rfl, rfl, H⟩
  · have H := H.2 (b_yes c11)
    refine q_iload_n dX10_room_14 rfl ?_
    refine q_iconst dX10_room_15 (by decide) ?_
    refine q_iconst dX10_room_16 (by decide) ?_
    refine q_cSi (as := [vI _, vI _, vI _]) dX10_room_17 kmX10_in ktX10_in lm_RX10_90 ⟨by decide, by decide⟩ rfl rfl (Nat.le_of_ble_eq_true rfl) (c_X10_in) (fun v m1 hq => ?_)
    obtain ⟨rfl, rfl⟩ := hq
    refine q_if_eq (tgt := 36) dX10_room_20 (by decide) (fun c20 => ?_) (fun c20 => ?_)
    · have H := H.1 (b_no c20)
      refine q_iconst dX10_room_36 (by decide) ?_
      exact q_iret dX10_room_37 rfl ⟨_, rfl, rfl, H⟩
    · have H := H.2 (b_yes c20)
      refine q_aload_n dX10_room_23 rfl ?_
      refine q_getr (r := 47) dX10_room_24 lf_RX10_26 s44 rfl rfl ?_
      refine q_iconst dX10_room_27 (by decide) ?_
      refine q_iload_n dX10_room_28 rfl ?_
      obtain ⟨h2, H⟩ := H
      refine q_imul dX10_room_29 h2 ?_
      refine q_iload_n dX10_room_30 rfl ?_
      obtain ⟨h3, H⟩ := H
      refine q_iadd dX10_room_31 h3 ?_
      obtain ⟨h4, H⟩ := H
      obtain ⟨h5, H⟩ := H
      refine q_iald dX10_room_32 s47 h4 h5 ?_
      refine q_goto (tgt := 37) dX10_room_33 (by decide) ?_
      exact q_iret dX10_room_37 rfl ⟨_, rfl, rfl, H⟩

set_option maxRecDepth 20000 in
theorem v_X10_count {w : Int} {P : Int → Mem → Prop} {mem : Mem}  (H : (w = 0 → P (mem 44 0) mem) ∧ (w = 1 → P (mem 44 1) mem) ∧ (w = 2 → P (mem 44 2) mem) ∧ (w = 3 → P (mem 44 3) mem) ∧ (w = 4 → P (mem 44 5) mem) ∧ (w = 5 → P (mem 44 7) mem) ∧ (w = 6 → P (mem 44 14) mem) ∧ (w = 7 → P (mem 44 16) mem) ∧ (w = 8 → P (mem 44 20) mem) ∧ (¬ w = 0 ∧ ¬ w = 1 ∧ ¬ w = 2 ∧ ¬ w = 3 ∧ ¬ w = 4 ∧ ¬ w = 5 ∧ ¬ w = 6 ∧ ¬ w = 7 ∧ ¬ w = 8 → P (-1) mem)) : Tot mX10_count 0 0 [vR 44, vI w] SH mem (Pr SH P) := by
  refine Tot.of rfl (Nat.le_of_ble_eq_true rfl) (by simp [isJ]) (ls := [vR 44, vI w]) rfl ?_
  refine q_iload_n dX10_count_0 rfl ?_
  refine q_tsk (dt := 97) [(0, 52), (1, 57), (2, 62), (3, 67), (4, 72), (5, 77), (6, 82), (7, 87), (8, 92)] dX10_count_1 rfl rfl (by decide) (by decide) ?_ ?_
  · refine List.forall_mem_cons.mpr ⟨fun ha => ?_, List.forall_mem_cons.mpr ⟨fun ha => ?_, List.forall_mem_cons.mpr ⟨fun ha => ?_, List.forall_mem_cons.mpr ⟨fun ha => ?_, List.forall_mem_cons.mpr ⟨fun ha => ?_, List.forall_mem_cons.mpr ⟨fun ha => ?_, List.forall_mem_cons.mpr ⟨fun ha => ?_, List.forall_mem_cons.mpr ⟨fun ha => ?_, List.forall_mem_cons.mpr ⟨fun ha => ?_, fun _ h => nomatch h⟩⟩⟩⟩⟩⟩⟩⟩⟩
    · have H := H.1 (by simp only at ha; omega)
      refine q_aload_n dX10_count_52 rfl ?_
      refine q_geti dX10_count_53 lf_RX10_7 s44 rfl ?_
      exact q_iret dX10_count_56 rfl ⟨_, rfl, rfl, H⟩
    · have H := H.2.1 (by simp only at ha; omega)
      refine q_aload_n dX10_count_57 rfl ?_
      refine q_geti dX10_count_58 lf_RX10_13 s44 rfl ?_
      exact q_iret dX10_count_61 rfl ⟨_, rfl, rfl, H⟩
    · have H := H.2.2.1 (by simp only at ha; omega)
      refine q_aload_n dX10_count_62 rfl ?_
      refine q_geti dX10_count_63 lf_RX10_16 s44 rfl ?_
      exact q_iret dX10_count_66 rfl ⟨_, rfl, rfl, H⟩
    · have H := H.2.2.2.1 (by simp only at ha; omega)
      refine q_aload_n dX10_count_67 rfl ?_
      refine q_geti dX10_count_68 lf_RX10_165 s44 rfl ?_
      exact q_iret dX10_count_71 rfl ⟨_, rfl, rfl, H⟩
    · have H := H.2.2.2.2.1 (by simp only at ha; omega)
      refine q_aload_n dX10_count_72 rfl ?_
      refine q_geti dX10_count_73 lf_RX10_94 s44 rfl ?_
      exact q_iret dX10_count_76 rfl ⟨_, rfl, rfl, H⟩
    · have H := H.2.2.2.2.2.1 (by simp only at ha; omega)
      refine q_aload_n dX10_count_77 rfl ?_
      refine q_geti dX10_count_78 lf_RX10_168 s44 rfl ?_
      exact q_iret dX10_count_81 rfl ⟨_, rfl, rfl, H⟩
    · have H := H.2.2.2.2.2.2.1 (by simp only at ha; omega)
      refine q_aload_n dX10_count_82 rfl ?_
      refine q_geti dX10_count_83 lf_RX10_174 s44 rfl ?_
      exact q_iret dX10_count_86 rfl ⟨_, rfl, rfl, H⟩
    · have H := H.2.2.2.2.2.2.2.1 (by simp only at ha; omega)
      refine q_aload_n dX10_count_87 rfl ?_
      refine q_geti dX10_count_88 lf_RX10_177 s44 rfl ?_
      exact q_iret dX10_count_91 rfl ⟨_, rfl, rfl, H⟩
    · have H := H.2.2.2.2.2.2.2.2.1 (by simp only at ha; omega)
      refine q_aload_n dX10_count_92 rfl ?_
      refine q_geti dX10_count_93 lf_RX10_97 s44 rfl ?_
      exact q_iret dX10_count_96 rfl ⟨_, rfl, rfl, H⟩
  · intro ho
    have H := H.2.2.2.2.2.2.2.2.2 (by omega)
    refine q_iconst dX10_count_97 (by decide) ?_
    exact q_iret dX10_count_98 rfl ⟨_, rfl, rfl, H⟩

set_option maxRecDepth 20000 in
theorem v_X10_trace {P : Int → Mem → Prop} {mem : Mem}  (H : P (mem 44 18) mem) : Tot mX10_trace 0 0 [vR 44] SH mem (Pl SH P) := by
  refine Tot.of rfl (Nat.le_of_ble_eq_true rfl) (by simp [isJ]) (ls := [vR 44]) rfl ?_
  refine q_aload_n dX10_trace_0 rfl ?_
  refine q_getl dX10_trace_1 lf_RX10_275 s44 rfl ?_
  exact q_lret dX10_trace_4 rfl ⟨_, rfl, rfl, H⟩

def w_X10_laidSet_4 (P : Int → Mem → Prop) (a1 : Int) (a2 : Int) (mem : Mem) : Prop := WP mX10_laidSet none 0 0 (Pr SH P) 4 [vR 44, vI a1, vI a2] [] SH mem
set_option maxRecDepth 20000 in
theorem v_X10_laidSet_4 {P : Int → Mem → Prop} {a1 : Int} {a2 : Int} {mem : Mem}  (H : ((mem 44 5) ≤ a2 → P a1 mem) ∧ (a2 < (mem 44 5) → (inR (2 + a2)) ∧ ((0 ≤ (2 + a2)) ∧ (((2 + a2) < 10) ∧ ((¬ (mem 48 (2 + a2).toNat) = (-9) → (0 ≤ a2) ∧ ((a2 < 31) ∧ ((0 ≤ a1) ∧ ((0 ≤ ((2 ^ (a2).toNat : Nat) : Int)) ∧ ((inR (a2 + 1)) ∧ (w_X10_laidSet_4 P (((a1).toNat ||| (((2 ^ (a2).toNat : Nat) : Int)).toNat : Nat) : Int) (a2 + 1) mem)))))) ∧ ((mem 48 (2 + a2).toNat) = (-9) → (0 ≤ a1) ∧ ((inR (a2 + 1)) ∧ (w_X10_laidSet_4 P (((a1).toNat ||| ((0 : Int)).toNat : Nat) : Int) (a2 + 1) mem)))))))) : w_X10_laidSet_4 P a1 a2 mem := by
  unfold w_X10_laidSet_4
  refine q_iload_n dX10_laidSet_4 rfl ?_
  refine q_aload_n dX10_laidSet_5 rfl ?_
  refine q_geti dX10_laidSet_6 lf_RX10_94 s44 rfl ?_
  refine q_icmp_ge (tgt := 41) dX10_laidSet_9 (by decide) (fun c9 => ?_) (fun c9 => ?_)
  · have H := H.1 c9
    refine q_iload_n dX10_laidSet_41 rfl ?_
    exact q_iret dX10_laidSet_42 rfl ⟨_, rfl, rfl, H⟩
  · have H := H.2 c9
    refine q_iload_n dX10_laidSet_12 rfl ?_
    refine q_aload_n dX10_laidSet_13 rfl ?_
    refine q_getr (r := 48) dX10_laidSet_14 lf_RX10_29 s44 rfl rfl ?_
    refine q_iconst dX10_laidSet_17 (by decide) ?_
    refine q_iload_n dX10_laidSet_18 rfl ?_
    obtain ⟨h1, H⟩ := H
    refine q_iadd dX10_laidSet_19 h1 ?_
    obtain ⟨h2, H⟩ := H
    obtain ⟨h3, H⟩ := H
    refine q_iald dX10_laidSet_20 s48 h2 h3 ?_
    refine q_bipush dX10_laidSet_21 rfl (by decide) ?_
    refine q_icmp_ne (tgt := 30) dX10_laidSet_23 (by decide) (fun c23 => ?_) (fun c23 => ?_)
    · have H := H.1 c23
      refine q_iconst dX10_laidSet_30 (by decide) ?_
      refine q_iload_n dX10_laidSet_31 rfl ?_
      obtain ⟨h4, H⟩ := H
      obtain ⟨h5, H⟩ := H
      refine q_shl1 dX10_laidSet_32 h4 h5 ?_
      obtain ⟨h6, H⟩ := H
      obtain ⟨h7, H⟩ := H
      refine q_ior dX10_laidSet_33 h6 h7 ?_
      refine q_istore_n dX10_laidSet_34 (by decide) rfl ?_
      obtain ⟨h8, H⟩ := H
      refine q_iinc dX10_laidSet_35 rfl h8 rfl ?_
      refine q_goto (tgt := 4) dX10_laidSet_38 (by decide) ?_
      exact H
    · have H := H.2 c23
      refine q_iconst dX10_laidSet_26 (by decide) ?_
      refine q_goto (tgt := 33) dX10_laidSet_27 (by decide) ?_
      obtain ⟨h9, H⟩ := H
      refine q_ior dX10_laidSet_33 h9 (by decide) ?_
      refine q_istore_n dX10_laidSet_34 (by decide) rfl ?_
      obtain ⟨h10, H⟩ := H
      refine q_iinc dX10_laidSet_35 rfl h10 rfl ?_
      refine q_goto (tgt := 4) dX10_laidSet_38 (by decide) ?_
      exact H
set_option maxRecDepth 20000 in
theorem v_X10_laidSet {P : Int → Mem → Prop} {mem : Mem}  (H : w_X10_laidSet_4 P 0 0 mem) : Tot mX10_laidSet 0 0 [vR 44] SH mem (Pr SH P) := by
  refine Tot.of rfl (Nat.le_of_ble_eq_true rfl) (by simp [isJ]) (ls := [vR 44, vJ 0, vJ 0]) rfl ?_
  refine q_iconst dX10_laidSet_0 (by decide) ?_
  refine q_istore_n dX10_laidSet_1 (by decide) rfl ?_
  refine q_iconst dX10_laidSet_2 (by decide) ?_
  refine q_istore_n dX10_laidSet_3 (by decide) rfl ?_
  exact H

def w_X10_laidMany_4 (P : Int → Mem → Prop) (a1 : Int) (a2 : Int) (mem : Mem) : Prop := WP mX10_laidMany none 0 0 (Pr SH P) 4 [vR 44, vI a1, vI a2] [] SH mem
set_option maxRecDepth 20000 in
theorem v_X10_laidMany_4 {P : Int → Mem → Prop} {a1 : Int} {a2 : Int} {mem : Mem}  (H : ((mem 44 5) ≤ a2 → P a1 mem) ∧ (a2 < (mem 44 5) → (inR (2 + a2)) ∧ ((0 ≤ (2 + a2)) ∧ (((2 + a2) < 10) ∧ ((¬ (mem 48 (2 + a2).toNat) = (-9) → (inR (a1 + 1)) ∧ ((inR (a2 + 1)) ∧ (w_X10_laidMany_4 P (a1 + 1) (a2 + 1) mem))) ∧ ((mem 48 (2 + a2).toNat) = (-9) → (inR (a1 + 0)) ∧ ((inR (a2 + 1)) ∧ (w_X10_laidMany_4 P (a1 + 0) (a2 + 1) mem)))))))) : w_X10_laidMany_4 P a1 a2 mem := by
  unfold w_X10_laidMany_4
  refine q_iload_n dX10_laidMany_4 rfl ?_
  refine q_aload_n dX10_laidMany_5 rfl ?_
  refine q_geti dX10_laidMany_6 lf_RX10_94 s44 rfl ?_
  refine q_icmp_ge (tgt := 39) dX10_laidMany_9 (by decide) (fun c9 => ?_) (fun c9 => ?_)
  · have H := H.1 c9
    refine q_iload_n dX10_laidMany_39 rfl ?_
    exact q_iret dX10_laidMany_40 rfl ⟨_, rfl, rfl, H⟩
  · have H := H.2 c9
    refine q_iload_n dX10_laidMany_12 rfl ?_
    refine q_aload_n dX10_laidMany_13 rfl ?_
    refine q_getr (r := 48) dX10_laidMany_14 lf_RX10_29 s44 rfl rfl ?_
    refine q_iconst dX10_laidMany_17 (by decide) ?_
    refine q_iload_n dX10_laidMany_18 rfl ?_
    obtain ⟨h1, H⟩ := H
    refine q_iadd dX10_laidMany_19 h1 ?_
    obtain ⟨h2, H⟩ := H
    obtain ⟨h3, H⟩ := H
    refine q_iald dX10_laidMany_20 s48 h2 h3 ?_
    refine q_bipush dX10_laidMany_21 rfl (by decide) ?_
    refine q_icmp_ne (tgt := 30) dX10_laidMany_23 (by decide) (fun c23 => ?_) (fun c23 => ?_)
    · have H := H.1 c23
      refine q_iconst dX10_laidMany_30 (by decide) ?_
      obtain ⟨h4, H⟩ := H
      refine q_iadd dX10_laidMany_31 h4 ?_
      refine q_istore_n dX10_laidMany_32 (by decide) rfl ?_
      obtain ⟨h5, H⟩ := H
      refine q_iinc dX10_laidMany_33 rfl h5 rfl ?_
      refine q_goto (tgt := 4) dX10_laidMany_36 (by decide) ?_
      exact H
    · have H := H.2 c23
      refine q_iconst dX10_laidMany_26 (by decide) ?_
      refine q_goto (tgt := 31) dX10_laidMany_27 (by decide) ?_
      obtain ⟨h6, H⟩ := H
      refine q_iadd dX10_laidMany_31 h6 ?_
      refine q_istore_n dX10_laidMany_32 (by decide) rfl ?_
      obtain ⟨h7, H⟩ := H
      refine q_iinc dX10_laidMany_33 rfl h7 rfl ?_
      refine q_goto (tgt := 4) dX10_laidMany_36 (by decide) ?_
      exact H
set_option maxRecDepth 20000 in
theorem v_X10_laidMany {P : Int → Mem → Prop} {mem : Mem}  (H : w_X10_laidMany_4 P 0 0 mem) : Tot mX10_laidMany 0 0 [vR 44] SH mem (Pr SH P) := by
  refine Tot.of rfl (Nat.le_of_ble_eq_true rfl) (by simp [isJ]) (ls := [vR 44, vJ 0, vJ 0]) rfl ?_
  refine q_iconst dX10_laidMany_0 (by decide) ?_
  refine q_istore_n dX10_laidMany_1 (by decide) rfl ?_
  refine q_iconst dX10_laidMany_2 (by decide) ?_
  refine q_istore_n dX10_laidMany_3 (by decide) rfl ?_
  exact H

set_option maxRecDepth 20000 in
theorem v_X10_forget {w : Int} {P : Int → Mem → Prop} {mem : Mem}  (H : ((0 ≤ w ∧ w ≤ 1) → (¬ w = 0 → ∀ m1 : Mem, m1 = (mset mem 44 14 (mem 44 14)) → ((¬ w = 1 → ∀ m2 : Mem, m2 = (mset m1 44 16 (m1 44 16)) → (P (mem 44 16) m2)) ∧ (w = 1 → ∀ m3 : Mem, m3 = (mset m1 44 16 0) → (P (mem 44 16) m3)))) ∧ (w = 0 → ∀ m4 : Mem, m4 = (mset mem 44 14 0) → ((¬ w = 1 → ∀ m5 : Mem, m5 = (mset m4 44 16 (m4 44 16)) → (P (mem 44 14) m5)) ∧ (w = 1 → ∀ m6 : Mem, m6 = (mset m4 44 16 0) → (P (mem 44 14) m6))))) ∧ (¬ (0 ≤ w ∧ w ≤ 1) → P (-1) mem)) : Tot mX10_forget 0 0 [vR 44, vI w] SH mem (Pr SH P) := by
  refine Tot.of rfl (Nat.le_of_ble_eq_true rfl) (by simp [isJ]) (ls := [vR 44, vI w, vJ 0]) rfl ?_
  refine q_iload_n dX10_forget_0 rfl ?_
  refine q_iconst dX10_forget_1 (by decide) ?_
  refine q_iconst dX10_forget_2 (by decide) ?_
  refine q_cSi (as := [vI _, vI _, vI _]) dX10_forget_3 kmX10_in ktX10_in lm_RX10_90 ⟨by decide, by decide⟩ rfl rfl (Nat.le_of_ble_eq_true rfl) (c_X10_in) (fun v m1 hq => ?_)
  obtain ⟨rfl, rfl⟩ := hq
  refine q_if_ne (tgt := 11) dX10_forget_6 (by decide) (fun c6 => ?_) (fun c6 => ?_)
  · have H := H.1 (b_yes c6)
    refine q_iload_n dX10_forget_11 rfl ?_
    refine q_if_ne (tgt := 22) dX10_forget_12 (by decide) (fun c12 => ?_) (fun c12 => ?_)
    · have H := H.1 c12
      refine q_aload_n dX10_forget_22 rfl ?_
      refine q_geti dX10_forget_23 lf_RX10_177 s44 rfl ?_
      refine q_istore_n dX10_forget_26 (by decide) rfl ?_
      refine q_aload_n dX10_forget_27 rfl ?_
      refine q_iload_n dX10_forget_28 rfl ?_
      refine q_if_ne (tgt := 36) dX10_forget_29 (by decide) (fun _ => ?_) (fun c => absurd c12 (by omega))
      refine q_aload_n dX10_forget_36 rfl ?_
      refine q_geti dX10_forget_37 lf_RX10_174 s44 rfl ?_
      refine q_puti dX10_forget_40 lf_RX10_174 s44 rfl (Or.inl rfl) fit_int ?_
      have H := H _ rfl
      refine q_aload_n dX10_forget_43 rfl ?_
      refine q_iload_n dX10_forget_44 rfl ?_
      refine q_iconst dX10_forget_45 (by decide) ?_
      refine q_icmp_ne (tgt := 53) dX10_forget_46 (by decide) (fun c46 => ?_) (fun c46 => ?_)
      · have H := H.1 c46
        refine q_aload_n dX10_forget_53 rfl ?_
        refine q_geti dX10_forget_54 lf_RX10_177 s44 rfl ?_
        refine q_puti dX10_forget_57 lf_RX10_177 s44 rfl (Or.inl rfl) fit_int ?_
        have H := H _ rfl
        refine q_iload_n dX10_forget_60 rfl ?_
        exact q_iret dX10_forget_61 rfl ⟨_, rfl, rfl, H⟩
      · have H := H.2 c46
        refine q_iconst dX10_forget_49 (by decide) ?_
        refine q_goto (tgt := 57) dX10_forget_50 (by decide) ?_
        refine q_puti dX10_forget_57 lf_RX10_177 s44 rfl (Or.inl rfl) fit_int ?_
        have H := H _ rfl
        refine q_iload_n dX10_forget_60 rfl ?_
        exact q_iret dX10_forget_61 rfl ⟨_, rfl, rfl, H⟩
    · have H := H.2 c12
      refine q_aload_n dX10_forget_15 rfl ?_
      refine q_geti dX10_forget_16 lf_RX10_174 s44 rfl ?_
      refine q_goto (tgt := 26) dX10_forget_19 (by decide) ?_
      refine q_istore_n dX10_forget_26 (by decide) rfl ?_
      refine q_aload_n dX10_forget_27 rfl ?_
      refine q_iload_n dX10_forget_28 rfl ?_
      refine q_if_ne (tgt := 36) dX10_forget_29 (by decide) (fun c => absurd c12 (by omega)) (fun _ => ?_)
      refine q_iconst dX10_forget_32 (by decide) ?_
      refine q_goto (tgt := 40) dX10_forget_33 (by decide) ?_
      refine q_puti dX10_forget_40 lf_RX10_174 s44 rfl (Or.inl rfl) fit_int ?_
      have H := H _ rfl
      refine q_aload_n dX10_forget_43 rfl ?_
      refine q_iload_n dX10_forget_44 rfl ?_
      refine q_iconst dX10_forget_45 (by decide) ?_
      refine q_icmp_ne (tgt := 53) dX10_forget_46 (by decide) (fun c46 => ?_) (fun c46 => ?_)
      · have H := H.1 c46
        refine q_aload_n dX10_forget_53 rfl ?_
        refine q_geti dX10_forget_54 lf_RX10_177 s44 rfl ?_
        refine q_puti dX10_forget_57 lf_RX10_177 s44 rfl (Or.inl rfl) fit_int ?_
        have H := H _ rfl
        refine q_iload_n dX10_forget_60 rfl ?_
        exact q_iret dX10_forget_61 rfl ⟨_, rfl, rfl, H⟩
      · have H := H.2 c46
        refine q_iconst dX10_forget_49 (by decide) ?_
        refine q_goto (tgt := 57) dX10_forget_50 (by decide) ?_
        refine q_puti dX10_forget_57 lf_RX10_177 s44 rfl (Or.inl rfl) fit_int ?_
        have H := H _ rfl
        refine q_iload_n dX10_forget_60 rfl ?_
        exact q_iret dX10_forget_61 rfl ⟨_, rfl, rfl, H⟩
  · have H := H.2 (b_no c6)
    refine q_iconst dX10_forget_9 (by decide) ?_
    exact q_iret dX10_forget_10 rfl ⟨_, rfl, rfl, H⟩

set_option maxRecDepth 20000 in
theorem v_X10_hear {c v : Int} {P : Int → Mem → Prop} {mem : Mem}  (H : (hsM mem) ∧ ((¬ (0 ≤ c ∧ c < nM mem) → P (-1) mem) ∧ ((0 ≤ c ∧ c < nM mem) → ((0 ≤ v ∧ v ≤ 99) → (¬ (mem 44 14) = 4 → (inR (2 * (mem 44 14))) ∧ ((0 ≤ (2 * (mem 44 14))) ∧ (((2 * (mem 44 14)) < 8) ∧ (∀ m5 : Mem, m5 = mset mem 52 (2 * (mem 44 14)).toNat c → ((inR (2 * (m5 44 14))) ∧ ((inR ((2 * (m5 44 14)) + 1)) ∧ ((0 ≤ ((2 * (m5 44 14)) + 1)) ∧ ((((2 * (m5 44 14)) + 1) < 8) ∧ (∀ m10 : Mem, m10 = mset m5 52 ((2 * (m5 44 14)) + 1).toNat v → ((inR ((m10 44 14) + 1)) ∧ (∀ m12 : Mem, m12 = (mset m10 44 14 ((m10 44 14) + 1)) → (P (m12 44 14) m12)))))))))))) ∧ ((mem 44 14) = 4 → P (-3) mem)) ∧ (¬ (0 ≤ v ∧ v ≤ 99) → P (-1) mem)))) : Tot mX10_hear 0 0 [vR 44, vI c, vI v] SH mem (Pr SH P) := by
  refine Tot.of rfl (Nat.le_of_ble_eq_true rfl) (by simp [isJ]) (ls := [vR 44, vI c, vI v]) rfl ?_
  refine q_aload_n dX10_hear_0 rfl ?_
  refine q_iload_n dX10_hear_1 rfl ?_
  obtain ⟨h1, H⟩ := H
  refine q_cVi (as := [vI _]) dX10_hear_2 kmX10_isCell kvX10_isCell lm_RX10_208 ⟨by decide, by decide⟩ s44 ⟨by decide, rfl⟩ rfl rfl (Nat.le_of_ble_eq_true rfl) (c_X10_isCell h1) (fun v m1 hq => ?_)
  obtain ⟨rfl, rfl⟩ := hq
  refine q_if_eq (tgt := 18) dX10_hear_5 (by decide) (fun c5 => ?_) (fun c5 => ?_)
  · have H := H.1 (b_no c5)
    refine q_iconst dX10_hear_18 (by decide) ?_
    exact q_iret dX10_hear_19 rfl ⟨_, rfl, rfl, H⟩
  · have H := H.2 (b_yes c5)
    refine q_iload_n dX10_hear_8 rfl ?_
    refine q_iconst dX10_hear_9 (by decide) ?_
    refine q_bipush dX10_hear_10 rfl (by decide) ?_
    refine q_cSi (as := [vI _, vI _, vI _]) dX10_hear_12 kmX10_in ktX10_in lm_RX10_90 ⟨by decide, by decide⟩ rfl rfl (Nat.le_of_ble_eq_true rfl) (c_X10_in) (fun v m1 hq => ?_)
    obtain ⟨rfl, rfl⟩ := hq
    refine q_if_ne (tgt := 20) dX10_hear_15 (by decide) (fun c15 => ?_) (fun c15 => ?_)
    · have H := H.1 (b_yes c15)
      refine q_aload_n dX10_hear_20 rfl ?_
      refine q_geti dX10_hear_21 lf_RX10_174 s44 rfl ?_
      refine q_iconst dX10_hear_24 (by decide) ?_
      refine q_icmp_ne (tgt := 31) dX10_hear_25 (by decide) (fun c25 => ?_) (fun c25 => ?_)
      · have H := H.1 c25
        refine q_aload_n dX10_hear_31 rfl ?_
        refine q_getr (r := 52) dX10_hear_32 lf_RX10_42 s44 rfl rfl ?_
        refine q_iconst dX10_hear_35 (by decide) ?_
        refine q_aload_n dX10_hear_36 rfl ?_
        refine q_geti dX10_hear_37 lf_RX10_174 s44 rfl ?_
        obtain ⟨h2, H⟩ := H
        refine q_imul dX10_hear_40 h2 ?_
        refine q_iload_n dX10_hear_41 rfl ?_
        obtain ⟨h3, H⟩ := H
        obtain ⟨h4, H⟩ := H
        refine q_iast dX10_hear_42 s52 h3 h4 ?_
        have H := H _ rfl
        refine q_aload_n dX10_hear_43 rfl ?_
        refine q_getr (r := 52) dX10_hear_44 lf_RX10_42 s44 rfl rfl ?_
        refine q_iconst dX10_hear_47 (by decide) ?_
        refine q_aload_n dX10_hear_48 rfl ?_
        refine q_geti dX10_hear_49 lf_RX10_174 s44 rfl ?_
        obtain ⟨h6, H⟩ := H
        refine q_imul dX10_hear_52 h6 ?_
        refine q_iconst dX10_hear_53 (by decide) ?_
        obtain ⟨h7, H⟩ := H
        refine q_iadd dX10_hear_54 h7 ?_
        refine q_iload_n dX10_hear_55 rfl ?_
        obtain ⟨h8, H⟩ := H
        obtain ⟨h9, H⟩ := H
        refine q_iast dX10_hear_56 s52 h8 h9 ?_
        have H := H _ rfl
        refine q_aload_n dX10_hear_57 rfl ?_
        refine q_dup dX10_hear_58 rfl ?_
        refine q_geti dX10_hear_59 lf_RX10_174 s44 rfl ?_
        refine q_iconst dX10_hear_62 (by decide) ?_
        obtain ⟨h11, H⟩ := H
        refine q_iadd dX10_hear_63 h11 ?_
        refine q_puti dX10_hear_64 lf_RX10_174 s44 rfl (Or.inl rfl) fit_int ?_
        have H := H _ rfl
        refine q_aload_n dX10_hear_67 rfl ?_
        refine q_geti dX10_hear_68 lf_RX10_174 s44 rfl ?_
        exact q_iret dX10_hear_71 rfl ⟨_, rfl, rfl, H⟩
      · have H := H.2 c25
        refine q_bipush dX10_hear_28 rfl (by decide) ?_
        exact q_iret dX10_hear_30 rfl ⟨_, rfl, rfl, H⟩
    · have H := H.2 (b_no c15)
      refine q_iconst dX10_hear_18 (by decide) ?_
      exact q_iret dX10_hear_19 rfl ⟨_, rfl, rfl, H⟩

set_option maxRecDepth 20000 in
theorem v_X10_tap {f n t v : Int} {P : Int → Mem → Prop} {mem : Mem}  (H : (hsM mem) ∧ ((¬ (0 ≤ f ∧ f < nM mem) → P (-1) mem) ∧ ((0 ≤ f ∧ f < nM mem) → (¬ (1 ≤ n ∧ n ≤ 99) → P (-1) mem) ∧ ((1 ≤ n ∧ n ≤ 99) → (¬ (0 ≤ t ∧ t < nM mem) → P (-1) mem) ∧ ((0 ≤ t ∧ t < nM mem) → ((0 ≤ v ∧ v ≤ 99) → (¬ (mem 44 16) = 4 → (inR (4 * (mem 44 16))) ∧ ((0 ≤ (4 * (mem 44 16))) ∧ (((4 * (mem 44 16)) < 16) ∧ (∀ m5 : Mem, m5 = mset mem 53 (4 * (mem 44 16)).toNat f → ((inR (4 * (m5 44 16))) ∧ ((inR ((4 * (m5 44 16)) + 1)) ∧ ((0 ≤ ((4 * (m5 44 16)) + 1)) ∧ ((((4 * (m5 44 16)) + 1) < 16) ∧ (∀ m10 : Mem, m10 = mset m5 53 ((4 * (m5 44 16)) + 1).toNat n → ((inR (4 * (m10 44 16))) ∧ ((inR ((4 * (m10 44 16)) + 2)) ∧ ((0 ≤ ((4 * (m10 44 16)) + 2)) ∧ ((((4 * (m10 44 16)) + 2) < 16) ∧ (∀ m15 : Mem, m15 = mset m10 53 ((4 * (m10 44 16)) + 2).toNat t → ((inR (4 * (m15 44 16))) ∧ ((inR ((4 * (m15 44 16)) + 3)) ∧ ((0 ≤ ((4 * (m15 44 16)) + 3)) ∧ ((((4 * (m15 44 16)) + 3) < 16) ∧ (∀ m20 : Mem, m20 = mset m15 53 ((4 * (m15 44 16)) + 3).toNat v → ((inR ((m20 44 16) + 1)) ∧ (∀ m22 : Mem, m22 = (mset m20 44 16 ((m20 44 16) + 1)) → (P (m22 44 16) m22)))))))))))))))))))))) ∧ ((mem 44 16) = 4 → P (-3) mem)) ∧ (¬ (0 ≤ v ∧ v ≤ 99) → P (-1) mem)))))) : Tot mX10_tap 0 0 [vR 44, vI f, vI n, vI t, vI v] SH mem (Pr SH P) := by
  refine Tot.of rfl (Nat.le_of_ble_eq_true rfl) (by simp [isJ]) (ls := [vR 44, vI f, vI n, vI t, vI v]) rfl ?_
  refine q_aload_n dX10_tap_0 rfl ?_
  refine q_iload_n dX10_tap_1 rfl ?_
  obtain ⟨h1, H⟩ := H
  refine q_cVi (as := [vI _]) dX10_tap_2 kmX10_isCell kvX10_isCell lm_RX10_208 ⟨by decide, by decide⟩ s44 ⟨by decide, rfl⟩ rfl rfl (Nat.le_of_ble_eq_true rfl) (c_X10_isCell h1) (fun v m1 hq => ?_)
  obtain ⟨rfl, rfl⟩ := hq
  refine q_if_eq (tgt := 34) dX10_tap_5 (by decide) (fun c5 => ?_) (fun c5 => ?_)
  · have H := H.1 (b_no c5)
    refine q_iconst dX10_tap_34 (by decide) ?_
    exact q_iret dX10_tap_35 rfl ⟨_, rfl, rfl, H⟩
  · have H := H.2 (b_yes c5)
    refine q_iload_n dX10_tap_8 rfl ?_
    refine q_cSi (as := [vI _]) dX10_tap_9 kmX10_isStrength ktX10_isStrength lm_RX10_269 ⟨by decide, by decide⟩ rfl rfl (Nat.le_of_ble_eq_true rfl) (c_X10_isStrength) (fun v m1 hq => ?_)
    obtain ⟨rfl, rfl⟩ := hq
    refine q_if_eq (tgt := 34) dX10_tap_12 (by decide) (fun c12 => ?_) (fun c12 => ?_)
    · have H := H.1 (b_no c12)
      refine q_iconst dX10_tap_34 (by decide) ?_
      exact q_iret dX10_tap_35 rfl ⟨_, rfl, rfl, H⟩
    · have H := H.2 (b_yes c12)
      refine q_aload_n dX10_tap_15 rfl ?_
      refine q_iload_n dX10_tap_16 rfl ?_
      refine q_cVi (as := [vI _]) dX10_tap_17 kmX10_isCell kvX10_isCell lm_RX10_208 ⟨by decide, by decide⟩ s44 ⟨by decide, rfl⟩ rfl rfl (Nat.le_of_ble_eq_true rfl) (c_X10_isCell h1) (fun v m1 hq => ?_)
      obtain ⟨rfl, rfl⟩ := hq
      refine q_if_eq (tgt := 34) dX10_tap_20 (by decide) (fun c20 => ?_) (fun c20 => ?_)
      · have H := H.1 (b_no c20)
        refine q_iconst dX10_tap_34 (by decide) ?_
        exact q_iret dX10_tap_35 rfl ⟨_, rfl, rfl, H⟩
      · have H := H.2 (b_yes c20)
        refine q_iload dX10_tap_23 rfl ?_
        refine q_iconst dX10_tap_25 (by decide) ?_
        refine q_bipush dX10_tap_26 rfl (by decide) ?_
        refine q_cSi (as := [vI _, vI _, vI _]) dX10_tap_28 kmX10_in ktX10_in lm_RX10_90 ⟨by decide, by decide⟩ rfl rfl (Nat.le_of_ble_eq_true rfl) (c_X10_in) (fun v m1 hq => ?_)
        obtain ⟨rfl, rfl⟩ := hq
        refine q_if_ne (tgt := 36) dX10_tap_31 (by decide) (fun c31 => ?_) (fun c31 => ?_)
        · have H := H.1 (b_yes c31)
          refine q_aload_n dX10_tap_36 rfl ?_
          refine q_geti dX10_tap_37 lf_RX10_177 s44 rfl ?_
          refine q_iconst dX10_tap_40 (by decide) ?_
          refine q_icmp_ne (tgt := 47) dX10_tap_41 (by decide) (fun c41 => ?_) (fun c41 => ?_)
          · have H := H.1 c41
            refine q_aload_n dX10_tap_47 rfl ?_
            refine q_getr (r := 53) dX10_tap_48 lf_RX10_45 s44 rfl rfl ?_
            refine q_iconst dX10_tap_51 (by decide) ?_
            refine q_aload_n dX10_tap_52 rfl ?_
            refine q_geti dX10_tap_53 lf_RX10_177 s44 rfl ?_
            obtain ⟨h2, H⟩ := H
            refine q_imul dX10_tap_56 h2 ?_
            refine q_iload_n dX10_tap_57 rfl ?_
            obtain ⟨h3, H⟩ := H
            obtain ⟨h4, H⟩ := H
            refine q_iast dX10_tap_58 s53 h3 h4 ?_
            have H := H _ rfl
            refine q_aload_n dX10_tap_59 rfl ?_
            refine q_getr (r := 53) dX10_tap_60 lf_RX10_45 s44 rfl rfl ?_
            refine q_iconst dX10_tap_63 (by decide) ?_
            refine q_aload_n dX10_tap_64 rfl ?_
            refine q_geti dX10_tap_65 lf_RX10_177 s44 rfl ?_
            obtain ⟨h6, H⟩ := H
            refine q_imul dX10_tap_68 h6 ?_
            refine q_iconst dX10_tap_69 (by decide) ?_
            obtain ⟨h7, H⟩ := H
            refine q_iadd dX10_tap_70 h7 ?_
            refine q_iload_n dX10_tap_71 rfl ?_
            obtain ⟨h8, H⟩ := H
            obtain ⟨h9, H⟩ := H
            refine q_iast dX10_tap_72 s53 h8 h9 ?_
            have H := H _ rfl
            refine q_aload_n dX10_tap_73 rfl ?_
            refine q_getr (r := 53) dX10_tap_74 lf_RX10_45 s44 rfl rfl ?_
            refine q_iconst dX10_tap_77 (by decide) ?_
            refine q_aload_n dX10_tap_78 rfl ?_
            refine q_geti dX10_tap_79 lf_RX10_177 s44 rfl ?_
            obtain ⟨h11, H⟩ := H
            refine q_imul dX10_tap_82 h11 ?_
            refine q_iconst dX10_tap_83 (by decide) ?_
            obtain ⟨h12, H⟩ := H
            refine q_iadd dX10_tap_84 h12 ?_
            refine q_iload_n dX10_tap_85 rfl ?_
            obtain ⟨h13, H⟩ := H
            obtain ⟨h14, H⟩ := H
            refine q_iast dX10_tap_86 s53 h13 h14 ?_
            have H := H _ rfl
            refine q_aload_n dX10_tap_87 rfl ?_
            refine q_getr (r := 53) dX10_tap_88 lf_RX10_45 s44 rfl rfl ?_
            refine q_iconst dX10_tap_91 (by decide) ?_
            refine q_aload_n dX10_tap_92 rfl ?_
            refine q_geti dX10_tap_93 lf_RX10_177 s44 rfl ?_
            obtain ⟨h16, H⟩ := H
            refine q_imul dX10_tap_96 h16 ?_
            refine q_iconst dX10_tap_97 (by decide) ?_
            obtain ⟨h17, H⟩ := H
            refine q_iadd dX10_tap_98 h17 ?_
            refine q_iload dX10_tap_99 rfl ?_
            obtain ⟨h18, H⟩ := H
            obtain ⟨h19, H⟩ := H
            refine q_iast dX10_tap_101 s53 h18 h19 ?_
            have H := H _ rfl
            refine q_aload_n dX10_tap_102 rfl ?_
            refine q_dup dX10_tap_103 rfl ?_
            refine q_geti dX10_tap_104 lf_RX10_177 s44 rfl ?_
            refine q_iconst dX10_tap_107 (by decide) ?_
            obtain ⟨h21, H⟩ := H
            refine q_iadd dX10_tap_108 h21 ?_
            refine q_puti dX10_tap_109 lf_RX10_177 s44 rfl (Or.inl rfl) fit_int ?_
            have H := H _ rfl
            refine q_aload_n dX10_tap_112 rfl ?_
            refine q_geti dX10_tap_113 lf_RX10_177 s44 rfl ?_
            exact q_iret dX10_tap_116 rfl ⟨_, rfl, rfl, H⟩
          · have H := H.2 c41
            refine q_bipush dX10_tap_44 rfl (by decide) ?_
            exact q_iret dX10_tap_46 rfl ⟨_, rfl, rfl, H⟩
        · have H := H.2 (b_no c31)
          refine q_iconst dX10_tap_34 (by decide) ?_
          exact q_iret dX10_tap_35 rfl ⟨_, rfl, rfl, H⟩


theorem c_X10_has {mem : Mem} {a b : Int} (a0 : 0 ≤ a) (b0 : 0 ≤ b) (b1 : b < 31) : Tot mX10_has 0 0 [vI a, vI b] SH mem (Pr SH (Pv (if (a / ((2 ^ b.toNat : Nat) : Int)) % 2 = 1 then 1 else 0) mem)) :=
  v_X10_has ⟨a0, b0, b1, Int.ediv_nonneg a0 (Int.natCast_nonneg _), fun q => by rw [if_neg q]; exact ⟨rfl, rfl⟩, fun q => by rw [if_pos q]; exact ⟨rfl, rfl⟩⟩
def tyM (m0 : Mem) (c v : Int) (m : Mem) : Prop := if 0 ≤ c ∧ c ≤ 255 then (if m0 44 20 = 200 then v = -3 ∧ m = m0 else v = m0 44 20 + 1 ∧ m = mset (mset m0 54 (m0 44 20).toNat c) 44 20 (m0 44 20 + 1)) else v = -1 ∧ m = m0
theorem c_X10_type {m0 : Mem} {c : Int} (h : 0 ≤ m0 44 20 ∧ m0 44 20 ≤ 200) : Tot mX10_type 0 0 [vR 44, vI c] SH m0 (Pr SH (tyM m0 c)) := by
  refine v_X10_type ⟨fun q => ⟨fun r => ⟨h.1, by omega, fun m3 e3 => ?_⟩, fun r => ?_⟩, fun q => ?_⟩
  · have e : m3 44 20 = m0 44 20 := by rw [e3, mset_at, if_neg (by omega)]
    rw [e]
    refine ⟨by unfold inR; omega, fun m5 e5 => ?_⟩
    unfold tyM
    rw [if_pos q, if_neg r, e5, mset_eq, e3]
    exact ⟨rfl, rfl⟩
  · unfold tyM; rw [if_pos q, if_pos r]; exact ⟨rfl, rfl⟩
  · unfold tyM; rw [if_neg q]; exact ⟨rfl, rfl⟩
theorem c_X10_clear {m0 : Mem} : Tot mX10_clear 0 0 [vR 44] SH m0 (Pr SH (fun v m => v = m0 44 20 ∧ m = mset m0 44 20 0)) := v_X10_clear (fun m1 e => ⟨rfl, e⟩)
theorem c_X10_noise {m0 : Mem} {n w : Int} (hh : hsM m0) : Tot mX10_noise 0 0 [vR 44, vI n, vI w] SH m0 (Pr SH (Pv (if (0 ≤ n ∧ n < m0 44 3) ∧ (0 ≤ w ∧ w ≤ 3) then m0 45 (4 * n + w).toNat else -1) m0)) := by
  have h3 := hh.2.2.2.2.1
  refine v_X10_noise ⟨by unfold inR; omega, fun q => ?_, fun q => ⟨fun r => ?_, fun r => ⟨by unfold inR; omega, by unfold inR; omega, by omega, by omega, ?_⟩⟩⟩
  · rw [if_neg (by omega)]; exact ⟨rfl, rfl⟩
  · rw [if_neg (by omega)]; exact ⟨rfl, rfl⟩
  · rw [if_pos (by omega)]; exact ⟨rfl, rfl⟩
theorem c_X10_room {m0 : Mem} {n w : Int} (hh : hsM m0) : Tot mX10_room 0 0 [vR 44, vI n, vI w] SH m0 (Pr SH (Pv (if (0 ≤ n ∧ n < m0 44 7) ∧ (0 ≤ w ∧ w ≤ 3) then m0 47 (4 * n + w).toNat else -1) m0)) := by
  have h3 := hh.2.2.2.2.2.2.1
  refine v_X10_room ⟨by unfold inR; omega, fun q => ?_, fun q => ⟨fun r => ?_, fun r => ⟨by unfold inR; omega, by unfold inR; omega, by omega, by omega, ?_⟩⟩⟩
  · rw [if_neg (by omega)]; exact ⟨rfl, rfl⟩
  · rw [if_neg (by omega)]; exact ⟨rfl, rfl⟩
  · rw [if_pos (by omega)]; exact ⟨rfl, rfl⟩
def smM (m : Mem) (s w : Int) : Int := if (0 ≤ s ∧ s < m 44 5) ∧ (0 ≤ w ∧ w ≤ 6) then (if w < 4 then m 46 (4 * s + w).toNat else if w = 4 then m 48 (2 + s).toNat else if w = 5 then m 48 (6 + s).toNat else thM m s (m 48 (6 + s).toNat)) else -1
theorem c_X10_sheet {m0 : Mem} {s w : Int} (hh : hsM m0) (hm : moM m0) : Tot mX10_sheet 0 0 [vR 44, vI s, vI w] SH m0 (Pr SH (Pv (smM m0 s w) m0)) := by
  have h5 := hh.2.2.2.2.2.1
  refine v_X10_sheet ⟨hh, fun q => ?_, fun q => ⟨fun r => ⟨fun z => ⟨fun y => ⟨fun x => ⟨by unfold inR; omega, by omega, by omega, (hm s q.1 q.2).2.1, (hm s q.1 q.2).2.2, ?_⟩, fun x => ⟨by unfold inR; omega, by omega, by omega, ?_⟩⟩, fun y => ⟨by unfold inR; omega, by omega, by omega, ?_⟩⟩, fun z => ⟨by unfold inR; omega, by unfold inR; omega, by omega, by omega, ?_⟩⟩, fun r => ?_⟩⟩ <;> unfold smM
  · rw [if_neg (by omega)]; exact ⟨rfl, rfl⟩
  · rw [if_pos ⟨q, r⟩, if_neg (by omega), if_neg y, if_neg x]; exact ⟨rfl, rfl⟩
  · rw [if_pos ⟨q, r⟩, if_neg (by omega), if_neg y, if_pos x]; exact ⟨rfl, rfl⟩
  · rw [if_pos ⟨q, r⟩, if_neg (by omega), if_pos y]; exact ⟨rfl, rfl⟩
  · rw [if_pos ⟨q, r⟩, if_pos z]; exact ⟨rfl, rfl⟩
  · rw [if_neg (by omega)]; exact ⟨rfl, rfl⟩
def coM (m : Mem) (w : Int) : Int := if w = 0 then m 44 0 else if w = 1 then m 44 1 else if w = 2 then m 44 2 else if w = 3 then m 44 3 else if w = 4 then m 44 5 else if w = 5 then m 44 7 else if w = 6 then m 44 14 else if w = 7 then m 44 16 else if w = 8 then m 44 20 else -1
theorem c_X10_count {m0 : Mem} {w : Int} : Tot mX10_count 0 0 [vR 44, vI w] SH m0 (Pr SH (Pv (coM m0 w) m0)) := by
  refine v_X10_count ⟨?_, ?_, ?_, ?_, ?_, ?_, ?_, ?_, ?_, ?_⟩
  all_goals intro r; refine ⟨?_, rfl⟩; unfold coM
  all_goals (try subst r) <;> simp_all
theorem c_X10_trace {m0 : Mem} : Tot mX10_trace 0 0 [vR 44] SH m0 (Pl SH (Pv (m0 44 18) m0)) := v_X10_trace ⟨rfl, rfl⟩
def laM (m : Mem) : Int → Prop := fun s => ¬ m 48 (2 + s).toNat = -9
theorem ls_loop {m0 : Mem} (hh : hsM m0) : ∀ (k : Nat) (a2 : Int), 0 ≤ a2 → a2 ≤ m0 44 5 → (m0 44 5 - a2).toNat ≤ k → w_X10_laidSet_4 (Pv (bitF (laM m0) (m0 44 5).toNat : Nat) m0) (bitF (laM m0) a2.toNat : Nat) a2 m0 := by
  have h5 := hh.2.2.2.2.2.1
  intro k
  induction k with
  | zero => intro a2 h0 h1 hk; exact v_X10_laidSet_4 ⟨fun _ => by rw [show a2 = m0 44 5 by omega]; exact ⟨rfl, rfl⟩, fun c => by omega⟩
  | succ k ih =>
    intro a2 h0 h1 hk
    refine v_X10_laidSet_4 ⟨fun _ => by rw [show a2 = m0 44 5 by omega]; exact ⟨rfl, rfl⟩, fun c => ⟨by unfold inR; omega, by omega, by omega, fun q => ⟨h0, by omega, Int.natCast_nonneg _, Int.natCast_nonneg _, by unfold inR; omega, ?_⟩, fun q => ⟨Int.natCast_nonneg _, by unfold inR; omega, ?_⟩⟩⟩
    · rw [bitF_step (p := laM m0) h0 q]
      exact ih _ (by omega) (by omega) (by omega)
    · have e : (((((bitF (laM m0) a2.toNat : Nat) : Int)).toNat ||| ((0 : Int)).toNat : Nat) : Int) = (bitF (laM m0) (a2 + 1).toNat : Nat) := by
        rw [bitF_skip (p := laM m0) h0 (fun z => z q)]
        simp
      rw [e]
      exact ih _ (by omega) (by omega) (by omega)
theorem c_X10_laidSet {m0 : Mem} (hh : hsM m0) : Tot mX10_laidSet 0 0 [vR 44] SH m0 (Pr SH (Pv (bitF (laM m0) (m0 44 5).toNat : Nat) m0)) := by
  have h5 := hh.2.2.2.2.2.1
  exact v_X10_laidSet (ls_loop hh _ 0 (by omega) (by omega) (Nat.le_refl _))
noncomputable def numF (p : Int → Prop) : Nat → Int
  | 0 => 0
  | k + 1 => numF p k + @ite Int (p k) (Classical.propDecidable _) 1 0
theorem numF_t {p : Int → Prop} {k : Nat} (h : p k) : numF p (k + 1) = numF p k + 1 := by
  show numF p k + @ite Int (p k) (Classical.propDecidable _) 1 0 = _
  rw [if_pos h]
theorem numF_f {p : Int → Prop} {k : Nat} (h : ¬ p k) : numF p (k + 1) = numF p k := by
  show numF p k + @ite Int (p k) (Classical.propDecidable _) 1 0 = _
  rw [if_neg h, Int.add_zero]
theorem numF_b {p : Int → Prop} : ∀ k : Nat, 0 ≤ numF p k ∧ numF p k ≤ k
  | 0 => ⟨Int.le_refl _, Int.le_refl _⟩
  | k + 1 => by
    have h := numF_b (p := p) k
    by_cases q : p k
    · rw [numF_t q]; omega
    · rw [numF_f q]; omega
theorem lm_loop {m0 : Mem} (hh : hsM m0) : ∀ (k : Nat) (a2 : Int), 0 ≤ a2 → a2 ≤ m0 44 5 → (m0 44 5 - a2).toNat ≤ k → w_X10_laidMany_4 (Pv (numF (laM m0) (m0 44 5).toNat) m0) (numF (laM m0) a2.toNat) a2 m0 := by
  have h5 := hh.2.2.2.2.2.1
  intro k
  induction k with
  | zero => intro a2 h0 h1 hk; exact v_X10_laidMany_4 ⟨fun _ => by rw [show a2 = m0 44 5 by omega]; exact ⟨rfl, rfl⟩, fun c => by omega⟩
  | succ k ih =>
    intro a2 h0 h1 hk
    have hb := numF_b (p := laM m0) a2.toNat
    have ea : ((a2.toNat : Nat) : Int) = a2 := by omega
    have ek : (a2 + 1).toNat = a2.toNat + 1 := by omega
    have := ih (a2 + 1) (by omega)
    refine v_X10_laidMany_4 ⟨fun _ => by rw [show a2 = m0 44 5 by omega]; exact ⟨rfl, rfl⟩, fun c => ⟨by unfold inR; omega, by omega, by omega, fun q => ⟨by unfold inR; omega, by unfold inR; omega, ?_⟩, fun q => ⟨by unfold inR; omega, by unfold inR; omega, ?_⟩⟩⟩
    · have h := ih (a2 + 1) (by omega) (by omega) (by omega)
      rw [ek, numF_t (p := laM m0) (by rw [ea]; exact q)] at h
      exact h
    · have h := ih (a2 + 1) (by omega) (by omega) (by omega)
      rw [ek, numF_f (p := laM m0) (by rw [ea]; exact fun z => z q)] at h
      rw [Int.add_zero]
      exact h
theorem c_X10_laidMany {m0 : Mem} (hh : hsM m0) : Tot mX10_laidMany 0 0 [vR 44] SH m0 (Pr SH (Pv (numF (laM m0) (m0 44 5).toNat) m0)) := by
  have h5 := hh.2.2.2.2.2.1
  exact v_X10_laidMany (lm_loop hh _ 0 (by omega) (by omega) (Nat.le_refl _))
theorem mset_id {m : Mem} {h k : Nat} : mset m h k (m h k) = m := by
  funext h' k'
  rw [mset_at]
  by_cases c : h' = h ∧ k' = k
  · rw [if_pos c, c.1, c.2]
  · rw [if_neg c]
def fgM (m0 : Mem) (w v : Int) (m : Mem) : Prop := if w = 0 then v = m0 44 14 ∧ m = mset m0 44 14 0 else if w = 1 then v = m0 44 16 ∧ m = mset m0 44 16 0 else v = -1 ∧ m = m0
theorem c_X10_forget {m0 : Mem} {w : Int} : Tot mX10_forget 0 0 [vR 44, vI w] SH m0 (Pr SH (fgM m0 w)) := by
  refine v_X10_forget ⟨fun q => ⟨fun r m1 e1 => ⟨fun z => by omega, fun z m3 e3 => ?_⟩, fun r m4 e4 => ⟨fun z m5 e5 => ?_, fun z => by omega⟩⟩, fun q => ?_⟩ <;> unfold fgM
  · rw [if_neg r, if_pos z, e3, e1, mset_id]
    exact ⟨rfl, rfl⟩
  · rw [if_pos r, e5, mset_id]
    exact ⟨rfl, e4⟩
  · rw [if_neg (by omega), if_neg (by omega)]
    exact ⟨rfl, rfl⟩
/-- a report heard: cell and loudness behind the others -/
def heM (m0 : Mem) (c v w : Int) (m : Mem) : Prop := if (0 ≤ c ∧ c < nM m0) ∧ (0 ≤ v ∧ v ≤ 99) then (if m0 44 14 = 4 then w = -3 ∧ m = m0 else w = m0 44 14 + 1 ∧ m = mset (mset (mset m0 52 (2 * m0 44 14).toNat c) 52 (2 * m0 44 14 + 1).toNat v) 44 14 (m0 44 14 + 1)) else w = -1 ∧ m = m0
theorem c_X10_hear {m0 : Mem} {c v : Int} (hh : hsM m0) (h : 0 ≤ m0 44 14 ∧ m0 44 14 ≤ 4) : Tot mX10_hear 0 0 [vR 44, vI c, vI v] SH m0 (Pr SH (heM m0 c v)) := by
  refine v_X10_hear ⟨hh, fun q => ?_, fun q => ⟨fun r => ⟨fun z => ⟨by unfold inR; omega, by omega, by omega, fun m5 e5 => ?_⟩, fun z => ?_⟩, fun r => ?_⟩⟩
  · unfold heM; rw [if_neg (fun y => q y.1)]; exact ⟨rfl, rfl⟩
  · have e : m5 44 14 = m0 44 14 := by rw [e5, mset_at, if_neg (by omega)]
    rw [e]
    refine ⟨by unfold inR; omega, by unfold inR; omega, by omega, by omega, fun m10 e10 => ?_⟩
    have f : m10 44 14 = m0 44 14 := by rw [e10, mset_at, if_neg (by omega), e]
    rw [f]
    refine ⟨by unfold inR; omega, fun m12 e12 => ?_⟩
    unfold heM
    rw [if_pos ⟨q, r⟩, if_neg z, e12, mset_eq, e10, e5]
    exact ⟨rfl, rfl⟩
  · unfold heM; rw [if_pos ⟨q, r⟩, if_pos z]; exact ⟨rfl, rfl⟩
  · unfold heM; rw [if_neg (fun y => r y.2)]; exact ⟨rfl, rfl⟩
def taC (m : Mem) (f n t v : Int) : Prop := (0 ≤ f ∧ f < nM m) ∧ (1 ≤ n ∧ n ≤ 99) ∧ (0 ≤ t ∧ t < nM m) ∧ (0 ≤ v ∧ v ≤ 99)
def taM (m0 : Mem) (f n t v w : Int) (m : Mem) : Prop := (¬ taC m0 f n t v ∧ w = -1 ∧ m = m0) ∨ (taC m0 f n t v ∧ ((m0 44 16 = 4 ∧ w = -3 ∧ m = m0) ∨ (m0 44 16 ≠ 4 ∧ w = m0 44 16 + 1 ∧ m = mset (mset (mset (mset (mset m0 53 (4 * m0 44 16).toNat f) 53 (4 * m0 44 16 + 1).toNat n) 53 (4 * m0 44 16 + 2).toNat t) 53 (4 * m0 44 16 + 3).toNat v) 44 16 (m0 44 16 + 1))))
theorem c_X10_tap {m0 : Mem} {f n t v : Int} (hh : hsM m0) (h : 0 ≤ m0 44 16 ∧ m0 44 16 ≤ 4) : Tot mX10_tap 0 0 [vR 44, vI f, vI n, vI t, vI v] SH m0 (Pr SH (taM m0 f n t v)) := by
  refine v_X10_tap ⟨hh, fun q => Or.inl ⟨fun y => q y.1, rfl, rfl⟩, fun q => ⟨fun q2 => Or.inl ⟨fun y => q2 y.2.1, rfl, rfl⟩, fun q2 => ⟨fun q3 => Or.inl ⟨fun y => q3 y.2.2.1, rfl, rfl⟩, fun q3 => ⟨fun q4 => ⟨fun z => ⟨by unfold inR; omega, by omega, by omega, fun m5 e5 => ?_⟩, fun z => Or.inr ⟨⟨q, q2, q3, q4⟩, Or.inl ⟨z, rfl, rfl⟩⟩⟩, fun q4 => Or.inl ⟨fun y => q4 y.2.2.2, rfl, rfl⟩⟩⟩⟩⟩
  have e : m5 44 16 = m0 44 16 := by rw [e5, mset_at, if_neg (by omega)]
  rw [e]
  refine ⟨by unfold inR; omega, by unfold inR; omega, by omega, by omega, fun m10 e10 => ?_⟩
  have e2 : m10 44 16 = m0 44 16 := by rw [e10, mset_at, if_neg (by omega), e]
  rw [e2]
  refine ⟨by unfold inR; omega, by unfold inR; omega, by omega, by omega, fun m15 e15 => ?_⟩
  have e3 : m15 44 16 = m0 44 16 := by rw [e15, mset_at, if_neg (by omega), e2]
  rw [e3]
  refine ⟨by unfold inR; omega, by unfold inR; omega, by omega, by omega, fun m20 e20 => ?_⟩
  have e4 : m20 44 16 = m0 44 16 := by rw [e20, mset_at, if_neg (by omega), e3]
  rw [e4]
  refine ⟨by unfold inR; omega, fun m22 e22 => Or.inr ⟨⟨q, q2, q3, q4⟩, Or.inr ⟨z, by rw [e22, mset_eq], ?_⟩⟩⟩
  rw [e22, e20, e15, e10, e5]
