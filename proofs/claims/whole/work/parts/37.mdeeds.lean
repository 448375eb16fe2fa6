/-! THE MODEL: moments remembered, kept; deeds -/
set_option maxRecDepth 20000 in
theorem v_X10_now {w : Int} {P : Int → Mem → Prop} {mem : Mem}  (H : (w = 0 → P (mem 48 0) mem) ∧ (w = 1 → P (mem 48 1) mem) ∧ (w = 2 → (hsM mem) ∧ (P ((bitF (laM mem) (mem 44 5).toNat : Nat) : Int) mem)) ∧ (w = 3 → P (mem 44 11) mem) ∧ (¬ w = 0 ∧ ¬ w = 1 ∧ ¬ w = 2 ∧ ¬ w = 3 → P (-1) mem)) : Tot mX10_now 0 0 [vR 44, vI w] SH mem (Pr SH P) := by
  refine Tot.of rfl (Nat.le_of_ble_eq_true rfl) (by simp [isJ]) (ls := [vR 44, vI w]) rfl ?_
  refine q_iload_n dX10_now_0 rfl ?_
  refine q_tsk (dt := 56) [(0, 32), (1, 39), (2, 46), (3, 51)] dX10_now_1 rfl rfl (by decide) (by decide) ?_ ?_
  · refine List.forall_mem_cons.mpr ⟨fun ha => ?_, List.forall_mem_cons.mpr ⟨fun ha => ?_, List.forall_mem_cons.mpr ⟨fun ha => ?_, List.forall_mem_cons.mpr ⟨fun ha => ?_, fun _ h => nomatch h⟩⟩⟩⟩
    · have H := H.1 (by simp only at ha; omega)
      refine q_aload_n dX10_now_32 rfl ?_
      refine q_getr (r := 48) dX10_now_33 lf_RX10_29 s44 rfl rfl ?_
      refine q_iconst dX10_now_36 (by decide) ?_
      refine q_iald dX10_now_37 s48 (by decide) (by decide) ?_
      exact q_iret dX10_now_38 rfl ⟨_, rfl, rfl, H⟩
    · have H := H.2.1 (by simp only at ha; omega)
      refine q_aload_n dX10_now_39 rfl ?_
      refine q_getr (r := 48) dX10_now_40 lf_RX10_29 s44 rfl rfl ?_
      refine q_iconst dX10_now_43 (by decide) ?_
      refine q_iald dX10_now_44 s48 (by decide) (by decide) ?_
      exact q_iret dX10_now_45 rfl ⟨_, rfl, rfl, H⟩
    · have H := H.2.2.1 (by simp only at ha; omega)
      refine q_aload_n dX10_now_46 rfl ?_
      obtain ⟨h1, H⟩ := H
      refine q_cVi (as := []) dX10_now_47 kmX10_laidSet kvX10_laidSet lm_RX10_217 ⟨by decide, by decide⟩ s44 ⟨by decide, rfl⟩ rfl rfl (Nat.le_of_ble_eq_true rfl) (c_X10_laidSet h1) (fun v m1 hq => ?_)
      obtain ⟨rfl, rfl⟩ := hq
      exact q_iret dX10_now_50 rfl ⟨_, rfl, rfl, H⟩
    · have H := H.2.2.2.1 (by simp only at ha; omega)
      refine q_aload_n dX10_now_51 rfl ?_
      refine q_geti dX10_now_52 lf_RX10_171 s44 rfl ?_
      exact q_iret dX10_now_55 rfl ⟨_, rfl, rfl, H⟩
  · intro ho
    have H := H.2.2.2.2 (by omega)
    refine q_iconst dX10_now_56 (by decide) ?_
    exact q_iret dX10_now_57 rfl ⟨_, rfl, rfl, H⟩

def w_X10_remembers_11 (P : Mem → Prop) (a1 : Int) (mem : Mem) : Prop := WP mX10_remembers none 0 0 (Pn SH P) 11 [vR 44, vI a1] [] SH mem
def w_X10_remembers_50 (P : Mem → Prop) (a1 : Int) (mem : Mem) : Prop := WP mX10_remembers none 0 0 (Pn SH P) 50 [vR 44, vI a1] [] SH mem
set_option maxRecDepth 20000 in
theorem v_X10_remembers_11 {P : Mem → Prop} {a1 : Int} {mem : Mem}  (H : (90 ≤ a1 → (inR ((mem 44 11) - 1)) ∧ (∀ m2 : Mem, m2 = (mset mem 44 11 ((mem 44 11) - 1)) → (w_X10_remembers_50 P 0 m2))) ∧ (a1 < 90 → (inR (a1 + 10)) ∧ ((0 ≤ (a1 + 10)) ∧ (((a1 + 10) < 100) ∧ ((0 ≤ a1) ∧ ((a1 < 100) ∧ (∀ m8 : Mem, m8 = mset mem 49 a1.toNat (mem 49 (a1 + 10).toNat) → ((inR (a1 + 1)) ∧ (w_X10_remembers_11 P (a1 + 1) m8))))))))) : w_X10_remembers_11 P a1 mem := by
  unfold w_X10_remembers_11
  refine q_iload_n dX10_remembers_11 rfl ?_
  refine q_bipush dX10_remembers_12 rfl (by decide) ?_
  refine q_icmp_ge (tgt := 38) dX10_remembers_14 (by decide) (fun c14 => ?_) (fun c14 => ?_)
  · have H := H.1 c14
    refine q_aload_n dX10_remembers_38 rfl ?_
    refine q_dup dX10_remembers_39 rfl ?_
    refine q_geti dX10_remembers_40 lf_RX10_171 s44 rfl ?_
    refine q_iconst dX10_remembers_43 (by decide) ?_
    obtain ⟨h1, H⟩ := H
    refine q_isub dX10_remembers_44 h1 ?_
    refine q_puti dX10_remembers_45 lf_RX10_171 s44 rfl (Or.inl rfl) fit_int ?_
    have H := H _ rfl
    refine q_iconst dX10_remembers_48 (by decide) ?_
    refine q_istore_n dX10_remembers_49 (by decide) rfl ?_
    exact H
  · have H := H.2 c14
    refine q_aload_n dX10_remembers_17 rfl ?_
    refine q_getr (r := 49) dX10_remembers_18 lf_RX10_32 s44 rfl rfl ?_
    refine q_iload_n dX10_remembers_21 rfl ?_
    refine q_aload_n dX10_remembers_22 rfl ?_
    refine q_getr (r := 49) dX10_remembers_23 lf_RX10_32 s44 rfl rfl ?_
    refine q_iload_n dX10_remembers_26 rfl ?_
    refine q_bipush dX10_remembers_27 rfl (by decide) ?_
    obtain ⟨h3, H⟩ := H
    refine q_iadd dX10_remembers_29 h3 ?_
    obtain ⟨h4, H⟩ := H
    obtain ⟨h5, H⟩ := H
    refine q_iald dX10_remembers_30 s49 h4 h5 ?_
    obtain ⟨h6, H⟩ := H
    obtain ⟨h7, H⟩ := H
    refine q_iast dX10_remembers_31 s49 h6 h7 ?_
    have H := H _ rfl
    obtain ⟨h9, H⟩ := H
    refine q_iinc dX10_remembers_32 rfl h9 rfl ?_
    refine q_goto (tgt := 11) dX10_remembers_35 (by decide) ?_
    exact H
set_option maxRecDepth 20000 in
theorem v_X10_remembers_50 {P : Mem → Prop} {a1 : Int} {mem : Mem}  (H : (10 ≤ a1 → (inR ((mem 44 11) + 1)) ∧ (∀ m2 : Mem, m2 = (mset mem 44 11 ((mem 44 11) + 1)) → (P m2))) ∧ (a1 < 10 → (inR (10 * (mem 44 11))) ∧ ((inR ((10 * (mem 44 11)) + a1)) ∧ ((0 ≤ a1) ∧ ((0 ≤ ((10 * (mem 44 11)) + a1)) ∧ ((((10 * (mem 44 11)) + a1) < 100) ∧ (∀ m8 : Mem, m8 = mset mem 49 ((10 * (mem 44 11)) + a1).toNat (mem 48 a1.toNat) → ((inR (a1 + 1)) ∧ (w_X10_remembers_50 P (a1 + 1) m8))))))))) : w_X10_remembers_50 P a1 mem := by
  unfold w_X10_remembers_50
  refine q_iload_n dX10_remembers_50 rfl ?_
  refine q_bipush dX10_remembers_51 rfl (by decide) ?_
  refine q_icmp_ge (tgt := 82) dX10_remembers_53 (by decide) (fun c53 => ?_) (fun c53 => ?_)
  · have H := H.1 c53
    refine q_aload_n dX10_remembers_82 rfl ?_
    refine q_dup dX10_remembers_83 rfl ?_
    refine q_geti dX10_remembers_84 lf_RX10_171 s44 rfl ?_
    refine q_iconst dX10_remembers_87 (by decide) ?_
    obtain ⟨h1, H⟩ := H
    refine q_iadd dX10_remembers_88 h1 ?_
    refine q_puti dX10_remembers_89 lf_RX10_171 s44 rfl (Or.inl rfl) fit_int ?_
    have H := H _ rfl
    exact q_vret dX10_remembers_92 rfl ⟨rfl, rfl, H⟩
  · have H := H.2 c53
    refine q_aload_n dX10_remembers_56 rfl ?_
    refine q_getr (r := 49) dX10_remembers_57 lf_RX10_32 s44 rfl rfl ?_
    refine q_bipush dX10_remembers_60 rfl (by decide) ?_
    refine q_aload_n dX10_remembers_62 rfl ?_
    refine q_geti dX10_remembers_63 lf_RX10_171 s44 rfl ?_
    obtain ⟨h3, H⟩ := H
    refine q_imul dX10_remembers_66 h3 ?_
    refine q_iload_n dX10_remembers_67 rfl ?_
    obtain ⟨h4, H⟩ := H
    refine q_iadd dX10_remembers_68 h4 ?_
    refine q_aload_n dX10_remembers_69 rfl ?_
    refine q_getr (r := 48) dX10_remembers_70 lf_RX10_29 s44 rfl rfl ?_
    refine q_iload_n dX10_remembers_73 rfl ?_
    obtain ⟨h5, H⟩ := H
    refine q_iald dX10_remembers_74 s48 h5 c53 ?_
    obtain ⟨h6, H⟩ := H
    obtain ⟨h7, H⟩ := H
    refine q_iast dX10_remembers_75 s49 h6 h7 ?_
    have H := H _ rfl
    obtain ⟨h9, H⟩ := H
    refine q_iinc dX10_remembers_76 rfl h9 rfl ?_
    refine q_goto (tgt := 50) dX10_remembers_79 (by decide) ?_
    exact H
set_option maxRecDepth 20000 in
theorem v_X10_remembers {P : Mem → Prop} {mem : Mem}  (H : (¬ (mem 44 11) = 10 → w_X10_remembers_50 P 0 mem) ∧ ((mem 44 11) = 10 → w_X10_remembers_11 P 0 mem)) : Tot mX10_remembers 0 0 [vR 44] SH mem (Pn SH P) := by
  refine Tot.of rfl (Nat.le_of_ble_eq_true rfl) (by simp [isJ]) (ls := [vR 44, vJ 0]) rfl ?_
  refine q_aload_n dX10_remembers_0 rfl ?_
  refine q_geti dX10_remembers_1 lf_RX10_171 s44 rfl ?_
  refine q_bipush dX10_remembers_4 rfl (by decide) ?_
  refine q_icmp_ne (tgt := 48) dX10_remembers_6 (by decide) (fun c6 => ?_) (fun c6 => ?_)
  · have H := H.1 c6
    refine q_iconst dX10_remembers_48 (by decide) ?_
    refine q_istore_n dX10_remembers_49 (by decide) rfl ?_
    exact H
  · have H := H.2 c6
    refine q_iconst dX10_remembers_9 (by decide) ?_
    refine q_istore_n dX10_remembers_10 (by decide) rfl ?_
    exact H

def w_X10_undo_22 (P : Int → Mem → Prop) (a1 : Int) (mem : Mem) : Prop := WP mX10_undo none 0 0 (Pr SH P) 22 [vR 44, vI a1] [] SH mem
set_option maxRecDepth 20000 in
theorem v_X10_undo_22 {P : Int → Mem → Prop} {a1 : Int} {mem : Mem}  (H : (10 ≤ a1 → P (mem 44 11) mem) ∧ (a1 < 10 → (inR (10 * (mem 44 11))) ∧ ((inR ((10 * (mem 44 11)) + a1)) ∧ ((0 ≤ ((10 * (mem 44 11)) + a1)) ∧ ((((10 * (mem 44 11)) + a1) < 100) ∧ ((0 ≤ a1) ∧ (∀ m6 : Mem, m6 = mset mem 48 a1.toNat (mem 49 ((10 * (mem 44 11)) + a1).toNat) → ((inR (a1 + 1)) ∧ (w_X10_undo_22 P (a1 + 1) m6))))))))) : w_X10_undo_22 P a1 mem := by
  unfold w_X10_undo_22
  refine q_iload_n dX10_undo_22 rfl ?_
  refine q_bipush dX10_undo_23 rfl (by decide) ?_
  refine q_icmp_ge (tgt := 54) dX10_undo_25 (by decide) (fun c25 => ?_) (fun c25 => ?_)
  · have H := H.1 c25
    refine q_aload_n dX10_undo_54 rfl ?_
    refine q_geti dX10_undo_55 lf_RX10_171 s44 rfl ?_
    exact q_iret dX10_undo_58 rfl ⟨_, rfl, rfl, H⟩
  · have H := H.2 c25
    refine q_aload_n dX10_undo_28 rfl ?_
    refine q_getr (r := 48) dX10_undo_29 lf_RX10_29 s44 rfl rfl ?_
    refine q_iload_n dX10_undo_32 rfl ?_
    refine q_aload_n dX10_undo_33 rfl ?_
    refine q_getr (r := 49) dX10_undo_34 lf_RX10_32 s44 rfl rfl ?_
    refine q_bipush dX10_undo_37 rfl (by decide) ?_
    refine q_aload_n dX10_undo_39 rfl ?_
    refine q_geti dX10_undo_40 lf_RX10_171 s44 rfl ?_
    obtain ⟨h1, H⟩ := H
    refine q_imul dX10_undo_43 h1 ?_
    refine q_iload_n dX10_undo_44 rfl ?_
    obtain ⟨h2, H⟩ := H
    refine q_iadd dX10_undo_45 h2 ?_
    obtain ⟨h3, H⟩ := H
    obtain ⟨h4, H⟩ := H
    refine q_iald dX10_undo_46 s49 h3 h4 ?_
    obtain ⟨h5, H⟩ := H
    refine q_iast dX10_undo_47 s48 h5 c25 ?_
    have H := H _ rfl
    obtain ⟨h7, H⟩ := H
    refine q_iinc dX10_undo_48 rfl h7 rfl ?_
    refine q_goto (tgt := 22) dX10_undo_51 (by decide) ?_
    exact H
set_option maxRecDepth 20000 in
theorem v_X10_undo {P : Int → Mem → Prop} {mem : Mem}  (H : (¬ (mem 44 11) = 0 → (inR ((mem 44 11) - 1)) ∧ (∀ m2 : Mem, m2 = (mset mem 44 11 ((mem 44 11) - 1)) → (w_X10_undo_22 P 0 m2))) ∧ ((mem 44 11) = 0 → P (-2) mem)) : Tot mX10_undo 0 0 [vR 44] SH mem (Pr SH P) := by
  refine Tot.of rfl (Nat.le_of_ble_eq_true rfl) (by simp [isJ]) (ls := [vR 44, vJ 0]) rfl ?_
  refine q_aload_n dX10_undo_0 rfl ?_
  refine q_geti dX10_undo_1 lf_RX10_171 s44 rfl ?_
  refine q_if_ne (tgt := 10) dX10_undo_4 (by decide) (fun c4 => ?_) (fun c4 => ?_)
  · have H := H.1 c4
    refine q_aload_n dX10_undo_10 rfl ?_
    refine q_dup dX10_undo_11 rfl ?_
    refine q_geti dX10_undo_12 lf_RX10_171 s44 rfl ?_
    refine q_iconst dX10_undo_15 (by decide) ?_
    obtain ⟨h1, H⟩ := H
    refine q_isub dX10_undo_16 h1 ?_
    refine q_puti dX10_undo_17 lf_RX10_171 s44 rfl (Or.inl rfl) fit_int ?_
    have H := H _ rfl
    refine q_iconst dX10_undo_20 (by decide) ?_
    refine q_istore_n dX10_undo_21 (by decide) rfl ?_
    exact H
  · have H := H.2 c4
    refine q_bipush dX10_undo_7 rfl (by decide) ?_
    exact q_iret dX10_undo_9 rfl ⟨_, rfl, rfl, H⟩

def w_X10_keep_13 (i : Int) (P : Int → Mem → Prop) (a2 : Int) (mem : Mem) : Prop := WP mX10_keep none 0 0 (Pr SH P) 13 [vR 44, vI i, vI a2] [] SH mem
set_option maxRecDepth 20000 in
theorem v_X10_keep_13 {i : Int} {P : Int → Mem → Prop} {a2 : Int} {mem : Mem}  (H : (10 ≤ a2 → (0 ≤ i) ∧ ((i < 2) ∧ (∀ m3 : Mem, m3 = mset mem 51 i.toNat 1 → (P (m3 48 0) m3)))) ∧ (a2 < 10 → (inR (10 * i)) ∧ ((inR ((10 * i) + a2)) ∧ ((0 ≤ a2) ∧ ((0 ≤ ((10 * i) + a2)) ∧ ((((10 * i) + a2) < 20) ∧ (∀ m9 : Mem, m9 = mset mem 50 ((10 * i) + a2).toNat (mem 48 a2.toNat) → ((inR (a2 + 1)) ∧ (w_X10_keep_13 i P (a2 + 1) m9))))))))) : w_X10_keep_13 i P a2 mem := by
  unfold w_X10_keep_13
  refine q_iload_n dX10_keep_13 rfl ?_
  refine q_bipush dX10_keep_14 rfl (by decide) ?_
  refine q_icmp_ge (tgt := 42) dX10_keep_16 (by decide) (fun c16 => ?_) (fun c16 => ?_)
  · have H := H.1 c16
    refine q_aload_n dX10_keep_42 rfl ?_
    refine q_getr (r := 51) dX10_keep_43 lf_RX10_38 s44 rfl rfl ?_
    refine q_iload_n dX10_keep_46 rfl ?_
    refine q_iconst dX10_keep_47 (by decide) ?_
    obtain ⟨h1, H⟩ := H
    obtain ⟨h2, H⟩ := H
    refine q_zast dX10_keep_48 s51 h1 h2 (by decide) ?_
    have H := H _ rfl
    refine q_aload_n dX10_keep_49 rfl ?_
    refine q_getr (r := 48) dX10_keep_50 lf_RX10_29 s44 rfl rfl ?_
    refine q_iconst dX10_keep_53 (by decide) ?_
    refine q_iald dX10_keep_54 s48 (by decide) (by decide) ?_
    exact q_iret dX10_keep_55 rfl ⟨_, rfl, rfl, H⟩
  · have H := H.2 c16
    refine q_aload_n dX10_keep_19 rfl ?_
    refine q_getr (r := 50) dX10_keep_20 lf_RX10_35 s44 rfl rfl ?_
    refine q_bipush dX10_keep_23 rfl (by decide) ?_
    refine q_iload_n dX10_keep_25 rfl ?_
    obtain ⟨h4, H⟩ := H
    refine q_imul dX10_keep_26 h4 ?_
    refine q_iload_n dX10_keep_27 rfl ?_
    obtain ⟨h5, H⟩ := H
    refine q_iadd dX10_keep_28 h5 ?_
    refine q_aload_n dX10_keep_29 rfl ?_
    refine q_getr (r := 48) dX10_keep_30 lf_RX10_29 s44 rfl rfl ?_
    refine q_iload_n dX10_keep_33 rfl ?_
    obtain ⟨h6, H⟩ := H
    refine q_iald dX10_keep_34 s48 h6 c16 ?_
    obtain ⟨h7, H⟩ := H
    obtain ⟨h8, H⟩ := H
    refine q_iast dX10_keep_35 s50 h7 h8 ?_
    have H := H _ rfl
    obtain ⟨h10, H⟩ := H
    refine q_iinc dX10_keep_36 rfl h10 rfl ?_
    refine q_goto (tgt := 13) dX10_keep_39 (by decide) ?_
    exact H
set_option maxRecDepth 20000 in
theorem v_X10_keep {i : Int} {P : Int → Mem → Prop} {mem : Mem}  (H : ((0 ≤ i ∧ i ≤ 1) → w_X10_keep_13 i P 0 mem) ∧ (¬ (0 ≤ i ∧ i ≤ 1) → P (-1) mem)) : Tot mX10_keep 0 0 [vR 44, vI i] SH mem (Pr SH P) := by
  refine Tot.of rfl (Nat.le_of_ble_eq_true rfl) (by simp [isJ]) (ls := [vR 44, vI i, vJ 0]) rfl ?_
  refine q_iload_n dX10_keep_0 rfl ?_
  refine q_iconst dX10_keep_1 (by decide) ?_
  refine q_iconst dX10_keep_2 (by decide) ?_
  refine q_cSi (as := [vI _, vI _, vI _]) dX10_keep_3 kmX10_in ktX10_in lm_RX10_90 ⟨by decide, by decide⟩ rfl rfl (Nat.le_of_ble_eq_true rfl) (c_X10_in) (fun v m1 hq => ?_)
  obtain ⟨rfl, rfl⟩ := hq
  refine q_if_ne (tgt := 11) dX10_keep_6 (by decide) (fun c6 => ?_) (fun c6 => ?_)
  · have H := H.1 (b_yes c6)
    refine q_iconst dX10_keep_11 (by decide) ?_
    refine q_istore_n dX10_keep_12 (by decide) rfl ?_
    exact H
  · have H := H.2 (b_no c6)
    refine q_iconst dX10_keep_9 (by decide) ?_
    exact q_iret dX10_keep_10 rfl ⟨_, rfl, rfl, H⟩

def w_X10_back_25 (i : Int) (P : Int → Mem → Prop) (a2 : Int) (mem : Mem) : Prop := WP mX10_back none 0 0 (Pr SH P) 25 [vR 44, vI i, vI a2] [] SH mem
set_option maxRecDepth 20000 in
theorem v_X10_back_25 {i : Int} {P : Int → Mem → Prop} {a2 : Int} {mem : Mem}  (H : (10 ≤ a2 → ∀ m1 : Mem, m1 = (mset mem 44 11 0) → (P (m1 48 0) m1)) ∧ (a2 < 10 → (inR (10 * i)) ∧ ((inR ((10 * i) + a2)) ∧ ((0 ≤ ((10 * i) + a2)) ∧ ((((10 * i) + a2) < 20) ∧ ((0 ≤ a2) ∧ (∀ m7 : Mem, m7 = mset mem 48 a2.toNat (mem 50 ((10 * i) + a2).toNat) → ((inR (a2 + 1)) ∧ (w_X10_back_25 i P (a2 + 1) m7))))))))) : w_X10_back_25 i P a2 mem := by
  unfold w_X10_back_25
  refine q_iload_n dX10_back_25 rfl ?_
  refine q_bipush dX10_back_26 rfl (by decide) ?_
  refine q_icmp_ge (tgt := 54) dX10_back_28 (by decide) (fun c28 => ?_) (fun c28 => ?_)
  · have H := H.1 c28
    refine q_aload_n dX10_back_54 rfl ?_
    refine q_iconst dX10_back_55 (by decide) ?_
    refine q_puti dX10_back_56 lf_RX10_171 s44 rfl (Or.inl rfl) fit_int ?_
    have H := H _ rfl
    refine q_aload_n dX10_back_59 rfl ?_
    refine q_getr (r := 48) dX10_back_60 lf_RX10_29 s44 rfl rfl ?_
    refine q_iconst dX10_back_63 (by decide) ?_
    refine q_iald dX10_back_64 s48 (by decide) (by decide) ?_
    exact q_iret dX10_back_65 rfl ⟨_, rfl, rfl, H⟩
  · have H := H.2 c28
    refine q_aload_n dX10_back_31 rfl ?_
    refine q_getr (r := 48) dX10_back_32 lf_RX10_29 s44 rfl rfl ?_
    refine q_iload_n dX10_back_35 rfl ?_
    refine q_aload_n dX10_back_36 rfl ?_
    refine q_getr (r := 50) dX10_back_37 lf_RX10_35 s44 rfl rfl ?_
    refine q_bipush dX10_back_40 rfl (by decide) ?_
    refine q_iload_n dX10_back_42 rfl ?_
    obtain ⟨h2, H⟩ := H
    refine q_imul dX10_back_43 h2 ?_
    refine q_iload_n dX10_back_44 rfl ?_
    obtain ⟨h3, H⟩ := H
    refine q_iadd dX10_back_45 h3 ?_
    obtain ⟨h4, H⟩ := H
    obtain ⟨h5, H⟩ := H
    refine q_iald dX10_back_46 s50 h4 h5 ?_
    obtain ⟨h6, H⟩ := H
    refine q_iast dX10_back_47 s48 h6 c28 ?_
    have H := H _ rfl
    obtain ⟨h8, H⟩ := H
    refine q_iinc dX10_back_48 rfl h8 rfl ?_
    refine q_goto (tgt := 25) dX10_back_51 (by decide) ?_
    exact H
set_option maxRecDepth 20000 in
theorem v_X10_back {i : Int} {P : Int → Mem → Prop} {mem : Mem}  (H : ((0 ≤ i ∧ i ≤ 1) → (i < 2) ∧ ((¬ (mem 51 i.toNat) = 0 → w_X10_back_25 i P 0 mem) ∧ ((mem 51 i.toNat) = 0 → P (-2) mem))) ∧ (¬ (0 ≤ i ∧ i ≤ 1) → P (-1) mem)) : Tot mX10_back 0 0 [vR 44, vI i] SH mem (Pr SH P) := by
  refine Tot.of rfl (Nat.le_of_ble_eq_true rfl) (by simp [isJ]) (ls := [vR 44, vI i, vJ 0]) rfl ?_
  refine q_iload_n dX10_back_0 rfl ?_
  refine q_iconst dX10_back_1 (by decide) ?_
  refine q_iconst dX10_back_2 (by decide) ?_
  refine q_cSi (as := [vI _, vI _, vI _]) dX10_back_3 kmX10_in ktX10_in lm_RX10_90 ⟨by decide, by decide⟩ rfl rfl (Nat.le_of_ble_eq_true rfl) (c_X10_in) (fun v m1 hq => ?_)
  obtain ⟨rfl, rfl⟩ := hq
  refine q_if_ne (tgt := 11) dX10_back_6 (by decide) (fun c6 => ?_) (fun c6 => ?_)
  · have H := H.1 (b_yes c6)
    refine q_aload_n dX10_back_11 rfl ?_
    refine q_getr (r := 51) dX10_back_12 lf_RX10_38 s44 rfl rfl ?_
    refine q_iload_n dX10_back_15 rfl ?_
    obtain ⟨h1, H⟩ := H
    refine q_zald dX10_back_16 s51 (b_yes c6).1 h1 ?_
    refine q_if_ne (tgt := 23) dX10_back_17 (by decide) (fun c17 => ?_) (fun c17 => ?_)
    · have H := H.1 c17
      refine q_iconst dX10_back_23 (by decide) ?_
      refine q_istore_n dX10_back_24 (by decide) rfl ?_
      exact H
    · have H := H.2 c17
      refine q_bipush dX10_back_20 rfl (by decide) ?_
      exact q_iret dX10_back_22 rfl ⟨_, rfl, rfl, H⟩
  · have H := H.2 (b_no c6)
    refine q_iconst dX10_back_9 (by decide) ?_
    exact q_iret dX10_back_10 rfl ⟨_, rfl, rfl, H⟩

def w_X10_bare_2 (P : Mem → Prop) (a1 : Int) (mem : Mem) : Prop := WP mX10_bare none 0 0 (Pn SH P) 2 [vR 44, vI a1] [] SH mem
set_option maxRecDepth 20000 in
theorem v_X10_bare_2 {P : Mem → Prop} {a1 : Int} {mem : Mem}  (H : (10 ≤ a1 → P mem) ∧ (a1 < 10 → (¬ (2 ≤ a1 ∧ a1 ≤ 5) → (0 ≤ a1) ∧ (∀ m2 : Mem, m2 = mset mem 48 a1.toNat 0 → ((inR (a1 + 1)) ∧ (w_X10_bare_2 P (a1 + 1) m2)))) ∧ ((2 ≤ a1 ∧ a1 ≤ 5) → (0 ≤ a1) ∧ (∀ m5 : Mem, m5 = mset mem 48 a1.toNat (-9) → ((inR (a1 + 1)) ∧ (w_X10_bare_2 P (a1 + 1) m5)))))) : w_X10_bare_2 P a1 mem := by
  unfold w_X10_bare_2
  refine q_iload_n dX10_bare_2 rfl ?_
  refine q_bipush dX10_bare_3 rfl (by decide) ?_
  refine q_icmp_ge (tgt := 35) dX10_bare_5 (by decide) (fun c5 => ?_) (fun c5 => ?_)
  · have H := H.1 c5
    exact q_vret dX10_bare_35 rfl ⟨rfl, rfl, H⟩
  · have H := H.2 c5
    refine q_aload_n dX10_bare_8 rfl ?_
    refine q_getr (r := 48) dX10_bare_9 lf_RX10_29 s44 rfl rfl ?_
    refine q_iload_n dX10_bare_12 rfl ?_
    refine q_iload_n dX10_bare_13 rfl ?_
    refine q_iconst dX10_bare_14 (by decide) ?_
    refine q_iconst dX10_bare_15 (by decide) ?_
    refine q_cSi (as := [vI _, vI _, vI _]) dX10_bare_16 kmX10_in ktX10_in lm_RX10_90 ⟨by decide, by decide⟩ rfl rfl (Nat.le_of_ble_eq_true rfl) (c_X10_in) (fun v m1 hq => ?_)
    obtain ⟨rfl, rfl⟩ := hq
    refine q_if_eq (tgt := 27) dX10_bare_19 (by decide) (fun c19 => ?_) (fun c19 => ?_)
    · have H := H.1 (b_no c19)
      refine q_iconst dX10_bare_27 (by decide) ?_
      obtain ⟨h1, H⟩ := H
      refine q_iast dX10_bare_28 s48 h1 c5 ?_
      have H := H _ rfl
      obtain ⟨h3, H⟩ := H
      refine q_iinc dX10_bare_29 rfl h3 rfl ?_
      refine q_goto (tgt := 2) dX10_bare_32 (by decide) ?_
      exact H
    · have H := H.2 (b_yes c19)
      refine q_bipush dX10_bare_22 rfl (by decide) ?_
      refine q_goto (tgt := 28) dX10_bare_24 (by decide) ?_
      obtain ⟨h4, H⟩ := H
      refine q_iast dX10_bare_28 s48 h4 c5 ?_
      have H := H _ rfl
      obtain ⟨h6, H⟩ := H
      refine q_iinc dX10_bare_29 rfl h6 rfl ?_
      refine q_goto (tgt := 2) dX10_bare_32 (by decide) ?_
      exact H
set_option maxRecDepth 20000 in
theorem v_X10_bare {P : Mem → Prop} {mem : Mem}  (H : w_X10_bare_2 P 0 mem) : Tot mX10_bare 0 0 [vR 44] SH mem (Pn SH P) := by
  refine Tot.of rfl (Nat.le_of_ble_eq_true rfl) (by simp [isJ]) (ls := [vR 44, vJ 0]) rfl ?_
  refine q_iconst dX10_bare_0 (by decide) ?_
  refine q_istore_n dX10_bare_1 (by decide) rfl ?_
  exact H


noncomputable def noM (m : Mem) (w : Int) : Int := if w = 0 then m 48 0 else if w = 1 then m 48 1 else if w = 2 then (bitF (laM m) (m 44 5).toNat : Nat) else if w = 3 then m 44 11 else -1
theorem c_X10_now {m0 : Mem} {w : Int} (hh : hsM m0) : Tot mX10_now 0 0 [vR 44, vI w] SH m0 (Pr SH (Pv (noM m0 w) m0)) := by
  refine v_X10_now ⟨fun r => ⟨?_, rfl⟩, fun r => ⟨?_, rfl⟩, fun r => ⟨hh, ?_, rfl⟩, fun r => ⟨?_, rfl⟩, fun r => ⟨?_, rfl⟩⟩ <;> unfold noM
  · rw [if_pos r]
  · rw [if_neg (by omega), if_pos r]
  · rw [if_neg (by omega), if_neg (by omega), if_pos r]
  · rw [if_neg (by omega), if_neg (by omega), if_neg (by omega), if_pos r]
  · rw [if_neg (by omega), if_neg (by omega), if_neg (by omega), if_neg (by omega)]
/-- only slot 11 of the model is another -/
def sl11 (m0 m : Mem) : Prop := ∀ k : Nat, k ≠ 11 → m 44 k = m0 44 k
theorem sl11_set {m0 m : Mem} {z : Int} (h : sl11 m0 m) : sl11 m0 (mset m 44 11 z) := fun k hk => by rw [mset_at, if_neg (by omega)]; exact h k hk
def reP (m0 m : Mem) : Prop := Fr [44, 49] m0 m ∧ sl11 m0 m ∧ m 44 11 = min 10 (m0 44 11 + 1) ∧ ∀ e : Int, 0 ≤ e → e < 10 * m 44 11 → m 49 e.toNat = if e < 10 * (m 44 11 - 1) then m0 49 (e + (if m0 44 11 = 10 then 10 else 0)).toNat else m0 48 (e - 10 * (m 44 11 - 1)).toNat
theorem re_put {m1 : Mem} {P : Mem → Prop} (hK : 0 ≤ m1 44 11 ∧ m1 44 11 ≤ 9) (K : ∀ m : Mem, Fr [44, 49] m1 m → sl11 m1 m → m 44 11 = m1 44 11 + 1 → (∀ e : Int, 0 ≤ e → m 49 e.toNat = if 10 * m1 44 11 ≤ e ∧ e < 10 * m1 44 11 + 10 then m1 48 (e - 10 * m1 44 11).toNat else m1 49 e.toNat) → P m) :
    ∀ (k : Nat) (a1 : Int) (m : Mem), 0 ≤ a1 → a1 ≤ 10 → (10 - a1).toNat ≤ k → Fr [49] m1 m → (∀ e : Int, 0 ≤ e → m 49 e.toNat = if 10 * m1 44 11 ≤ e ∧ e < 10 * m1 44 11 + a1 then m1 48 (e - 10 * m1 44 11).toNat else m1 49 e.toNat) → w_X10_remembers_50 P a1 m := by
  have hfin : ∀ (a1 : Int) (m : Mem), a1 = 10 → Fr [49] m1 m → (∀ e : Int, 0 ≤ e → m 49 e.toNat = if 10 * m1 44 11 ≤ e ∧ e < 10 * m1 44 11 + a1 then m1 48 (e - 10 * m1 44 11).toNat else m1 49 e.toNat) → (inR ((m 44 11) + 1)) ∧ (∀ m2 : Mem, m2 = (mset m 44 11 ((m 44 11) + 1)) → (P m2)) := by
    intro a1 m e hF hx
    rw [hF.at 44]
    refine ⟨by unfold inR; omega, fun m2 e2 => K m2 ?_ ?_ ?_ (fun x x0 => ?_)⟩
    · rw [e2]; exact (hF.mono (by decide)).set (by decide)
    · rw [e2]
      exact sl11_set (fun k _ => by rw [hF.at 44])
    · rw [e2, mset_eq]
    · rw [e2, mset_ne 49 (by decide), hx x x0, e]
  intro k
  induction k with
  | zero =>
    intro a1 m h0 h1 hk hF hx
    exact v_X10_remembers_50 ⟨fun _ => hfin a1 m (by omega) hF hx, fun q => by omega⟩
  | succ k ih =>
    intro a1 m h0 h1 hk hF hx
    refine v_X10_remembers_50 ⟨fun q => hfin a1 m (by omega) hF hx, fun q => ?_⟩
    rw [hF.at 44, hF.at 48]
    refine ⟨by unfold inR; omega, by unfold inR; omega, h0, by omega, by omega, fun m8 e8 => ⟨by unfold inR; omega, ?_⟩⟩
    rw [e8]
    refine ih _ _ (by omega) (by omega) (by omega) (hF.set (by decide)) (fun e e0 => ?_)
    rw [mset_at]
    by_cases c : e = 10 * m1 44 11 + a1
    · rw [c, if_pos ⟨rfl, rfl⟩, if_pos (by omega)]
      congr 1
      omega
    · rw [if_neg (by omega), hx e e0]
      by_cases d : 10 * m1 44 11 ≤ e ∧ e < 10 * m1 44 11 + a1
      · rw [if_pos d, if_pos (by omega)]
      · rw [if_neg d, if_neg (by omega)]
theorem re_shift {m0 : Mem} (hK : m0 44 11 = 10) : ∀ (k : Nat) (a1 : Int) (m : Mem), 0 ≤ a1 → a1 ≤ 90 → (90 - a1).toNat ≤ k → Fr [49] m0 m → (∀ e : Int, 0 ≤ e → m 49 e.toNat = if e < a1 then m0 49 (e + 10).toNat else m0 49 e.toNat) → w_X10_remembers_11 (reP m0) a1 m := by
  have hfin : ∀ (a1 : Int) (m : Mem), a1 = 90 → Fr [49] m0 m → (∀ e : Int, 0 ≤ e → m 49 e.toNat = if e < a1 then m0 49 (e + 10).toNat else m0 49 e.toNat) → (inR ((m 44 11) - 1)) ∧ (∀ m2 : Mem, m2 = (mset m 44 11 ((m 44 11) - 1)) → (w_X10_remembers_50 (reP m0) 0 m2)) := by
    intro a1 m e hF hx
    rw [hF.at 44, hK]
    refine ⟨by unfold inR; omega, fun m2 e2 => ?_⟩
    have k2 : m2 44 11 = 9 := by rw [e2, mset_eq]; rfl
    have s2 : sl11 m0 m2 := by
      rw [e2]
      exact sl11_set (fun k _ => by rw [hF.at 44])
    have hF2 : Fr [44, 49] m0 m2 := by rw [e2]; exact (hF.mono (by decide)).set (by decide)
    refine re_put (by omega) (fun m hFm hs hk hxm => ⟨hF2.tr (hFm.mono (by decide)), fun k hk => by rw [hs k hk, s2 k hk], by omega, fun x x0 x1 => ?_⟩) 10 0 m2 (by omega) (by omega) (by omega) Fr.rf (fun x x0 => by rw [if_neg (by omega)])
    rw [hxm x x0, k2, hk, k2, hK, if_pos rfl]
    by_cases d : x < 90
    · rw [if_neg (by omega), if_pos (by omega), e2, mset_ne 49 (by decide), hx x x0, if_pos (by omega)]
    · rw [if_pos (by omega), if_neg (by omega), hF2.at 48]
      congr 1
  intro k
  induction k with
  | zero =>
    intro a1 m h0 h1 hk hF hx
    exact v_X10_remembers_11 ⟨fun _ => hfin a1 m (by omega) hF hx, fun q => by omega⟩
  | succ k ih =>
    intro a1 m h0 h1 hk hF hx
    refine v_X10_remembers_11 ⟨fun q => hfin a1 m (by omega) hF hx, fun q => ⟨by unfold inR; omega, by omega, by omega, h0, by omega, fun m8 e8 => ⟨by unfold inR; omega, ?_⟩⟩⟩
    rw [e8]
    refine ih _ _ (by omega) (by omega) (by omega) (hF.set (by decide)) (fun e e0 => ?_)
    rw [mset_at]
    by_cases c : e = a1
    · rw [c, if_pos ⟨rfl, rfl⟩, if_pos (by omega), hx _ (by omega), if_neg (by omega)]
    · rw [if_neg (by omega), hx e e0]
      by_cases d : e < a1
      · rw [if_pos d, if_pos (by omega)]
      · rw [if_neg d, if_neg (by omega)]
theorem c_X10_remembers {m0 : Mem} (hK : 0 ≤ m0 44 11 ∧ m0 44 11 ≤ 10) : Tot mX10_remembers 0 0 [vR 44] SH m0 (Pn SH (reP m0)) := by
  refine v_X10_remembers ⟨fun q => ?_, fun q => ?_⟩
  · refine re_put (m1 := m0) (by omega) (fun m hFm hs hk hxm => ⟨hFm, hs, by omega, fun x x0 x1 => ?_⟩) 10 0 m0 (by omega) (by omega) (by omega) Fr.rf (fun x x0 => by rw [if_neg (by omega)])
    rw [hxm x x0, hk, if_neg q]
    rw [hk] at x1
    by_cases d : x < 10 * m0 44 11
    · rw [if_neg (by omega), if_pos (by omega), Int.add_zero]
    · rw [if_pos (by omega), if_neg (by omega)]
      congr 1
      omega
  · exact re_shift q 90 0 m0 (by omega) (by omega) (by omega) Fr.rf (fun x x0 => by rw [if_neg (by omega)])
def unM (m0 : Mem) (v : Int) (m : Mem) : Prop := if m0 44 11 = 0 then v = -2 ∧ m = m0 else v = m0 44 11 - 1 ∧ Fr [44, 48] m0 m ∧ sl11 m0 m ∧ m 44 11 = m0 44 11 - 1 ∧ ∀ j : Int, 0 ≤ j → j < 10 → m 48 j.toNat = m0 49 (10 * (m0 44 11 - 1) + j).toNat
theorem un_loop {m0 m1 : Mem} (hK : 0 ≤ m0 44 11 ∧ m0 44 11 ≤ 10) (hn : ¬ m0 44 11 = 0) (e1 : m1 = mset m0 44 11 (m0 44 11 - 1)) : ∀ (k : Nat) (a1 : Int) (m : Mem), 0 ≤ a1 → a1 ≤ 10 → (10 - a1).toNat ≤ k → Fr [48] m1 m → (∀ j : Int, 0 ≤ j → j < a1 → m 48 j.toNat = m0 49 (10 * (m0 44 11 - 1) + j).toNat) → w_X10_undo_22 (unM m0) a1 m := by
  have k1 : m1 44 11 = m0 44 11 - 1 := by rw [e1, mset_eq]
  have hF1 : Fr [44, 48] m0 m1 := by rw [e1]; exact Fr.rf.set (by decide)
  have s1 : sl11 m0 m1 := by rw [e1]; exact sl11_set (fun _ _ => rfl)
  have hfin : ∀ (a1 : Int) (m : Mem), a1 = 10 → Fr [48] m1 m → (∀ j : Int, 0 ≤ j → j < a1 → m 48 j.toNat = m0 49 (10 * (m0 44 11 - 1) + j).toNat) → unM m0 (m 44 11) m := by
    intro a1 m e hF hx
    unfold unM
    rw [if_neg hn, hF.at 44, k1]
    exact ⟨rfl, hF1.tr (hF.mono (by decide)), fun k hk => by rw [hF.at 44]; exact s1 k hk, rfl, fun j j0 j1 => hx j j0 (by omega)⟩
  intro k
  induction k with
  | zero =>
    intro a1 m h0 h1 hk hF hx
    exact v_X10_undo_22 ⟨fun _ => hfin a1 m (by omega) hF hx, fun q => by omega⟩
  | succ k ih =>
    intro a1 m h0 h1 hk hF hx
    refine v_X10_undo_22 ⟨fun q => hfin a1 m (by omega) hF hx, fun q => ?_⟩
    rw [hF.at 44, hF.at 49, k1]
    refine ⟨by unfold inR; omega, by unfold inR; omega, by omega, by omega, h0, fun m6 e6 => ⟨by unfold inR; omega, ?_⟩⟩
    rw [e6]
    refine ih _ _ (by omega) (by omega) (by omega) (hF.set (by decide)) (fun j j0 j1 => ?_)
    rw [mset_at]
    by_cases c : j = a1
    · rw [c, if_pos ⟨rfl, rfl⟩, hF1.at 49]
    · rw [if_neg (by omega)]
      exact hx j j0 (by omega)
theorem c_X10_undo {m0 : Mem} (hK : 0 ≤ m0 44 11 ∧ m0 44 11 ≤ 10) : Tot mX10_undo 0 0 [vR 44] SH m0 (Pr SH (unM m0)) := by
  refine v_X10_undo ⟨fun q => ⟨by unfold inR; omega, fun m2 e2 => un_loop hK q e2 10 0 m2 (by omega) (by omega) (by omega) Fr.rf (fun j j0 j1 => by omega)⟩, fun q => ?_⟩
  unfold unM
  rw [if_pos q]
  exact ⟨rfl, rfl⟩
def kpM (m0 : Mem) (i v : Int) (m : Mem) : Prop := ((0 ≤ i ∧ i ≤ 1) ∧ v = m0 48 0 ∧ ∃ m3, (Fr [50] m0 m3 ∧ ∀ e : Int, 0 ≤ e → m3 50 e.toNat = if 10 * i ≤ e ∧ e < 10 * i + 10 then m0 48 (e - 10 * i).toNat else m0 50 e.toNat) ∧ m = mset m3 51 i.toNat 1) ∨ (¬ (0 ≤ i ∧ i ≤ 1) ∧ v = -1 ∧ m = m0)
theorem kp_loop {m0 : Mem} {i : Int} (hi : 0 ≤ i ∧ i ≤ 1) : ∀ (k : Nat) (a2 : Int) (m : Mem), 0 ≤ a2 → a2 ≤ 10 → (10 - a2).toNat ≤ k → Fr [50] m0 m → (∀ e : Int, 0 ≤ e → m 50 e.toNat = if 10 * i ≤ e ∧ e < 10 * i + a2 then m0 48 (e - 10 * i).toNat else m0 50 e.toNat) → w_X10_keep_13 i (kpM m0 i) a2 m := by
  have hfin : ∀ (a2 : Int) (m : Mem), a2 = 10 → Fr [50] m0 m → (∀ e : Int, 0 ≤ e → m 50 e.toNat = if 10 * i ≤ e ∧ e < 10 * i + a2 then m0 48 (e - 10 * i).toNat else m0 50 e.toNat) → (0 ≤ i) ∧ ((i < 2) ∧ (∀ m3 : Mem, m3 = mset m 51 i.toNat 1 → (kpM m0 i (m3 48 0) m3))) := by
    intro a2 m e hF hx
    refine ⟨hi.1, by omega, fun m3 e3 => Or.inl ⟨hi, ?_, m, ⟨hF, fun x x0 => by rw [hx x x0, e]⟩, e3⟩⟩
    rw [e3, mset_ne 48 (by decide), hF.at 48]
  intro k
  induction k with
  | zero =>
    intro a2 m h0 h1 hk hF hx
    exact v_X10_keep_13 ⟨fun _ => hfin a2 m (by omega) hF hx, fun q => by omega⟩
  | succ k ih =>
    intro a2 m h0 h1 hk hF hx
    refine v_X10_keep_13 ⟨fun q => hfin a2 m (by omega) hF hx, fun q => ?_⟩
    rw [hF.at 48]
    refine ⟨by unfold inR; omega, by unfold inR; omega, h0, by omega, by omega, fun m8 e8 => ⟨by unfold inR; omega, ?_⟩⟩
    rw [e8]
    refine ih _ _ (by omega) (by omega) (by omega) (hF.set (by decide)) (fun e e0 => ?_)
    rw [mset_at]
    by_cases c : e = 10 * i + a2
    · rw [c, if_pos ⟨rfl, rfl⟩, if_pos (by omega)]
      congr 1
      omega
    · rw [if_neg (by omega), hx e e0]
      by_cases d : 10 * i ≤ e ∧ e < 10 * i + a2
      · rw [if_pos d, if_pos (by omega)]
      · rw [if_neg d, if_neg (by omega)]
theorem c_X10_keep {m0 : Mem} {i : Int} : Tot mX10_keep 0 0 [vR 44, vI i] SH m0 (Pr SH (kpM m0 i)) :=
  v_X10_keep ⟨fun q => kp_loop q 10 0 m0 (by omega) (by omega) (by omega) Fr.rf (fun e e0 => by rw [if_neg (by omega)]), fun q => Or.inr ⟨q, rfl, rfl⟩⟩
def bkM (m0 : Mem) (i v : Int) (m : Mem) : Prop := ((0 ≤ i ∧ i ≤ 1) ∧ ((m0 51 i.toNat = 0 ∧ v = -2 ∧ m = m0) ∨ (m0 51 i.toNat ≠ 0 ∧ v = m 48 0 ∧ Fr [44, 48] m0 m ∧ sl11 m0 m ∧ m 44 11 = 0 ∧ ∀ j : Int, 0 ≤ j → j < 10 → m 48 j.toNat = m0 50 (10 * i + j).toNat))) ∨ (¬ (0 ≤ i ∧ i ≤ 1) ∧ v = -1 ∧ m = m0)
theorem bk_loop {m0 : Mem} {i : Int} (hi : 0 ≤ i ∧ i ≤ 1) (hn : ¬ m0 51 i.toNat = 0) : ∀ (k : Nat) (a2 : Int) (m : Mem), 0 ≤ a2 → a2 ≤ 10 → (10 - a2).toNat ≤ k → Fr [48] m0 m → (∀ j : Int, 0 ≤ j → j < a2 → m 48 j.toNat = m0 50 (10 * i + j).toNat) → w_X10_back_25 i (bkM m0 i) a2 m := by
  have hfin : ∀ (a2 : Int) (m : Mem), a2 = 10 → Fr [48] m0 m → (∀ j : Int, 0 ≤ j → j < a2 → m 48 j.toNat = m0 50 (10 * i + j).toNat) → ∀ m1 : Mem, m1 = (mset m 44 11 0) → (bkM m0 i (m1 48 0) m1) := by
    intro a2 m e hF hx m1 e1
    refine Or.inl ⟨hi, Or.inr ⟨hn, rfl, ?_, ?_, ?_, fun j j0 j1 => ?_⟩⟩
    · rw [e1]; exact (hF.mono (by decide)).set (by decide)
    · rw [e1]; exact sl11_set (fun k _ => by rw [hF.at 44])
    · rw [e1, mset_eq]
    · rw [e1, mset_ne 48 (by decide)]
      exact hx j j0 (by omega)
  intro k
  induction k with
  | zero =>
    intro a2 m h0 h1 hk hF hx
    exact v_X10_back_25 ⟨fun _ => hfin a2 m (by omega) hF hx, fun q => by omega⟩
  | succ k ih =>
    intro a2 m h0 h1 hk hF hx
    refine v_X10_back_25 ⟨fun q => hfin a2 m (by omega) hF hx, fun q => ?_⟩
    rw [hF.at 50]
    refine ⟨by unfold inR; omega, by unfold inR; omega, by omega, by omega, h0, fun m8 e8 => ⟨by unfold inR; omega, ?_⟩⟩
    rw [e8]
    refine ih _ _ (by omega) (by omega) (by omega) (hF.set (by decide)) (fun j j0 j1 => ?_)
    rw [mset_at]
    by_cases c : j = a2
    · rw [c, if_pos ⟨rfl, rfl⟩]
    · rw [if_neg (by omega)]
      exact hx j j0 (by omega)
theorem c_X10_back {m0 : Mem} {i : Int} : Tot mX10_back 0 0 [vR 44, vI i] SH m0 (Pr SH (bkM m0 i)) :=
  v_X10_back ⟨fun q => ⟨by omega, fun z => bk_loop q z 10 0 m0 (by omega) (by omega) (by omega) Fr.rf (fun j j0 j1 => by omega), fun z => Or.inl ⟨q, Or.inl ⟨z, rfl, rfl⟩⟩⟩, fun q => Or.inr ⟨q, rfl, rfl⟩⟩
def baP (m0 m : Mem) : Prop := Fr [48] m0 m ∧ ∀ j : Int, 0 ≤ j → j < 10 → m 48 j.toNat = if 2 ≤ j ∧ j ≤ 5 then -9 else 0
theorem ba_loop {m0 : Mem} : ∀ (k : Nat) (a1 : Int) (m : Mem), 0 ≤ a1 → a1 ≤ 10 → (10 - a1).toNat ≤ k → Fr [48] m0 m → (∀ j : Int, 0 ≤ j → j < a1 → m 48 j.toNat = if 2 ≤ j ∧ j ≤ 5 then -9 else 0) → w_X10_bare_2 (baP m0) a1 m := by
  intro k
  induction k with
  | zero =>
    intro a1 m h0 h1 hk hF hx
    exact v_X10_bare_2 ⟨fun _ => ⟨hF, fun j j0 j1 => hx j j0 (by omega)⟩, fun q => by omega⟩
  | succ k ih =>
    intro a1 m h0 h1 hk hF hx
    refine v_X10_bare_2 ⟨fun q => ⟨hF, fun j j0 j1 => hx j j0 (by omega)⟩, fun q => ⟨fun z => ⟨h0, fun m2 e2 => ⟨by unfold inR; omega, ?_⟩⟩, fun z => ⟨h0, fun m2 e2 => ⟨by unfold inR; omega, ?_⟩⟩⟩⟩
    all_goals
      rw [e2]
      refine ih _ _ (by omega) (by omega) (by omega) (hF.set (by decide)) (fun j j0 j1 => ?_)
      rw [mset_at]
      by_cases c : j = a1
      · rw [c, if_pos ⟨rfl, rfl⟩]
        first
          | rw [if_neg z]
          | rw [if_pos z]
      · rw [if_neg (by omega)]
        exact hx j j0 (by omega)
theorem c_X10_bare {m0 : Mem} : Tot mX10_bare 0 0 [vR 44] SH m0 (Pn SH (baP m0)) := v_X10_bare (ba_loop 10 0 m0 (by omega) (by omega) (by omega) Fr.rf (fun j j0 j1 => by omega))
