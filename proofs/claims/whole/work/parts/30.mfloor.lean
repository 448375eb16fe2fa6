/-! THE MODEL'S FLOOR: thickNow, layCells, asNow, mayLie -/
set_option maxRecDepth 20000 in
theorem v_X10_thickNow {s wn : Int} {P : Int → Mem → Prop} {mem : Mem}  (H : (inR (4 * s)) ∧ ((0 ≤ (4 * s)) ∧ (((4 * s) < 16) ∧ ((0 ≤ wn) ∧ ((inR ((mem 46 (4 * s).toNat) - (wn / 10))) ∧ ((((mem 46 (4 * s).toNat) - (wn / 10)) ≤ 0 → P 0 mem) ∧ (0 < ((mem 46 (4 * s).toNat) - (wn / 10)) → P ((mem 46 (4 * s).toNat) - (wn / 10)) mem))))))) : Tot mX10_thickNow 0 0 [vR 44, vI s, vI wn] SH mem (Pr SH P) := by
  refine Tot.of rfl (Nat.le_of_ble_eq_true rfl) (by simp [isJ]) (ls := [vR 44, vI s, vI wn, vJ 0]) rfl ?_
  refine q_aload_n dX10_thickNow_0 rfl ?_
  refine q_getr (r := 46) dX10_thickNow_1 lf_RX10_23 s44 rfl rfl ?_
  refine q_iconst dX10_thickNow_4 (by decide) ?_
  refine q_iload_n dX10_thickNow_5 rfl ?_
  obtain ⟨h1, H⟩ := H
  refine q_imul dX10_thickNow_6 h1 ?_
  obtain ⟨h2, H⟩ := H
  obtain ⟨h3, H⟩ := H
  refine q_iald dX10_thickNow_7 s46 h2 h3 ?_
  refine q_iload_n dX10_thickNow_8 rfl ?_
  refine q_bipush dX10_thickNow_9 rfl (by decide) ?_
  obtain ⟨h4, H⟩ := H
  refine q_idiv dX10_thickNow_11 h4 (by decide) ?_
  obtain ⟨h5, H⟩ := H
  refine q_isub dX10_thickNow_12 h5 ?_
  refine q_istore_n dX10_thickNow_13 (by decide) rfl ?_
  refine q_iload_n dX10_thickNow_14 rfl ?_
  refine q_if_le (tgt := 22) dX10_thickNow_15 (by decide) (fun c15 => ?_) (fun c15 => ?_)
  · have H := H.1 c15
    refine q_iconst dX10_thickNow_22 (by decide) ?_
    exact q_iret dX10_thickNow_23 rfl ⟨_, rfl, rfl, H⟩
  · have H := H.2 c15
    refine q_iload_n dX10_thickNow_18 rfl ?_
    refine q_goto (tgt := 23) dX10_thickNow_19 (by decide) ?_
    exact q_iret dX10_thickNow_23 rfl ⟨_, rfl, rfl, H⟩

def w_X10_layCells_2 (P : Mem → Prop) (a1 : Int) (u2 : Vl) (mem : Mem) : Prop := WP mX10_layCells none 0 0 (Pn SH P) 2 [vR 44, vI a1, u2] [] SH mem
def w_X10_layCells_24 (P : Mem → Prop) (a1 : Int) (u2 : Vl) (mem : Mem) : Prop := WP mX10_layCells none 0 0 (Pn SH P) 24 [vR 44, vI a1, u2] [] SH mem
def w_X10_layCells_34 (P : Mem → Prop) (a1 : Int) (a2 : Int) (mem : Mem) : Prop := WP mX10_layCells none 0 0 (Pn SH P) 34 [vR 44, vI a1, vI a2] [] SH mem
set_option maxRecDepth 20000 in
theorem v_X10_layCells_2 {P : Mem → Prop} {a1 : Int} {u2 : Vl} {mem : Mem}  (H : (12 ≤ a1 → w_X10_layCells_24 P 0 u2 mem) ∧ (a1 < 12 → (0 ≤ a1) ∧ (∀ m2 : Mem, m2 = mset mem 61 a1.toNat (-9) → ((inR (a1 + 1)) ∧ (w_X10_layCells_2 P (a1 + 1) u2 m2))))) : w_X10_layCells_2 P a1 u2 mem := by
  unfold w_X10_layCells_2
  refine q_iload_n dX10_layCells_2 rfl ?_
  refine q_bipush dX10_layCells_3 rfl (by decide) ?_
  refine q_icmp_ge (tgt := 22) dX10_layCells_5 (by decide) (fun c5 => ?_) (fun c5 => ?_)
  · have H := H.1 c5
    refine q_iconst dX10_layCells_22 (by decide) ?_
    refine q_istore_n dX10_layCells_23 (by decide) rfl ?_
    exact H
  · have H := H.2 c5
    refine q_aload_n dX10_layCells_8 rfl ?_
    refine q_getr (r := 61) dX10_layCells_9 lf_RX10_69 s44 rfl rfl ?_
    refine q_iload_n dX10_layCells_12 rfl ?_
    refine q_bipush dX10_layCells_13 rfl (by decide) ?_
    obtain ⟨h1, H⟩ := H
    refine q_iast dX10_layCells_15 s61 h1 c5 ?_
    have H := H _ rfl
    obtain ⟨h3, H⟩ := H
    refine q_iinc dX10_layCells_16 rfl h3 rfl ?_
    refine q_goto (tgt := 2) dX10_layCells_19 (by decide) ?_
    exact H
set_option maxRecDepth 20000 in
theorem v_X10_layCells_24 {P : Mem → Prop} {a1 : Int} {u2 : Vl} {mem : Mem}  (H : ((mem 44 5) ≤ a1 → P mem) ∧ (a1 < (mem 44 5) → w_X10_layCells_34 P a1 0 mem)) : w_X10_layCells_24 P a1 u2 mem := by
  unfold w_X10_layCells_24
  refine q_iload_n dX10_layCells_24 rfl ?_
  refine q_aload_n dX10_layCells_25 rfl ?_
  refine q_geti dX10_layCells_26 lf_RX10_94 s44 rfl ?_
  refine q_icmp_ge (tgt := 120) dX10_layCells_29 (by decide) (fun c29 => ?_) (fun c29 => ?_)
  · have H := H.1 c29
    exact q_vret dX10_layCells_120 rfl ⟨rfl, rfl, H⟩
  · have H := H.2 c29
    refine q_iconst dX10_layCells_32 (by decide) ?_
    refine q_istore_n dX10_layCells_33 (by decide) rfl ?_
    exact H
set_option maxRecDepth 20000 in
theorem v_X10_layCells_34 {P : Mem → Prop} {a1 : Int} {a2 : Int} {mem : Mem}  (H : (9 ≤ a2 → (inR (a1 + 1)) ∧ (w_X10_layCells_24 P (a1 + 1) (vI a2) mem)) ∧ (a2 < 9 → (0 ≤ a1) ∧ ((a1 < 4) ∧ (((mem 59 a1.toNat) = (-9) → (inR (a1 + 1)) ∧ (w_X10_layCells_24 P (a1 + 1) (vI a2) mem)) ∧ (¬ (mem 59 a1.toNat) = (-9) → (0 ≤ a2) ∧ ((inR (4 * a1)) ∧ ((inR ((4 * a1) + 1)) ∧ ((0 ≤ ((4 * a1) + 1)) ∧ ((((4 * a1) + 1) < 16) ∧ (((mem 46 ((4 * a1) + 1).toNat) ≤ (a2 % 3) → (inR (a2 + 1)) ∧ (w_X10_layCells_34 P a1 (a2 + 1) mem)) ∧ ((a2 % 3) < (mem 46 ((4 * a1) + 1).toNat) → (inR ((4 * a1) + 2)) ∧ ((0 ≤ ((4 * a1) + 2)) ∧ ((((4 * a1) + 2) < 16) ∧ (((mem 46 ((4 * a1) + 2).toNat) ≤ (a2 / 3) → (inR (a2 + 1)) ∧ (w_X10_layCells_34 P a1 (a2 + 1) mem)) ∧ ((a2 / 3) < (mem 46 ((4 * a1) + 2).toNat) → (inR ((mem 59 a1.toNat) + (a2 % 3))) ∧ ((inR ((mem 44 0) * (a2 / 3))) ∧ ((inR (((mem 59 a1.toNat) + (a2 % 3)) + ((mem 44 0) * (a2 / 3)))) ∧ ((0 ≤ (((mem 59 a1.toNat) + (a2 % 3)) + ((mem 44 0) * (a2 / 3)))) ∧ (((((mem 59 a1.toNat) + (a2 % 3)) + ((mem 44 0) * (a2 / 3))) < 12) ∧ (∀ m20 : Mem, m20 = mset mem 61 (((mem 59 a1.toNat) + (a2 % 3)) + ((mem 44 0) * (a2 / 3))).toNat a1 → ((inR (a2 + 1)) ∧ (w_X10_layCells_34 P a1 (a2 + 1) m20)))))))))))))))))))))) : w_X10_layCells_34 P a1 a2 mem := by
  unfold w_X10_layCells_34
  refine q_iload_n dX10_layCells_34 rfl ?_
  refine q_bipush dX10_layCells_35 rfl (by decide) ?_
  refine q_icmp_ge (tgt := 114) dX10_layCells_37 (by decide) (fun c37 => ?_) (fun c37 => ?_)
  · have H := H.1 c37
    obtain ⟨h1, H⟩ := H
    refine q_iinc dX10_layCells_114 rfl h1 rfl ?_
    refine q_goto (tgt := 24) dX10_layCells_117 (by decide) ?_
    exact H
  · have H := H.2 c37
    refine q_aload_n dX10_layCells_40 rfl ?_
    refine q_getr (r := 59) dX10_layCells_41 lf_RX10_63 s44 rfl rfl ?_
    refine q_iload_n dX10_layCells_44 rfl ?_
    obtain ⟨h2, H⟩ := H
    obtain ⟨h3, H⟩ := H
    refine q_iald dX10_layCells_45 s59 h2 h3 ?_
    refine q_bipush dX10_layCells_46 rfl (by decide) ?_
    refine q_icmp_eq (tgt := 114) dX10_layCells_48 (by decide) (fun c48 => ?_) (fun c48 => ?_)
    · have H := H.1 c48
      obtain ⟨h4, H⟩ := H
      refine q_iinc dX10_layCells_114 rfl h4 rfl ?_
      refine q_goto (tgt := 24) dX10_layCells_117 (by decide) ?_
      exact H
    · have H := H.2 c48
      refine q_iload_n dX10_layCells_51 rfl ?_
      refine q_iconst dX10_layCells_52 (by decide) ?_
      obtain ⟨h5, H⟩ := H
      refine q_irem dX10_layCells_53 h5 (by decide) ?_
      refine q_aload_n dX10_layCells_54 rfl ?_
      refine q_getr (r := 46) dX10_layCells_55 lf_RX10_23 s44 rfl rfl ?_
      refine q_iconst dX10_layCells_58 (by decide) ?_
      refine q_iload_n dX10_layCells_59 rfl ?_
      obtain ⟨h6, H⟩ := H
      refine q_imul dX10_layCells_60 h6 ?_
      refine q_iconst dX10_layCells_61 (by decide) ?_
      obtain ⟨h7, H⟩ := H
      refine q_iadd dX10_layCells_62 h7 ?_
      obtain ⟨h8, H⟩ := H
      obtain ⟨h9, H⟩ := H
      refine q_iald dX10_layCells_63 s46 h8 h9 ?_
      refine q_icmp_ge (tgt := 108) dX10_layCells_64 (by decide) (fun c64 => ?_) (fun c64 => ?_)
      · have H := H.1 c64
        obtain ⟨h10, H⟩ := H
        refine q_iinc dX10_layCells_108 rfl h10 rfl ?_
        refine q_goto (tgt := 34) dX10_layCells_111 (by decide) ?_
        exact H
      · have H := H.2 c64
        refine q_iload_n dX10_layCells_67 rfl ?_
        refine q_iconst dX10_layCells_68 (by decide) ?_
        refine q_idiv dX10_layCells_69 h5 (by decide) ?_
        refine q_aload_n dX10_layCells_70 rfl ?_
        refine q_getr (r := 46) dX10_layCells_71 lf_RX10_23 s44 rfl rfl ?_
        refine q_iconst dX10_layCells_74 (by decide) ?_
        refine q_iload_n dX10_layCells_75 rfl ?_
        refine q_imul dX10_layCells_76 h6 ?_
        refine q_iconst dX10_layCells_77 (by decide) ?_
        obtain ⟨h11, H⟩ := H
        refine q_iadd dX10_layCells_78 h11 ?_
        obtain ⟨h12, H⟩ := H
        obtain ⟨h13, H⟩ := H
        refine q_iald dX10_layCells_79 s46 h12 h13 ?_
        refine q_icmp_ge (tgt := 108) dX10_layCells_80 (by decide) (fun c80 => ?_) (fun c80 => ?_)
        · have H := H.1 c80
          obtain ⟨h14, H⟩ := H
          refine q_iinc dX10_layCells_108 rfl h14 rfl ?_
          refine q_goto (tgt := 34) dX10_layCells_111 (by decide) ?_
          exact H
        · have H := H.2 c80
          refine q_aload_n dX10_layCells_83 rfl ?_
          refine q_getr (r := 61) dX10_layCells_84 lf_RX10_69 s44 rfl rfl ?_
          refine q_aload_n dX10_layCells_87 rfl ?_
          refine q_getr (r := 59) dX10_layCells_88 lf_RX10_63 s44 rfl rfl ?_
          refine q_iload_n dX10_layCells_91 rfl ?_
          refine q_iald dX10_layCells_92 s59 h2 h3 ?_
          refine q_iload_n dX10_layCells_93 rfl ?_
          refine q_iconst dX10_layCells_94 (by decide) ?_
          refine q_irem dX10_layCells_95 h5 (by decide) ?_
          obtain ⟨h15, H⟩ := H
          refine q_iadd dX10_layCells_96 h15 ?_
          refine q_aload_n dX10_layCells_97 rfl ?_
          refine q_geti dX10_layCells_98 lf_RX10_7 s44 rfl ?_
          refine q_iload_n dX10_layCells_101 rfl ?_
          refine q_iconst dX10_layCells_102 (by decide) ?_
          refine q_idiv dX10_layCells_103 h5 (by decide) ?_
          obtain ⟨h16, H⟩ := H
          refine q_imul dX10_layCells_104 h16 ?_
          obtain ⟨h17, H⟩ := H
          refine q_iadd dX10_layCells_105 h17 ?_
          refine q_iload_n dX10_layCells_106 rfl ?_
          obtain ⟨h18, H⟩ := H
          obtain ⟨h19, H⟩ := H
          refine q_iast dX10_layCells_107 s61 h18 h19 ?_
          have H := H _ rfl
          obtain ⟨h21, H⟩ := H
          refine q_iinc dX10_layCells_108 rfl h21 rfl ?_
          refine q_goto (tgt := 34) dX10_layCells_111 (by decide) ?_
          exact H
set_option maxRecDepth 20000 in
theorem v_X10_layCells {P : Mem → Prop} {mem : Mem}  (H : w_X10_layCells_2 P 0 (vJ 0) mem) : Tot mX10_layCells 0 0 [vR 44] SH mem (Pn SH P) := by
  refine Tot.of rfl (Nat.le_of_ble_eq_true rfl) (by simp [isJ]) (ls := [vR 44, vJ 0, vJ 0]) rfl ?_
  refine q_iconst dX10_layCells_0 (by decide) ?_
  refine q_istore_n dX10_layCells_1 (by decide) rfl ?_
  exact H

set_option maxRecDepth 20000 in
theorem v_X10_sounds {n hr : Int} {P : Int → Mem → Prop} {mem : Mem}  (H : (inR (4 * n)) ∧ ((inR ((4 * n) + 2)) ∧ ((0 ≤ ((4 * n) + 2)) ∧ ((((4 * n) + 2) < 12) ∧ ((inR ((4 * n) + 3)) ∧ ((0 ≤ ((4 * n) + 3)) ∧ ((((4 * n) + 3) < 12) ∧ (P (if (mem 45 ((4 * n) + 2).toNat) ≤ hr ∧ hr ≤ (mem 45 ((4 * n) + 3).toNat) then (1 : Int) else 0) mem)))))))) : Tot mX10_sounds 0 0 [vR 44, vI n, vI hr] SH mem (Pr SH P) := by
  refine Tot.of rfl (Nat.le_of_ble_eq_true rfl) (by simp [isJ]) (ls := [vR 44, vI n, vI hr]) rfl ?_
  refine q_iload_n dX10_sounds_0 rfl ?_
  refine q_aload_n dX10_sounds_1 rfl ?_
  refine q_getr (r := 45) dX10_sounds_2 lf_RX10_19 s44 rfl rfl ?_
  refine q_iconst dX10_sounds_5 (by decide) ?_
  refine q_iload_n dX10_sounds_6 rfl ?_
  obtain ⟨h1, H⟩ := H
  refine q_imul dX10_sounds_7 h1 ?_
  refine q_iconst dX10_sounds_8 (by decide) ?_
  obtain ⟨h2, H⟩ := H
  refine q_iadd dX10_sounds_9 h2 ?_
  obtain ⟨h3, H⟩ := H
  obtain ⟨h4, H⟩ := H
  refine q_iald dX10_sounds_10 s45 h3 h4 ?_
  refine q_aload_n dX10_sounds_11 rfl ?_
  refine q_getr (r := 45) dX10_sounds_12 lf_RX10_19 s44 rfl rfl ?_
  refine q_iconst dX10_sounds_15 (by decide) ?_
  refine q_iload_n dX10_sounds_16 rfl ?_
  refine q_imul dX10_sounds_17 h1 ?_
  refine q_iconst dX10_sounds_18 (by decide) ?_
  obtain ⟨h5, H⟩ := H
  refine q_iadd dX10_sounds_19 h5 ?_
  obtain ⟨h6, H⟩ := H
  obtain ⟨h7, H⟩ := H
  refine q_iald dX10_sounds_20 s45 h6 h7 ?_
  refine q_cSi (as := [vI _, vI _, vI _]) dX10_sounds_21 kmX10_in ktX10_in lm_RX10_90 ⟨by decide, by decide⟩ rfl rfl (Nat.le_of_ble_eq_true rfl) (c_X10_in) (fun v m1 hq => ?_)
  obtain ⟨rfl, rfl⟩ := hq
  exact q_zret dX10_sounds_24 rfl b_01 ⟨_, rfl, rfl, H⟩

set_option maxRecDepth 20000 in
theorem v_X10_isCell {c : Int} {P : Int → Mem → Prop} {mem : Mem}  (H : (inR ((mem 44 0) * (mem 44 1))) ∧ ((inR (((mem 44 0) * (mem 44 1)) - 1)) ∧ (P (if 0 ≤ c ∧ c ≤ (((mem 44 0) * (mem 44 1)) - 1) then (1 : Int) else 0) mem))) : Tot mX10_isCell 0 0 [vR 44, vI c] SH mem (Pr SH P) := by
  refine Tot.of rfl (Nat.le_of_ble_eq_true rfl) (by simp [isJ]) (ls := [vR 44, vI c]) rfl ?_
  refine q_iload_n dX10_isCell_0 rfl ?_
  refine q_iconst dX10_isCell_1 (by decide) ?_
  refine q_aload_n dX10_isCell_2 rfl ?_
  refine q_geti dX10_isCell_3 lf_RX10_7 s44 rfl ?_
  refine q_aload_n dX10_isCell_6 rfl ?_
  refine q_geti dX10_isCell_7 lf_RX10_13 s44 rfl ?_
  obtain ⟨h1, H⟩ := H
  refine q_imul dX10_isCell_10 h1 ?_
  refine q_iconst dX10_isCell_11 (by decide) ?_
  obtain ⟨h2, H⟩ := H
  refine q_isub dX10_isCell_12 h2 ?_
  refine q_cSi (as := [vI _, vI _, vI _]) dX10_isCell_13 kmX10_in ktX10_in lm_RX10_90 ⟨by decide, by decide⟩ rfl rfl (Nat.le_of_ble_eq_true rfl) (c_X10_in) (fun v m1 hq => ?_)
  obtain ⟨rfl, rfl⟩ := hq
  exact q_zret dX10_isCell_16 rfl b_01 ⟨_, rfl, rfl, H⟩

set_option maxRecDepth 20000 in
theorem v_X10_isSheet {s : Int} {P : Int → Mem → Prop} {mem : Mem}  (H : (inR ((mem 44 5) - 1)) ∧ (P (if 0 ≤ s ∧ s ≤ ((mem 44 5) - 1) then (1 : Int) else 0) mem)) : Tot mX10_isSheet 0 0 [vR 44, vI s] SH mem (Pr SH P) := by
  refine Tot.of rfl (Nat.le_of_ble_eq_true rfl) (by simp [isJ]) (ls := [vR 44, vI s]) rfl ?_
  refine q_iload_n dX10_isSheet_0 rfl ?_
  refine q_iconst dX10_isSheet_1 (by decide) ?_
  refine q_aload_n dX10_isSheet_2 rfl ?_
  refine q_geti dX10_isSheet_3 lf_RX10_94 s44 rfl ?_
  refine q_iconst dX10_isSheet_6 (by decide) ?_
  obtain ⟨h1, H⟩ := H
  refine q_isub dX10_isSheet_7 h1 ?_
  refine q_cSi (as := [vI _, vI _, vI _]) dX10_isSheet_8 kmX10_in ktX10_in lm_RX10_90 ⟨by decide, by decide⟩ rfl rfl (Nat.le_of_ble_eq_true rfl) (c_X10_in) (fun v m1 hq => ?_)
  obtain ⟨rfl, rfl⟩ := hq
  exact q_zret dX10_isSheet_11 rfl b_01 ⟨_, rfl, rfl, H⟩

set_option maxRecDepth 20000 in
theorem v_X10_isStrength {n : Int} {P : Int → Mem → Prop} {mem : Mem}  (H : P (if 1 ≤ n ∧ n ≤ 99 then (1 : Int) else 0) mem) : Tot mX10_isStrength 0 0 [vI n] SH mem (Pr SH P) := by
  refine Tot.of rfl (Nat.le_of_ble_eq_true rfl) (by simp [isJ]) (ls := [vI n]) rfl ?_
  refine q_iload_n dX10_isStrength_0 rfl ?_
  refine q_iconst dX10_isStrength_1 (by decide) ?_
  refine q_bipush dX10_isStrength_2 rfl (by decide) ?_
  refine q_cSi (as := [vI _, vI _, vI _]) dX10_isStrength_4 kmX10_in ktX10_in lm_RX10_90 ⟨by decide, by decide⟩ rfl rfl (Nat.le_of_ble_eq_true rfl) (c_X10_in) (fun v m1 hq => ?_)
  obtain ⟨rfl, rfl⟩ := hq
  exact q_zret dX10_isStrength_7 rfl b_01 ⟨_, rfl, rfl, H⟩

def w_X10_mayLie_57 (s c : Int) (P : Int → Mem → Prop) (a3 : Int) (a4 : Int) (u5 : Vl) (mem : Mem) : Prop := WP mX10_mayLie none 0 0 (Pr SH P) 57 [vR 44, vI s, vI c, vI a3, vI a4, u5] [] SH mem
set_option maxRecDepth 20000 in
theorem v_X10_mayLie_57 {s c : Int} {P : Int → Mem → Prop} {a3 : Int} {a4 : Int} {u5 : Vl} {mem : Mem}  (H : (9 ≤ a4 → (a3 = 0 ∨ a3 = 1) ∧ (P a3 mem)) ∧ (a4 < 9 → (a3 = 0 → (a3 = 0 ∨ a3 = 1) ∧ (P a3 mem)) ∧ (¬ a3 = 0 → (0 ≤ a4) ∧ ((inR (4 * s)) ∧ ((inR ((4 * s) + 1)) ∧ ((0 ≤ ((4 * s) + 1)) ∧ ((((4 * s) + 1) < 16) ∧ (((mem 46 ((4 * s) + 1).toNat) ≤ (a4 % 3) → (inR (a4 + 1)) ∧ (w_X10_mayLie_57 s c P 1 (a4 + 1) (vI 0) mem)) ∧ ((a4 % 3) < (mem 46 ((4 * s) + 1).toNat) → (inR ((4 * s) + 2)) ∧ ((0 ≤ ((4 * s) + 2)) ∧ ((((4 * s) + 2) < 16) ∧ (((mem 46 ((4 * s) + 2).toNat) ≤ (a4 / 3) → (inR (a4 + 1)) ∧ (w_X10_mayLie_57 s c P 1 (a4 + 1) (vI 0) mem)) ∧ ((a4 / 3) < (mem 46 ((4 * s) + 2).toNat) → (inR (c + (a4 % 3))) ∧ ((inR ((mem 44 0) * (a4 / 3))) ∧ ((inR ((c + (a4 % 3)) + ((mem 44 0) * (a4 / 3)))) ∧ ((0 ≤ ((c + (a4 % 3)) + ((mem 44 0) * (a4 / 3)))) ∧ ((((c + (a4 % 3)) + ((mem 44 0) * (a4 / 3))) < 12) ∧ ((¬ (mem 61 ((c + (a4 % 3)) + ((mem 44 0) * (a4 / 3))).toNat) = (-9) → (inR (a4 + 1)) ∧ (w_X10_mayLie_57 s c P 0 (a4 + 1) (vI 1) mem)) ∧ ((mem 61 ((c + (a4 % 3)) + ((mem 44 0) * (a4 / 3))).toNat) = (-9) → (inR (a4 + 1)) ∧ (w_X10_mayLie_57 s c P 1 (a4 + 1) (vI 1) mem)))))))))))))))))))) : w_X10_mayLie_57 s c P a3 a4 u5 mem := by
  unfold w_X10_mayLie_57
  refine q_iload dX10_mayLie_57 rfl ?_
  refine q_bipush dX10_mayLie_59 rfl (by decide) ?_
  refine q_icmp_ge (tgt := 152) dX10_mayLie_61 (by decide) (fun c61 => ?_) (fun c61 => ?_)
  · have H := H.1 c61
    refine q_iload_n dX10_mayLie_152 rfl ?_
    obtain ⟨h1, H⟩ := H
    exact q_zret dX10_mayLie_153 rfl h1 ⟨_, rfl, rfl, H⟩
  · have H := H.2 c61
    refine q_iload_n dX10_mayLie_64 rfl ?_
    refine q_if_eq (tgt := 152) dX10_mayLie_65 (by decide) (fun c65 => ?_) (fun c65 => ?_)
    · have H := H.1 c65
      refine q_iload_n dX10_mayLie_152 rfl ?_
      obtain ⟨h2, H⟩ := H
      exact q_zret dX10_mayLie_153 rfl h2 ⟨_, rfl, rfl, H⟩
    · have H := H.2 c65
      refine q_iload dX10_mayLie_68 rfl ?_
      refine q_iconst dX10_mayLie_70 (by decide) ?_
      obtain ⟨h3, H⟩ := H
      refine q_irem dX10_mayLie_71 h3 (by decide) ?_
      refine q_aload_n dX10_mayLie_72 rfl ?_
      refine q_getr (r := 46) dX10_mayLie_73 lf_RX10_23 s44 rfl rfl ?_
      refine q_iconst dX10_mayLie_76 (by decide) ?_
      refine q_iload_n dX10_mayLie_77 rfl ?_
      obtain ⟨h4, H⟩ := H
      refine q_imul dX10_mayLie_78 h4 ?_
      refine q_iconst dX10_mayLie_79 (by decide) ?_
      obtain ⟨h5, H⟩ := H
      refine q_iadd dX10_mayLie_80 h5 ?_
      obtain ⟨h6, H⟩ := H
      obtain ⟨h7, H⟩ := H
      refine q_iald dX10_mayLie_81 s46 h6 h7 ?_
      refine q_icmp_ge (tgt := 106) dX10_mayLie_82 (by decide) (fun c82 => ?_) (fun c82 => ?_)
      · have H := H.1 c82
        refine q_iconst dX10_mayLie_106 (by decide) ?_
        refine q_istore dX10_mayLie_107 (by decide) rfl ?_
        refine q_iload dX10_mayLie_109 rfl ?_
        refine q_if_eq (tgt := 140) dX10_mayLie_111 (by decide) (fun _ => ?_) (fun c => absurd c (by decide))
        refine q_iconst dX10_mayLie_140 (by decide) ?_
        refine q_goto (tgt := 145) dX10_mayLie_141 (by decide) ?_
        refine q_istore_n dX10_mayLie_145 (by decide) rfl ?_
        obtain ⟨h8, H⟩ := H
        refine q_iinc dX10_mayLie_146 rfl h8 rfl ?_
        refine q_goto (tgt := 57) dX10_mayLie_149 (by decide) ?_
        exact H
      · have H := H.2 c82
        refine q_iload dX10_mayLie_85 rfl ?_
        refine q_iconst dX10_mayLie_87 (by decide) ?_
        refine q_idiv dX10_mayLie_88 h3 (by decide) ?_
        refine q_aload_n dX10_mayLie_89 rfl ?_
        refine q_getr (r := 46) dX10_mayLie_90 lf_RX10_23 s44 rfl rfl ?_
        refine q_iconst dX10_mayLie_93 (by decide) ?_
        refine q_iload_n dX10_mayLie_94 rfl ?_
        refine q_imul dX10_mayLie_95 h4 ?_
        refine q_iconst dX10_mayLie_96 (by decide) ?_
        obtain ⟨h9, H⟩ := H
        refine q_iadd dX10_mayLie_97 h9 ?_
        obtain ⟨h10, H⟩ := H
        obtain ⟨h11, H⟩ := H
        refine q_iald dX10_mayLie_98 s46 h10 h11 ?_
        refine q_icmp_ge (tgt := 106) dX10_mayLie_99 (by decide) (fun c99 => ?_) (fun c99 => ?_)
        · have H := H.1 c99
          refine q_iconst dX10_mayLie_106 (by decide) ?_
          refine q_istore dX10_mayLie_107 (by decide) rfl ?_
          refine q_iload dX10_mayLie_109 rfl ?_
          refine q_if_eq (tgt := 140) dX10_mayLie_111 (by decide) (fun _ => ?_) (fun c => absurd c (by decide))
          refine q_iconst dX10_mayLie_140 (by decide) ?_
          refine q_goto (tgt := 145) dX10_mayLie_141 (by decide) ?_
          refine q_istore_n dX10_mayLie_145 (by decide) rfl ?_
          obtain ⟨h12, H⟩ := H
          refine q_iinc dX10_mayLie_146 rfl h12 rfl ?_
          refine q_goto (tgt := 57) dX10_mayLie_149 (by decide) ?_
          exact H
        · have H := H.2 c99
          refine q_iconst dX10_mayLie_102 (by decide) ?_
          refine q_goto (tgt := 107) dX10_mayLie_103 (by decide) ?_
          refine q_istore dX10_mayLie_107 (by decide) rfl ?_
          refine q_iload dX10_mayLie_109 rfl ?_
          refine q_if_eq (tgt := 140) dX10_mayLie_111 (by decide) (fun c => absurd c (by decide)) (fun _ => ?_)
          refine q_aload_n dX10_mayLie_114 rfl ?_
          refine q_getr (r := 61) dX10_mayLie_115 lf_RX10_69 s44 rfl rfl ?_
          refine q_iload_n dX10_mayLie_118 rfl ?_
          refine q_iload dX10_mayLie_119 rfl ?_
          refine q_iconst dX10_mayLie_121 (by decide) ?_
          refine q_irem dX10_mayLie_122 h3 (by decide) ?_
          obtain ⟨h13, H⟩ := H
          refine q_iadd dX10_mayLie_123 h13 ?_
          refine q_aload_n dX10_mayLie_124 rfl ?_
          refine q_geti dX10_mayLie_125 lf_RX10_7 s44 rfl ?_
          refine q_iload dX10_mayLie_128 rfl ?_
          refine q_iconst dX10_mayLie_130 (by decide) ?_
          refine q_idiv dX10_mayLie_131 h3 (by decide) ?_
          obtain ⟨h14, H⟩ := H
          refine q_imul dX10_mayLie_132 h14 ?_
          obtain ⟨h15, H⟩ := H
          refine q_iadd dX10_mayLie_133 h15 ?_
          obtain ⟨h16, H⟩ := H
          obtain ⟨h17, H⟩ := H
          refine q_iald dX10_mayLie_134 s61 h16 h17 ?_
          refine q_bipush dX10_mayLie_135 rfl (by decide) ?_
          refine q_icmp_ne (tgt := 144) dX10_mayLie_137 (by decide) (fun c137 => ?_) (fun c137 => ?_)
          · have H := H.1 c137
            refine q_iconst dX10_mayLie_144 (by decide) ?_
            refine q_istore_n dX10_mayLie_145 (by decide) rfl ?_
            obtain ⟨h18, H⟩ := H
            refine q_iinc dX10_mayLie_146 rfl h18 rfl ?_
            refine q_goto (tgt := 57) dX10_mayLie_149 (by decide) ?_
            exact H
          · have H := H.2 c137
            refine q_iconst dX10_mayLie_140 (by decide) ?_
            refine q_goto (tgt := 145) dX10_mayLie_141 (by decide) ?_
            refine q_istore_n dX10_mayLie_145 (by decide) rfl ?_
            obtain ⟨h19, H⟩ := H
            refine q_iinc dX10_mayLie_146 rfl h19 rfl ?_
            refine q_goto (tgt := 57) dX10_mayLie_149 (by decide) ?_
            exact H
set_option maxRecDepth 20000 in
theorem v_X10_mayLie {s c : Int} {P : Int → Mem → Prop} {mem : Mem}  (H : (0 ≤ c) ∧ ((0 < (mem 44 0)) ∧ ((inR (4 * s)) ∧ ((inR ((4 * s) + 1)) ∧ ((0 ≤ ((4 * s) + 1)) ∧ ((((4 * s) + 1) < 16) ∧ ((inR ((c % (mem 44 0)) + (mem 46 ((4 * s) + 1).toNat))) ∧ (((mem 44 0) < ((c % (mem 44 0)) + (mem 46 ((4 * s) + 1).toNat)) → w_X10_mayLie_57 s c P 0 0 (vJ 0) mem) ∧ (((c % (mem 44 0)) + (mem 46 ((4 * s) + 1).toNat)) ≤ (mem 44 0) → (inR ((4 * s) + 2)) ∧ ((0 ≤ ((4 * s) + 2)) ∧ ((((4 * s) + 2) < 16) ∧ ((inR ((c / (mem 44 0)) + (mem 46 ((4 * s) + 2).toNat))) ∧ (((mem 44 1) < ((c / (mem 44 0)) + (mem 46 ((4 * s) + 2).toNat)) → w_X10_mayLie_57 s c P 0 0 (vJ 0) mem) ∧ (((c / (mem 44 0)) + (mem 46 ((4 * s) + 2).toNat)) ≤ (mem 44 1) → w_X10_mayLie_57 s c P 1 0 (vJ 0) mem)))))))))))))) : Tot mX10_mayLie 0 0 [vR 44, vI s, vI c] SH mem (Pr SH P) := by
  refine Tot.of rfl (Nat.le_of_ble_eq_true rfl) (by simp [isJ]) (ls := [vR 44, vI s, vI c, vJ 0, vJ 0, vJ 0]) rfl ?_
  refine q_iload_n dX10_mayLie_0 rfl ?_
  refine q_aload_n dX10_mayLie_1 rfl ?_
  refine q_geti dX10_mayLie_2 lf_RX10_7 s44 rfl ?_
  obtain ⟨h1, H⟩ := H
  obtain ⟨h2, H⟩ := H
  refine q_irem dX10_mayLie_5 h1 h2 ?_
  refine q_aload_n dX10_mayLie_6 rfl ?_
  refine q_getr (r := 46) dX10_mayLie_7 lf_RX10_23 s44 rfl rfl ?_
  refine q_iconst dX10_mayLie_10 (by decide) ?_
  refine q_iload_n dX10_mayLie_11 rfl ?_
  obtain ⟨h3, H⟩ := H
  refine q_imul dX10_mayLie_12 h3 ?_
  refine q_iconst dX10_mayLie_13 (by decide) ?_
  obtain ⟨h4, H⟩ := H
  refine q_iadd dX10_mayLie_14 h4 ?_
  obtain ⟨h5, H⟩ := H
  obtain ⟨h6, H⟩ := H
  refine q_iald dX10_mayLie_15 s46 h5 h6 ?_
  obtain ⟨h7, H⟩ := H
  refine q_iadd dX10_mayLie_16 h7 ?_
  refine q_aload_n dX10_mayLie_17 rfl ?_
  refine q_geti dX10_mayLie_18 lf_RX10_7 s44 rfl ?_
  refine q_icmp_gt (tgt := 52) dX10_mayLie_21 (by decide) (fun c21 => ?_) (fun c21 => ?_)
  · have H := H.1 c21
    refine q_iconst dX10_mayLie_52 (by decide) ?_
    refine q_istore_n dX10_mayLie_53 (by decide) rfl ?_
    refine q_iconst dX10_mayLie_54 (by decide) ?_
    refine q_istore dX10_mayLie_55 (by decide) rfl ?_
    exact H
  · have H := H.2 c21
    refine q_iload_n dX10_mayLie_24 rfl ?_
    refine q_aload_n dX10_mayLie_25 rfl ?_
    refine q_geti dX10_mayLie_26 lf_RX10_7 s44 rfl ?_
    refine q_idiv dX10_mayLie_29 h1 h2 ?_
    refine q_aload_n dX10_mayLie_30 rfl ?_
    refine q_getr (r := 46) dX10_mayLie_31 lf_RX10_23 s44 rfl rfl ?_
    refine q_iconst dX10_mayLie_34 (by decide) ?_
    refine q_iload_n dX10_mayLie_35 rfl ?_
    refine q_imul dX10_mayLie_36 h3 ?_
    refine q_iconst dX10_mayLie_37 (by decide) ?_
    obtain ⟨h8, H⟩ := H
    refine q_iadd dX10_mayLie_38 h8 ?_
    obtain ⟨h9, H⟩ := H
    obtain ⟨h10, H⟩ := H
    refine q_iald dX10_mayLie_39 s46 h9 h10 ?_
    obtain ⟨h11, H⟩ := H
    refine q_iadd dX10_mayLie_40 h11 ?_
    refine q_aload_n dX10_mayLie_41 rfl ?_
    refine q_geti dX10_mayLie_42 lf_RX10_13 s44 rfl ?_
    refine q_icmp_gt (tgt := 52) dX10_mayLie_45 (by decide) (fun c45 => ?_) (fun c45 => ?_)
    · have H := H.1 c45
      refine q_iconst dX10_mayLie_52 (by decide) ?_
      refine q_istore_n dX10_mayLie_53 (by decide) rfl ?_
      refine q_iconst dX10_mayLie_54 (by decide) ?_
      refine q_istore dX10_mayLie_55 (by decide) rfl ?_
      exact H
    · have H := H.2 c45
      refine q_iconst dX10_mayLie_48 (by decide) ?_
      refine q_goto (tgt := 53) dX10_mayLie_49 (by decide) ?_
      refine q_istore_n dX10_mayLie_53 (by decide) rfl ?_
      refine q_iconst dX10_mayLie_54 (by decide) ?_
      refine q_istore dX10_mayLie_55 (by decide) rfl ?_
      exact H


abbrev mT (m : Mem) (s : Int) : Int := m 46 (4 * s).toNat
abbrev mW (m : Mem) (s : Int) : Int := m 46 (4 * s + 1).toNat
abbrev mL (m : Mem) (s : Int) : Int := m 46 (4 * s + 2).toNat
abbrev mP (m : Mem) (s : Int) : Int := m 46 (4 * s + 3).toNat
abbrev mnC (m : Mem) (i : Int) : Int := m 45 (4 * i).toNat
abbrev mnS (m : Mem) (i : Int) : Int := m 45 (4 * i + 1).toNat
abbrev mnA (m : Mem) (i : Int) : Int := m 45 (4 * i + 2).toNat
abbrev mnB (m : Mem) (i : Int) : Int := m 45 (4 * i + 3).toNat
abbrev mrC (m : Mem) (i : Int) : Int := m 47 (4 * i).toNat
abbrev mrA (m : Mem) (i : Int) : Int := m 47 (4 * i + 1).toNat
abbrev mrB (m : Mem) (i : Int) : Int := m 47 (4 * i + 2).toNat
abbrev mrM (m : Mem) (i : Int) : Int := m 47 (4 * i + 3).toNat
/-- the model's house is one that a text can tell -/
def hsM (m : Mem) : Prop := (m 44 0 = 1 ∨ m 44 0 = 2 ∨ m 44 0 = 3 ∨ m 44 0 = 4) ∧ (m 44 1 = 1 ∨ m 44 1 = 2 ∨ m 44 1 = 3) ∧ 1 ≤ m 44 2 ∧ m 44 2 ≤ 20 ∧ (0 ≤ m 44 3 ∧ m 44 3 ≤ 3) ∧ (0 ≤ m 44 5 ∧ m 44 5 ≤ 4) ∧ (0 ≤ m 44 7 ∧ m 44 7 ≤ 3) ∧
  (∀ i : Int, 0 ≤ i → i < m 44 3 → (0 ≤ mnC m i ∧ mnC m i < m 44 0 * m 44 1) ∧ (1 ≤ mnS m i ∧ mnS m i ≤ 99) ∧ 0 ≤ mnA m i ∧ mnA m i ≤ mnB m i ∧ mnB m i ≤ 23) ∧
  (∀ s : Int, 0 ≤ s → s < m 44 5 → (0 ≤ mT m s ∧ mT m s ≤ 30) ∧ (1 ≤ mW m s ∧ mW m s ≤ 3) ∧ (1 ≤ mL m s ∧ mL m s ≤ 3) ∧ 1 ≤ mP m s ∧ mP m s ≤ 9) ∧
  (∀ r : Int, 0 ≤ r → r < m 44 7 → (0 ≤ mrC m r ∧ mrC m r < m 44 0 * m 44 1) ∧ (0 ≤ mrA m r ∧ mrA m r ≤ mrB m r ∧ mrB m r ≤ 23) ∧ 0 ≤ mrM m r ∧ mrM m r ≤ 99)
theorem hsM_fr {ks : List Nat} {m m' : Mem} (h : Fr ks m m') (h4 : 44 ∉ ks := by decide) (h5 : 45 ∉ ks := by decide) (h6 : 46 ∉ ks := by decide) (h7 : 47 ∉ ks := by decide) : hsM m' ↔ hsM m := by
  unfold hsM mnC mnS mnA mnB mrC mrA mrB mrM mT mW mL mP
  rw [h 44 h4, h 45 h5, h 46 h6, h 47 h7]
/-- the sheets lie where they can -/
def liM (m : Mem) : Prop := ∀ s : Int, 0 ≤ s → s < m 44 5 → m 59 s.toNat = -9 ∨ fitsAt (m 44 0) (m 44 1) (mW m s) (mL m s) (m 59 s.toNat)
noncomputable abbrev onM (m : Mem) (k : Nat) : Int → Int := onF (m 44 0) (mW m) (mL m) (fun s => m 59 s.toNat) k
def layI (m0 : Mem) (k : Int) (m : Mem) : Prop := Fr [61] m0 m ∧ ∀ x : Int, 0 ≤ x → x < 12 → m 61 x.toNat = onM m0 k.toNat x
def layP (m0 : Mem) (m : Mem) : Prop := layI m0 (m0 44 5) m
theorem lay_in {m0 : Mem} {s c wi lo w : Int} {P : Mem → Prop} (hh : hsM m0) (s0 : 0 ≤ s) (sn : s < m0 44 5) (ec : m0 59 s.toNat = c) (ew : mW m0 s = wi) (el : mL m0 s = lo) (ew0 : m0 44 0 = w) (hc : c ≠ -9) (hf : fitsAt w (m0 44 1) wi lo c)
    (K : ∀ (u2 : Vl) (m : Mem), layI m0 (s + 1) m → w_X10_layCells_24 P (s + 1) u2 m) :
    ∀ (k : Nat) (a2 : Int) (m : Mem), 0 ≤ a2 → a2 ≤ 9 → (9 - a2).toNat ≤ k → Fr [61] m0 m → (∀ x : Int, 0 ≤ x → x < 12 → (cov w wi lo c x ∧ 3 * (x / w - c / w) + (x % w - c % w) < a2 → m 61 x.toNat = s) ∧ (¬ (cov w wi lo c x ∧ 3 * (x / w - c / w) + (x % w - c % w) < a2) → m 61 x.toNat = onM m0 s.toNat x)) → w_X10_layCells_34 P s a2 m := by
  have h5 := hh.2.2.2.2.2.1
  have hw : w = 1 ∨ w = 2 ∨ w = 3 ∨ w = 4 := by rw [← ew0]; exact hh.1
  have hH := hh.2.1
  have hsh := hh.2.2.2.2.2.2.2.2.1 s s0 sn
  have hwi : 1 ≤ wi ∧ wi ≤ 3 := by rw [← ew]; exact hsh.2.1
  have hlo : 1 ≤ lo ∧ lo ≤ 3 := by rw [← el]; exact hsh.2.2.1
  obtain ⟨f1, f2, f3, f4⟩ := id hf
  have hmod : 0 ≤ c % w := Int.emod_nonneg _ (by omega)
  have hdiv : 0 ≤ c / w := Int.ediv_nonneg f1 (by omega)
  have hn12 : w * m0 44 1 ≤ 12 := by rcases hw with h | h | h | h <;> rcases hH with g | g | g <;> rw [h, g] <;> decide
  have ekk : (s + 1).toNat = s.toNat + 1 := by omega
  have eka : ((s.toNat : Nat) : Int) = s := by omega
  have hend : ∀ (a2 : Int) (m : Mem), 9 ≤ a2 → Fr [61] m0 m → (∀ x : Int, 0 ≤ x → x < 12 → (cov w wi lo c x ∧ 3 * (x / w - c / w) + (x % w - c % w) < a2 → m 61 x.toNat = s) ∧ (¬ (cov w wi lo c x ∧ 3 * (x / w - c / w) + (x % w - c % w) < a2) → m 61 x.toNat = onM m0 s.toNat x)) → layI m0 (s + 1) m := by
    intro a2 m h9 hF hx
    refine ⟨hF, fun x x0 x1 => ?_⟩
    have q := hx x x0 x1
    rw [ekk]
    show _ = (if m0 59 ((s.toNat : Nat) : Int).toNat ≠ -9 ∧ cov (m0 44 0) (mW m0 ((s.toNat : Nat) : Int)) (mL m0 ((s.toNat : Nat) : Int)) (m0 59 ((s.toNat : Nat) : Int).toNat) x then ((s.toNat : Nat) : Int) else onM m0 s.toNat x)
    rw [eka, ec, ew, el, ew0]
    by_cases hcv : cov w wi lo c x
    · rw [if_pos ⟨hc, hcv⟩]
      exact q.1 ⟨hcv, by unfold cov at hcv; omega⟩
    · rw [if_neg (fun z => hcv z.2)]
      exact q.2 (fun z => hcv z.1)
  intro k
  induction k with
  | zero =>
    intro a2 m h0 h1 hk hF hx
    exact v_X10_layCells_34 ⟨fun z => ⟨by omega, K _ _ (hend a2 m z hF hx)⟩, fun z => by omega⟩
  | succ k ih =>
    intro a2 m h0 h1 hk hF hx
    refine v_X10_layCells_34 ?_
    rw [hF.at 59, hF.at 46, hF.at 44, ec, ew0]
    change (9 ≤ a2 → _) ∧ (a2 < 9 → 0 ≤ s ∧ s < 4 ∧ (c = -9 → _) ∧ (¬ c = -9 → 0 ≤ a2 ∧ inR (4 * s) ∧ inR (4 * s + 1) ∧ 0 ≤ 4 * s + 1 ∧ 4 * s + 1 < 16 ∧ (mW m0 s ≤ a2 % 3 → _) ∧ (a2 % 3 < mW m0 s → inR (4 * s + 2) ∧ 0 ≤ 4 * s + 2 ∧ 4 * s + 2 < 16 ∧ (mL m0 s ≤ a2 / 3 → _) ∧ (a2 / 3 < mL m0 s → _))))
    rw [ew, el]
    have hskip : ¬ (a2 % 3 < wi ∧ a2 / 3 < lo) → (∀ x : Int, 0 ≤ x → x < 12 → (cov w wi lo c x ∧ 3 * (x / w - c / w) + (x % w - c % w) < a2 + 1 → m 61 x.toNat = s) ∧ (¬ (cov w wi lo c x ∧ 3 * (x / w - c / w) + (x % w - c % w) < a2 + 1) → m 61 x.toNat = onM m0 s.toNat x)) := by
      intro hno x x0 x1
      have q := hx x x0 x1
      have e : (cov w wi lo c x ∧ 3 * (x / w - c / w) + (x % w - c % w) < a2 + 1) ↔ (cov w wi lo c x ∧ 3 * (x / w - c / w) + (x % w - c % w) < a2) := by unfold cov; omega
      rw [e]
      exact q
    refine ⟨fun z => ⟨by omega, K _ _ (hend a2 m z hF hx)⟩, fun z => ⟨s0, by omega, fun z2 => absurd z2 hc, fun _ => ⟨h0, by omega, by omega, by omega, by omega, fun y => ⟨by omega, ih _ _ (by omega) (by omega) (by omega) hF (hskip (by omega))⟩, fun y => ⟨by omega, by omega, by omega, fun y2 => ⟨by omega, ih _ _ (by omega) (by omega) (by omega) hF (hskip (by omega))⟩, fun y2 => ?_⟩⟩⟩⟩
    have hca := cell_at (r := a2 / 3) (k := a2 % 3) hw f1 (by omega) (by omega) (by omega)
    have hcomm : c + a2 / 3 * w + a2 % 3 = c + a2 % 3 + w * (a2 / 3) := by rw [Int.mul_comm w]; omega
    rw [hcomm] at hca
    have hwm : 0 ≤ w * (a2 / 3) ∧ w * (a2 / 3) ≤ 8 := by rcases hw with h | h | h | h <;> rw [h] <;> omega
    have hcn := (row_lt hw hH (x := c + a2 % 3 + w * (a2 / 3)) (by omega)).mp (by omega)
    refine ⟨by omega, by omega, by omega, by omega, by omega, fun m20 hm => ⟨by omega, ih _ _ (by omega) (by omega) (by omega) (by rw [hm]; exact hF.set (by decide)) (fun x x0 x1 => ?_)⟩⟩
    have q := hx x x0 x1
    have hxe := dm_eq (x := x) (y := c + a2 % 3 + w * (a2 / 3)) hw
    rw [hca.1, hca.2] at hxe
    have e : (cov w wi lo c x ∧ 3 * (x / w - c / w) + (x % w - c % w) < a2 + 1) ↔ ((cov w wi lo c x ∧ 3 * (x / w - c / w) + (x % w - c % w) < a2) ∨ x = c + a2 % 3 + w * (a2 / 3)) := by
      rw [hxe]
      unfold cov
      omega
    rw [e, hm, mset_at]
    by_cases hq : x = c + a2 % 3 + w * (a2 / 3)
    · rw [if_pos ⟨rfl, by rw [hq]⟩]
      exact ⟨fun _ => rfl, fun z => absurd (Or.inr hq) z⟩
    · rw [if_neg (by omega)]
      exact ⟨fun z => q.1 (z.resolve_right hq), fun z => q.2 (fun y => z (Or.inl y))⟩
theorem lay_out {m0 : Mem} (hh : hsM m0) (hl : liM m0) : ∀ (k : Nat) (a1 : Int) (u2 : Vl) (m : Mem), 0 ≤ a1 → a1 ≤ m0 44 5 → (m0 44 5 - a1).toNat ≤ k → layI m0 a1 m → w_X10_layCells_24 (layP m0) a1 u2 m := by
  have h5 := hh.2.2.2.2.2.1
  intro k
  induction k with
  | zero =>
    intro a1 u2 m h0 h1 hk hI
    refine v_X10_layCells_24 ?_
    rw [hI.1.at 44]
    exact ⟨fun z => by unfold layP; rw [show m0 44 5 = a1 by omega]; exact hI, fun z => by omega⟩
  | succ k ih =>
    intro a1 u2 m h0 h1 hk hI
    refine v_X10_layCells_24 ?_
    rw [hI.1.at 44]
    refine ⟨fun z => by unfold layP; rw [show m0 44 5 = a1 by omega]; exact hI, fun z => ?_⟩
    by_cases hc : m0 59 a1.toNat = -9
    · refine v_X10_layCells_34 ?_
      rw [hI.1.at 59]
      refine ⟨fun q => by omega, fun q => ⟨h0, by omega, fun _ => ⟨by omega, ih _ _ _ (by omega) (by omega) (by omega) ⟨hI.1, fun x x0 x1 => ?_⟩⟩, fun q2 => absurd hc q2⟩⟩
      rw [hI.2 x x0 x1, show (a1 + 1).toNat = a1.toNat + 1 by omega]
      show _ = (if m0 59 ((a1.toNat : Nat) : Int).toNat ≠ -9 ∧ _ then _ else onM m0 a1.toNat x)
      rw [show ((a1.toNat : Nat) : Int) = a1 by omega, if_neg (fun y => y.1 hc)]
    · have hf : fitsAt (m0 44 0) (m0 44 1) (mW m0 a1) (mL m0 a1) (m0 59 a1.toNat) := (hl a1 h0 z).resolve_left hc
      exact lay_in hh h0 z rfl rfl rfl rfl hc hf (fun u2 m h => ih _ _ _ (by omega) (by omega) (by omega) h) _ 0 m (by omega) (by omega) (Nat.le_refl _) hI.1 (fun x x0 x1 => ⟨fun y => by unfold cov at y; omega, fun _ => hI.2 x x0 x1⟩)
theorem lay_fill {m0 : Mem} {P : Mem → Prop} (K : ∀ (u2 : Vl) m, layI m0 0 m → w_X10_layCells_24 P 0 u2 m) :
    ∀ (k : Nat) (a1 : Int) (u2 : Vl) (m : Mem), 0 ≤ a1 → (12 - a1).toNat ≤ k → Fr [61] m0 m → (∀ x : Int, 0 ≤ x → x < a1 → m 61 x.toNat = -9) → w_X10_layCells_2 P a1 u2 m := by
  intro k
  induction k with
  | zero => intro a1 u2 m h0 hk hF hx; exact v_X10_layCells_2 ⟨fun c => K _ m ⟨hF, fun x x0 x1 => hx x x0 (by omega)⟩, fun c => by omega⟩
  | succ k ih =>
    intro a1 u2 m h0 hk hF hx
    refine v_X10_layCells_2 ⟨fun c => K _ m ⟨hF, fun x x0 x1 => hx x x0 (by omega)⟩, fun c => ⟨h0, fun m2 h2 => ⟨by omega, ih _ _ _ (by omega) (by omega) (by rw [h2]; exact hF.set (by decide)) (fun x x0 x1 => ?_)⟩⟩⟩
    rw [h2, mset_at]
    by_cases q : x = a1
    · rw [if_pos ⟨rfl, by rw [q]⟩]
    · rw [if_neg (by omega)]
      exact hx x x0 (by omega)
theorem c_X10_layCells {m0 : Mem} (hh : hsM m0) (hl : liM m0) : Tot mX10_layCells 0 0 [vR 44] SH m0 (Pn SH (layP m0)) :=
  v_X10_layCells (lay_fill (fun u2 m h => lay_out hh hl _ 0 u2 m (by omega) hh.2.2.2.2.2.1.1 (Nat.le_refl _) h) _ 0 _ m0 (by omega) (Nat.le_refl _) Fr.rf (fun x x0 x1 => by omega))
