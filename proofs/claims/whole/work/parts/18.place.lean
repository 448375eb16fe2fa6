/-! WHERE SHEETS LIE: spreadOut, canLie, show, cover -/
/-- a sheet of wi times lo, laid from c on, covers x -/
abbrev cov (w wi lo c x : Int) : Prop := c / w ≤ x / w ∧ x / w < c / w + lo ∧ c % w ≤ x % w ∧ x % w < c % w + wi
def fitsAt (w h wi lo c : Int) : Prop := 0 ≤ c ∧ c < w * h ∧ c % w + wi ≤ w ∧ c / w + lo ≤ h
def w_X1_spreadOut_2 (s c : Int) (P : Mem → Prop) (a3 : Int) (u4 : Vl) (u5 : Vl) (mem : Mem) : Prop := WP mX1_spreadOut none 0 0 (Pn SH P) 2 [vR 34, vI s, vI c, vI a3, u4, u5] [] SH mem
def w_X1_spreadOut_21 (s c : Int) (P : Mem → Prop) (a3 : Int) (a4 : Int) (u5 : Vl) (mem : Mem) : Prop := WP mX1_spreadOut none 0 0 (Pn SH P) 21 [vR 34, vI s, vI c, vI a3, vI a4, u5] [] SH mem
set_option maxRecDepth 20000 in
theorem v_X1_spreadOut_2 {s c : Int} {P : Mem → Prop} {a3 : Int} {u4 : Vl} {u5 : Vl} {mem : Mem}  (H : (mem 7 2 * 4 ≤ 16) ∧ (((getF (mem 8) (mem 7 2) s 2) ≤ a3 → P mem) ∧ (a3 < (getF (mem 8) (mem 7 2) s 2) → w_X1_spreadOut_21 s c P a3 0 u5 mem))) : w_X1_spreadOut_2 s c P a3 u4 u5 mem := by
  unfold w_X1_spreadOut_2
  refine q_iload_n dX1_spreadOut_2 rfl ?_
  refine q_aload_n dX1_spreadOut_3 rfl ?_
  refine q_getr (r := 4) dX1_spreadOut_4 lf_RX1_31 s34 rfl rfl ?_
  refine q_getr (r := 7) dX1_spreadOut_7 lf_RX1_52 s4 rfl rfl ?_
  refine q_iload_n dX1_spreadOut_10 rfl ?_
  refine q_iconst dX1_spreadOut_11 (by decide) ?_
  obtain ⟨h1, H⟩ := H
  refine q_cVi (as := [vI _, vI _]) dX1_spreadOut_12 kmX6_get kvX6_get lm_RX1_91 ⟨by decide, by decide⟩ s7 ⟨by decide, rfl⟩ rfl rfl (Nat.le_of_ble_eq_true rfl) (c_X6_get s7 s8 h1) (fun v m1 hq => ?_)
  obtain ⟨rfl, rfl⟩ := hq
  refine q_icmp_ge (tgt := 86) dX1_spreadOut_15 (by decide) (fun c15 => ?_) (fun c15 => ?_)
  · have H := H.1 c15
    exact q_vret dX1_spreadOut_86 rfl ⟨rfl, rfl, H⟩
  · have H := H.2 c15
    refine q_iconst dX1_spreadOut_18 (by decide) ?_
    refine q_istore dX1_spreadOut_19 (by decide) rfl ?_
    exact H
set_option maxRecDepth 20000 in
theorem v_X1_spreadOut_21 {s c : Int} {P : Mem → Prop} {a3 : Int} {a4 : Int} {u5 : Vl} {mem : Mem}  (H : (mem 7 2 * 4 ≤ 16) ∧ (((getF (mem 8) (mem 7 2) s 1) ≤ a4 → (inR (a3 + 1)) ∧ (w_X1_spreadOut_2 s c P (a3 + 1) (vI a4) u5 mem)) ∧ (a4 < (getF (mem 8) (mem 7 2) s 1) → (inR (a3 * (mem 4 3))) ∧ ((inR (c + (a3 * (mem 4 3)))) ∧ ((inR ((c + (a3 * (mem 4 3))) + a4)) ∧ ((¬ (0 ≤ ((c + (a3 * (mem 4 3))) + a4) ∧ ((c + (a3 * (mem 4 3))) + a4) < mem 4 5) → (inR (a4 + 1)) ∧ (w_X1_spreadOut_21 s c P a3 (a4 + 1) (vI ((c + (a3 * (mem 4 3))) + a4)) mem)) ∧ ((0 ≤ ((c + (a3 * (mem 4 3))) + a4) ∧ ((c + (a3 * (mem 4 3))) + a4) < mem 4 5) → (((c + (a3 * (mem 4 3))) + a4) < 12) ∧ (∀ m8 : Mem, m8 = mset mem 35 ((c + (a3 * (mem 4 3))) + a4).toNat s → ((inR (a4 + 1)) ∧ (w_X1_spreadOut_21 s c P a3 (a4 + 1) (vI ((c + (a3 * (mem 4 3))) + a4)) m8)))))))))) : w_X1_spreadOut_21 s c P a3 a4 u5 mem := by
  unfold w_X1_spreadOut_21
  refine q_iload dX1_spreadOut_21 rfl ?_
  refine q_aload_n dX1_spreadOut_23 rfl ?_
  refine q_getr (r := 4) dX1_spreadOut_24 lf_RX1_31 s34 rfl rfl ?_
  refine q_getr (r := 7) dX1_spreadOut_27 lf_RX1_52 s4 rfl rfl ?_
  refine q_iload_n dX1_spreadOut_30 rfl ?_
  refine q_iconst dX1_spreadOut_31 (by decide) ?_
  obtain ⟨h1, H⟩ := H
  refine q_cVi (as := [vI _, vI _]) dX1_spreadOut_32 kmX6_get kvX6_get lm_RX1_91 ⟨by decide, by decide⟩ s7 ⟨by decide, rfl⟩ rfl rfl (Nat.le_of_ble_eq_true rfl) (c_X6_get s7 s8 h1) (fun v m1 hq => ?_)
  obtain ⟨rfl, rfl⟩ := hq
  refine q_icmp_ge (tgt := 80) dX1_spreadOut_35 (by decide) (fun c35 => ?_) (fun c35 => ?_)
  · have H := H.1 c35
    obtain ⟨h2, H⟩ := H
    refine q_iinc dX1_spreadOut_80 rfl h2 rfl ?_
    refine q_goto (tgt := 2) dX1_spreadOut_83 (by decide) ?_
    exact H
  · have H := H.2 c35
    refine q_iload_n dX1_spreadOut_38 rfl ?_
    refine q_iload_n dX1_spreadOut_39 rfl ?_
    refine q_aload_n dX1_spreadOut_40 rfl ?_
    refine q_getr (r := 4) dX1_spreadOut_41 lf_RX1_31 s34 rfl rfl ?_
    refine q_geti dX1_spreadOut_44 lf_RX1_48 s4 rfl ?_
    obtain ⟨h3, H⟩ := H
    refine q_imul dX1_spreadOut_47 h3 ?_
    obtain ⟨h4, H⟩ := H
    refine q_iadd dX1_spreadOut_48 h4 ?_
    refine q_iload dX1_spreadOut_49 rfl ?_
    obtain ⟨h5, H⟩ := H
    refine q_iadd dX1_spreadOut_51 h5 ?_
    refine q_istore dX1_spreadOut_52 (by decide) rfl ?_
    refine q_aload_n dX1_spreadOut_54 rfl ?_
    refine q_getr (r := 4) dX1_spreadOut_55 lf_RX1_31 s34 rfl rfl ?_
    refine q_iload dX1_spreadOut_58 rfl ?_
    refine q_cVi (as := [vI _]) dX1_spreadOut_60 kmX3_hasCell kvX3_hasCell lm_RX1_38 ⟨by decide, by decide⟩ s4 ⟨by decide, rfl⟩ rfl rfl (Nat.le_of_ble_eq_true rfl) (c_X3_hasCell s4) (fun v m1 hq => ?_)
    obtain ⟨rfl, rfl⟩ := hq
    refine q_if_eq (tgt := 74) dX1_spreadOut_63 (by decide) (fun c63 => ?_) (fun c63 => ?_)
    · have H := H.1 (b_no c63)
      obtain ⟨h6, H⟩ := H
      refine q_iinc dX1_spreadOut_74 rfl h6 rfl ?_
      refine q_goto (tgt := 21) dX1_spreadOut_77 (by decide) ?_
      exact H
    · have H := H.2 (b_yes c63)
      refine q_aload_n dX1_spreadOut_66 rfl ?_
      refine q_getr (r := 35) dX1_spreadOut_67 lf_RX1_9 s34 rfl rfl ?_
      refine q_iload dX1_spreadOut_70 rfl ?_
      refine q_iload_n dX1_spreadOut_72 rfl ?_
      obtain ⟨h7, H⟩ := H
      refine q_iast dX1_spreadOut_73 s35 (b_yes c63).1 h7 ?_
      have H := H _ rfl
      obtain ⟨h9, H⟩ := H
      refine q_iinc dX1_spreadOut_74 rfl h9 rfl ?_
      refine q_goto (tgt := 21) dX1_spreadOut_77 (by decide) ?_
      exact H
set_option maxRecDepth 20000 in
theorem v_X1_spreadOut {s c : Int} {P : Mem → Prop} {mem : Mem}  (H : w_X1_spreadOut_2 s c P 0 (vJ 0) (vJ 0) mem) : Tot mX1_spreadOut 0 0 [vR 34, vI s, vI c] SH mem (Pn SH P) := by
  refine Tot.of rfl (Nat.le_of_ble_eq_true rfl) (by simp [isJ]) (ls := [vR 34, vI s, vI c, vJ 0, vJ 0, vJ 0]) rfl ?_
  refine q_iconst dX1_spreadOut_0 (by decide) ?_
  refine q_istore_n dX1_spreadOut_1 (by decide) rfl ?_
  exact H

def w_X1_canLie_77 (s c : Int) (P : Int → Mem → Prop) (a3 : Int) (a4 : Int) (u5 : Vl) (mem : Mem) : Prop := WP mX1_canLie none 0 0 (Pr SH P) 77 [vR 34, vI s, vI c, vI a3, vI a4, u5] [] SH mem
def w_X1_canLie_97 (s c : Int) (P : Int → Mem → Prop) (a3 : Int) (a4 : Int) (a5 : Int) (mem : Mem) : Prop := WP mX1_canLie none 0 0 (Pr SH P) 97 [vR 34, vI s, vI c, vI a3, vI a4, vI a5] [] SH mem
set_option maxRecDepth 20000 in
theorem v_X1_canLie_77 {s c : Int} {P : Int → Mem → Prop} {a3 : Int} {a4 : Int} {u5 : Vl} {mem : Mem}  (H : (mem 7 2 * 4 ≤ 16) ∧ (((getF (mem 8) (mem 7 2) s 2) ≤ a4 → P 1 mem) ∧ (a4 < (getF (mem 8) (mem 7 2) s 2) → w_X1_canLie_97 s c P a3 a4 0 mem))) : w_X1_canLie_77 s c P a3 a4 u5 mem := by
  unfold w_X1_canLie_77
  refine q_iload dX1_canLie_77 rfl ?_
  refine q_aload_n dX1_canLie_79 rfl ?_
  refine q_getr (r := 4) dX1_canLie_80 lf_RX1_31 s34 rfl rfl ?_
  refine q_getr (r := 7) dX1_canLie_83 lf_RX1_52 s4 rfl rfl ?_
  refine q_iload_n dX1_canLie_86 rfl ?_
  refine q_iconst dX1_canLie_87 (by decide) ?_
  obtain ⟨h1, H⟩ := H
  refine q_cVi (as := [vI _, vI _]) dX1_canLie_88 kmX6_get kvX6_get lm_RX1_91 ⟨by decide, by decide⟩ s7 ⟨by decide, rfl⟩ rfl rfl (Nat.le_of_ble_eq_true rfl) (c_X6_get s7 s8 h1) (fun v m1 hq => ?_)
  obtain ⟨rfl, rfl⟩ := hq
  refine q_icmp_ge (tgt := 146) dX1_canLie_91 (by decide) (fun c91 => ?_) (fun c91 => ?_)
  · have H := H.1 c91
    refine q_iconst dX1_canLie_146 (by decide) ?_
    exact q_zret dX1_canLie_147 rfl (by decide) ⟨_, rfl, rfl, H⟩
  · have H := H.2 c91
    refine q_iconst dX1_canLie_94 (by decide) ?_
    refine q_istore dX1_canLie_95 (by decide) rfl ?_
    exact H
set_option maxRecDepth 20000 in
theorem v_X1_canLie_97 {s c : Int} {P : Int → Mem → Prop} {a3 : Int} {a4 : Int} {a5 : Int} {mem : Mem}  (H : (mem 7 2 * 4 ≤ 16) ∧ (((getF (mem 8) (mem 7 2) s 1) ≤ a5 → (inR (a4 + 1)) ∧ (w_X1_canLie_77 s c P a3 (a4 + 1) (vI a5) mem)) ∧ (a5 < (getF (mem 8) (mem 7 2) s 1) → (inR (a4 * a3)) ∧ ((inR (c + (a4 * a3))) ∧ ((inR ((c + (a4 * a3)) + a5)) ∧ ((mem 4 5 ≤ 12) ∧ (((if 0 ≤ ((c + (a4 * a3)) + a5) ∧ ((c + (a4 * a3)) + a5) < mem 4 5 then mem 35 ((c + (a4 * a3)) + a5).toNat else -9) = (-9) → (inR (a5 + 1)) ∧ (w_X1_canLie_97 s c P a3 a4 (a5 + 1) mem)) ∧ (¬ (if 0 ≤ ((c + (a4 * a3)) + a5) ∧ ((c + (a4 * a3)) + a5) < mem 4 5 then mem 35 ((c + (a4 * a3)) + a5).toNat else -9) = (-9) → P 0 mem)))))))) : w_X1_canLie_97 s c P a3 a4 a5 mem := by
  unfold w_X1_canLie_97
  refine q_iload dX1_canLie_97 rfl ?_
  refine q_aload_n dX1_canLie_99 rfl ?_
  refine q_getr (r := 4) dX1_canLie_100 lf_RX1_31 s34 rfl rfl ?_
  refine q_getr (r := 7) dX1_canLie_103 lf_RX1_52 s4 rfl rfl ?_
  refine q_iload_n dX1_canLie_106 rfl ?_
  refine q_iconst dX1_canLie_107 (by decide) ?_
  obtain ⟨h1, H⟩ := H
  refine q_cVi (as := [vI _, vI _]) dX1_canLie_108 kmX6_get kvX6_get lm_RX1_91 ⟨by decide, by decide⟩ s7 ⟨by decide, rfl⟩ rfl rfl (Nat.le_of_ble_eq_true rfl) (c_X6_get s7 s8 h1) (fun v m1 hq => ?_)
  obtain ⟨rfl, rfl⟩ := hq
  refine q_icmp_ge (tgt := 140) dX1_canLie_111 (by decide) (fun c111 => ?_) (fun c111 => ?_)
  · have H := H.1 c111
    obtain ⟨h2, H⟩ := H
    refine q_iinc dX1_canLie_140 rfl h2 rfl ?_
    refine q_goto (tgt := 77) dX1_canLie_143 (by decide) ?_
    exact H
  · have H := H.2 c111
    refine q_aload_n dX1_canLie_114 rfl ?_
    refine q_iload_n dX1_canLie_115 rfl ?_
    refine q_iload dX1_canLie_116 rfl ?_
    refine q_iload_n dX1_canLie_118 rfl ?_
    obtain ⟨h3, H⟩ := H
    refine q_imul dX1_canLie_119 h3 ?_
    obtain ⟨h4, H⟩ := H
    refine q_iadd dX1_canLie_120 h4 ?_
    refine q_iload dX1_canLie_121 rfl ?_
    obtain ⟨h5, H⟩ := H
    refine q_iadd dX1_canLie_123 h5 ?_
    obtain ⟨h6, H⟩ := H
    refine q_cVi (as := [vI _]) dX1_canLie_124 kmX1_sheetOn kvX1_sheetOn lm_RX1_97 ⟨by decide, by decide⟩ s34 ⟨by decide, rfl⟩ rfl rfl (Nat.le_of_ble_eq_true rfl) (c_X1_sheetOn h6) (fun v m1 hq => ?_)
    obtain ⟨rfl, rfl⟩ := hq
    refine q_bipush dX1_canLie_127 rfl (by decide) ?_
    refine q_icmp_eq (tgt := 134) dX1_canLie_129 (by decide) (fun c129 => ?_) (fun c129 => ?_)
    · have H := H.1 c129
      obtain ⟨h7, H⟩ := H
      refine q_iinc dX1_canLie_134 rfl h7 rfl ?_
      refine q_goto (tgt := 97) dX1_canLie_137 (by decide) ?_
      exact H
    · have H := H.2 c129
      refine q_iconst dX1_canLie_132 (by decide) ?_
      exact q_zret dX1_canLie_133 rfl (by decide) ⟨_, rfl, rfl, H⟩
set_option maxRecDepth 20000 in
theorem v_X1_canLie {s c : Int} {P : Int → Mem → Prop} {mem : Mem}  (H : ((mem 4 3) < 1 → P 0 mem) ∧ (1 ≤ (mem 4 3) → ((0 ≤ c ∧ c < mem 4 5) → (0 < (mem 4 3)) ∧ ((mem 7 2 * 4 ≤ 16) ∧ ((inR ((c % (mem 4 3)) + (getF (mem 8) (mem 7 2) s 1))) ∧ (((mem 4 3) < ((c % (mem 4 3)) + (getF (mem 8) (mem 7 2) s 1)) → P 0 mem) ∧ (((c % (mem 4 3)) + (getF (mem 8) (mem 7 2) s 1)) ≤ (mem 4 3) → (inR ((c / (mem 4 3)) + (getF (mem 8) (mem 7 2) s 2))) ∧ ((((c / (mem 4 3)) + (getF (mem 8) (mem 7 2) s 2)) ≤ (mem 4 4) → w_X1_canLie_77 s c P (mem 4 3) 0 (vJ 0) mem) ∧ ((mem 4 4) < ((c / (mem 4 3)) + (getF (mem 8) (mem 7 2) s 2)) → P 0 mem))))))) ∧ (¬ (0 ≤ c ∧ c < mem 4 5) → P 0 mem))) : Tot mX1_canLie 0 0 [vR 34, vI s, vI c] SH mem (Pr SH P) := by
  refine Tot.of rfl (Nat.le_of_ble_eq_true rfl) (by simp [isJ]) (ls := [vR 34, vI s, vI c, vJ 0, vJ 0, vJ 0]) rfl ?_
  refine q_aload_n dX1_canLie_0 rfl ?_
  refine q_getr (r := 4) dX1_canLie_1 lf_RX1_31 s34 rfl rfl ?_
  refine q_geti dX1_canLie_4 lf_RX1_48 s4 rfl ?_
  refine q_istore_n dX1_canLie_7 (by decide) rfl ?_
  refine q_iload_n dX1_canLie_8 rfl ?_
  refine q_iconst dX1_canLie_9 (by decide) ?_
  refine q_icmp_lt (tgt := 24) dX1_canLie_10 (by decide) (fun c10 => ?_) (fun c10 => ?_)
  · have H := H.1 c10
    refine q_iconst dX1_canLie_24 (by decide) ?_
    exact q_zret dX1_canLie_25 rfl (by decide) ⟨_, rfl, rfl, H⟩
  · have H := H.2 c10
    refine q_aload_n dX1_canLie_13 rfl ?_
    refine q_getr (r := 4) dX1_canLie_14 lf_RX1_31 s34 rfl rfl ?_
    refine q_iload_n dX1_canLie_17 rfl ?_
    refine q_cVi (as := [vI _]) dX1_canLie_18 kmX3_hasCell kvX3_hasCell lm_RX1_38 ⟨by decide, by decide⟩ s4 ⟨by decide, rfl⟩ rfl rfl (Nat.le_of_ble_eq_true rfl) (c_X3_hasCell s4) (fun v m1 hq => ?_)
    obtain ⟨rfl, rfl⟩ := hq
    refine q_if_ne (tgt := 26) dX1_canLie_21 (by decide) (fun c21 => ?_) (fun c21 => ?_)
    · have H := H.1 (b_yes c21)
      refine q_iload_n dX1_canLie_26 rfl ?_
      refine q_iload_n dX1_canLie_27 rfl ?_
      obtain ⟨h1, H⟩ := H
      refine q_irem dX1_canLie_28 (b_yes c21).1 h1 ?_
      refine q_aload_n dX1_canLie_29 rfl ?_
      refine q_getr (r := 4) dX1_canLie_30 lf_RX1_31 s34 rfl rfl ?_
      refine q_getr (r := 7) dX1_canLie_33 lf_RX1_52 s4 rfl rfl ?_
      refine q_iload_n dX1_canLie_36 rfl ?_
      refine q_iconst dX1_canLie_37 (by decide) ?_
      obtain ⟨h2, H⟩ := H
      refine q_cVi (as := [vI _, vI _]) dX1_canLie_38 kmX6_get kvX6_get lm_RX1_91 ⟨by decide, by decide⟩ s7 ⟨by decide, rfl⟩ rfl rfl (Nat.le_of_ble_eq_true rfl) (c_X6_get s7 s8 h2) (fun v m1 hq => ?_)
      obtain ⟨rfl, rfl⟩ := hq
      obtain ⟨h3, H⟩ := H
      refine q_iadd dX1_canLie_41 h3 ?_
      refine q_iload_n dX1_canLie_42 rfl ?_
      refine q_icmp_gt (tgt := 72) dX1_canLie_43 (by decide) (fun c43 => ?_) (fun c43 => ?_)
      · have H := H.1 c43
        refine q_iconst dX1_canLie_72 (by decide) ?_
        exact q_zret dX1_canLie_73 rfl (by decide) ⟨_, rfl, rfl, H⟩
      · have H := H.2 c43
        refine q_iload_n dX1_canLie_46 rfl ?_
        refine q_iload_n dX1_canLie_47 rfl ?_
        refine q_idiv dX1_canLie_48 (b_yes c21).1 h1 ?_
        refine q_aload_n dX1_canLie_49 rfl ?_
        refine q_getr (r := 4) dX1_canLie_50 lf_RX1_31 s34 rfl rfl ?_
        refine q_getr (r := 7) dX1_canLie_53 lf_RX1_52 s4 rfl rfl ?_
        refine q_iload_n dX1_canLie_56 rfl ?_
        refine q_iconst dX1_canLie_57 (by decide) ?_
        refine q_cVi (as := [vI _, vI _]) dX1_canLie_58 kmX6_get kvX6_get lm_RX1_91 ⟨by decide, by decide⟩ s7 ⟨by decide, rfl⟩ rfl rfl (Nat.le_of_ble_eq_true rfl) (c_X6_get s7 s8 h2) (fun v m1 hq => ?_)
        obtain ⟨rfl, rfl⟩ := hq
        obtain ⟨h4, H⟩ := H
        refine q_iadd dX1_canLie_61 h4 ?_
        refine q_aload_n dX1_canLie_62 rfl ?_
        refine q_getr (r := 4) dX1_canLie_63 lf_RX1_31 s34 rfl rfl ?_
        refine q_geti dX1_canLie_66 lf_RX1_94 s4 rfl ?_
        refine q_icmp_le (tgt := 74) dX1_canLie_69 (by decide) (fun c69 => ?_) (fun c69 => ?_)
        · have H := H.1 c69
          refine q_iconst dX1_canLie_74 (by decide) ?_
          refine q_istore dX1_canLie_75 (by decide) rfl ?_
          exact H
        · have H := H.2 c69
          refine q_iconst dX1_canLie_72 (by decide) ?_
          exact q_zret dX1_canLie_73 rfl (by decide) ⟨_, rfl, rfl, H⟩
    · have H := H.2 (b_no c21)
      refine q_iconst dX1_canLie_24 (by decide) ?_
      exact q_zret dX1_canLie_25 rfl (by decide) ⟨_, rfl, rfl, H⟩


theorem cell_at {w c r k : Int} (hw : w = 1 ∨ w = 2 ∨ w = 3 ∨ w = 4) (c0 : 0 ≤ c) (r0 : 0 ≤ r) (k0 : 0 ≤ k) (hk : c % w + k < w) : (c + r * w + k) / w = c / w + r ∧ (c + r * w + k) % w = c % w + k := by
  rcases hw with rfl | rfl | rfl | rfl <;> omega
theorem dm_eq {w x y : Int} (hw : w = 1 ∨ w = 2 ∨ w = 3 ∨ w = 4) : x = y ↔ x / w = y / w ∧ x % w = y % w := by
  rcases hw with rfl | rfl | rfl | rfl <;> omega
theorem row_lt {w h x : Int} (hw : w = 1 ∨ w = 2 ∨ w = 3 ∨ w = 4) (hh : h = 1 ∨ h = 2 ∨ h = 3) (x0 : 0 ≤ x) : x / w < h ↔ x < w * h := by
  rcases hw with rfl | rfl | rfl | rfl <;> rcases hh with rfl | rfl | rfl <;> omega
/-- covered by the rows that are through, and a part of the next -/
def covR (w wi c r k x : Int) : Prop := c / w ≤ x / w ∧ c % w ≤ x % w ∧ x % w < c % w + wi ∧ (x / w < c / w + r ∨ (x / w = c / w + r ∧ x % w < c % w + k))
/-- sheets of the class' house: thick, wide, long, price -/
abbrev shW (m : Mem) (s : Int) : Int := getF (m 8) (m 7 2) s 1
abbrev shL (m : Mem) (s : Int) : Int := getF (m 8) (m 7 2) s 2
abbrev shT (m : Mem) (s : Int) : Int := getF (m 8) (m 7 2) s 0
abbrev shP (m : Mem) (s : Int) : Int := getF (m 8) (m 7 2) s 3
/-- on x lies s, where it covers x; else what was there -/
def putF (p : Int → Prop) (s : Int) (on : Nat → Int) (m : Mem) : Prop := ∀ x : Int, 0 ≤ x → x < 12 → (p x → m 35 x.toNat = s) ∧ (¬ p x → m 35 x.toNat = on x.toNat)
theorem spo_in {m0 : Mem} {s c r wi lo : Int} {P : Mem → Prop} (ew : shW m0 s = wi) (hw : m0 4 3 = 1 ∨ m0 4 3 = 2 ∨ m0 4 3 = 3 ∨ m0 4 3 = 4) (hh : m0 4 4 = 1 ∨ m0 4 4 = 2 ∨ m0 4 4 = 3) (hn : m0 4 5 = m0 4 3 * m0 4 4) (h7 : m0 7 2 ≤ 4) (hf : fitsAt (m0 4 3) (m0 4 4) wi (lo) c) (r0 : 0 ≤ r) (rl : r < lo)
    (K : ∀ (u4 u5 : Vl) (m : Mem), Fr [35] m0 m → putF (covR (m0 4 3) wi c (r + 1) 0) s (m0 35) m → w_X1_spreadOut_2 s c P (r + 1) u4 u5 m) :
    ∀ (k : Nat) (a4 : Int) (u5 : Vl) (m : Mem), 0 ≤ a4 → a4 ≤ wi → (wi - a4).toNat ≤ k → Fr [35] m0 m → putF (covR (m0 4 3) wi c r a4) s (m0 35) m → w_X1_spreadOut_21 s c P r a4 u5 m := by
  obtain ⟨f1, f2, f3, f4⟩ := hf
  have hrow := row_lt hw hh f1
  have hmod : 0 ≤ c % m0 4 3 := Int.emod_nonneg _ (by omega)
  have hdiv : 0 ≤ c / m0 4 3 := Int.ediv_nonneg f1 (by omega)
  have hn12 : m0 4 3 * m0 4 4 ≤ 12 := by rcases hw with h | h | h | h <;> rcases hh with g | g | g <;> rw [h, g] <;> decide
  have hstop : ∀ (a4 : Int) (m : Mem), a4 = wi → putF (covR (m0 4 3) wi c r a4) s (m0 35) m → putF (covR (m0 4 3) wi c (r + 1) 0) s (m0 35) m := by
    intro a4 m h hp x x0 x1
    have := hp x x0 x1
    have e : covR (m0 4 3) wi c (r + 1) 0 x ↔ covR (m0 4 3) wi c r a4 x := by unfold covR; omega
    rw [e]
    exact this
  intro k
  induction k with
  | zero =>
    intro a4 u5 m h0 h1 hk hF hp
    refine v_X1_spreadOut_21 ?_
    rw [hF.at 7, hF.at 8, hF.at 4]
    have ew2 : getF (m0 8) (m0 7 2) s 1 = wi := ew
    rw [ew2]
    exact ⟨by omega, fun q => ⟨by omega, K _ _ _ hF (hstop a4 m (by omega) hp)⟩, fun q => by omega⟩
  | succ k ih =>
    intro a4 u5 m h0 h1 hk hF hp
    refine v_X1_spreadOut_21 ?_
    rw [hF.at 7, hF.at 8, hF.at 4]
    have ew2 : getF (m0 8) (m0 7 2) s 1 = wi := ew
    rw [ew2]
    refine ⟨by omega, fun q => ⟨by omega, K _ _ _ hF (hstop a4 m (by omega) hp)⟩, fun q => ?_⟩
    have hc := cell_at (r := r) (k := a4) hw f1 r0 h0 (by omega)
    have hcr : (c + r * m0 4 3 + a4) / m0 4 3 < m0 4 4 := by omega
    have hrm : 0 ≤ r * m0 4 3 ∧ r * m0 4 3 ≤ 120 := by
      have : r ≤ 30 := by omega
      rcases hw with h | h | h | h <;> rw [h] <;> omega
    have hcn := (row_lt hw hh (x := c + r * m0 4 3 + a4) (by omega)).mp hcr
    refine ⟨by omega, by omega, by omega, fun q2 => by omega, fun q2 => ⟨by omega, fun m8 hm => ⟨by omega, ih _ _ _ (by omega) (by omega) (by omega) (by rw [hm]; exact hF.set (by decide)) (fun x x0 x1 => ?_)⟩⟩⟩
    have hx := hp x x0 x1
    have hxe := dm_eq (x := x) (y := c + r * m0 4 3 + a4) hw
    rw [hc.1, hc.2] at hxe
    rw [hm, mset_at]
    have e : covR (m0 4 3) wi c r (a4 + 1) x ↔ (covR (m0 4 3) wi c r a4 x ∨ x = c + r * m0 4 3 + a4) := by
      rw [hxe]
      unfold covR
      omega
    rw [e]
    by_cases hq : x = c + r * m0 4 3 + a4
    · rw [if_pos ⟨rfl, by rw [hq]⟩]
      exact ⟨fun _ => rfl, fun z => absurd (Or.inr hq) z⟩
    · rw [if_neg (by omega)]
      exact ⟨fun z => hx.1 (z.resolve_right hq), fun z => hx.2 (fun y => z (Or.inl y))⟩
theorem spo_out {m0 : Mem} {s c wi lo : Int} {P : Mem → Prop} (ew : shW m0 s = wi) (el : shL m0 s = lo) (hw : m0 4 3 = 1 ∨ m0 4 3 = 2 ∨ m0 4 3 = 3 ∨ m0 4 3 = 4) (hh : m0 4 4 = 1 ∨ m0 4 4 = 2 ∨ m0 4 4 = 3) (hn : m0 4 5 = m0 4 3 * m0 4 4) (h7 : m0 7 2 ≤ 4) (hf : fitsAt (m0 4 3) (m0 4 4) wi (lo) c) (hwi : 0 ≤ wi)
    (K : ∀ (m : Mem), Fr [35] m0 m → putF (cov (m0 4 3) wi (lo) c) s (m0 35) m → P m) :
    ∀ (k : Nat) (a3 : Int) (u4 u5 : Vl) (m : Mem), 0 ≤ a3 → a3 ≤ lo → (lo - a3).toNat ≤ k → Fr [35] m0 m → putF (covR (m0 4 3) wi c a3 0) s (m0 35) m → w_X1_spreadOut_2 s c P a3 u4 u5 m := by
  have hstop : ∀ (a3 : Int) (m : Mem), a3 = lo → putF (covR (m0 4 3) wi c a3 0) s (m0 35) m → putF (cov (m0 4 3) wi (lo) c) s (m0 35) m := by
    intro a3 m h hp x x0 x1
    have := hp x x0 x1
    have e : cov (m0 4 3) wi (lo) c x ↔ covR (m0 4 3) wi c a3 0 x := by unfold covR cov; omega
    rw [e]
    exact this
  intro k
  induction k with
  | zero =>
    intro a3 u4 u5 m h0 h1 hk hF hp
    refine v_X1_spreadOut_2 ?_
    rw [hF.at 7, hF.at 8]
    have el2 : getF (m0 8) (m0 7 2) s 2 = lo := el
    rw [el2]
    exact ⟨by omega, fun q => K m hF (hstop a3 m (by omega) hp), fun q => by omega⟩
  | succ k ih =>
    intro a3 u4 u5 m h0 h1 hk hF hp
    refine v_X1_spreadOut_2 ?_
    rw [hF.at 7, hF.at 8]
    have el2 : getF (m0 8) (m0 7 2) s 2 = lo := el
    rw [el2]
    refine ⟨by omega, fun q => K m hF (hstop a3 m (by omega) hp), fun q => ?_⟩
    exact spo_in ew hw hh hn h7 hf h0 q (fun u4 u5 m h1 h2 => ih _ _ _ _ (by omega) (by omega) (by omega) h1 h2) _ 0 u5 m (by omega) hwi (Nat.le_refl _) hF hp
theorem c_X1_spreadOut {m0 : Mem} {s c : Int} (hw : m0 4 3 = 1 ∨ m0 4 3 = 2 ∨ m0 4 3 = 3 ∨ m0 4 3 = 4) (hh : m0 4 4 = 1 ∨ m0 4 4 = 2 ∨ m0 4 4 = 3) (hn : m0 4 5 = m0 4 3 * m0 4 4) (h7 : m0 7 2 ≤ 4) (hf : fitsAt (m0 4 3) (m0 4 4) (shW m0 s) (shL m0 s) c) (hwi : 0 ≤ shW m0 s) (hlo : 0 ≤ shL m0 s) : Tot mX1_spreadOut 0 0 [vR 34, vI s, vI c] SH m0 (Pn SH (fun m => Fr [35] m0 m ∧ putF (cov (m0 4 3) (shW m0 s) (shL m0 s) c) s (m0 35) m)) :=
  v_X1_spreadOut (spo_out rfl rfl hw hh hn h7 hf hwi (fun m h1 h2 => ⟨h1, h2⟩) _ 0 _ _ m0 (by omega) hlo (Nat.le_refl _) Fr.rf (fun x x0 x1 => ⟨fun q => by unfold covR at q; omega, fun _ => rfl⟩))
/-- a sheet may lie there -/
def canP (w h wi lo c : Int) (on : Nat → Int) : Prop := fitsAt w h wi lo c ∧ ∀ x : Int, 0 ≤ x → x < 12 → cov w wi lo c x → on x.toNat = -9
abbrev canV (w h wi lo c : Int) (on : Nat → Int) (m0 : Mem) (v : Int) (m : Mem) : Prop := ((canP w h wi lo c on ∧ v = 1) ∨ (¬ canP w h wi lo c on ∧ v = 0)) ∧ m = m0
theorem can_in {m0 : Mem} {s c r wi lo : Int} (ew : shW m0 s = wi) (hw : m0 4 3 = 1 ∨ m0 4 3 = 2 ∨ m0 4 3 = 3 ∨ m0 4 3 = 4) (hh : m0 4 4 = 1 ∨ m0 4 4 = 2 ∨ m0 4 4 = 3) (hn : m0 4 5 = m0 4 3 * m0 4 4) (h7 : m0 7 2 ≤ 4) (hf : fitsAt (m0 4 3) (m0 4 4) wi lo c) (r0 : 0 ≤ r) (rl : r < lo)
    (K : ∀ (u5 : Vl), (∀ x : Int, 0 ≤ x → x < 12 → covR (m0 4 3) wi c (r + 1) 0 x → m0 35 x.toNat = -9) → w_X1_canLie_77 s c (canV (m0 4 3) (m0 4 4) wi lo c (m0 35) m0) (m0 4 3) (r + 1) u5 m0) :
    ∀ (k : Nat) (a5 : Int), 0 ≤ a5 → a5 ≤ wi → (wi - a5).toNat ≤ k → (∀ x : Int, 0 ≤ x → x < 12 → covR (m0 4 3) wi c r a5 x → m0 35 x.toNat = -9) → w_X1_canLie_97 s c (canV (m0 4 3) (m0 4 4) wi lo c (m0 35) m0) (m0 4 3) r a5 m0 := by
  obtain ⟨f1, f2, f3, f4⟩ := id hf
  have ew2 : getF (m0 8) (m0 7 2) s 1 = wi := ew
  have hmod : 0 ≤ c % m0 4 3 := Int.emod_nonneg _ (by omega)
  have hdiv : 0 ≤ c / m0 4 3 := Int.ediv_nonneg f1 (by omega)
  have hn12 : m0 4 3 * m0 4 4 ≤ 12 := by rcases hw with h | h | h | h <;> rcases hh with g | g | g <;> rw [h, g] <;> decide
  have hstop : ∀ (a5 : Int), a5 = wi → (∀ x : Int, 0 ≤ x → x < 12 → covR (m0 4 3) wi c r a5 x → m0 35 x.toNat = -9) → (∀ x : Int, 0 ≤ x → x < 12 → covR (m0 4 3) wi c (r + 1) 0 x → m0 35 x.toNat = -9) := by
    intro a5 h hp x x0 x1 hx
    exact hp x x0 x1 (by unfold covR at hx ⊢; omega)
  intro k
  induction k with
  | zero =>
    intro a5 h0 h1 hk hp
    refine v_X1_canLie_97 ?_
    rw [ew2]
    exact ⟨by omega, fun q => ⟨by omega, K _ (hstop a5 (by omega) hp)⟩, fun q => by omega⟩
  | succ k ih =>
    intro a5 h0 h1 hk hp
    refine v_X1_canLie_97 ?_
    rw [ew2]
    refine ⟨by omega, fun q => ⟨by omega, K _ (hstop a5 (by omega) hp)⟩, fun q => ?_⟩
    have hc := cell_at (r := r) (k := a5) hw f1 r0 h0 (by omega)
    have hcr : (c + r * m0 4 3 + a5) / m0 4 3 < m0 4 4 := by omega
    have hrm : 0 ≤ r * m0 4 3 ∧ r * m0 4 3 ≤ 120 := by
      have : r ≤ 30 := by omega
      rcases hw with h | h | h | h <;> rw [h] <;> omega
    have hcn := (row_lt hw hh (x := c + r * m0 4 3 + a5) (by omega)).mp hcr
    rw [if_pos (show 0 ≤ c + r * m0 4 3 + a5 ∧ c + r * m0 4 3 + a5 < m0 4 5 by omega)]
    refine ⟨by omega, by omega, by omega, by omega, fun q2 => ⟨by omega, ih _ (by omega) (by omega) (by omega) (fun x x0 x1 hx => ?_)⟩, fun q2 => ⟨Or.inr ⟨fun z => q2 (z.2 _ (by omega) (by omega) ?_), rfl⟩, rfl⟩⟩
    · have hxe := dm_eq (x := x) (y := c + r * m0 4 3 + a5) hw
      rw [hc.1, hc.2] at hxe
      by_cases hq : x = c + r * m0 4 3 + a5
      · rw [hq]; exact q2
      · exact hp x x0 x1 (by unfold covR at hx ⊢; omega)
    · unfold cov
      rw [hc.1, hc.2]
      omega
theorem can_out {m0 : Mem} {s c wi lo : Int} (ew : shW m0 s = wi) (el : shL m0 s = lo) (hw : m0 4 3 = 1 ∨ m0 4 3 = 2 ∨ m0 4 3 = 3 ∨ m0 4 3 = 4) (hh : m0 4 4 = 1 ∨ m0 4 4 = 2 ∨ m0 4 4 = 3) (hn : m0 4 5 = m0 4 3 * m0 4 4) (h7 : m0 7 2 ≤ 4) (hf : fitsAt (m0 4 3) (m0 4 4) wi lo c) (hwi : 0 ≤ wi) :
    ∀ (k : Nat) (a4 : Int) (u5 : Vl), 0 ≤ a4 → a4 ≤ lo → (lo - a4).toNat ≤ k → (∀ x : Int, 0 ≤ x → x < 12 → covR (m0 4 3) wi c a4 0 x → m0 35 x.toNat = -9) → w_X1_canLie_77 s c (canV (m0 4 3) (m0 4 4) wi lo c (m0 35) m0) (m0 4 3) a4 u5 m0 := by
  have el2 : getF (m0 8) (m0 7 2) s 2 = lo := el
  have hstop : ∀ (a4 : Int), a4 = lo → (∀ x : Int, 0 ≤ x → x < 12 → covR (m0 4 3) wi c a4 0 x → m0 35 x.toNat = -9) → canV (m0 4 3) (m0 4 4) wi lo c (m0 35) m0 1 m0 := fun a4 h hp => ⟨Or.inl ⟨⟨hf, fun x x0 x1 hx => hp x x0 x1 (by unfold cov at hx; unfold covR; omega)⟩, rfl⟩, rfl⟩
  intro k
  induction k with
  | zero =>
    intro a4 u5 h0 h1 hk hp
    refine v_X1_canLie_77 ?_
    rw [el2]
    exact ⟨by omega, fun q => hstop a4 (by omega) hp, fun q => by omega⟩
  | succ k ih =>
    intro a4 u5 h0 h1 hk hp
    refine v_X1_canLie_77 ?_
    rw [el2]
    refine ⟨by omega, fun q => hstop a4 (by omega) hp, fun q => ?_⟩
    exact can_in ew hw hh hn h7 hf h0 q (fun u5 h1 => ih _ _ (by omega) (by omega) (by omega) h1) _ 0 (by omega) hwi (Nat.le_refl _) hp
theorem c_X1_canLie {m0 : Mem} {s c : Int} (hw : m0 4 3 = 1 ∨ m0 4 3 = 2 ∨ m0 4 3 = 3 ∨ m0 4 3 = 4) (hh : m0 4 4 = 1 ∨ m0 4 4 = 2 ∨ m0 4 4 = 3) (hn : m0 4 5 = m0 4 3 * m0 4 4) (h7 : m0 7 2 ≤ 4) (hwi : 0 ≤ shW m0 s ∧ shW m0 s ≤ 3) (hlo : 0 ≤ shL m0 s ∧ shL m0 s ≤ 3) : Tot mX1_canLie 0 0 [vR 34, vI s, vI c] SH m0 (Pr SH (canV (m0 4 3) (m0 4 4) (shW m0 s) (shL m0 s) c (m0 35) m0)) := by
  have ew2 : getF (m0 8) (m0 7 2) s 1 = shW m0 s := rfl
  have el2 : getF (m0 8) (m0 7 2) s 2 = shL m0 s := rfl
  generalize hW : shW m0 s = wi at hwi ew2 ⊢
  generalize hL : shL m0 s = lo at hlo el2 ⊢
  have hno : ¬ fitsAt (m0 4 3) (m0 4 4) wi lo c → canV (m0 4 3) (m0 4 4) wi lo c (m0 35) m0 0 m0 := fun h => ⟨Or.inr ⟨fun z => h z.1, rfl⟩, rfl⟩
  refine v_X1_canLie ?_
  rw [ew2, el2, hn]
  have hmd : 0 ≤ c → 0 ≤ c % m0 4 3 ∧ c % m0 4 3 ≤ 3 ∧ 0 ≤ c / m0 4 3 ∧ c / m0 4 3 ≤ c := by
    intro c0
    rcases hw with h | h | h | h <;> rw [h] <;> omega
  have hn12 : m0 4 3 * m0 4 4 ≤ 12 := by rcases hw with h | h | h | h <;> rcases hh with g | g | g <;> rw [h, g] <;> decide
  refine ⟨fun q => by omega, fun q => ⟨fun q2 => ?_, fun q2 => hno (fun z => q2 ⟨z.1, z.2.1⟩)⟩⟩
  have hm := hmd q2.1
  refine ⟨by omega, by omega, by omega, fun q3 => hno (fun z => by have := z.2.2.1; omega), fun q3 => ⟨by omega, fun q4 => ?_, fun q4 => hno (fun z => by have := z.2.2.2; omega)⟩⟩
  exact can_out hW hL hw hh hn h7 ⟨q2.1, q2.2, q3, q4⟩ hwi.1 _ 0 _ (by omega) hlo.1 (Nat.le_refl _) (fun x x0 x1 hx => by unfold covR at hx; omega)
