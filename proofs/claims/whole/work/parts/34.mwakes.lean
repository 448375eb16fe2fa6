/-! THE MODEL: wakes, firstWaked, loudRooms -/
def w_X10_wakes_5 (r : Int) (P : Int → Mem → Prop) (a2 : Int) (a3 : Int) (u4 : Vl) (u5 : Vl) (u6 : Vl) (mem : Mem) : Prop := WP mX10_wakes none 0 0 (Pr SH P) 5 [vR 44, vI r, vI a2, vI a3, u4, u5, u6] [] SH mem
def w_X10_wakes_61 (r : Int) (P : Int → Mem → Prop) (a2 : Int) (a3 : Int) (a4 : Int) (u5 : Vl) (u6 : Vl) (mem : Mem) : Prop := WP mX10_wakes none 0 0 (Pr SH P) 61 [vR 44, vI r, vI a2, vI a3, vI a4, u5, u6] [] SH mem
def w_X10_wakes_109 (r : Int) (P : Int → Mem → Prop) (a2 : Int) (a3 : Int) (a4 : Int) (a5 : Int) (u6 : Vl) (mem : Mem) : Prop := WP mX10_wakes none 0 0 (Pr SH P) 109 [vR 44, vI r, vI a2, vI a3, vI a4, vI a5, u6] [] SH mem
def w_X10_wakes_174 (r : Int) (P : Int → Mem → Prop) (a2 : Int) (a3 : Int) (a4 : Int) (a5 : Int) (a6 : Int) (mem : Mem) : Prop := WP mX10_wakes none 0 0 (Pr SH P) 174 [vR 44, vI r, vI a2, vI a3, vI a4, vI a5, vI a6] [] SH mem
set_option maxRecDepth 20000 in
theorem v_X10_wakes_5 {r : Int} {P : Int → Mem → Prop} {a2 : Int} {a3 : Int} {u4 : Vl} {u5 : Vl} {u6 : Vl} {mem : Mem}  (H : ((mem 44 3) ≤ a3 → P a2 mem) ∧ (a3 < (mem 44 3) → (inR (4 * a3)) ∧ ((inR ((4 * a3) + 2)) ∧ ((0 ≤ ((4 * a3) + 2)) ∧ ((((4 * a3) + 2) < 12) ∧ ((inR (4 * r)) ∧ ((inR ((4 * r) + 1)) ∧ ((0 ≤ ((4 * r) + 1)) ∧ ((((4 * r) + 1) < 12) ∧ (((mem 45 ((4 * a3) + 2).toNat) ≤ (mem 47 ((4 * r) + 1).toNat) → w_X10_wakes_61 r P a2 a3 (mem 47 ((4 * r) + 1).toNat) u5 u6 mem) ∧ ((mem 47 ((4 * r) + 1).toNat) < (mem 45 ((4 * a3) + 2).toNat) → w_X10_wakes_61 r P a2 a3 (mem 45 ((4 * a3) + 2).toNat) u5 u6 mem))))))))))) : w_X10_wakes_5 r P a2 a3 u4 u5 u6 mem := by
  unfold w_X10_wakes_5
  refine q_iload_n dX10_wakes_5 rfl ?_
  refine q_aload_n dX10_wakes_6 rfl ?_
  refine q_geti dX10_wakes_7 lf_RX10_165 s44 rfl ?_
  refine q_icmp_ge (tgt := 204) dX10_wakes_10 (by decide) (fun c10 => ?_) (fun c10 => ?_)
  · have H := H.1 c10
    refine q_iload_n dX10_wakes_204 rfl ?_
    exact q_iret dX10_wakes_205 rfl ⟨_, rfl, rfl, H⟩
  · have H := H.2 c10
    refine q_aload_n dX10_wakes_13 rfl ?_
    refine q_getr (r := 45) dX10_wakes_14 lf_RX10_19 s44 rfl rfl ?_
    refine q_iconst dX10_wakes_17 (by decide) ?_
    refine q_iload_n dX10_wakes_18 rfl ?_
    obtain ⟨h1, H⟩ := H
    refine q_imul dX10_wakes_19 h1 ?_
    refine q_iconst dX10_wakes_20 (by decide) ?_
    obtain ⟨h2, H⟩ := H
    refine q_iadd dX10_wakes_21 h2 ?_
    obtain ⟨h3, H⟩ := H
    obtain ⟨h4, H⟩ := H
    refine q_iald dX10_wakes_22 s45 h3 h4 ?_
    refine q_aload_n dX10_wakes_23 rfl ?_
    refine q_getr (r := 47) dX10_wakes_24 lf_RX10_26 s44 rfl rfl ?_
    refine q_iconst dX10_wakes_27 (by decide) ?_
    refine q_iload_n dX10_wakes_28 rfl ?_
    obtain ⟨h5, H⟩ := H
    refine q_imul dX10_wakes_29 h5 ?_
    refine q_iconst dX10_wakes_30 (by decide) ?_
    obtain ⟨h6, H⟩ := H
    refine q_iadd dX10_wakes_31 h6 ?_
    obtain ⟨h7, H⟩ := H
    obtain ⟨h8, H⟩ := H
    refine q_iald dX10_wakes_32 s47 h7 h8 ?_
    refine q_icmp_le (tgt := 49) dX10_wakes_33 (by decide) (fun c33 => ?_) (fun c33 => ?_)
    · have H := H.1 c33
      refine q_aload_n dX10_wakes_49 rfl ?_
      refine q_getr (r := 47) dX10_wakes_50 lf_RX10_26 s44 rfl rfl ?_
      refine q_iconst dX10_wakes_53 (by decide) ?_
      refine q_iload_n dX10_wakes_54 rfl ?_
      refine q_imul dX10_wakes_55 h5 ?_
      refine q_iconst dX10_wakes_56 (by decide) ?_
      refine q_iadd dX10_wakes_57 h6 ?_
      refine q_iald dX10_wakes_58 s47 h7 h8 ?_
      refine q_istore dX10_wakes_59 (by decide) rfl ?_
      exact H
    · have H := H.2 c33
      refine q_aload_n dX10_wakes_36 rfl ?_
      refine q_getr (r := 45) dX10_wakes_37 lf_RX10_19 s44 rfl rfl ?_
      refine q_iconst dX10_wakes_40 (by decide) ?_
      refine q_iload_n dX10_wakes_41 rfl ?_
      refine q_imul dX10_wakes_42 h1 ?_
      refine q_iconst dX10_wakes_43 (by decide) ?_
      refine q_iadd dX10_wakes_44 h2 ?_
      refine q_iald dX10_wakes_45 s45 h3 h4 ?_
      refine q_goto (tgt := 59) dX10_wakes_46 (by decide) ?_
      refine q_istore dX10_wakes_59 (by decide) rfl ?_
      exact H
set_option maxRecDepth 20000 in
theorem v_X10_wakes_61 {r : Int} {P : Int → Mem → Prop} {a2 : Int} {a3 : Int} {a4 : Int} {u5 : Vl} {u6 : Vl} {mem : Mem}  (H : (inR (4 * a3)) ∧ ((inR ((4 * a3) + 3)) ∧ ((0 ≤ ((4 * a3) + 3)) ∧ ((((4 * a3) + 3) < 12) ∧ ((inR (4 * r)) ∧ ((inR ((4 * r) + 2)) ∧ ((0 ≤ ((4 * r) + 2)) ∧ ((((4 * r) + 2) < 12) ∧ (((mem 47 ((4 * r) + 2).toNat) ≤ (mem 45 ((4 * a3) + 3).toNat) → w_X10_wakes_109 r P a2 a3 a4 (mem 47 ((4 * r) + 2).toNat) u6 mem) ∧ ((mem 45 ((4 * a3) + 3).toNat) < (mem 47 ((4 * r) + 2).toNat) → w_X10_wakes_109 r P a2 a3 a4 (mem 45 ((4 * a3) + 3).toNat) u6 mem)))))))))) : w_X10_wakes_61 r P a2 a3 a4 u5 u6 mem := by
  unfold w_X10_wakes_61
  refine q_aload_n dX10_wakes_61 rfl ?_
  refine q_getr (r := 45) dX10_wakes_62 lf_RX10_19 s44 rfl rfl ?_
  refine q_iconst dX10_wakes_65 (by decide) ?_
  refine q_iload_n dX10_wakes_66 rfl ?_
  obtain ⟨h1, H⟩ := H
  refine q_imul dX10_wakes_67 h1 ?_
  refine q_iconst dX10_wakes_68 (by decide) ?_
  obtain ⟨h2, H⟩ := H
  refine q_iadd dX10_wakes_69 h2 ?_
  obtain ⟨h3, H⟩ := H
  obtain ⟨h4, H⟩ := H
  refine q_iald dX10_wakes_70 s45 h3 h4 ?_
  refine q_aload_n dX10_wakes_71 rfl ?_
  refine q_getr (r := 47) dX10_wakes_72 lf_RX10_26 s44 rfl rfl ?_
  refine q_iconst dX10_wakes_75 (by decide) ?_
  refine q_iload_n dX10_wakes_76 rfl ?_
  obtain ⟨h5, H⟩ := H
  refine q_imul dX10_wakes_77 h5 ?_
  refine q_iconst dX10_wakes_78 (by decide) ?_
  obtain ⟨h6, H⟩ := H
  refine q_iadd dX10_wakes_79 h6 ?_
  obtain ⟨h7, H⟩ := H
  obtain ⟨h8, H⟩ := H
  refine q_iald dX10_wakes_80 s47 h7 h8 ?_
  refine q_icmp_ge (tgt := 97) dX10_wakes_81 (by decide) (fun c81 => ?_) (fun c81 => ?_)
  · have H := H.1 c81
    refine q_aload_n dX10_wakes_97 rfl ?_
    refine q_getr (r := 47) dX10_wakes_98 lf_RX10_26 s44 rfl rfl ?_
    refine q_iconst dX10_wakes_101 (by decide) ?_
    refine q_iload_n dX10_wakes_102 rfl ?_
    refine q_imul dX10_wakes_103 h5 ?_
    refine q_iconst dX10_wakes_104 (by decide) ?_
    refine q_iadd dX10_wakes_105 h6 ?_
    refine q_iald dX10_wakes_106 s47 h7 h8 ?_
    refine q_istore dX10_wakes_107 (by decide) rfl ?_
    exact H
  · have H := H.2 c81
    refine q_aload_n dX10_wakes_84 rfl ?_
    refine q_getr (r := 45) dX10_wakes_85 lf_RX10_19 s44 rfl rfl ?_
    refine q_iconst dX10_wakes_88 (by decide) ?_
    refine q_iload_n dX10_wakes_89 rfl ?_
    refine q_imul dX10_wakes_90 h1 ?_
    refine q_iconst dX10_wakes_91 (by decide) ?_
    refine q_iadd dX10_wakes_92 h2 ?_
    refine q_iald dX10_wakes_93 s45 h3 h4 ?_
    refine q_goto (tgt := 107) dX10_wakes_94 (by decide) ?_
    refine q_istore dX10_wakes_107 (by decide) rfl ?_
    exact H
set_option maxRecDepth 20000 in
theorem v_X10_wakes_109 {r : Int} {P : Int → Mem → Prop} {a2 : Int} {a3 : Int} {a4 : Int} {a5 : Int} {u6 : Vl} {mem : Mem}  (H : (a5 < a4 → (inR (a3 + 1)) ∧ (w_X10_wakes_5 r P a2 (a3 + 1) (vI a4) (vI a5) u6 mem)) ∧ (a4 ≤ a5 → (inR (4 * a3)) ∧ ((0 ≤ (4 * a3)) ∧ (((4 * a3) < 12) ∧ ((okGM mem) ∧ ((0 ≤ (mem 45 (4 * a3).toNat)) ∧ (((mem 45 (4 * a3).toNat) < nM mem) ∧ (∀ m8 : Mem, sprP mem (mem 45 (4 * a3).toNat) m8 → ((inR ((4 * a3) + 1)) ∧ ((0 ≤ ((4 * a3) + 1)) ∧ ((((4 * a3) + 1) < 12) ∧ ((inR (4 * r)) ∧ ((0 ≤ (4 * r)) ∧ (((4 * r) < 12) ∧ ((0 ≤ (m8 47 (4 * r).toNat)) ∧ (((m8 47 (4 * r).toNat) < 12) ∧ ((inR ((m8 45 ((4 * a3) + 1).toNat) - (m8 62 (m8 47 (4 * r).toNat).toNat))) ∧ ((inR ((4 * r) + 3)) ∧ ((0 ≤ ((4 * r) + 3)) ∧ ((((4 * r) + 3) < 12) ∧ (((max 0 ((m8 45 ((4 * a3) + 1).toNat) - (m8 62 (m8 47 (4 * r).toNat).toNat))) ≤ (m8 47 ((4 * r) + 3).toNat) → w_X10_wakes_174 r P a2 a3 a4 a5 0 m8) ∧ ((m8 47 ((4 * r) + 3).toNat) < (max 0 ((m8 45 ((4 * a3) + 1).toNat) - (m8 62 (m8 47 (4 * r).toNat).toNat))) → w_X10_wakes_174 r P a2 a3 a4 a5 1 m8)))))))))))))))))))))) : w_X10_wakes_109 r P a2 a3 a4 a5 u6 mem := by
  unfold w_X10_wakes_109
  refine q_iload dX10_wakes_109 rfl ?_
  refine q_iload dX10_wakes_111 rfl ?_
  refine q_icmp_gt (tgt := 198) dX10_wakes_113 (by decide) (fun c113 => ?_) (fun c113 => ?_)
  · have H := H.1 c113
    obtain ⟨h1, H⟩ := H
    refine q_iinc dX10_wakes_198 rfl h1 rfl ?_
    refine q_goto (tgt := 5) dX10_wakes_201 (by decide) ?_
    exact H
  · have H := H.2 c113
    refine q_aload_n dX10_wakes_116 rfl ?_
    refine q_aload_n dX10_wakes_117 rfl ?_
    refine q_getr (r := 45) dX10_wakes_118 lf_RX10_19 s44 rfl rfl ?_
    refine q_iconst dX10_wakes_121 (by decide) ?_
    refine q_iload_n dX10_wakes_122 rfl ?_
    obtain ⟨h2, H⟩ := H
    refine q_imul dX10_wakes_123 h2 ?_
    obtain ⟨h3, H⟩ := H
    obtain ⟨h4, H⟩ := H
    refine q_iald dX10_wakes_124 s45 h3 h4 ?_
    obtain ⟨h5, H⟩ := H
    obtain ⟨h6, H⟩ := H
    obtain ⟨h7, H⟩ := H
    refine q_cVn (as := [vI _]) dX10_wakes_125 kmX10_spreads kvX10_spreads lm_RX10_197 ⟨by decide, by decide⟩ s44 ⟨by decide, rfl⟩ rfl rfl (Nat.le_of_ble_eq_true rfl) (c_spr h5 h6 h7) (fun m1 hq => ?_)
    have H := H m1 hq
    refine q_aload_n dX10_wakes_128 rfl ?_
    refine q_getr (r := 45) dX10_wakes_129 lf_RX10_19 s44 rfl rfl ?_
    refine q_iconst dX10_wakes_132 (by decide) ?_
    refine q_iload_n dX10_wakes_133 rfl ?_
    refine q_imul dX10_wakes_134 h2 ?_
    refine q_iconst dX10_wakes_135 (by decide) ?_
    obtain ⟨h9, H⟩ := H
    refine q_iadd dX10_wakes_136 h9 ?_
    obtain ⟨h10, H⟩ := H
    obtain ⟨h11, H⟩ := H
    refine q_iald dX10_wakes_137 s45 h10 h11 ?_
    refine q_aload_n dX10_wakes_138 rfl ?_
    refine q_getr (r := 62) dX10_wakes_139 lf_RX10_72 s44 rfl rfl ?_
    refine q_aload_n dX10_wakes_142 rfl ?_
    refine q_getr (r := 47) dX10_wakes_143 lf_RX10_26 s44 rfl rfl ?_
    refine q_iconst dX10_wakes_146 (by decide) ?_
    refine q_iload_n dX10_wakes_147 rfl ?_
    obtain ⟨h12, H⟩ := H
    refine q_imul dX10_wakes_148 h12 ?_
    obtain ⟨h13, H⟩ := H
    obtain ⟨h14, H⟩ := H
    refine q_iald dX10_wakes_149 s47 h13 h14 ?_
    obtain ⟨h15, H⟩ := H
    obtain ⟨h16, H⟩ := H
    refine q_iald dX10_wakes_150 s62 h15 h16 ?_
    obtain ⟨h17, H⟩ := H
    refine q_cSi (as := [vI _, vI _]) dX10_wakes_151 kmX10_left ktX10_left lm_RX10_201 ⟨by decide, by decide⟩ rfl rfl (Nat.le_of_ble_eq_true rfl) (c_X10_left h17) (fun v m1 hq => ?_)
    obtain ⟨rfl, rfl⟩ := hq
    refine q_aload_n dX10_wakes_154 rfl ?_
    refine q_getr (r := 47) dX10_wakes_155 lf_RX10_26 s44 rfl rfl ?_
    refine q_iconst dX10_wakes_158 (by decide) ?_
    refine q_iload_n dX10_wakes_159 rfl ?_
    refine q_imul dX10_wakes_160 h12 ?_
    refine q_iconst dX10_wakes_161 (by decide) ?_
    obtain ⟨h18, H⟩ := H
    refine q_iadd dX10_wakes_162 h18 ?_
    obtain ⟨h19, H⟩ := H
    obtain ⟨h20, H⟩ := H
    refine q_iald dX10_wakes_163 s47 h19 h20 ?_
    refine q_icmp_le (tgt := 171) dX10_wakes_164 (by decide) (fun c164 => ?_) (fun c164 => ?_)
    · have H := H.1 c164
      refine q_iconst dX10_wakes_171 (by decide) ?_
      refine q_istore dX10_wakes_172 (by decide) rfl ?_
      exact H
    · have H := H.2 c164
      refine q_iconst dX10_wakes_167 (by decide) ?_
      refine q_goto (tgt := 172) dX10_wakes_168 (by decide) ?_
      refine q_istore dX10_wakes_172 (by decide) rfl ?_
      exact H
set_option maxRecDepth 20000 in
theorem v_X10_wakes_174 {r : Int} {P : Int → Mem → Prop} {a2 : Int} {a3 : Int} {a4 : Int} {a5 : Int} {a6 : Int} {mem : Mem}  (H : (a6 = 0 → (inR (a3 + 1)) ∧ (w_X10_wakes_5 r P a2 (a3 + 1) (vI a4) (vI a5) (vI a6) mem)) ∧ (¬ a6 = 0 → (a2 = (-9) → (inR (a3 + 1)) ∧ (w_X10_wakes_5 r P a4 (a3 + 1) (vI a4) (vI a5) (vI a6) mem)) ∧ (¬ a2 = (-9) → (a2 ≤ a4 → (inR (a3 + 1)) ∧ (w_X10_wakes_5 r P a2 (a3 + 1) (vI a4) (vI a5) (vI a6) mem)) ∧ (a4 < a2 → (inR (a3 + 1)) ∧ (w_X10_wakes_5 r P a4 (a3 + 1) (vI a4) (vI a5) (vI a6) mem))))) : w_X10_wakes_174 r P a2 a3 a4 a5 a6 mem := by
  unfold w_X10_wakes_174
  refine q_iload dX10_wakes_174 rfl ?_
  refine q_if_eq (tgt := 196) dX10_wakes_176 (by decide) (fun c176 => ?_) (fun c176 => ?_)
  · have H := H.1 c176
    refine q_iload_n dX10_wakes_196 rfl ?_
    refine q_istore_n dX10_wakes_197 (by decide) rfl ?_
    obtain ⟨h1, H⟩ := H
    refine q_iinc dX10_wakes_198 rfl h1 rfl ?_
    refine q_goto (tgt := 5) dX10_wakes_201 (by decide) ?_
    exact H
  · have H := H.2 c176
    refine q_iload_n dX10_wakes_179 rfl ?_
    refine q_bipush dX10_wakes_180 rfl (by decide) ?_
    refine q_icmp_eq (tgt := 191) dX10_wakes_182 (by decide) (fun c182 => ?_) (fun c182 => ?_)
    · have H := H.1 c182
      refine q_iload dX10_wakes_191 rfl ?_
      refine q_goto (tgt := 197) dX10_wakes_193 (by decide) ?_
      refine q_istore_n dX10_wakes_197 (by decide) rfl ?_
      obtain ⟨h2, H⟩ := H
      refine q_iinc dX10_wakes_198 rfl h2 rfl ?_
      refine q_goto (tgt := 5) dX10_wakes_201 (by decide) ?_
      exact H
    · have H := H.2 c182
      refine q_iload dX10_wakes_185 rfl ?_
      refine q_iload_n dX10_wakes_187 rfl ?_
      refine q_icmp_ge (tgt := 196) dX10_wakes_188 (by decide) (fun c188 => ?_) (fun c188 => ?_)
      · have H := H.1 c188
        refine q_iload_n dX10_wakes_196 rfl ?_
        refine q_istore_n dX10_wakes_197 (by decide) rfl ?_
        obtain ⟨h3, H⟩ := H
        refine q_iinc dX10_wakes_198 rfl h3 rfl ?_
        refine q_goto (tgt := 5) dX10_wakes_201 (by decide) ?_
        exact H
      · have H := H.2 c188
        refine q_iload dX10_wakes_191 rfl ?_
        refine q_goto (tgt := 197) dX10_wakes_193 (by decide) ?_
        refine q_istore_n dX10_wakes_197 (by decide) rfl ?_
        obtain ⟨h4, H⟩ := H
        refine q_iinc dX10_wakes_198 rfl h4 rfl ?_
        refine q_goto (tgt := 5) dX10_wakes_201 (by decide) ?_
        exact H
set_option maxRecDepth 20000 in
theorem v_X10_wakes {r : Int} {P : Int → Mem → Prop} {mem : Mem}  (H : w_X10_wakes_5 r P (-9) 0 (vJ 0) (vJ 0) (vJ 0) mem) : Tot mX10_wakes 0 0 [vR 44, vI r] SH mem (Pr SH P) := by
  refine Tot.of rfl (Nat.le_of_ble_eq_true rfl) (by simp [isJ]) (ls := [vR 44, vI r, vJ 0, vJ 0, vJ 0, vJ 0, vJ 0]) rfl ?_
  refine q_bipush dX10_wakes_0 rfl (by decide) ?_
  refine q_istore_n dX10_wakes_2 (by decide) rfl ?_
  refine q_iconst dX10_wakes_3 (by decide) ?_
  refine q_istore_n dX10_wakes_4 (by decide) rfl ?_
  exact H


/-- noise n wakes room r, when both have their hours -/
abbrev luM (m : Mem) (r n : Int) : Prop := (mnA m n ≤ mrB m r ∧ mrA m r ≤ mnB m n) ∧ mrM m r < mnS m n - DM m (mnC m n) (mrC m r)
/-- the first hour of the first k noises in which room r is waked; -9 -/
def wkM (m : Mem) (r : Int) (k : Int) (v : Int) : Prop := (v = -9 ∧ ∀ n : Int, 0 ≤ n → n < k → ¬ luM m r n) ∨ ((∃ n : Int, 0 ≤ n ∧ n < k ∧ luM m r n ∧ v = max (mnA m n) (mrA m r)) ∧ ∀ n : Int, 0 ≤ n → n < k → luM m r n → v ≤ max (mnA m n) (mrA m r))
def anN (m0 : Mem) (P : Int → Prop) (v : Int) (m : Mem) : Prop := P v ∧ Fr [62] m0 m
theorem mro_fr {ks : List Nat} {m m' : Mem} (h : Fr ks m m') (h5 : 47 ∉ ks := by decide) : mrA m' = mrA m ∧ mrB m' = mrB m ∧ mrM m' = mrM m ∧ mrC m' = mrC m := by
  unfold mrA mrB mrM mrC
  rw [h 47 h5]
  exact ⟨rfl, rfl, rfl, rfl⟩
theorem wk_no {m : Mem} {r k v : Int} (h : wkM m r k v) (hno : ¬ luM m r k) : wkM m r (k + 1) v := by
  rcases h with ⟨h1, h2⟩ | ⟨⟨n, n0, nk, h1, h2⟩, h3⟩
  · refine Or.inl ⟨h1, fun n n0 nk hl => ?_⟩
    by_cases q : n = k
    · exact hno (q ▸ hl)
    · exact h2 n n0 (by omega) hl
  · refine Or.inr ⟨⟨n, n0, by omega, h1, h2⟩, fun j j0 jk hl => ?_⟩
    by_cases q : j = k
    · exact absurd (q ▸ hl) hno
    · exact h3 j j0 (by omega) hl
theorem wk_yes {m : Mem} {r k v v' : Int} (k0 : 0 ≤ k) (h : wkM m r k v) (hA : 0 ≤ mrA m r) (hyes : luM m r k) (hv : v' = if v = -9 ∨ max (mnA m k) (mrA m r) < v then max (mnA m k) (mrA m r) else v) : wkM m r (k + 1) v' := by
  rcases h with ⟨h1, h2⟩ | ⟨⟨n, n0, nk, h1, h2⟩, h3⟩
  · rw [if_pos (Or.inl h1)] at hv
    refine Or.inr ⟨⟨k, k0, by omega, hyes, hv⟩, fun j j0 jk hl => ?_⟩
    by_cases q : j = k
    · rw [q, hv]; exact Int.le_refl _
    · exact absurd hl (h2 j j0 (by omega))
  · by_cases q : v = -9 ∨ max (mnA m k) (mrA m r) < v
    · rw [if_pos q] at hv
      refine Or.inr ⟨⟨k, k0, by omega, hyes, hv⟩, fun j j0 jk hl => ?_⟩
      by_cases qj : j = k
      · rw [qj, hv]; exact Int.le_refl _
      · have := h3 j j0 (by omega) hl
        rcases q with q | q <;> omega
    · rw [if_neg q] at hv
      refine Or.inr ⟨⟨n, n0, by omega, h1, by rw [hv]; exact h2⟩, fun j j0 jk hl => ?_⟩
      by_cases qj : j = k
      · rw [qj, hv]; omega
      · rw [hv]; exact h3 j j0 (by omega) hl
theorem wk_174 {m0 : Mem} {r : Int} {a2 a3 a4 a5 a6 : Int} {m : Mem} (hy : rdM m0) (r0 : 0 ≤ r) (rn : r < m0 44 7) (n0 : 0 ≤ a3) (nn : a3 < m0 44 3) (hov : mnA m0 a3 ≤ mrB m0 r ∧ mrA m0 r ≤ mnB m0 a3) (h4 : a4 = max (mnA m0 a3) (mrA m0 r)) (hF : Fr [62] m0 m) (hw : wkM m0 r a3 a2) (h6 : (a6 = 1 ∧ mrM m0 r < mnS m0 a3 - DM m0 (mnC m0 a3) (mrC m0 r)) ∨ (a6 = 0 ∧ ¬ mrM m0 r < mnS m0 a3 - DM m0 (mnC m0 a3) (mrC m0 r)))
    (K : ∀ (a2 : Int) (u4 u5 u6 : Vl), wkM m0 r (a3 + 1) a2 → w_X10_wakes_5 r (anN m0 (wkM m0 r (m0 44 3))) a2 (a3 + 1) u4 u5 u6 m) : w_X10_wakes_174 r (anN m0 (wkM m0 r (m0 44 3))) a2 a3 a4 a5 a6 m := by
  have h3 := hy.1.2.2.2.2.1
  have hno := hy.1.2.2.2.2.2.2.2.1 a3 n0 nn
  have hro := hy.1.2.2.2.2.2.2.2.2.2 r r0 rn
  have hA : 0 ≤ mrA m0 r := hro.2.1.1
  refine v_X10_wakes_174 ?_
  rw [h4]
  refine ⟨fun c => ⟨by omega, K _ _ _ _ (wk_no hw (fun z => ?_))⟩, fun c => ?_⟩
  · rcases h6 with ⟨q, _⟩ | ⟨_, q⟩
    · omega
    · exact q z.2
  · have hl : luM m0 r a3 := by
      rcases h6 with ⟨_, q⟩ | ⟨q, _⟩
      · exact ⟨hov, q⟩
      · exact absurd q c
    refine ⟨fun c2 => ⟨by omega, K _ _ _ _ (wk_yes n0 hw hA hl (by rw [if_pos (Or.inl c2)]))⟩, fun c2 => ⟨fun c3 => ⟨by omega, K _ _ _ _ (wk_yes n0 hw hA hl (by rw [if_neg (by omega)]))⟩, fun c3 => ⟨by omega, K _ _ _ _ (wk_yes n0 hw hA hl (by rw [if_pos (Or.inr c3)]))⟩⟩⟩
theorem wk_loop {m0 : Mem} {r : Int} (hy : rdM m0) (r0 : 0 ≤ r) (rn : r < m0 44 7) :
    ∀ (k : Nat) (a2 a3 : Int) (u4 u5 u6 : Vl) (m : Mem), 0 ≤ a3 → a3 ≤ m0 44 3 → (m0 44 3 - a3).toNat ≤ k → Fr [62] m0 m → wkM m0 r a3 a2 → w_X10_wakes_5 r (anN m0 (wkM m0 r (m0 44 3))) a2 a3 u4 u5 u6 m := by
  have h3 := hy.1.2.2.2.2.1
  have h7 := hy.1.2.2.2.2.2.2.1
  have hn := okG_n hy.2
  intro k
  induction k with
  | zero =>
    intro a2 a3 u4 u5 u6 m h0 h1 hk hF hw
    refine v_X10_wakes_5 ?_
    rw [hF.at 44]
    exact ⟨fun z => ⟨by rw [show m0 44 3 = a3 by omega]; exact hw, hF⟩, fun z => by omega⟩
  | succ k ih =>
    intro a2 a3 u4 u5 u6 m h0 h1 hk hF hw
    by_cases z : a3 < m0 44 3
    · have hno := hy.1.2.2.2.2.2.2.2.1 a3 h0 z
      have hro := hy.1.2.2.2.2.2.2.2.2.2 r r0 rn
      have eA : m0 45 (4 * a3 + 2).toNat = mnA m0 a3 := rfl
      have eB : m0 45 (4 * a3 + 3).toNat = mnB m0 a3 := rfl
      have eS : m0 45 (4 * a3 + 1).toNat = mnS m0 a3 := rfl
      have eC : m0 45 (4 * a3).toNat = mnC m0 a3 := rfl
      have rA : m0 47 (4 * r + 1).toNat = mrA m0 r := rfl
      have rB : m0 47 (4 * r + 2).toNat = mrB m0 r := rfl
      have rC : m0 47 (4 * r).toNat = mrC m0 r := rfl
      have rM : m0 47 (4 * r + 3).toNat = mrM m0 r := rfl
      have hD := DM_b hy hno.1.1 hno.1.2 hro.1.1 hro.1.2
      have H109 : ∀ (a4 a5 : Int) (u6 : Vl), a4 = max (mnA m0 a3) (mrA m0 r) → a5 = min (mnB m0 a3) (mrB m0 r) → w_X10_wakes_109 r (anN m0 (wkM m0 r (m0 44 3))) a2 a3 a4 a5 u6 m := by
        intro a4 a5 u6 e4 e5
        refine v_X10_wakes_109 ?_
        rw [hF.at 45, eC]
        have hq := okGM_fr hF
        refine ⟨fun y => ⟨by omega, ih _ _ _ _ _ _ (by omega) (by omega) (by omega) hF (wk_no hw (fun q => by have q1 := q.1; have q2 := hno.2.2; have q3 := hro.2.1; omega))⟩, fun y => ⟨by omega, by omega, by omega, hq.2.2 hy.2, hno.1.1, by rw [hq.2.1]; exact hno.1.2, fun m8 h8 => ?_⟩⟩
        have hF8 := hF.tr h8.1
        rw [hF8.at 45, hF8.at 47, eS, rC, rM]
        have hd : m8 62 (mrC m0 r).toNat = DM m0 (mnC m0 a3) (mrC m0 r) := by
          rw [h8.2 _ hro.1.1 (by rw [hq.2.1]; exact hro.1.2)]
          show DM m (mnC m0 a3) (mrC m0 r) = _
          rw [DM_fr hF]
        rw [hd]
        have hS := hno.2.1
        have hM := hro.2.2
        have hC12 : mrC m0 r < 12 := Int.lt_of_lt_of_le hro.1.2 hn.2
        have hov : mnA m0 a3 ≤ mrB m0 r ∧ mrA m0 r ≤ mnB m0 a3 := by omega
        refine ⟨by omega, by omega, by omega, by omega, by omega, by omega, hro.1.1, hC12, by omega, by omega, by omega, by omega, fun g => ?_, fun g => ?_⟩
        · exact wk_174 hy r0 rn h0 z hov e4 hF8 hw (Or.inr ⟨rfl, by omega⟩) (fun a2 u4 u5 u6 h => ih _ _ _ _ _ _ (by omega) (by omega) (by omega) hF8 h)
        · exact wk_174 hy r0 rn h0 z hov e4 hF8 hw (Or.inl ⟨rfl, by omega⟩) (fun a2 u4 u5 u6 h => ih _ _ _ _ _ _ (by omega) (by omega) (by omega) hF8 h)
      have H61 : ∀ (a4 : Int) (u5 u6 : Vl), a4 = max (mnA m0 a3) (mrA m0 r) → w_X10_wakes_61 r (anN m0 (wkM m0 r (m0 44 3))) a2 a3 a4 u5 u6 m := by
        intro a4 u5 u6 e4
        refine v_X10_wakes_61 ?_
        rw [hF.at 45, hF.at 47, eB, rB]
        exact ⟨by omega, by omega, by omega, by omega, by omega, by omega, by omega, by omega, fun y => H109 _ _ _ e4 (by omega), fun y => H109 _ _ _ e4 (by omega)⟩
      refine v_X10_wakes_5 ?_
      rw [hF.at 44, hF.at 45, hF.at 47, eA, rA]
      exact ⟨fun q => by omega, fun _ => ⟨by omega, by omega, by omega, by omega, by omega, by omega, by omega, by omega, fun y => H61 _ _ _ (by omega), fun y => H61 _ _ _ (by omega)⟩⟩
    · refine v_X10_wakes_5 ?_
      rw [hF.at 44]
      exact ⟨fun z => ⟨by rw [show m0 44 3 = a3 by omega]; exact hw, hF⟩, fun q => absurd q z⟩
theorem c_X10_wakes {m0 : Mem} {r : Int} (hy : rdM m0) (r0 : 0 ≤ r) (rn : r < m0 44 7) : Tot mX10_wakes 0 0 [vR 44, vI r] SH m0 (Pr SH (anN m0 (wkM m0 r (m0 44 3)))) :=
  v_X10_wakes (wk_loop hy r0 rn _ (-9) 0 _ _ _ m0 (by omega) hy.1.2.2.2.2.1.1 (Nat.le_refl _) Fr.rf (Or.inl ⟨rfl, fun n n0 n1 => by omega⟩))
def w_X10_firstWaked_2 (P : Int → Mem → Prop) (a1 : Int) (mem : Mem) : Prop := WP mX10_firstWaked none 0 0 (Pr SH P) 2 [vR 44, vI a1] [] SH mem
set_option maxRecDepth 20000 in
theorem v_X10_firstWaked_2 {P : Int → Mem → Prop} {a1 : Int} {mem : Mem}  (H : ((mem 44 7) ≤ a1 → P (-9) mem) ∧ (a1 < (mem 44 7) → (rdM mem) ∧ ((0 ≤ a1) ∧ ((a1 < mem 44 7) ∧ (∀ (v4 : Int) (m5 : Mem), anN mem (wkM mem a1 (mem 44 3)) v4 m5 → ((v4 = (-9) → (inR (a1 + 1)) ∧ (w_X10_firstWaked_2 P (a1 + 1) m5)) ∧ (¬ v4 = (-9) → P a1 m5))))))) : w_X10_firstWaked_2 P a1 mem := by
  unfold w_X10_firstWaked_2
  refine q_iload_n dX10_firstWaked_2 rfl ?_
  refine q_aload_n dX10_firstWaked_3 rfl ?_
  refine q_geti dX10_firstWaked_4 lf_RX10_168 s44 rfl ?_
  refine q_icmp_ge (tgt := 28) dX10_firstWaked_7 (by decide) (fun c7 => ?_) (fun c7 => ?_)
  · have H := H.1 c7
    refine q_bipush dX10_firstWaked_28 rfl (by decide) ?_
    exact q_iret dX10_firstWaked_30 rfl ⟨_, rfl, rfl, H⟩
  · have H := H.2 c7
    refine q_aload_n dX10_firstWaked_10 rfl ?_
    refine q_iload_n dX10_firstWaked_11 rfl ?_
    obtain ⟨h1, H⟩ := H
    obtain ⟨h2, H⟩ := H
    obtain ⟨h3, H⟩ := H
    refine q_cVi (as := [vI _]) dX10_firstWaked_12 kmX10_wakes kvX10_wakes lm_RX10_232 ⟨by decide, by decide⟩ s44 ⟨by decide, rfl⟩ rfl rfl (Nat.le_of_ble_eq_true rfl) (c_X10_wakes h1 h2 h3) (fun v m1 hq => ?_)
    have H := H v m1 hq
    refine q_bipush dX10_firstWaked_15 rfl (by decide) ?_
    refine q_icmp_eq (tgt := 22) dX10_firstWaked_17 (by decide) (fun c17 => ?_) (fun c17 => ?_)
    · have H := H.1 c17
      obtain ⟨h6, H⟩ := H
      refine q_iinc dX10_firstWaked_22 rfl h6 rfl ?_
      refine q_goto (tgt := 2) dX10_firstWaked_25 (by decide) ?_
      exact H
    · have H := H.2 c17
      refine q_iload_n dX10_firstWaked_20 rfl ?_
      exact q_iret dX10_firstWaked_21 rfl ⟨_, rfl, rfl, H⟩
set_option maxRecDepth 20000 in
theorem v_X10_firstWaked {P : Int → Mem → Prop} {mem : Mem}  (H : w_X10_firstWaked_2 P 0 mem) : Tot mX10_firstWaked 0 0 [vR 44] SH mem (Pr SH P) := by
  refine Tot.of rfl (Nat.le_of_ble_eq_true rfl) (by simp [isJ]) (ls := [vR 44, vJ 0]) rfl ?_
  refine q_iconst dX10_firstWaked_0 (by decide) ?_
  refine q_istore_n dX10_firstWaked_1 (by decide) rfl ?_
  exact H

def w_X10_loudRooms_4 (P : Int → Mem → Prop) (a1 : Int) (a2 : Int) (u3 : Vl) (u4 : Vl) (u5 : Vl) (mem : Mem) : Prop := WP mX10_loudRooms none 0 0 (Pr SH P) 4 [vR 44, vI a1, vI a2, u3, u4, u5] [] SH mem
def w_X10_loudRooms_17 (P : Int → Mem → Prop) (a1 : Int) (a2 : Int) (a3 : Int) (a4 : Int) (u5 : Vl) (mem : Mem) : Prop := WP mX10_loudRooms none 0 0 (Pr SH P) 17 [vR 44, vI a1, vI a2, vI a3, vI a4, u5] [] SH mem
set_option maxRecDepth 20000 in
theorem v_X10_loudRooms_4 {P : Int → Mem → Prop} {a1 : Int} {a2 : Int} {u3 : Vl} {u4 : Vl} {u5 : Vl} {mem : Mem}  (H : ((mem 44 7) ≤ a2 → P a1 mem) ∧ (a2 < (mem 44 7) → w_X10_loudRooms_17 P a1 a2 0 0 u5 mem)) : w_X10_loudRooms_4 P a1 a2 u3 u4 u5 mem := by
  unfold w_X10_loudRooms_4
  refine q_iload_n dX10_loudRooms_4 rfl ?_
  refine q_aload_n dX10_loudRooms_5 rfl ?_
  refine q_geti dX10_loudRooms_6 lf_RX10_168 s44 rfl ?_
  refine q_icmp_ge (tgt := 145) dX10_loudRooms_9 (by decide) (fun c9 => ?_) (fun c9 => ?_)
  · have H := H.1 c9
    refine q_iload_n dX10_loudRooms_145 rfl ?_
    exact q_iret dX10_loudRooms_146 rfl ⟨_, rfl, rfl, H⟩
  · have H := H.2 c9
    refine q_iconst dX10_loudRooms_12 (by decide) ?_
    refine q_istore_n dX10_loudRooms_13 (by decide) rfl ?_
    refine q_iconst dX10_loudRooms_14 (by decide) ?_
    refine q_istore dX10_loudRooms_15 (by decide) rfl ?_
    exact H
set_option maxRecDepth 20000 in
theorem v_X10_loudRooms_17 {P : Int → Mem → Prop} {a1 : Int} {a2 : Int} {a3 : Int} {a4 : Int} {u5 : Vl} {mem : Mem}  (H : ((mem 44 3) ≤ a4 → (inR (a1 + a3)) ∧ ((inR (a2 + 1)) ∧ (w_X10_loudRooms_4 P (a1 + a3) (a2 + 1) (vI a3) (vI a4) u5 mem))) ∧ (a4 < (mem 44 3) → (inR (4 * a4)) ∧ ((inR ((4 * a4) + 2)) ∧ ((0 ≤ ((4 * a4) + 2)) ∧ ((((4 * a4) + 2) < 12) ∧ ((inR (4 * a2)) ∧ ((inR ((4 * a2) + 2)) ∧ ((0 ≤ ((4 * a2) + 2)) ∧ ((((4 * a2) + 2) < 12) ∧ (((mem 47 ((4 * a2) + 2).toNat) < (mem 45 ((4 * a4) + 2).toNat) → (inR (a4 + 1)) ∧ (w_X10_loudRooms_17 P a1 a2 a3 (a4 + 1) u5 mem)) ∧ ((mem 45 ((4 * a4) + 2).toNat) ≤ (mem 47 ((4 * a2) + 2).toNat) → (inR ((4 * a4) + 3)) ∧ ((0 ≤ ((4 * a4) + 3)) ∧ ((((4 * a4) + 3) < 12) ∧ ((inR ((4 * a2) + 1)) ∧ ((0 ≤ ((4 * a2) + 1)) ∧ ((((4 * a2) + 1) < 12) ∧ (((mem 45 ((4 * a4) + 3).toNat) < (mem 47 ((4 * a2) + 1).toNat) → (inR (a4 + 1)) ∧ (w_X10_loudRooms_17 P a1 a2 a3 (a4 + 1) u5 mem)) ∧ ((mem 47 ((4 * a2) + 1).toNat) ≤ (mem 45 ((4 * a4) + 3).toNat) → (0 ≤ (4 * a4)) ∧ (((4 * a4) < 12) ∧ ((okGM mem) ∧ ((0 ≤ (mem 45 (4 * a4).toNat)) ∧ (((mem 45 (4 * a4).toNat) < nM mem) ∧ (∀ m24 : Mem, sprP mem (mem 45 (4 * a4).toNat) m24 → ((inR ((4 * a4) + 1)) ∧ ((0 ≤ ((4 * a4) + 1)) ∧ ((((4 * a4) + 1) < 12) ∧ ((0 ≤ (4 * a2)) ∧ (((4 * a2) < 12) ∧ ((0 ≤ (m24 47 (4 * a2).toNat)) ∧ (((m24 47 (4 * a2).toNat) < 12) ∧ ((inR ((m24 45 ((4 * a4) + 1).toNat) - (m24 62 (m24 47 (4 * a2).toNat).toNat))) ∧ (((max 0 ((m24 45 ((4 * a4) + 1).toNat) - (m24 62 (m24 47 (4 * a2).toNat).toNat))) ≤ a3 → (inR (a4 + 1)) ∧ (w_X10_loudRooms_17 P a1 a2 a3 (a4 + 1) (vI (max 0 ((m24 45 ((4 * a4) + 1).toNat) - (m24 62 (m24 47 (4 * a2).toNat).toNat)))) m24)) ∧ (a3 < (max 0 ((m24 45 ((4 * a4) + 1).toNat) - (m24 62 (m24 47 (4 * a2).toNat).toNat))) → (inR (a4 + 1)) ∧ (w_X10_loudRooms_17 P a1 a2 (max 0 ((m24 45 ((4 * a4) + 1).toNat) - (m24 62 (m24 47 (4 * a2).toNat).toNat))) (a4 + 1) (vI (max 0 ((m24 45 ((4 * a4) + 1).toNat) - (m24 62 (m24 47 (4 * a2).toNat).toNat)))) m24)))))))))))))))))))))))))))))))))) : w_X10_loudRooms_17 P a1 a2 a3 a4 u5 mem := by
  unfold w_X10_loudRooms_17
  refine q_iload dX10_loudRooms_17 rfl ?_
  refine q_aload_n dX10_loudRooms_19 rfl ?_
  refine q_geti dX10_loudRooms_20 lf_RX10_165 s44 rfl ?_
  refine q_icmp_ge (tgt := 135) dX10_loudRooms_23 (by decide) (fun c23 => ?_) (fun c23 => ?_)
  · have H := H.1 c23
    refine q_iload_n dX10_loudRooms_135 rfl ?_
    refine q_iload_n dX10_loudRooms_136 rfl ?_
    obtain ⟨h1, H⟩ := H
    refine q_iadd dX10_loudRooms_137 h1 ?_
    refine q_istore_n dX10_loudRooms_138 (by decide) rfl ?_
    obtain ⟨h2, H⟩ := H
    refine q_iinc dX10_loudRooms_139 rfl h2 rfl ?_
    refine q_goto (tgt := 4) dX10_loudRooms_142 (by decide) ?_
    exact H
  · have H := H.2 c23
    refine q_aload_n dX10_loudRooms_26 rfl ?_
    refine q_getr (r := 45) dX10_loudRooms_27 lf_RX10_19 s44 rfl rfl ?_
    refine q_iconst dX10_loudRooms_30 (by decide) ?_
    refine q_iload dX10_loudRooms_31 rfl ?_
    obtain ⟨h3, H⟩ := H
    refine q_imul dX10_loudRooms_33 h3 ?_
    refine q_iconst dX10_loudRooms_34 (by decide) ?_
    obtain ⟨h4, H⟩ := H
    refine q_iadd dX10_loudRooms_35 h4 ?_
    obtain ⟨h5, H⟩ := H
    obtain ⟨h6, H⟩ := H
    refine q_iald dX10_loudRooms_36 s45 h5 h6 ?_
    refine q_aload_n dX10_loudRooms_37 rfl ?_
    refine q_getr (r := 47) dX10_loudRooms_38 lf_RX10_26 s44 rfl rfl ?_
    refine q_iconst dX10_loudRooms_41 (by decide) ?_
    refine q_iload_n dX10_loudRooms_42 rfl ?_
    obtain ⟨h7, H⟩ := H
    refine q_imul dX10_loudRooms_43 h7 ?_
    refine q_iconst dX10_loudRooms_44 (by decide) ?_
    obtain ⟨h8, H⟩ := H
    refine q_iadd dX10_loudRooms_45 h8 ?_
    obtain ⟨h9, H⟩ := H
    obtain ⟨h10, H⟩ := H
    refine q_iald dX10_loudRooms_46 s47 h9 h10 ?_
    refine q_icmp_gt (tgt := 129) dX10_loudRooms_47 (by decide) (fun c47 => ?_) (fun c47 => ?_)
    · have H := H.1 c47
      obtain ⟨h11, H⟩ := H
      refine q_iinc dX10_loudRooms_129 rfl h11 rfl ?_
      refine q_goto (tgt := 17) dX10_loudRooms_132 (by decide) ?_
      exact H
    · have H := H.2 c47
      refine q_aload_n dX10_loudRooms_50 rfl ?_
      refine q_getr (r := 45) dX10_loudRooms_51 lf_RX10_19 s44 rfl rfl ?_
      refine q_iconst dX10_loudRooms_54 (by decide) ?_
      refine q_iload dX10_loudRooms_55 rfl ?_
      refine q_imul dX10_loudRooms_57 h3 ?_
      refine q_iconst dX10_loudRooms_58 (by decide) ?_
      obtain ⟨h12, H⟩ := H
      refine q_iadd dX10_loudRooms_59 h12 ?_
      obtain ⟨h13, H⟩ := H
      obtain ⟨h14, H⟩ := H
      refine q_iald dX10_loudRooms_60 s45 h13 h14 ?_
      refine q_aload_n dX10_loudRooms_61 rfl ?_
      refine q_getr (r := 47) dX10_loudRooms_62 lf_RX10_26 s44 rfl rfl ?_
      refine q_iconst dX10_loudRooms_65 (by decide) ?_
      refine q_iload_n dX10_loudRooms_66 rfl ?_
      refine q_imul dX10_loudRooms_67 h7 ?_
      refine q_iconst dX10_loudRooms_68 (by decide) ?_
      obtain ⟨h15, H⟩ := H
      refine q_iadd dX10_loudRooms_69 h15 ?_
      obtain ⟨h16, H⟩ := H
      obtain ⟨h17, H⟩ := H
      refine q_iald dX10_loudRooms_70 s47 h16 h17 ?_
      refine q_icmp_lt (tgt := 129) dX10_loudRooms_71 (by decide) (fun c71 => ?_) (fun c71 => ?_)
      · have H := H.1 c71
        obtain ⟨h18, H⟩ := H
        refine q_iinc dX10_loudRooms_129 rfl h18 rfl ?_
        refine q_goto (tgt := 17) dX10_loudRooms_132 (by decide) ?_
        exact H
      · have H := H.2 c71
        refine q_aload_n dX10_loudRooms_74 rfl ?_
        refine q_aload_n dX10_loudRooms_75 rfl ?_
        refine q_getr (r := 45) dX10_loudRooms_76 lf_RX10_19 s44 rfl rfl ?_
        refine q_iconst dX10_loudRooms_79 (by decide) ?_
        refine q_iload dX10_loudRooms_80 rfl ?_
        refine q_imul dX10_loudRooms_82 h3 ?_
        obtain ⟨h19, H⟩ := H
        obtain ⟨h20, H⟩ := H
        refine q_iald dX10_loudRooms_83 s45 h19 h20 ?_
        obtain ⟨h21, H⟩ := H
        obtain ⟨h22, H⟩ := H
        obtain ⟨h23, H⟩ := H
        refine q_cVn (as := [vI _]) dX10_loudRooms_84 kmX10_spreads kvX10_spreads lm_RX10_197 ⟨by decide, by decide⟩ s44 ⟨by decide, rfl⟩ rfl rfl (Nat.le_of_ble_eq_true rfl) (c_spr h21 h22 h23) (fun m1 hq => ?_)
        have H := H m1 hq
        refine q_aload_n dX10_loudRooms_87 rfl ?_
        refine q_getr (r := 45) dX10_loudRooms_88 lf_RX10_19 s44 rfl rfl ?_
        refine q_iconst dX10_loudRooms_91 (by decide) ?_
        refine q_iload dX10_loudRooms_92 rfl ?_
        refine q_imul dX10_loudRooms_94 h3 ?_
        refine q_iconst dX10_loudRooms_95 (by decide) ?_
        obtain ⟨h25, H⟩ := H
        refine q_iadd dX10_loudRooms_96 h25 ?_
        obtain ⟨h26, H⟩ := H
        obtain ⟨h27, H⟩ := H
        refine q_iald dX10_loudRooms_97 s45 h26 h27 ?_
        refine q_aload_n dX10_loudRooms_98 rfl ?_
        refine q_getr (r := 62) dX10_loudRooms_99 lf_RX10_72 s44 rfl rfl ?_
        refine q_aload_n dX10_loudRooms_102 rfl ?_
        refine q_getr (r := 47) dX10_loudRooms_103 lf_RX10_26 s44 rfl rfl ?_
        refine q_iconst dX10_loudRooms_106 (by decide) ?_
        refine q_iload_n dX10_loudRooms_107 rfl ?_
        refine q_imul dX10_loudRooms_108 h7 ?_
        obtain ⟨h28, H⟩ := H
        obtain ⟨h29, H⟩ := H
        refine q_iald dX10_loudRooms_109 s47 h28 h29 ?_
        obtain ⟨h30, H⟩ := H
        obtain ⟨h31, H⟩ := H
        refine q_iald dX10_loudRooms_110 s62 h30 h31 ?_
        obtain ⟨h32, H⟩ := H
        refine q_cSi (as := [vI _, vI _]) dX10_loudRooms_111 kmX10_left ktX10_left lm_RX10_201 ⟨by decide, by decide⟩ rfl rfl (Nat.le_of_ble_eq_true rfl) (c_X10_left h32) (fun v m1 hq => ?_)
        obtain ⟨rfl, rfl⟩ := hq
        refine q_istore dX10_loudRooms_114 (by decide) rfl ?_
        refine q_iload dX10_loudRooms_116 rfl ?_
        refine q_iload_n dX10_loudRooms_118 rfl ?_
        refine q_icmp_le (tgt := 127) dX10_loudRooms_119 (by decide) (fun c119 => ?_) (fun c119 => ?_)
        · have H := H.1 c119
          refine q_iload_n dX10_loudRooms_127 rfl ?_
          refine q_istore_n dX10_loudRooms_128 (by decide) rfl ?_
          obtain ⟨h33, H⟩ := H
          refine q_iinc dX10_loudRooms_129 rfl h33 rfl ?_
          refine q_goto (tgt := 17) dX10_loudRooms_132 (by decide) ?_
          exact H
        · have H := H.2 c119
          refine q_iload dX10_loudRooms_122 rfl ?_
          refine q_goto (tgt := 128) dX10_loudRooms_124 (by decide) ?_
          refine q_istore_n dX10_loudRooms_128 (by decide) rfl ?_
          obtain ⟨h34, H⟩ := H
          refine q_iinc dX10_loudRooms_129 rfl h34 rfl ?_
          refine q_goto (tgt := 17) dX10_loudRooms_132 (by decide) ?_
          exact H
set_option maxRecDepth 20000 in
theorem v_X10_loudRooms {P : Int → Mem → Prop} {mem : Mem}  (H : w_X10_loudRooms_4 P 0 0 (vJ 0) (vJ 0) (vJ 0) mem) : Tot mX10_loudRooms 0 0 [vR 44] SH mem (Pr SH P) := by
  refine Tot.of rfl (Nat.le_of_ble_eq_true rfl) (by simp [isJ]) (ls := [vR 44, vJ 0, vJ 0, vJ 0, vJ 0, vJ 0]) rfl ?_
  refine q_iconst dX10_loudRooms_0 (by decide) ?_
  refine q_istore_n dX10_loudRooms_1 (by decide) rfl ?_
  refine q_iconst dX10_loudRooms_2 (by decide) ?_
  refine q_istore_n dX10_loudRooms_3 (by decide) rfl ?_
  exact H


