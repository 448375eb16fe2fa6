/-! THE MODEL: through -/
def w_X10_through_19 (w : Int) (P : Int → Mem → Prop) (a2 : Int) (a3 : Int) (u4 : Vl) (u5 : Vl) (mem : Mem) : Prop := WP mX10_through none 0 0 (Pr SH P) 19 [vR 44, vI w, vI a2, vI a3, u4, u5] [] SH mem
def w_X10_through_80 (w : Int) (P : Int → Mem → Prop) (a2 : Int) (a3 : Int) (u4 : Vl) (u5 : Vl) (mem : Mem) : Prop := WP mX10_through none 0 0 (Pr SH P) 80 [vR 44, vI w, vI a2, vI a3, u4, u5] [] SH mem
def w_X10_through_116 (w : Int) (P : Int → Mem → Prop) (a2 : Int) (a3 : Int) (a4 : Int) (a5 : Int) (mem : Mem) : Prop := WP mX10_through none 0 0 (Pr SH P) 116 [vR 44, vI w, vI a2, vI a3, vI a4, vI a5] [] SH mem
set_option maxRecDepth 20000 in
theorem v_X10_through_19 {w : Int} {P : Int → Mem → Prop} {a2 : Int} {a3 : Int} {u4 : Vl} {u5 : Vl} {mem : Mem}  (H : ((mem 44 5) ≤ a3 → w_X10_through_80 w P a2 1 u4 u5 mem) ∧ (a3 < (mem 44 5) → (inR (6 + a3)) ∧ ((0 ≤ (6 + a3)) ∧ (((6 + a3) < 10) ∧ ((0 ≤ a3) ∧ ((a3 < 4) ∧ (∀ m6 : Mem, m6 = mset mem 64 a3.toNat (mem 48 (6 + a3).toNat) → (((m6 59 a3.toNat) = (-9) → (0 ≤ a2) ∧ ((inR (a3 + 1)) ∧ (w_X10_through_19 w P (((a2).toNat ||| ((0 : Int)).toNat : Nat) : Int) (a3 + 1) u4 u5 m6))) ∧ (¬ (m6 59 a3.toNat) = (-9) → ((m6 60 a3.toNat) ≤ 0 → (0 ≤ a2) ∧ ((inR (a3 + 1)) ∧ (w_X10_through_19 w P (((a2).toNat ||| ((0 : Int)).toNat : Nat) : Int) (a3 + 1) u4 u5 m6))) ∧ (0 < (m6 60 a3.toNat) → (a3 < 31) ∧ ((0 ≤ a2) ∧ ((0 ≤ ((2 ^ (a3).toNat : Nat) : Int)) ∧ ((inR (a3 + 1)) ∧ (w_X10_through_19 w P (((a2).toNat ||| (((2 ^ (a3).toNat : Nat) : Int)).toNat : Nat) : Int) (a3 + 1) u4 u5 m6)))))))))))))) : w_X10_through_19 w P a2 a3 u4 u5 mem := by
  unfold w_X10_through_19
  refine q_iload_n dX10_through_19 rfl ?_
  refine q_aload_n dX10_through_20 rfl ?_
  refine q_geti dX10_through_21 lf_RX10_94 s44 rfl ?_
  refine q_icmp_ge (tgt := 78) dX10_through_24 (by decide) (fun c24 => ?_) (fun c24 => ?_)
  · have H := H.1 c24
    refine q_iconst dX10_through_78 (by decide) ?_
    refine q_istore_n dX10_through_79 (by decide) rfl ?_
    exact H
  · have H := H.2 c24
    refine q_aload_n dX10_through_27 rfl ?_
    refine q_getr (r := 64) dX10_through_28 lf_RX10_78 s44 rfl rfl ?_
    refine q_iload_n dX10_through_31 rfl ?_
    refine q_aload_n dX10_through_32 rfl ?_
    refine q_getr (r := 48) dX10_through_33 lf_RX10_29 s44 rfl rfl ?_
    refine q_bipush dX10_through_36 rfl (by decide) ?_
    refine q_iload_n dX10_through_38 rfl ?_
    obtain ⟨h1, H⟩ := H
    refine q_iadd dX10_through_39 h1 ?_
    obtain ⟨h2, H⟩ := H
    obtain ⟨h3, H⟩ := H
    refine q_iald dX10_through_40 s48 h2 h3 ?_
    obtain ⟨h4, H⟩ := H
    obtain ⟨h5, H⟩ := H
    refine q_iast dX10_through_41 s64 h4 h5 ?_
    have H := H _ rfl
    refine q_iload_n dX10_through_42 rfl ?_
    refine q_aload_n dX10_through_43 rfl ?_
    refine q_getr (r := 59) dX10_through_44 lf_RX10_63 s44 rfl rfl ?_
    refine q_iload_n dX10_through_47 rfl ?_
    refine q_iald dX10_through_48 s59 h4 h5 ?_
    refine q_bipush dX10_through_49 rfl (by decide) ?_
    refine q_icmp_eq (tgt := 69) dX10_through_51 (by decide) (fun c51 => ?_) (fun c51 => ?_)
    · have H := H.1 c51
      refine q_iconst dX10_through_69 (by decide) ?_
      obtain ⟨h7, H⟩ := H
      refine q_ior dX10_through_70 h7 (by decide) ?_
      refine q_istore_n dX10_through_71 (by decide) rfl ?_
      obtain ⟨h8, H⟩ := H
      refine q_iinc dX10_through_72 rfl h8 rfl ?_
      refine q_goto (tgt := 19) dX10_through_75 (by decide) ?_
      exact H
    · have H := H.2 c51
      refine q_aload_n dX10_through_54 rfl ?_
      refine q_getr (r := 60) dX10_through_55 lf_RX10_66 s44 rfl rfl ?_
      refine q_iload_n dX10_through_58 rfl ?_
      refine q_iald dX10_through_59 s60 h4 h5 ?_
      refine q_if_le (tgt := 69) dX10_through_60 (by decide) (fun c60 => ?_) (fun c60 => ?_)
      · have H := H.1 c60
        refine q_iconst dX10_through_69 (by decide) ?_
        obtain ⟨h9, H⟩ := H
        refine q_ior dX10_through_70 h9 (by decide) ?_
        refine q_istore_n dX10_through_71 (by decide) rfl ?_
        obtain ⟨h10, H⟩ := H
        refine q_iinc dX10_through_72 rfl h10 rfl ?_
        refine q_goto (tgt := 19) dX10_through_75 (by decide) ?_
        exact H
      · have H := H.2 c60
        refine q_iconst dX10_through_63 (by decide) ?_
        refine q_iload_n dX10_through_64 rfl ?_
        obtain ⟨h11, H⟩ := H
        refine q_shl1 dX10_through_65 h4 h11 ?_
        refine q_goto (tgt := 70) dX10_through_66 (by decide) ?_
        obtain ⟨h12, H⟩ := H
        obtain ⟨h13, H⟩ := H
        refine q_ior dX10_through_70 h12 h13 ?_
        refine q_istore_n dX10_through_71 (by decide) rfl ?_
        obtain ⟨h14, H⟩ := H
        refine q_iinc dX10_through_72 rfl h14 rfl ?_
        refine q_goto (tgt := 19) dX10_through_75 (by decide) ?_
        exact H
set_option maxRecDepth 20000 in
theorem v_X10_through_80 {w : Int} {P : Int → Mem → Prop} {a2 : Int} {a3 : Int} {u4 : Vl} {u5 : Vl} {mem : Mem}  (H : (240 < a3 → P (-9) mem) ∧ (a3 ≤ 240 → (inR ((mem 48 1) + a3)) ∧ ((inR (((mem 48 1) + a3) - 1)) ∧ ((0 ≤ (((mem 48 1) + a3) - 1)) ∧ ((rdM mem) ∧ (∀ m5 : Mem, fmP mem ((((mem 48 1) + a3) - 1) % 24) m5 → ((inR ((m5 44 5) - 1)) ∧ (w_X10_through_116 w P a2 a3 (-9) ((m5 44 5) - 1) m5)))))))) : w_X10_through_80 w P a2 a3 u4 u5 mem := by
  unfold w_X10_through_80
  refine q_iload_n dX10_through_80 rfl ?_
  refine q_sipush dX10_through_81 rfl (by decide) ?_
  refine q_icmp_gt (tgt := 216) dX10_through_84 (by decide) (fun c84 => ?_) (fun c84 => ?_)
  · have H := H.1 c84
    refine q_bipush dX10_through_216 rfl (by decide) ?_
    exact q_iret dX10_through_218 rfl ⟨_, rfl, rfl, H⟩
  · have H := H.2 c84
    refine q_aload_n dX10_through_87 rfl ?_
    refine q_aload_n dX10_through_88 rfl ?_
    refine q_getr (r := 48) dX10_through_89 lf_RX10_29 s44 rfl rfl ?_
    refine q_iconst dX10_through_92 (by decide) ?_
    refine q_iald dX10_through_93 s48 (by decide) (by decide) ?_
    refine q_iload_n dX10_through_94 rfl ?_
    obtain ⟨h1, H⟩ := H
    refine q_iadd dX10_through_95 h1 ?_
    refine q_iconst dX10_through_96 (by decide) ?_
    obtain ⟨h2, H⟩ := H
    refine q_isub dX10_through_97 h2 ?_
    refine q_bipush dX10_through_98 rfl (by decide) ?_
    obtain ⟨h3, H⟩ := H
    refine q_irem dX10_through_100 h3 (by decide) ?_
    obtain ⟨h4, H⟩ := H
    refine q_cVn (as := [vI _]) dX10_through_101 kmX10_findMore kvX10_findMore lm_RX10_229 ⟨by decide, by decide⟩ s44 ⟨by decide, rfl⟩ rfl rfl (Nat.le_of_ble_eq_true rfl) (c_X10_findMore h4) (fun m1 hq => ?_)
    have H := H m1 hq
    refine q_bipush dX10_through_104 rfl (by decide) ?_
    refine q_istore dX10_through_106 (by decide) rfl ?_
    refine q_aload_n dX10_through_108 rfl ?_
    refine q_geti dX10_through_109 lf_RX10_94 s44 rfl ?_
    refine q_iconst dX10_through_112 (by decide) ?_
    obtain ⟨h6, H⟩ := H
    refine q_isub dX10_through_113 h6 ?_
    refine q_istore dX10_through_114 (by decide) rfl ?_
    exact H
set_option maxRecDepth 20000 in
theorem v_X10_through_116 {w : Int} {P : Int → Mem → Prop} {a2 : Int} {a3 : Int} {a4 : Int} {a5 : Int} {mem : Mem}  (H : (a5 < 0 → (a4 = (-9) → (inR (a3 + 1)) ∧ (w_X10_through_80 w P a2 (a3 + 1) (vI a4) (vI a5) mem)) ∧ (¬ a4 = (-9) → (¬ w = 0 → P a4 mem) ∧ (w = 0 → P a3 mem))) ∧ (0 ≤ a5 → (a5 < 4) ∧ ((inR ((mem 64 a5.toNat) + (mem 63 a5.toNat))) ∧ (∀ m4 : Mem, m4 = mset mem 64 a5.toNat ((mem 64 a5.toNat) + (mem 63 a5.toNat)) → ((hsM m4) ∧ ((a5 < m4 44 5) ∧ ((0 ≤ (m4 64 a5.toNat)) ∧ (((m4 64 a5.toNat) ≤ 100000) ∧ (∀ m9 : Mem, m9 = mset m4 60 a5.toNat (thM m4 a5 (m4 64 a5.toNat)) → ((0 ≤ a2) ∧ ((a5 < 31) ∧ ((¬ ((a2 / ((2 ^ a5.toNat : Nat) : Int)) % 2 = 1) → (inR (a5 + (-1))) ∧ (w_X10_through_116 w P a2 a3 a4 (a5 + (-1)) m9)) ∧ (((a2 / ((2 ^ a5.toNat : Nat) : Int)) % 2 = 1) → (¬ (m9 60 a5.toNat) = 0 → (inR (a5 + (-1))) ∧ (w_X10_through_116 w P a2 a3 a4 (a5 + (-1)) m9)) ∧ ((m9 60 a5.toNat) = 0 → (inR (a5 + (-1))) ∧ (w_X10_through_116 w P a2 a3 a5 (a5 + (-1)) m9))))))))))))))) : w_X10_through_116 w P a2 a3 a4 a5 mem := by
  unfold w_X10_through_116
  refine q_iload dX10_through_116 rfl ?_
  refine q_if_lt (tgt := 192) dX10_through_118 (by decide) (fun c118 => ?_) (fun c118 => ?_)
  · have H := H.1 c118
    refine q_iload dX10_through_192 rfl ?_
    refine q_bipush dX10_through_194 rfl (by decide) ?_
    refine q_icmp_eq (tgt := 210) dX10_through_196 (by decide) (fun c196 => ?_) (fun c196 => ?_)
    · have H := H.1 c196
      obtain ⟨h1, H⟩ := H
      refine q_iinc dX10_through_210 rfl h1 rfl ?_
      refine q_goto (tgt := 80) dX10_through_213 (by decide) ?_
      exact H
    · have H := H.2 c196
      refine q_iload_n dX10_through_199 rfl ?_
      refine q_if_ne (tgt := 207) dX10_through_200 (by decide) (fun c200 => ?_) (fun c200 => ?_)
      · have H := H.1 c200
        refine q_iload dX10_through_207 rfl ?_
        exact q_iret dX10_through_209 rfl ⟨_, rfl, rfl, H⟩
      · have H := H.2 c200
        refine q_iload_n dX10_through_203 rfl ?_
        refine q_goto (tgt := 209) dX10_through_204 (by decide) ?_
        exact q_iret dX10_through_209 rfl ⟨_, rfl, rfl, H⟩
  · have H := H.2 c118
    refine q_aload_n dX10_through_121 rfl ?_
    refine q_getr (r := 64) dX10_through_122 lf_RX10_78 s44 rfl rfl ?_
    refine q_iload dX10_through_125 rfl ?_
    refine q_dup2 dX10_through_127 rfl rfl ?_
    obtain ⟨h2, H⟩ := H
    refine q_iald dX10_through_128 s64 c118 h2 ?_
    refine q_aload_n dX10_through_129 rfl ?_
    refine q_getr (r := 63) dX10_through_130 lf_RX10_75 s44 rfl rfl ?_
    refine q_iload dX10_through_133 rfl ?_
    refine q_iald dX10_through_135 s63 c118 h2 ?_
    obtain ⟨h3, H⟩ := H
    refine q_iadd dX10_through_136 h3 ?_
    refine q_iast dX10_through_137 s64 c118 h2 ?_
    have H := H _ rfl
    refine q_aload_n dX10_through_138 rfl ?_
    refine q_getr (r := 60) dX10_through_139 lf_RX10_66 s44 rfl rfl ?_
    refine q_iload dX10_through_142 rfl ?_
    refine q_aload_n dX10_through_144 rfl ?_
    refine q_iload dX10_through_145 rfl ?_
    refine q_aload_n dX10_through_147 rfl ?_
    refine q_getr (r := 64) dX10_through_148 lf_RX10_78 s44 rfl rfl ?_
    refine q_iload dX10_through_151 rfl ?_
    refine q_iald dX10_through_153 s64 c118 h2 ?_
    obtain ⟨h5, H⟩ := H
    obtain ⟨h6, H⟩ := H
    obtain ⟨h7, H⟩ := H
    obtain ⟨h8, H⟩ := H
    refine q_cVi (as := [vI _, vI _]) dX10_through_154 kmX10_thickNow kvX10_thickNow lm_RX10_180 ⟨by decide, by decide⟩ s44 ⟨by decide, rfl⟩ rfl rfl (Nat.le_of_ble_eq_true rfl) (c_X10_thickNow h5 c118 h6 h7 h8) (fun v m1 hq => ?_)
    obtain ⟨rfl, rfl⟩ := hq
    refine q_iast dX10_through_157 s60 c118 h2 ?_
    have H := H _ rfl
    refine q_iload_n dX10_through_158 rfl ?_
    refine q_iload dX10_through_159 rfl ?_
    obtain ⟨h10, H⟩ := H
    obtain ⟨h11, H⟩ := H
    refine q_cSi (as := [vI _, vI _]) dX10_through_161 kmX10_has ktX10_has lm_RX10_238 ⟨by decide, by decide⟩ rfl rfl (Nat.le_of_ble_eq_true rfl) (c_X10_has h10 c118 h11) (fun v m1 hq => ?_)
    obtain ⟨rfl, rfl⟩ := hq
    refine q_if_eq (tgt := 182) dX10_through_164 (by decide) (fun c164 => ?_) (fun c164 => ?_)
    · have H := H.1 (b_no c164)
      refine q_iload dX10_through_182 rfl ?_
      refine q_istore dX10_through_184 (by decide) rfl ?_
      obtain ⟨h12, H⟩ := H
      refine q_iinc dX10_through_186 rfl h12 rfl ?_
      refine q_goto (tgt := 116) dX10_through_189 (by decide) ?_
      exact H
    · have H := H.2 (b_yes c164)
      refine q_aload_n dX10_through_167 rfl ?_
      refine q_getr (r := 60) dX10_through_168 lf_RX10_66 s44 rfl rfl ?_
      refine q_iload dX10_through_171 rfl ?_
      refine q_iald dX10_through_173 s60 c118 h2 ?_
      refine q_if_ne (tgt := 182) dX10_through_174 (by decide) (fun c174 => ?_) (fun c174 => ?_)
      · have H := H.1 c174
        refine q_iload dX10_through_182 rfl ?_
        refine q_istore dX10_through_184 (by decide) rfl ?_
        obtain ⟨h13, H⟩ := H
        refine q_iinc dX10_through_186 rfl h13 rfl ?_
        refine q_goto (tgt := 116) dX10_through_189 (by decide) ?_
        exact H
      · have H := H.2 c174
        refine q_iload dX10_through_177 rfl ?_
        refine q_goto (tgt := 184) dX10_through_179 (by decide) ?_
        refine q_istore dX10_through_184 (by decide) rfl ?_
        obtain ⟨h14, H⟩ := H
        refine q_iinc dX10_through_186 rfl h14 rfl ?_
        refine q_goto (tgt := 116) dX10_through_189 (by decide) ?_
        exact H
set_option maxRecDepth 20000 in
theorem v_X10_through {w : Int} {P : Int → Mem → Prop} {mem : Mem}  (H : ((0 ≤ w ∧ w ≤ 1) → (hsM mem) ∧ ((moM mem) ∧ (∀ m3 : Mem, asnP mem m3 → (w_X10_through_19 w P 0 0 (vJ 0) (vJ 0) m3)))) ∧ (¬ (0 ≤ w ∧ w ≤ 1) → P (-1) mem)) : Tot mX10_through 0 0 [vR 44, vI w] SH mem (Pr SH P) := by
  refine Tot.of rfl (Nat.le_of_ble_eq_true rfl) (by simp [isJ]) (ls := [vR 44, vI w, vJ 0, vJ 0, vJ 0, vJ 0]) rfl ?_
  refine q_iload_n dX10_through_0 rfl ?_
  refine q_iconst dX10_through_1 (by decide) ?_
  refine q_iconst dX10_through_2 (by decide) ?_
  refine q_cSi (as := [vI _, vI _, vI _]) dX10_through_3 kmX10_in ktX10_in lm_RX10_90 ⟨by decide, by decide⟩ rfl rfl (Nat.le_of_ble_eq_true rfl) (c_X10_in) (fun v m1 hq => ?_)
  obtain ⟨rfl, rfl⟩ := hq
  refine q_if_ne (tgt := 11) dX10_through_6 (by decide) (fun c6 => ?_) (fun c6 => ?_)
  · have H := H.1 (b_yes c6)
    refine q_aload_n dX10_through_11 rfl ?_
    obtain ⟨h1, H⟩ := H
    obtain ⟨h2, H⟩ := H
    refine q_cVn (as := []) dX10_through_12 kmX10_asNow kvX10_asNow lm_RX10_211 ⟨by decide, by decide⟩ s44 ⟨by decide, rfl⟩ rfl rfl (Nat.le_of_ble_eq_true rfl) (c_X10_asNow h1 h2) (fun m1 hq => ?_)
    have H := H m1 hq
    refine q_iconst dX10_through_15 (by decide) ?_
    refine q_istore_n dX10_through_16 (by decide) rfl ?_
    refine q_iconst dX10_through_17 (by decide) ?_
    refine q_istore_n dX10_through_18 (by decide) rfl ?_
    exact H
  · have H := H.2 (b_no c6)
    refine q_iconst dX10_through_9 (by decide) ?_
    exact q_iret dX10_through_10 rfl ⟨_, rfl, rfl, H⟩


def whM (m : Mem) : Int → Prop := fun s => (¬ m 48 (2 + s).toNat = -9) ∧ 0 < trV m s
noncomputable abbrev wsN (m : Mem) (on : Nat → Int) (j : Nat) (s : Int) : Int := wsF (nM m) (m 44 0) (m 44 2) on (mnA m) (mnB m) (mnS m) (mnC m) (m 44 3).toNat (mT m) (fun s => m 48 (6 + s).toNat) (m 48 1) j s
abbrev zeM (m : Mem) (on : Nat → Int) (k s : Int) : Prop := max 0 (mT m s - wsN m on k.toNat s / 10) = 0
def fuM (m0 : Mem) (v : Int) (m : Mem) : Prop := (∃ on : Nat → Int, (∀ x : Int, 0 ≤ x → x < 12 → on x.toNat = onS m0 x) ∧ thrP (whM m0) (zeM m0 on) (m0 44 5) v) ∧ Fr [59, 60, 61, 62, 63, 64] m0 m
def thM2 (m0 : Mem) (w v : Int) (m : Mem) : Prop := (¬ (0 ≤ w ∧ w ≤ 1) ∧ v = -1 ∧ m = m0) ∨ ((0 ≤ w ∧ w ≤ 1) ∧ ∃ f, fuM m0 f m ∧ v = if f = -9 then -9 else if w = 0 then f / 4 else f % 4)
def fhI (m0 m3 : Mem) (j : Nat) (m : Mem) : Prop := Fr [60, 62, 63, 64] m3 m ∧ okGM m ∧ (∀ s : Int, 0 ≤ s → s < m0 44 5 → m 64 s.toNat = wsN m0 (m3 61) j s ∧ 0 ≤ m 64 s.toNat ∧ m 64 s.toNat ≤ 50000 + 10 * j) ∧ ∀ s : Int, 0 ≤ s → s < m0 44 5 → m 60 s.toNat = max 0 (mT m0 s - wsN m0 (m3 61) j s / 10)
theorem mor_hr {m0 m3 m : Mem} {j : Nat} (hh : hsM m0) (h3 : asnP m0 m3) (hI : fhI m0 m3 j m) (s : Int) : morM m ((m0 48 1 + j) % 24) s = hrW (nM m0) (m0 44 0) (m0 44 2) (m3 61) (mnA m0) (mnB m0) (mnS m0) (mnC m0) (m0 44 3).toNat (mT m0) (wsN m0 (m3 61) j) ((m0 48 1 + j) % 24) s / 10 := by
  obtain ⟨hF, hg, hw, hth⟩ := hI
  have hL : Fr [59, 60, 61, 62, 63, 64] m0 m := (h3.1.mono (by decide)).tr (hF.mono (by decide))
  have hn := nM_b hh
  have h33 := hh.2.2.2.2.1
  have h55 := hh.2.2.2.2.2.1
  have hno := hh.2.2.2.2.2.2.2.1
  have e61 : m 61 = m3 61 := hF.at 61
  show losF (ocM m) (fun c => ldM m c ((m0 48 1 + j) % 24) ((m0 48 1 + j) % 24)) s (nM m).toNat / 10 = _
  unfold hrW
  rw [nM_fr hL]
  congr 1
  refine losF_congr _ (fun c c0 cn => ⟨by show m 61 c.toNat = m3 61 c.toNat; rw [e61], ?_⟩)
  show loudF (mnA m) (mnB m) (mnS m) (mnC m) (DM m) c _ _ (m 44 3).toNat = _
  rw [(mno_fr hL).1, (mno_fr hL).2.1, (mno_fr hL).2.2.1, (mno_fr hL).2.2.2, hL.at 44]
  refine loudF_congr _ (fun i i0 ik => ⟨rfl, rfl, rfl, ?_⟩)
  have q := hno i i0 (by omega)
  have hgr := okG_grid hg
  have hcs := okG_costs hg
  rw [hL.at 44] at hgr hcs
  unfold DM ctM nM
  rw [hL.at 44]
  have hcn : c < nM m0 := by omega
  refine dist_congr hgr hcs q.1.1 q.1.2 (fun a b a0 an b0 bn => ?_) c0 hcn
  have bn' : b < 12 := Int.lt_of_lt_of_le bn hn.2
  show takeF (m0 44 2) (m 61) (m 60) a b = takeF (m0 44 2) (m3 61) _ a b
  rw [e61]
  have eb := h3.2.2.2.2 b b0 bn'
  have qb := onF_b (w := m0 44 0) (wi := mW m0) (lo := mL m0) (li := fun s => m0 48 (2 + s).toNat) (m0 44 5).toNat b
  have q' : m3 61 b.toNat = -9 ∨ (0 ≤ m3 61 b.toNat ∧ m3 61 b.toNat < m0 44 5) := by
    rw [eb]
    have e : (((m0 44 5).toNat : Nat) : Int) = m0 44 5 := by omega
    rw [e] at qb
    exact qb
  unfold takeF
  by_cases e : m3 61 b.toNat = -9
  · rw [if_pos e, if_pos e]
  · have q2 : 0 ≤ m3 61 b.toNat ∧ m3 61 b.toNat < m0 44 5 := by omega
    have et := hth _ q2.1 q2.2
    have ec : (((m3 61 b.toNat).toNat : Nat) : Int) = m3 61 b.toNat := by omega
    rw [if_neg e, if_neg e, et]
    simp only [ec]
theorem mth_in {m0 m3 m5 : Mem} {w : Int} {j : Nat} (hh : hsM m0) (h3 : asnP m0 m3) (hj : j < 240) (hw : 0 ≤ w ∧ w ≤ 1) (hF5 : Fr [60, 62, 63, 64] m3 m5) (hg5 : okGM m5) (hI5 : ∀ s : Int, 0 ≤ s → s < m0 44 5 → m5 64 s.toNat = wsN m0 (m3 61) j s ∧ 0 ≤ m5 64 s.toNat ∧ m5 64 s.toNat ≤ 50000 + 10 * j) (hm5 : ∀ s : Int, 0 ≤ s → s < 4 → m5 63 s.toNat = hrW (nM m0) (m0 44 0) (m0 44 2) (m3 61) (mnA m0) (mnB m0) (mnS m0) (mnC m0) (m0 44 3).toNat (mT m0) (wsN m0 (m3 61) j) ((m0 48 1 + j) % 24) s / 10 ∧ 0 ≤ m5 63 s.toNat ∧ m5 63 s.toNat ≤ 9)
    (hprev : ∀ k s : Int, 1 ≤ k → k < (j : Int) + 1 → 0 ≤ s → s < m0 44 5 → whM m0 s → ¬ zeM m0 (m3 61) k s)
    (K : ∀ (u4 u5 : Vl) (m : Mem), fhI m0 m3 (j + 1) m → (∀ s : Int, 0 ≤ s → s < m0 44 5 → whM m0 s → ¬ zeM m0 (m3 61) ((j : Int) + 1) s) → w_X10_through_80 w (thM2 m0 w) (bitF (whM m0) (m0 44 5).toNat : Nat) ((j : Int) + 1 + 1) u4 u5 m) :
    ∀ (k : Nat) (a4 a5 : Int) (m : Mem), -1 ≤ a5 → a5 < m0 44 5 → (a5 + 1).toNat ≤ k → Fr [60, 64] m5 m → okGM m → (∀ t : Int, 0 ≤ t → t < m0 44 5 → (a5 < t → m 64 t.toNat = wsN m0 (m3 61) (j + 1) t ∧ 0 ≤ m 64 t.toNat ∧ m 64 t.toNat ≤ 50000 + 10 * ((j + 1 : Nat) : Int) ∧ m 60 t.toNat = max 0 (mT m0 t - wsN m0 (m3 61) (j + 1) t / 10)) ∧ (t ≤ a5 → m 64 t.toNat = m5 64 t.toNat)) → ((a4 = -9 ∧ ∀ t : Int, a5 < t → t < m0 44 5 → whM m0 t → ¬ zeM m0 (m3 61) ((j : Int) + 1) t) ∨ ((a5 < a4 ∧ a4 < m0 44 5) ∧ whM m0 a4 ∧ zeM m0 (m3 61) ((j : Int) + 1) a4 ∧ ∀ t : Int, a5 < t → t < a4 → whM m0 t → ¬ zeM m0 (m3 61) ((j : Int) + 1) t)) → w_X10_through_116 w (thM2 m0 w) (bitF (whM m0) (m0 44 5).toNat : Nat) ((j : Int) + 1) a4 a5 m := by
  have h55 := hh.2.2.2.2.2.1
  have ejj : ((j : Int) + 1).toNat = j + 1 := by omega
  have hend : ∀ (a4 a5 : Int) (m : Mem), a5 = -1 → Fr [60, 64] m5 m → okGM m → (∀ t : Int, 0 ≤ t → t < m0 44 5 → (a5 < t → m 64 t.toNat = wsN m0 (m3 61) (j + 1) t ∧ 0 ≤ m 64 t.toNat ∧ m 64 t.toNat ≤ 50000 + 10 * ((j + 1 : Nat) : Int) ∧ m 60 t.toNat = max 0 (mT m0 t - wsN m0 (m3 61) (j + 1) t / 10)) ∧ (t ≤ a5 → m 64 t.toNat = m5 64 t.toNat)) → ((a4 = -9 ∧ ∀ t : Int, a5 < t → t < m0 44 5 → whM m0 t → ¬ zeM m0 (m3 61) ((j : Int) + 1) t) ∨ ((a5 < a4 ∧ a4 < m0 44 5) ∧ whM m0 a4 ∧ zeM m0 (m3 61) ((j : Int) + 1) a4 ∧ ∀ t : Int, a5 < t → t < a4 → whM m0 t → ¬ zeM m0 (m3 61) ((j : Int) + 1) t)) → (a4 = (-9) → (inR ((j : Int) + 1 + 1)) ∧ (w_X10_through_80 w (thM2 m0 w) (bitF (whM m0) (m0 44 5).toNat : Nat) ((j : Int) + 1 + 1) (vI a4) (vI a5) m)) ∧ (¬ a4 = (-9) → (¬ w = 0 → (thM2 m0 w) a4 m) ∧ (w = 0 → (thM2 m0 w) ((j : Int) + 1) m)) := by
    intro a4 a5 m e5 hF hg hx hI
    have hFm : Fr [60, 62, 63, 64] m3 m := hF5.tr (hF.mono (by decide))
    have hL : Fr [59, 60, 61, 62, 63, 64] m0 m := (h3.1.mono (by decide)).tr (hFm.mono (by decide))
    refine ⟨fun z => ⟨by unfold inR; omega, K _ _ m ⟨hFm, hg, fun s s0 sn => ?_, fun s s0 sn => ?_⟩ (fun s s0 sn => ?_)⟩, fun z => ?_⟩
    · have := (hx s s0 sn).1 (by omega)
      exact ⟨this.1, this.2.1, this.2.2.1⟩
    · exact ((hx s s0 sn).1 (by omega)).2.2.2
    · rcases hI with ⟨-, h⟩ | ⟨h, -⟩
      · exact h s (by omega) sn
      · omega
    · have hfu : fuM m0 (((j : Int) + 1) * 4 + a4) m := by
        rcases hI with ⟨h, -⟩ | ⟨h, h1, h2, h4⟩
        · exact absurd h z
        · exact ⟨⟨m3 61, h3.2.2.2.2, Or.inr ⟨(j : Int) + 1, a4, ⟨by omega, by omega⟩, ⟨by omega, h.2⟩, h1, h2, rfl, hprev, fun t t0 t1 => h4 t (by omega) t1⟩⟩, hL⟩
      have hb : 0 ≤ a4 ∧ a4 < 4 := by
        rcases hI with ⟨h, -⟩ | ⟨h, -⟩
        · exact absurd h z
        · omega
      refine ⟨fun y => Or.inr ⟨hw, _, hfu, ?_⟩, fun y => Or.inr ⟨hw, _, hfu, ?_⟩⟩
      · rw [if_neg (by omega), if_neg y]; omega
      · rw [if_neg (by omega), if_pos y]; omega
  intro k
  induction k with
  | zero =>
    intro a4 a5 m h0 h1 hk hF hg hx hI
    exact v_X10_through_116 ⟨fun _ => hend a4 a5 m (by omega) hF hg hx hI, fun q => by omega⟩
  | succ k ih =>
    intro a4 a5 m h0 h1 hk hF hg hx hI
    refine v_X10_through_116 ⟨fun q => hend a4 a5 m (by omega) hF hg hx hI, fun q => ?_⟩
    have hxa := (hx a5 q h1).2 (Int.le_refl _)
    have h5a := hI5 a5 q h1
    have hma := hm5 a5 q (by omega)
    rw [hF.at 63, hxa]
    refine ⟨by omega, by unfold inR; omega, fun m4 e4 => ?_⟩
    have hF4 : Fr [60, 64] m5 m4 := by rw [e4]; exact hF.set (by decide)
    have hFm4 : Fr [60, 62, 63, 64] m3 m4 := hF5.tr (hF4.mono (by decide))
    have hL4 : Fr [59, 60, 61, 62, 63, 64] m0 m4 := (h3.1.mono (by decide)).tr (hFm4.mono (by decide))
    have e64 : m4 64 a5.toNat = m5 64 a5.toNat + m5 63 a5.toNat := by rw [e4, mset_eq]
    have ews : m5 64 a5.toNat + m5 63 a5.toNat = wsN m0 (m3 61) (j + 1) a5 := by
      rw [h5a.1, hma.1]
      rfl
    have eT : mT m4 = mT m0 := (msh_fr hL4).2.2.1
    rw [e64, ews]
    rw [ews] at e64
    refine ⟨(hsM_fr hL4).mpr hh, by rw [hL4.at 44]; exact h1, by omega, by omega, fun m9 e9 => ⟨Int.natCast_nonneg _, by omega, ?_⟩⟩
    have hF9 : Fr [60, 64] m5 m9 := by rw [e9]; exact hF4.set (by decide)
    have e60 : m9 60 a5.toNat = max 0 (mT m0 a5 - wsN m0 (m3 61) (j + 1) a5 / 10) := by
      rw [e9, mset_eq]
      show max 0 (mT m4 a5 - _) = _
      rw [eT]
    have h9 : ∀ t : Int, 0 ≤ t → m9 60 t.toNat = (if t = a5 then max 0 (mT m0 a5 - wsN m0 (m3 61) (j + 1) a5 / 10) else m 60 t.toNat) ∧ m9 64 t.toNat = if t = a5 then wsN m0 (m3 61) (j + 1) a5 else m 64 t.toNat := by
      intro t t0
      by_cases c : t = a5
      · rw [if_pos c, if_pos c, c]
        refine ⟨e60, ?_⟩
        rw [e9, mset_ne 64 (by decide)]
        exact e64
      · rw [if_neg c, if_neg c, e9, mset_at, if_neg (by omega), mset_ne 64 (by decide), e4, mset_ne 60 (by decide), mset_at, if_neg (by omega)]
        exact ⟨rfl, rfl⟩
    have hT30 := (hh.2.2.2.2.2.2.2.2.1 a5 q h1).1
    have hT30' : 0 ≤ mT m0 a5 ∧ mT m0 a5 ≤ 30 := hT30
    have hg9 : okGM m9 := by
      unfold okGM okG at hg ⊢
      rw [hF9.at 44, hF9.at 61, ← hF.at 44, ← hF.at 61]
      refine ⟨hg.1, hg.2.1, hg.2.2.1, hg.2.2.2.1, hg.2.2.2.2.1, fun x x0 x1 => ?_⟩
      rw [(h9 x x0).1]
      by_cases c : x = a5
      · rw [if_pos c]
        generalize mT m0 a5 = z at hT30' ⊢
        have : 0 ≤ wsN m0 (m3 61) (j + 1) a5 := by omega
        generalize wsN m0 (m3 61) (j + 1) a5 = y at this ⊢
        omega
      · rw [if_neg c]
        exact hg.2.2.2.2.2 x x0 x1
    have hx9 : ∀ t : Int, 0 ≤ t → t < m0 44 5 → (a5 + -1 < t → m9 64 t.toNat = wsN m0 (m3 61) (j + 1) t ∧ 0 ≤ m9 64 t.toNat ∧ m9 64 t.toNat ≤ 50000 + 10 * ((j + 1 : Nat) : Int) ∧ m9 60 t.toNat = max 0 (mT m0 t - wsN m0 (m3 61) (j + 1) t / 10)) ∧ (t ≤ a5 + -1 → m9 64 t.toNat = m5 64 t.toNat) := by
      intro t t0 tn
      rw [(h9 t t0).1, (h9 t t0).2]
      by_cases c : t = a5
      · rw [if_pos c, if_pos c, c]
        exact ⟨fun _ => ⟨rfl, by omega, by omega, rfl⟩, fun y => by omega⟩
      · rw [if_neg c, if_neg c]
        exact ⟨fun y => (hx t t0 tn).1 (by omega), fun y => (hx t t0 tn).2 (by omega)⟩
    have hbt : ((((bitF (whM m0) (m0 44 5).toNat : Nat) : Int) / ((2 ^ a5.toNat : Nat) : Int)) % 2 = 1) ↔ whM m0 a5 := by
      have e : ((a5.toNat : Nat) : Int) = a5 := by omega
      rw [bit_t, bitF_test, e]
      exact ⟨fun z => z.2, fun z => ⟨by omega, z⟩⟩
    have hze : m9 60 a5.toNat = 0 ↔ zeM m0 (m3 61) ((j : Int) + 1) a5 := by
      rw [e60]
      show _ ↔ max 0 (mT m0 a5 - wsN m0 (m3 61) ((j : Int) + 1).toNat a5 / 10) = 0
      rw [ejj]
    have hno : (whM m0 a5 → ¬ zeM m0 (m3 61) ((j : Int) + 1) a5) → w_X10_through_116 w (thM2 m0 w) (bitF (whM m0) (m0 44 5).toNat : Nat) ((j : Int) + 1) a4 (a5 + -1) m9 := by
      intro hn
      refine ih a4 (a5 + -1) m9 (by omega) (by omega) (by omega) hF9 hg9 hx9 ?_
      rcases hI with ⟨h, hy⟩ | ⟨h, hy1, hy2, hy3⟩
      · refine Or.inl ⟨h, fun t t0 t1 => ?_⟩
        by_cases c : t = a5
        · rw [c]; exact hn
        · exact hy t (by omega) t1
      · refine Or.inr ⟨⟨by omega, h.2⟩, hy1, hy2, fun t t0 t1 => ?_⟩
        by_cases c : t = a5
        · rw [c]; exact hn
        · exact hy3 t (by omega) t1
    refine ⟨fun z => ⟨by unfold inR; omega, hno (fun y => absurd (hbt.mpr y) z)⟩, fun z => ⟨fun y => ⟨by unfold inR; omega, hno (fun _ x => y (hze.mpr x))⟩, fun y => ⟨by unfold inR; omega, ?_⟩⟩⟩
    refine ih a5 (a5 + -1) m9 (by omega) (by omega) (by omega) hF9 hg9 hx9 (Or.inr ⟨⟨by omega, h1⟩, hbt.mp z, hze.mp y, fun t t0 t1 => by omega⟩)
theorem mth_out {m0 m3 : Mem} {w : Int} (hh : hsM m0) (h3 : asnP m0 m3) (hw : 0 ≤ w ∧ w ≤ 1) (hh1 : 0 ≤ m0 48 1 ∧ m0 48 1 ≤ 23) : ∀ (k j : Nat) (u4 u5 : Vl) (m : Mem), 240 - j ≤ k → j ≤ 240 → fhI m0 m3 j m → (∀ k s : Int, 1 ≤ k → k < (j : Int) + 1 → 0 ≤ s → s < m0 44 5 → whM m0 s → ¬ zeM m0 (m3 61) k s) → w_X10_through_80 w (thM2 m0 w) (bitF (whM m0) (m0 44 5).toNat : Nat) ((j : Int) + 1) u4 u5 m := by
  have h55 := hh.2.2.2.2.2.1
  have hfin : ∀ (j : Nat) (m : Mem), 240 ≤ j → fhI m0 m3 j m → (∀ k s : Int, 1 ≤ k → k < (j : Int) + 1 → 0 ≤ s → s < m0 44 5 → whM m0 s → ¬ zeM m0 (m3 61) k s) → thM2 m0 w (-9) m := by
    intro j m hj hI hp
    have hL : Fr [59, 60, 61, 62, 63, 64] m0 m := (h3.1.mono (by decide)).tr (hI.1.mono (by decide))
    exact Or.inr ⟨hw, -9, ⟨⟨m3 61, h3.2.2.2.2, Or.inl ⟨rfl, fun k s k1 k2 s0 s1 => hp k s k1 (by omega) s0 s1⟩⟩, hL⟩, by rw [if_pos rfl]⟩
  intro k
  induction k with
  | zero =>
    intro j u4 u5 m hk hj hI hp
    exact v_X10_through_80 ⟨fun _ => hfin j m (by omega) hI hp, fun q => by omega⟩
  | succ k ih =>
    intro j u4 u5 m hk hj hI hp
    have hL : Fr [59, 60, 61, 62, 63, 64] m0 m := (h3.1.mono (by decide)).tr (hI.1.mono (by decide))
    have hym : rdM m := ⟨(hsM_fr hL).mpr hh, hI.2.1⟩
    refine v_X10_through_80 ⟨fun q => hfin j m (by omega) hI hp, fun q => ?_⟩
    rw [hL.at 48]
    refine ⟨by unfold inR; omega, by unfold inR; omega, by omega, hym, fun m5 h5 => ?_⟩
    rw [show m0 48 1 + ((j : Int) + 1) - 1 = m0 48 1 + j by omega] at h5
    have hF5 : Fr [60, 62, 63, 64] m3 m5 := hI.1.tr (h5.1.mono (by decide))
    have e5 : m5 44 5 = m0 44 5 := by rw [h5.1.at 44, hL.at 44]
    rw [e5]
    refine ⟨by unfold inR; omega, mth_in hh h3 (by omega) hw hF5 ?_ (fun s s0 sn => ?_) (fun s s0 s1 => ?_) hp (fun u4 u5 m hm hx => ih (j + 1) u4 u5 m (by omega) (by omega) hm (fun k s k1 k2 s0 s1 => ?_)) _ (-9) (m0 44 5 - 1) m5 (by omega) (by omega) (Nat.le_refl _) Fr.rf ?_ (fun t t0 tn => ⟨fun y => by omega, fun _ => rfl⟩) (Or.inl ⟨rfl, fun t t0 t1 => by omega⟩)⟩
    · exact (okGM_fr h5.1).2.2 hI.2.1
    · rw [h5.1.at 64]
      exact hI.2.2.1 s s0 sn
    · have := morM_b hym (hr := (m0 48 1 + j) % 24) (s := s)
      rw [h5.2 s s0 s1]
      refine ⟨mor_hr hh h3 hI s, this.1, this.2⟩
    · by_cases e : k = (j : Int) + 1
      · rw [e]; exact hx s s0 s1
      · exact hp k s k1 (by omega) s0 s1
    · exact (okGM_fr h5.1).2.2 hI.2.1
theorem mth_cnt {m0 m3 : Mem} {w : Int} (hh : hsM m0) (h3 : asnP m0 m3) (hw : 0 ≤ w ∧ w ≤ 1) (hh1 : 0 ≤ m0 48 1 ∧ m0 48 1 ≤ 23) (hwo : ∀ s : Int, 0 ≤ s → s < m0 44 5 → 0 ≤ m0 48 (6 + s).toNat ∧ m0 48 (6 + s).toNat ≤ 50000) : ∀ (k : Nat) (a3 : Int) (u4 u5 : Vl) (m : Mem), 0 ≤ a3 → a3 ≤ m0 44 5 → (m0 44 5 - a3).toNat ≤ k → Fr [64] m3 m → (∀ s : Int, 0 ≤ s → s < a3 → m 64 s.toNat = m0 48 (6 + s).toNat) → w_X10_through_19 w (thM2 m0 w) (bitF (whM m0) a3.toNat : Nat) a3 u4 u5 m := by
  have h55 := hh.2.2.2.2.2.1
  have hfin : ∀ (a3 : Int) (u4 u5 : Vl) (m : Mem), a3 = m0 44 5 → Fr [64] m3 m → (∀ s : Int, 0 ≤ s → s < a3 → m 64 s.toNat = m0 48 (6 + s).toNat) → w_X10_through_80 w (thM2 m0 w) (bitF (whM m0) a3.toNat : Nat) 1 u4 u5 m := by
    intro a3 u4 u5 m e hF hx
    rw [e]
    have := mth_out hh h3 hw hh1 240 0 u4 u5 m (by omega) (by omega) ⟨hF.mono (by decide), (okGM_fr hF).2.2 h3.2.1, fun s s0 sn => ?_, fun s s0 sn => ?_⟩ (fun k s k1 k2 s0 s1 => by omega)
    · exact this
    · rw [hx s s0 (by omega)]
      have := hwo s s0 sn
      exact ⟨rfl, this.1, by omega⟩
    · rw [hF.at 60, h3.2.2.2.1 s s0 (by omega), if_pos sn]
      rfl
  intro k
  induction k with
  | zero =>
    intro a3 u4 u5 m h0 h1 hk hF hx
    refine v_X10_through_19 ⟨fun _ => hfin a3 _ _ m (by omega) hF hx, fun q => ?_⟩
    rw [hF.at 44, h3.1.at 44] at q
    omega
  | succ k ih =>
    intro a3 u4 u5 m h0 h1 hk hF hx
    refine v_X10_through_19 ⟨fun q => hfin a3 _ _ m (by rw [hF.at 44, h3.1.at 44] at q; omega) hF hx, fun q => ?_⟩
    rw [hF.at 44, h3.1.at 44] at q
    refine ⟨by unfold inR; omega, by omega, by omega, h0, by omega, fun m6 e6 => ?_⟩
    have hF6 : Fr [64] m3 m6 := by rw [e6]; exact hF.set (by decide)
    have e59 : m6 59 a3.toNat = m0 48 (2 + a3).toNat := by rw [hF6.at 59, h3.2.2.1 a3 h0 (by omega), if_pos q]
    have e60 : m6 60 a3.toNat = trV m0 a3 := by rw [hF6.at 60, h3.2.2.2.1 a3 h0 (by omega), if_pos q]
    have hx6 : ∀ s : Int, 0 ≤ s → s < a3 + 1 → m6 64 s.toNat = m0 48 (6 + s).toNat := by
      intro s s0 s1
      rw [e6, mset_at]
      by_cases c : s = a3
      · rw [c, if_pos ⟨rfl, rfl⟩, hF.at 48, h3.1.at 48]
      · rw [if_neg (by omega)]
        exact hx s s0 (by omega)
    have hno : ∀ (u4 u5 : Vl), ¬ whM m0 a3 → (0 ≤ (((bitF (whM m0) a3.toNat : Nat) : Int))) ∧ ((inR (a3 + 1)) ∧ (w_X10_through_19 w (thM2 m0 w) ((((bitF (whM m0) a3.toNat : Nat) : Int)).toNat ||| ((0 : Int)).toNat : Nat) (a3 + 1) u4 u5 m6)) := by
      intro u4 u5 hn
      refine ⟨Int.natCast_nonneg _, by unfold inR; omega, ?_⟩
      rw [or_0, ← bitF_skip (p := whM m0) h0 hn]
      exact ih _ _ _ _ (by omega) (by omega) (by omega) hF6 hx6
    rw [e59, e60]
    refine ⟨fun z => hno _ _ (fun y => y.1 z), fun z => ⟨fun y => hno _ _ (fun x => by have := x.2; omega), fun y => ⟨by omega, Int.natCast_nonneg _, Int.natCast_nonneg _, by unfold inR; omega, ?_⟩⟩⟩
    rw [bitF_step (p := whM m0) h0 ⟨z, y⟩]
    exact ih _ _ _ _ (by omega) (by omega) (by omega) hF6 hx6
theorem c_X10_through {m0 : Mem} {w : Int} (hh : hsM m0) (hm : moM m0) (hh1 : 0 ≤ m0 48 1 ∧ m0 48 1 ≤ 23) (hwo : ∀ s : Int, 0 ≤ s → s < m0 44 5 → m0 48 (6 + s).toNat ≤ 50000) : Tot mX10_through 0 0 [vR 44, vI w] SH m0 (Pr SH (thM2 m0 w)) := by
  have h55 := hh.2.2.2.2.2.1
  exact v_X10_through ⟨fun q => ⟨hh, hm, fun m3 h3 => mth_cnt hh h3 q hh1 (fun s s0 sn => ⟨(hm s s0 sn).2.1, hwo s s0 sn⟩) _ 0 _ _ m3 (by omega) h55.1 (Nat.le_refl _) Fr.rf (fun s s0 s1 => by omega)⟩, fun q => Or.inl ⟨q, rfl, rfl⟩⟩
