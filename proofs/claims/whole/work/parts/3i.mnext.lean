/-! THE MODEL'S TEXT: next -/
set_option maxRecDepth 20000 in
theorem v_X10_letterAt {k : Int} {P : Int → Mem → Prop} {mem : Mem}  (H : ((mem 44 20) ≤ k → P (-1) mem) ∧ (k < (mem 44 20) → (0 ≤ k) ∧ ((k < 200) ∧ (P (mem 54 k.toNat) mem)))) : Tot mX10_letterAt 0 0 [vR 44, vI k] SH mem (Pr SH P) := by
  refine Tot.of rfl (Nat.le_of_ble_eq_true rfl) (by simp [isJ]) (ls := [vR 44, vI k]) rfl ?_
  refine q_iload_n dX10_letterAt_0 rfl ?_
  refine q_aload_n dX10_letterAt_1 rfl ?_
  refine q_geti dX10_letterAt_2 lf_RX10_97 s44 rfl ?_
  refine q_icmp_ge (tgt := 17) dX10_letterAt_5 (by decide) (fun c5 => ?_) (fun c5 => ?_)
  · have H := H.1 c5
    refine q_iconst dX10_letterAt_17 (by decide) ?_
    exact q_iret dX10_letterAt_18 rfl ⟨_, rfl, rfl, H⟩
  · have H := H.2 c5
    refine q_aload_n dX10_letterAt_8 rfl ?_
    refine q_getr (r := 54) dX10_letterAt_9 lf_RX10_48 s44 rfl rfl ?_
    refine q_iload_n dX10_letterAt_12 rfl ?_
    obtain ⟨h1, H⟩ := H
    obtain ⟨h2, H⟩ := H
    refine q_iald dX10_letterAt_13 s54 h1 h2 ?_
    refine q_goto (tgt := 18) dX10_letterAt_14 (by decide) ?_
    exact q_iret dX10_letterAt_18 rfl ⟨_, rfl, rfl, H⟩


def leM (m : Mem) (k : Int) : Int := if k < m 44 20 then m 54 k.toNat else -1
def txM (m : Mem) : Prop := (0 ≤ m 44 20 ∧ m 44 20 ≤ 200) ∧ ∀ i : Int, 0 ≤ i → i < m 44 20 → 0 ≤ m 54 i.toNat ∧ m 54 i.toNat ≤ 255
theorem c_X10_letterAt {mem : Mem} {k : Int} (k0 : 0 ≤ k) (h : mem 44 20 ≤ 200) : Tot mX10_letterAt 0 0 [vR 44, vI k] SH mem (Pr SH (Pv (leM mem k) mem)) := by
  unfold leM
  refine v_X10_letterAt ⟨fun q => ⟨by rw [if_neg (by omega)], rfl⟩, fun q => ⟨k0, by omega, by rw [if_pos q], rfl⟩⟩
def w_X10_next_0 (P : Mem → Prop) (u1 : Vl) (mem : Mem) : Prop := WP mX10_next none 0 0 (Pn SH P) 0 [vR 44, u1] [] SH mem
def w_X10_next_117 (P : Mem → Prop) (a1 : Int) (mem : Mem) : Prop := WP mX10_next none 0 0 (Pn SH P) 117 [vR 44, vI a1] [] SH mem
def w_X10_next_136 (P : Mem → Prop) (a1 : Int) (mem : Mem) : Prop := WP mX10_next none 0 0 (Pn SH P) 136 [vR 44, vI a1] [] SH mem
set_option maxRecDepth 20000 in
theorem v_X10_next_0 {P : Mem → Prop} {u1 : Vl} {mem : Mem}  (H : (0 ≤ (mem 44 21)) ∧ ((mem 44 20 ≤ 200) ∧ ((¬ (leM mem (mem 44 21)) = 32 → ∀ m3 : Mem, m3 = (mset mem 44 22 (mem 44 21)) → ((0 ≤ (m3 44 21)) ∧ ((m3 44 20 ≤ 200) ∧ ((0 ≤ (leM m3 (m3 44 21)) → (inR ((m3 44 21) + 1)) ∧ (∀ m7 : Mem, m7 = (mset m3 44 21 ((m3 44 21) + 1)) → (∀ m8 : Mem, m8 = (mset m7 44 24 (leM m3 (m3 44 21))) → (((leM m3 (m3 44 21)) = 103 → ∀ m9 : Mem, m9 = (mset m8 44 23 1) → (w_X10_next_117 P (leM m3 (m3 44 21)) m9)) ∧ (¬ (leM m3 (m3 44 21)) = 103 → ((leM m3 (m3 44 21)) = 102 → ∀ m10 : Mem, m10 = (mset m8 44 23 1) → (w_X10_next_117 P (leM m3 (m3 44 21)) m10)) ∧ (¬ (leM m3 (m3 44 21)) = 102 → ((leM m3 (m3 44 21)) = 110 → ∀ m11 : Mem, m11 = (mset m8 44 23 1) → (w_X10_next_117 P (leM m3 (m3 44 21)) m11)) ∧ (¬ (leM m3 (m3 44 21)) = 110 → ((leM m3 (m3 44 21)) = 115 → ∀ m12 : Mem, m12 = (mset m8 44 23 1) → (w_X10_next_117 P (leM m3 (m3 44 21)) m12)) ∧ (¬ (leM m3 (m3 44 21)) = 115 → (¬ (leM m3 (m3 44 21)) = 114 → (¬ (leM m3 (m3 44 21)) = 59 → ∀ m13 : Mem, m13 = (mset m8 44 23 4) → (w_X10_next_117 P (leM m3 (m3 44 21)) m13)) ∧ ((leM m3 (m3 44 21)) = 59 → ∀ m14 : Mem, m14 = (mset m8 44 23 3) → (w_X10_next_117 P (leM m3 (m3 44 21)) m14))) ∧ ((leM m3 (m3 44 21)) = 114 → ∀ m15 : Mem, m15 = (mset m8 44 23 1) → (w_X10_next_117 P (leM m3 (m3 44 21)) m15)))))))))) ∧ ((leM m3 (m3 44 21)) < 0 → ∀ m16 : Mem, m16 = (mset m3 44 23 0) → (P m16)))))) ∧ ((leM mem (mem 44 21)) = 32 → (inR ((mem 44 21) + 1)) ∧ (∀ m18 : Mem, m18 = (mset mem 44 21 ((mem 44 21) + 1)) → (w_X10_next_0 P u1 m18)))))) : w_X10_next_0 P u1 mem := by
  unfold w_X10_next_0
  refine q_aload_n dX10_next_0 rfl ?_
  refine q_aload_n dX10_next_1 rfl ?_
  refine q_geti dX10_next_2 lf_RX10_100 s44 rfl ?_
  obtain ⟨h1, H⟩ := H
  obtain ⟨h2, H⟩ := H
  refine q_cVi (as := [vI _]) dX10_next_5 kmX10_letterAt kvX10_letterAt lm_RX10_103 ⟨by decide, by decide⟩ s44 ⟨by decide, rfl⟩ rfl rfl (Nat.le_of_ble_eq_true rfl) (c_X10_letterAt h1 h2) (fun v m1 hq => ?_)
  obtain ⟨rfl, rfl⟩ := hq
  refine q_bipush dX10_next_8 rfl (by decide) ?_
  refine q_icmp_ne (tgt := 26) dX10_next_10 (by decide) (fun c10 => ?_) (fun c10 => ?_)
  · have H := H.1 c10
    refine q_aload_n dX10_next_26 rfl ?_
    refine q_aload_n dX10_next_27 rfl ?_
    refine q_geti dX10_next_28 lf_RX10_100 s44 rfl ?_
    refine q_puti dX10_next_31 lf_RX10_107 s44 rfl (Or.inl rfl) fit_int ?_
    have H := H _ rfl
    refine q_aload_n dX10_next_34 rfl ?_
    refine q_aload_n dX10_next_35 rfl ?_
    refine q_geti dX10_next_36 lf_RX10_100 s44 rfl ?_
    obtain ⟨h4, H⟩ := H
    obtain ⟨h5, H⟩ := H
    refine q_cVi (as := [vI _]) dX10_next_39 kmX10_letterAt kvX10_letterAt lm_RX10_103 ⟨by decide, by decide⟩ s44 ⟨by decide, rfl⟩ rfl rfl (Nat.le_of_ble_eq_true rfl) (c_X10_letterAt h4 h5) (fun v m1 hq => ?_)
    obtain ⟨rfl, rfl⟩ := hq
    refine q_istore_n dX10_next_42 (by decide) rfl ?_
    refine q_iload_n dX10_next_43 rfl ?_
    refine q_if_ge (tgt := 53) dX10_next_44 (by decide) (fun c44 => ?_) (fun c44 => ?_)
    · have H := H.1 c44
      refine q_aload_n dX10_next_53 rfl ?_
      refine q_dup dX10_next_54 rfl ?_
      refine q_geti dX10_next_55 lf_RX10_100 s44 rfl ?_
      refine q_iconst dX10_next_58 (by decide) ?_
      obtain ⟨h6, H⟩ := H
      refine q_iadd dX10_next_59 h6 ?_
      refine q_puti dX10_next_60 lf_RX10_100 s44 rfl (Or.inl rfl) fit_int ?_
      have H := H _ rfl
      refine q_aload_n dX10_next_63 rfl ?_
      refine q_iload_n dX10_next_64 rfl ?_
      refine q_puti dX10_next_65 lf_RX10_113 s44 rfl (Or.inl rfl) fit_int ?_
      have H := H _ rfl
      refine q_aload_n dX10_next_68 rfl ?_
      refine q_iload_n dX10_next_69 rfl ?_
      refine q_bipush dX10_next_70 rfl (by decide) ?_
      refine q_icmp_eq (tgt := 99) dX10_next_72 (by decide) (fun c72 => ?_) (fun c72 => ?_)
      · have H := H.1 c72
        refine q_iconst dX10_next_99 (by decide) ?_
        refine q_goto (tgt := 114) dX10_next_100 (by decide) ?_
        refine q_puti dX10_next_114 lf_RX10_110 s44 rfl (Or.inl rfl) fit_int ?_
        have H := H _ rfl
        exact H
      · have H := H.2 c72
        refine q_iload_n dX10_next_75 rfl ?_
        refine q_bipush dX10_next_76 rfl (by decide) ?_
        refine q_icmp_eq (tgt := 99) dX10_next_78 (by decide) (fun c78 => ?_) (fun c78 => ?_)
        · have H := H.1 c78
          refine q_iconst dX10_next_99 (by decide) ?_
          refine q_goto (tgt := 114) dX10_next_100 (by decide) ?_
          refine q_puti dX10_next_114 lf_RX10_110 s44 rfl (Or.inl rfl) fit_int ?_
          have H := H _ rfl
          exact H
        · have H := H.2 c78
          refine q_iload_n dX10_next_81 rfl ?_
          refine q_bipush dX10_next_82 rfl (by decide) ?_
          refine q_icmp_eq (tgt := 99) dX10_next_84 (by decide) (fun c84 => ?_) (fun c84 => ?_)
          · have H := H.1 c84
            refine q_iconst dX10_next_99 (by decide) ?_
            refine q_goto (tgt := 114) dX10_next_100 (by decide) ?_
            refine q_puti dX10_next_114 lf_RX10_110 s44 rfl (Or.inl rfl) fit_int ?_
            have H := H _ rfl
            exact H
          · have H := H.2 c84
            refine q_iload_n dX10_next_87 rfl ?_
            refine q_bipush dX10_next_88 rfl (by decide) ?_
            refine q_icmp_eq (tgt := 99) dX10_next_90 (by decide) (fun c90 => ?_) (fun c90 => ?_)
            · have H := H.1 c90
              refine q_iconst dX10_next_99 (by decide) ?_
              refine q_goto (tgt := 114) dX10_next_100 (by decide) ?_
              refine q_puti dX10_next_114 lf_RX10_110 s44 rfl (Or.inl rfl) fit_int ?_
              have H := H _ rfl
              exact H
            · have H := H.2 c90
              refine q_iload_n dX10_next_93 rfl ?_
              refine q_bipush dX10_next_94 rfl (by decide) ?_
              refine q_icmp_ne (tgt := 103) dX10_next_96 (by decide) (fun c96 => ?_) (fun c96 => ?_)
              · have H := H.1 c96
                refine q_iload_n dX10_next_103 rfl ?_
                refine q_bipush dX10_next_104 rfl (by decide) ?_
                refine q_icmp_ne (tgt := 113) dX10_next_106 (by decide) (fun c106 => ?_) (fun c106 => ?_)
                · have H := H.1 c106
                  refine q_iconst dX10_next_113 (by decide) ?_
                  refine q_puti dX10_next_114 lf_RX10_110 s44 rfl (Or.inl rfl) fit_int ?_
                  have H := H _ rfl
                  exact H
                · have H := H.2 c106
                  refine q_iconst dX10_next_109 (by decide) ?_
                  refine q_goto (tgt := 114) dX10_next_110 (by decide) ?_
                  refine q_puti dX10_next_114 lf_RX10_110 s44 rfl (Or.inl rfl) fit_int ?_
                  have H := H _ rfl
                  exact H
              · have H := H.2 c96
                refine q_iconst dX10_next_99 (by decide) ?_
                refine q_goto (tgt := 114) dX10_next_100 (by decide) ?_
                refine q_puti dX10_next_114 lf_RX10_110 s44 rfl (Or.inl rfl) fit_int ?_
                have H := H _ rfl
                exact H
    · have H := H.2 c44
      refine q_aload_n dX10_next_47 rfl ?_
      refine q_iconst dX10_next_48 (by decide) ?_
      refine q_puti dX10_next_49 lf_RX10_110 s44 rfl (Or.inl rfl) fit_int ?_
      have H := H _ rfl
      exact q_vret dX10_next_52 rfl ⟨rfl, rfl, H⟩
  · have H := H.2 c10
    refine q_aload_n dX10_next_13 rfl ?_
    refine q_dup dX10_next_14 rfl ?_
    refine q_geti dX10_next_15 lf_RX10_100 s44 rfl ?_
    refine q_iconst dX10_next_18 (by decide) ?_
    obtain ⟨h17, H⟩ := H
    refine q_iadd dX10_next_19 h17 ?_
    refine q_puti dX10_next_20 lf_RX10_100 s44 rfl (Or.inl rfl) fit_int ?_
    have H := H _ rfl
    refine q_goto (tgt := 0) dX10_next_23 (by decide) ?_
    exact H
set_option maxRecDepth 20000 in
theorem v_X10_next_117 {P : Mem → Prop} {a1 : Int} {mem : Mem}  (H : (¬ (48 ≤ a1 ∧ a1 ≤ 57) → P mem) ∧ ((48 ≤ a1 ∧ a1 ≤ 57) → (inR (a1 - 48)) ∧ (∀ m2 : Mem, m2 = (mset mem 44 24 (a1 - 48)) → (w_X10_next_136 P a1 m2)))) : w_X10_next_117 P a1 mem := by
  unfold w_X10_next_117
  refine q_iload_n dX10_next_117 rfl ?_
  refine q_bipush dX10_next_118 rfl (by decide) ?_
  refine q_bipush dX10_next_120 rfl (by decide) ?_
  refine q_cSi (as := [vI _, vI _, vI _]) dX10_next_122 kmX10_in ktX10_in lm_RX10_90 ⟨by decide, by decide⟩ rfl rfl (Nat.le_of_ble_eq_true rfl) (c_X10_in) (fun v m1 hq => ?_)
  obtain ⟨rfl, rfl⟩ := hq
  refine q_if_eq (tgt := 251) dX10_next_125 (by decide) (fun c125 => ?_) (fun c125 => ?_)
  · have H := H.1 (b_no c125)
    exact q_vret dX10_next_251 rfl ⟨rfl, rfl, H⟩
  · have H := H.2 (b_yes c125)
    refine q_aload_n dX10_next_128 rfl ?_
    refine q_iload_n dX10_next_129 rfl ?_
    refine q_bipush dX10_next_130 rfl (by decide) ?_
    obtain ⟨h1, H⟩ := H
    refine q_isub dX10_next_132 h1 ?_
    refine q_puti dX10_next_133 lf_RX10_113 s44 rfl (Or.inl rfl) fit_int ?_
    have H := H _ rfl
    exact H
set_option maxRecDepth 20000 in
theorem v_X10_next_136 {P : Mem → Prop} {a1 : Int} {mem : Mem}  (H : (0 ≤ (mem 44 21)) ∧ ((mem 44 20 ≤ 200) ∧ ((¬ (48 ≤ (leM mem (mem 44 21)) ∧ (leM mem (mem 44 21)) ≤ 57) → (inR ((mem 44 21) - (mem 44 22))) ∧ ((3 ≤ ((mem 44 21) - (mem 44 22)) → ∀ m4 : Mem, m4 = (mset mem 44 23 4) → (P m4)) ∧ (((mem 44 21) - (mem 44 22)) < 3 → (¬ a1 = 48 → ∀ m5 : Mem, m5 = (mset mem 44 23 2) → (P m5)) ∧ (a1 = 48 → (¬ ((mem 44 21) - (mem 44 22)) = 1 → ∀ m6 : Mem, m6 = (mset mem 44 23 4) → (P m6)) ∧ (((mem 44 21) - (mem 44 22)) = 1 → ∀ m7 : Mem, m7 = (mset mem 44 23 2) → (P m7)))))) ∧ ((48 ≤ (leM mem (mem 44 21)) ∧ (leM mem (mem 44 21)) ≤ 57) → (inR ((mem 44 21) - (mem 44 22))) ∧ ((2 ≤ ((mem 44 21) - (mem 44 22)) → ∀ m9 : Mem, m9 = (mset mem 44 24 (mem 44 24)) → ((inR ((m9 44 21) + 1)) ∧ (∀ m11 : Mem, m11 = (mset m9 44 21 ((m9 44 21) + 1)) → (w_X10_next_136 P a1 m11)))) ∧ (((mem 44 21) - (mem 44 22)) < 2 → (inR (10 * (mem 44 24))) ∧ ((inR ((10 * (mem 44 24)) + (leM mem (mem 44 21)))) ∧ ((inR (((10 * (mem 44 24)) + (leM mem (mem 44 21))) - 48)) ∧ (∀ m15 : Mem, m15 = (mset mem 44 24 (((10 * (mem 44 24)) + (leM mem (mem 44 21))) - 48)) → ((inR ((m15 44 21) + 1)) ∧ (∀ m17 : Mem, m17 = (mset m15 44 21 ((m15 44 21) + 1)) → (w_X10_next_136 P a1 m17)))))))))))) : w_X10_next_136 P a1 mem := by
  unfold w_X10_next_136
  refine q_aload_n dX10_next_136 rfl ?_
  refine q_aload_n dX10_next_137 rfl ?_
  refine q_geti dX10_next_138 lf_RX10_100 s44 rfl ?_
  obtain ⟨h1, H⟩ := H
  obtain ⟨h2, H⟩ := H
  refine q_cVi (as := [vI _]) dX10_next_141 kmX10_letterAt kvX10_letterAt lm_RX10_103 ⟨by decide, by decide⟩ s44 ⟨by decide, rfl⟩ rfl rfl (Nat.le_of_ble_eq_true rfl) (c_X10_letterAt h1 h2) (fun v m1 hq => ?_)
  obtain ⟨rfl, rfl⟩ := hq
  refine q_bipush dX10_next_144 rfl (by decide) ?_
  refine q_bipush dX10_next_146 rfl (by decide) ?_
  refine q_cSi (as := [vI _, vI _, vI _]) dX10_next_148 kmX10_in ktX10_in lm_RX10_90 ⟨by decide, by decide⟩ rfl rfl (Nat.le_of_ble_eq_true rfl) (c_X10_in) (fun v m1 hq => ?_)
  obtain ⟨rfl, rfl⟩ := hq
  refine q_if_eq (tgt := 210) dX10_next_151 (by decide) (fun c151 => ?_) (fun c151 => ?_)
  · have H := H.1 (b_no c151)
    refine q_aload_n dX10_next_210 rfl ?_
    refine q_aload_n dX10_next_211 rfl ?_
    refine q_geti dX10_next_212 lf_RX10_100 s44 rfl ?_
    refine q_aload_n dX10_next_215 rfl ?_
    refine q_geti dX10_next_216 lf_RX10_107 s44 rfl ?_
    obtain ⟨h3, H⟩ := H
    refine q_isub dX10_next_219 h3 ?_
    refine q_iconst dX10_next_220 (by decide) ?_
    refine q_icmp_ge (tgt := 247) dX10_next_221 (by decide) (fun c221 => ?_) (fun c221 => ?_)
    · have H := H.1 c221
      refine q_iconst dX10_next_247 (by decide) ?_
      refine q_puti dX10_next_248 lf_RX10_110 s44 rfl (Or.inl rfl) fit_int ?_
      have H := H _ rfl
      exact q_vret dX10_next_251 rfl ⟨rfl, rfl, H⟩
    · have H := H.2 c221
      refine q_iload_n dX10_next_224 rfl ?_
      refine q_bipush dX10_next_225 rfl (by decide) ?_
      refine q_icmp_ne (tgt := 243) dX10_next_227 (by decide) (fun c227 => ?_) (fun c227 => ?_)
      · have H := H.1 c227
        refine q_iconst dX10_next_243 (by decide) ?_
        refine q_goto (tgt := 248) dX10_next_244 (by decide) ?_
        refine q_puti dX10_next_248 lf_RX10_110 s44 rfl (Or.inl rfl) fit_int ?_
        have H := H _ rfl
        exact q_vret dX10_next_251 rfl ⟨rfl, rfl, H⟩
      · have H := H.2 c227
        refine q_aload_n dX10_next_230 rfl ?_
        refine q_geti dX10_next_231 lf_RX10_100 s44 rfl ?_
        refine q_aload_n dX10_next_234 rfl ?_
        refine q_geti dX10_next_235 lf_RX10_107 s44 rfl ?_
        refine q_isub dX10_next_238 h3 ?_
        refine q_iconst dX10_next_239 (by decide) ?_
        refine q_icmp_ne (tgt := 247) dX10_next_240 (by decide) (fun c240 => ?_) (fun c240 => ?_)
        · have H := H.1 c240
          refine q_iconst dX10_next_247 (by decide) ?_
          refine q_puti dX10_next_248 lf_RX10_110 s44 rfl (Or.inl rfl) fit_int ?_
          have H := H _ rfl
          exact q_vret dX10_next_251 rfl ⟨rfl, rfl, H⟩
        · have H := H.2 c240
          refine q_iconst dX10_next_243 (by decide) ?_
          refine q_goto (tgt := 248) dX10_next_244 (by decide) ?_
          refine q_puti dX10_next_248 lf_RX10_110 s44 rfl (Or.inl rfl) fit_int ?_
          have H := H _ rfl
          exact q_vret dX10_next_251 rfl ⟨rfl, rfl, H⟩
  · have H := H.2 (b_yes c151)
    refine q_aload_n dX10_next_154 rfl ?_
    refine q_aload_n dX10_next_155 rfl ?_
    refine q_geti dX10_next_156 lf_RX10_100 s44 rfl ?_
    refine q_aload_n dX10_next_159 rfl ?_
    refine q_geti dX10_next_160 lf_RX10_107 s44 rfl ?_
    obtain ⟨h8, H⟩ := H
    refine q_isub dX10_next_163 h8 ?_
    refine q_iconst dX10_next_164 (by decide) ?_
    refine q_icmp_ge (tgt := 190) dX10_next_165 (by decide) (fun c165 => ?_) (fun c165 => ?_)
    · have H := H.1 c165
      refine q_aload_n dX10_next_190 rfl ?_
      refine q_geti dX10_next_191 lf_RX10_113 s44 rfl ?_
      refine q_puti dX10_next_194 lf_RX10_113 s44 rfl (Or.inl rfl) fit_int ?_
      have H := H _ rfl
      refine q_aload_n dX10_next_197 rfl ?_
      refine q_dup dX10_next_198 rfl ?_
      refine q_geti dX10_next_199 lf_RX10_100 s44 rfl ?_
      refine q_iconst dX10_next_202 (by decide) ?_
      obtain ⟨h10, H⟩ := H
      refine q_iadd dX10_next_203 h10 ?_
      refine q_puti dX10_next_204 lf_RX10_100 s44 rfl (Or.inl rfl) fit_int ?_
      have H := H _ rfl
      refine q_goto (tgt := 136) dX10_next_207 (by decide) ?_
      exact H
    · have H := H.2 c165
      refine q_bipush dX10_next_168 rfl (by decide) ?_
      refine q_aload_n dX10_next_170 rfl ?_
      refine q_geti dX10_next_171 lf_RX10_113 s44 rfl ?_
      obtain ⟨h12, H⟩ := H
      refine q_imul dX10_next_174 h12 ?_
      refine q_aload_n dX10_next_175 rfl ?_
      refine q_aload_n dX10_next_176 rfl ?_
      refine q_geti dX10_next_177 lf_RX10_100 s44 rfl ?_
      refine q_cVi (as := [vI _]) dX10_next_180 kmX10_letterAt kvX10_letterAt lm_RX10_103 ⟨by decide, by decide⟩ s44 ⟨by decide, rfl⟩ rfl rfl (Nat.le_of_ble_eq_true rfl) (c_X10_letterAt h1 h2) (fun v m1 hq => ?_)
      obtain ⟨rfl, rfl⟩ := hq
      obtain ⟨h13, H⟩ := H
      refine q_iadd dX10_next_183 h13 ?_
      refine q_bipush dX10_next_184 rfl (by decide) ?_
      obtain ⟨h14, H⟩ := H
      refine q_isub dX10_next_186 h14 ?_
      refine q_goto (tgt := 194) dX10_next_187 (by decide) ?_
      refine q_puti dX10_next_194 lf_RX10_113 s44 rfl (Or.inl rfl) fit_int ?_
      have H := H _ rfl
      refine q_aload_n dX10_next_197 rfl ?_
      refine q_dup dX10_next_198 rfl ?_
      refine q_geti dX10_next_199 lf_RX10_100 s44 rfl ?_
      refine q_iconst dX10_next_202 (by decide) ?_
      obtain ⟨h16, H⟩ := H
      refine q_iadd dX10_next_203 h16 ?_
      refine q_puti dX10_next_204 lf_RX10_100 s44 rfl (Or.inl rfl) fit_int ?_
      have H := H _ rfl
      refine q_goto (tgt := 136) dX10_next_207 (by decide) ?_
      exact H
set_option maxRecDepth 20000 in
theorem v_X10_next {P : Mem → Prop} {mem : Mem}  (H : w_X10_next_0 P (vJ 0) mem) : Tot mX10_next 0 0 [vR 44] SH mem (Pn SH P) := by
  refine Tot.of rfl (Nat.le_of_ble_eq_true rfl) (by simp [isJ]) (ls := [vR 44, vJ 0]) rfl ?_
  exact H


def nx4 (m0 m : Mem) : Prop := Fr [44] m0 m ∧ ∀ k : Nat, k ≠ 21 → k ≠ 22 → k ≠ 23 → k ≠ 24 → m 44 k = m0 44 k
theorem nx4_set {m0 m : Mem} {k : Nat} {z : Int} (h : nx4 m0 m) (hk : k = 21 ∨ k = 22 ∨ k = 23 ∨ k = 24) : nx4 m0 (mset m 44 k z) := ⟨h.1.set (by decide), fun j h1 h2 h3 h4 => by rw [mset_at, if_neg (by omega)]; exact h.2 j h1 h2 h3 h4⟩
def isL (v : Int) : Prop := v = 103 ∨ v = 102 ∨ v = 110 ∨ v = 115 ∨ v = 114
/-- how the model has a token -/
def tkE (m : Mem) (K v : Int) : Prop := (K = 0 ∧ m 44 23 = 0) ∨ (K = 1 ∧ m 44 24 = v ∧ 0 ≤ v ∧ ((isL v ∧ m 44 23 = 1) ∨ (v = 59 ∧ m 44 23 = 3) ∨ (¬ isL v ∧ v ≠ 59 ∧ m 44 23 = 4))) ∨ (K = 2 ∧ m 44 23 = 2 ∧ m 44 24 = v ∧ 0 ≤ v ∧ v ≤ 99) ∨ (K = 4 ∧ m 44 23 = 4)
/-- the token that begins at a or behind -/
def TKm (a : Int) (m : Mem) : Prop := ∃ K v : Int, tokP (m 54) (m 44 20) a K v (m 44 22) (m 44 21) ∧ tkE m K v
def nxP (m0 m : Mem) : Prop := nx4 m0 m ∧ TKm (m0 44 21) m
def nxQ (m : Mem) : Prop := txM m ∧ (0 ≤ m 44 21 ∧ m 44 21 ≤ m 44 20)
theorem nx_dig {m0 : Mem} {s c : Int} (ht : txM m0) (hs : 0 ≤ s ∧ s < m0 44 20) (hc : m0 54 s.toNat = c) (hd : digP c) (h0 : s = spA (m0 54) (m0 44 20) (m0 44 21)) : ∀ (k : Nat) (m : Mem), nx4 m0 m → m 44 22 = s → s + 1 ≤ m 44 21 → m 44 21 ≤ m0 44 20 → (m0 44 20 - m 44 21).toNat ≤ k → dgA (m0 54) (m0 44 20) s = dgA (m0 54) (m0 44 20) (m 44 21) → (0 ≤ m 44 24 ∧ m 44 24 ≤ 99) ∧ (m 44 21 - s = 1 → m 44 24 = c - 48) ∧ (m 44 21 - s = 2 → m 44 24 = 10 * (c - 48) + (m0 54 (s + 1).toNat - 48)) → w_X10_next_136 (nxP m0) c m := by
  have h200 := ht.1
  have hd' : 48 ≤ c ∧ c ≤ 57 := hd
  have hend : ∀ (m : Mem), nx4 m0 m → m 44 22 = s → s + 1 ≤ m 44 21 → m 44 21 ≤ m0 44 20 → dgA (m0 54) (m0 44 20) s = m 44 21 → (0 ≤ m 44 24 ∧ m 44 24 ≤ 99) ∧ (m 44 21 - s = 1 → m 44 24 = c - 48) ∧ (m 44 21 - s = 2 → m 44 24 = 10 * (c - 48) + (m0 54 (s + 1).toNat - 48)) → (inR ((m 44 21) - (m 44 22))) ∧ ((3 ≤ ((m 44 21) - (m 44 22)) → ∀ m2 : Mem, m2 = (mset m 44 23 4) → (nxP m0 m2)) ∧ (((m 44 21) - (m 44 22)) < 3 → (¬ c = 48 → ∀ m3 : Mem, m3 = (mset m 44 23 2) → (nxP m0 m3)) ∧ (c = 48 → (¬ ((m 44 21) - (m 44 22)) = 1 → ∀ m4 : Mem, m4 = (mset m 44 23 4) → (nxP m0 m4)) ∧ (((m 44 21) - (m 44 22)) = 1 → ∀ m5 : Mem, m5 = (mset m 44 23 2) → (nxP m0 m5))))) := by
    intro m hF e22 h1 h2 he hv
    have e54 : m 54 = m0 54 := hF.1.at 54
    have e20 : m 44 20 = m0 44 20 := hF.2 20 (by decide) (by decide) (by decide) (by decide)
    have hx : ∀ (z : Int) (k : Nat), k ≠ 23 → mset m 44 23 z 44 k = m 44 k := fun z k hk => by rw [mset_at, if_neg (by omega)]
    have hx54 : ∀ z : Int, mset m 44 23 z 54 = m0 54 := fun z => by rw [mset_ne 54 (by decide), e54]
    have hyes : twoP (m0 54) s (m 44 21) → ∀ m3 : Mem, m3 = mset m 44 23 2 → nxP m0 m3 := by
      intro h2 m3 e3
      rw [e3]
      refine ⟨nx4_set hF (by omega), 2, m 44 24, ?_, Or.inr (Or.inr (Or.inl ⟨rfl, mset_eq, hx _ 24 (by decide), hv.1.1, hv.1.2⟩))⟩
      rw [hx54, hx _ 20 (by decide), hx _ 22 (by decide), hx _ 21 (by decide), e20, e22]
      refine ⟨h0, Or.inr (Or.inr ⟨hs.2, by rw [hc]; exact hd, he.symm, Or.inl ⟨h2, rfl, ?_⟩⟩)⟩
      unfold twoV
      have h2' := h2
      unfold twoP at h2'
      rw [hc]
      by_cases w : m 44 21 - s = 1
      · rw [if_pos w]; exact hv.2.1 w
      · rw [if_neg w]; exact hv.2.2 (by omega)
    have hno : ¬ twoP (m0 54) s (m 44 21) → ∀ m3 : Mem, m3 = mset m 44 23 4 → nxP m0 m3 := by
      intro h2 m3 e3
      rw [e3]
      refine ⟨nx4_set hF (by omega), 4, 0, ?_, Or.inr (Or.inr (Or.inr ⟨rfl, mset_eq⟩))⟩
      rw [hx54, hx _ 20 (by decide), hx _ 22 (by decide), hx _ 21 (by decide), e20, e22]
      exact ⟨h0, Or.inr (Or.inr ⟨hs.2, by rw [hc]; exact hd, he.symm, Or.inr ⟨h2, rfl⟩⟩)⟩
    rw [e22]
    refine ⟨by unfold inR; omega, fun z => hno (fun w => ?_), fun z => ⟨fun z2 => hyes ?_, fun z2 => ⟨fun z3 => hno (fun w => ?_), fun z3 => hyes ?_⟩⟩⟩
    · unfold twoP at w; omega
    · unfold twoP; rw [hc]; omega
    · unfold twoP at w; rw [hc] at w; omega
    · unfold twoP; omega
  intro k
  induction k with
  | zero =>
    intro m hF e22 h1 h2 hk hg hv
    have e54 : m 54 = m0 54 := hF.1.at 54
    have e20 : m 44 20 = m0 44 20 := hF.2 20 (by decide) (by decide) (by decide) (by decide)
    have hle : leM m (m 44 21) = -1 := by unfold leM; rw [if_neg (by omega)]
    refine v_X10_next_136 ?_
    rw [hle]
    refine ⟨by omega, by omega, fun _ => hend m hF e22 h1 h2 ?_ hv, fun q => by omega⟩
    rw [hg, dgA_no (by omega)]
  | succ k ih =>
    intro m hF e22 h1 h2 hk hg hv
    have e54 : m 54 = m0 54 := hF.1.at 54
    have e20 : m 44 20 = m0 44 20 := hF.2 20 (by decide) (by decide) (by decide) (by decide)
    refine v_X10_next_136 ⟨by omega, by omega, fun q => hend m hF e22 h1 h2 ?_ hv, fun q => ?_⟩
    · rw [hg, dgA_no (fun w => q ?_)]
      unfold leM
      rw [e20, if_pos w.1, e54]
      exact w.2
    · have hlt : m 44 21 < m0 44 20 := by
        unfold leM at q
        rw [e20] at q
        by_cases w : m 44 21 < m0 44 20
        · exact w
        · rw [if_neg w] at q
          omega
      have hle : leM m (m 44 21) = m0 54 (m 44 21).toNat := by unfold leM; rw [e20, if_pos hlt, e54]
      rw [hle] at q ⊢
      rw [e22]
      have hgo : ∀ (z : Int) (m7 m9 : Mem), m7 = mset m 44 24 z → m9 = mset m7 44 21 (m7 44 21 + 1) → ((0 ≤ z ∧ z ≤ 99) ∧ (m 44 21 + 1 - s = 2 → z = 10 * (c - 48) + (m0 54 (s + 1).toNat - 48))) → w_X10_next_136 (nxP m0) c m9 := by
        intro z m7 m9 e7 e9 hz
        have k21 : m9 44 21 = m 44 21 + 1 := by rw [e9, mset_eq, e7, mset_at, if_neg (by omega)]
        have k24 : m9 44 24 = z := by rw [e9, mset_at, if_neg (by omega), e7, mset_eq]
        have k22 : m9 44 22 = s := by rw [e9, mset_at, if_neg (by omega), e7, mset_at, if_neg (by omega), e22]
        refine ih m9 (by rw [e9, e7]; exact nx4_set (nx4_set hF (by omega)) (by omega)) k22 (by omega) (by omega) (by omega) ?_ ?_
        · rw [k21, hg]
          exact dgA_go ⟨hlt, q⟩
        · rw [k24, k21]
          exact ⟨hz.1, fun w => by omega, hz.2⟩
      refine ⟨by unfold inR; omega, fun w => fun m7 e7 => ?_, fun w => ?_⟩
      · have e21 : m7 44 21 = m 44 21 := by rw [e7, mset_at, if_neg (by omega)]
        rw [e21]
        refine ⟨by unfold inR; omega, fun m9 e9 => hgo _ m7 m9 e7 (by rw [e9, e21]) ⟨hv.1, fun y => by omega⟩⟩
      · have e1 : m 44 21 = s + 1 := by omega
        have h24 := hv.2.1 (by omega)
        have q' : 48 ≤ m0 54 (s + 1).toNat ∧ m0 54 (s + 1).toNat ≤ 57 := by rw [← e1]; exact q
        rw [h24, e1]
        refine ⟨by unfold inR; omega, by unfold inR; omega, by unfold inR; omega, fun m13 e13 => ?_⟩
        have e21 : m13 44 21 = m 44 21 := by rw [e13, mset_at, if_neg (by omega)]
        rw [e21]
        refine ⟨by unfold inR; omega, fun m15 e15 => hgo _ m13 m15 e13 (by rw [e15, e21]) ⟨by omega, fun _ => by omega⟩⟩
theorem nx_kind {m0 m : Mem} {s c : Int} (ht : txM m0) (hs : 0 ≤ s ∧ s < m0 44 20) (hc : m0 54 s.toNat = c) (h0 : s = spA (m0 54) (m0 44 20) (m0 44 21)) (hF : nx4 m0 m) (e22 : m 44 22 = s) (e21 : m 44 21 = s + 1) (e24 : m 44 24 = c) (e23 : (isL c ∧ m 44 23 = 1) ∨ (c = 59 ∧ m 44 23 = 3) ∨ (¬ isL c ∧ c ≠ 59 ∧ m 44 23 = 4)) : w_X10_next_117 (nxP m0) c m := by
  have h200 := ht.1
  have hcb := ht.2 s hs.1 hs.2
  rw [hc] at hcb
  have e54 : m 54 = m0 54 := hF.1.at 54
  have e20 : m 44 20 = m0 44 20 := hF.2 20 (by decide) (by decide) (by decide) (by decide)
  refine v_X10_next_117 ⟨fun q => ⟨hF, 1, c, ?_, Or.inr (Or.inl ⟨rfl, e24, hcb.1, e23⟩)⟩, fun q => ⟨by unfold inR; omega, fun m7 e7 => ?_⟩⟩
  · rw [e54, e20, e22, e21]
    exact ⟨h0, Or.inr (Or.inl ⟨hs.2, by rw [hc]; exact q, rfl, hc.symm, rfl⟩)⟩
  · have k : ∀ j : Nat, j ≠ 24 → m7 44 j = m 44 j := fun j hj => by rw [e7, mset_at, if_neg (by omega)]
    have k24 : m7 44 24 = c - 48 := by rw [e7, mset_eq]
    refine nx_dig ht hs hc q h0 _ m7 (by rw [e7]; exact nx4_set hF (by omega)) (by rw [k 22 (by decide)]; exact e22) (by rw [k 21 (by decide)]; omega) (by rw [k 21 (by decide)]; omega) (Nat.le_refl _) ?_ ?_
    · rw [k 21 (by decide), e21]
      exact dgA_go ⟨hs.2, by rw [hc]; exact q⟩
    · rw [k 21 (by decide), k24]
      exact ⟨by omega, fun _ => rfl, fun w => by omega⟩
theorem nx_skip {m0 : Mem} (hq : nxQ m0) : ∀ (k : Nat) (u1 : Vl) (m : Mem), nx4 m0 m → m0 44 21 ≤ m 44 21 → m 44 21 ≤ m0 44 20 → (m0 44 20 - m 44 21).toNat ≤ k → spA (m0 54) (m0 44 20) (m0 44 21) = spA (m0 54) (m0 44 20) (m 44 21) → w_X10_next_0 (nxP m0) u1 m := by
  obtain ⟨ht, h21⟩ := hq
  have h200 := ht.1
  have hle : ∀ m : Mem, nx4 m0 m → ∀ a : Int, leM m a = if a < m0 44 20 then m0 54 a.toNat else -1 := by
    intro m hF a
    unfold leM
    rw [hF.1.at 54, hF.2 20 (by decide) (by decide) (by decide) (by decide)]
  have hfin : ∀ (m : Mem), nx4 m0 m → m0 44 21 ≤ m 44 21 → m 44 21 ≤ m0 44 20 → m 44 21 = spA (m0 54) (m0 44 20) (m0 44 21) → w_X10_next_0 (nxP m0) (vJ 0) m ∨ True := fun m _ _ _ _ => Or.inr trivial
  intro k
  induction k with
  | zero =>
    intro u1 m hF g0 g1 hk hs
    have e21 : m 44 21 = m0 44 20 := by omega
    have e20 : m 44 20 = m0 44 20 := hF.2 20 (by decide) (by decide) (by decide) (by decide)
    have hl : leM m (m 44 21) = -1 := by rw [hle m hF, if_neg (by omega)]
    refine v_X10_next_0 ?_
    rw [hl]
    refine ⟨by omega, by omega, fun _ m1 e1 => ?_, fun q => by omega⟩
    have hF1 : nx4 m0 m1 := by rw [e1]; exact nx4_set hF (by omega)
    have k1 : ∀ j : Nat, j ≠ 22 → m1 44 j = m 44 j := fun j hj => by rw [e1, mset_at, if_neg (by omega)]
    have k22 : m1 44 22 = m 44 21 := by rw [e1, mset_eq]
    have hl1 : leM m1 (m1 44 21) = -1 := by rw [hle m1 hF1, k1 21 (by decide), if_neg (by omega)]
    rw [hl1]
    refine ⟨by rw [k1 21 (by decide)]; omega, by rw [k1 20 (by decide)]; omega, fun q => by omega, fun _ m26 e26 => ?_⟩
    refine ⟨by rw [e26]; exact nx4_set hF1 (by omega), 0, 0, ?_, Or.inl ⟨rfl, by rw [e26, mset_eq]⟩⟩
    have k26 : ∀ j : Nat, j ≠ 23 → m26 44 j = m1 44 j := fun j hj => by rw [e26, mset_at, if_neg (by omega)]
    have e54 : m26 54 = m0 54 := by rw [e26, mset_ne 54 (by decide), hF1.1.at 54]
    rw [e54, k26 20 (by decide), k1 20 (by decide), e20, k26 22 (by decide), k22, k26 21 (by decide), k1 21 (by decide), e21]
    refine ⟨?_, Or.inl ⟨Int.le_refl _, rfl, rfl⟩⟩
    rw [hs, e21, spA_no (by omega)]
  | succ k ih =>
    intro u1 m hF g0 g1 hk hs
    have e20 : m 44 20 = m0 44 20 := hF.2 20 (by decide) (by decide) (by decide) (by decide)
    refine v_X10_next_0 ⟨by omega, by omega, fun q => ?_, fun q => ?_⟩
    · have hs' : m 44 21 = spA (m0 54) (m0 44 20) (m0 44 21) := by
        rw [hs, spA_no (fun w => q ?_)]
        rw [hle m hF, if_pos w.1]
        exact w.2
      intro m1 e1
      have hF1 : nx4 m0 m1 := by rw [e1]; exact nx4_set hF (by omega)
      have k1 : ∀ j : Nat, j ≠ 22 → m1 44 j = m 44 j := fun j hj => by rw [e1, mset_at, if_neg (by omega)]
      have k22 : m1 44 22 = m 44 21 := by rw [e1, mset_eq]
      have hl1 : leM m1 (m1 44 21) = if m 44 21 < m0 44 20 then m0 54 (m 44 21).toNat else -1 := by rw [hle m1 hF1, k1 21 (by decide)]
      refine ⟨by rw [k1 21 (by decide)]; omega, by rw [k1 20 (by decide)]; omega, fun z => ?_, fun z m26 e26 => ?_⟩
      · rw [hl1] at z
        have hlt : m 44 21 < m0 44 20 := by
          by_cases w : m 44 21 < m0 44 20
          · exact w
          · rw [if_neg w] at z
            omega
        rw [if_pos hlt] at hl1
        rw [hl1, k1 21 (by decide)]
        generalize hc : m0 54 (m 44 21).toNat = c
        refine ⟨by unfold inR; omega, fun m3 e3 m4 e4 => ?_⟩
        have hfix : ∀ (z : Int) (m5 : Mem), m5 = mset m4 44 23 z → ((isL c ∧ z = 1) ∨ (c = 59 ∧ z = 3) ∨ (¬ isL c ∧ c ≠ 59 ∧ z = 4)) → w_X10_next_117 (nxP m0) c m5 := by
          intro z m5 e5 hz
          have k5 : m5 44 21 = m 44 21 + 1 ∧ m5 44 22 = m 44 21 ∧ m5 44 23 = z ∧ m5 44 24 = c := by
            refine ⟨?_, ?_, ?_, ?_⟩
            · rw [e5, mset_at, if_neg (by omega), e4, mset_at, if_neg (by omega), e3, mset_eq]
            · rw [e5, mset_at, if_neg (by omega), e4, mset_at, if_neg (by omega), e3, mset_at, if_neg (by omega), k22]
            · rw [e5, mset_eq]
            · rw [e5, mset_at, if_neg (by omega), e4, mset_eq]
          refine nx_kind ht ⟨by omega, hlt⟩ hc hs' (by rw [e5, e4, e3]; exact nx4_set (nx4_set (nx4_set hF1 (by omega)) (by omega)) (by omega)) k5.2.1 k5.1 k5.2.2.2 ?_
          rw [k5.2.2.1]
          exact hz
        unfold isL at hfix
        refine ⟨fun y m5 e5 => hfix _ m5 e5 (by omega), fun y => ⟨fun y2 m8 e8 => hfix _ m8 e8 (by omega), fun y2 => ⟨fun y3 m11 e11 => hfix _ m11 e11 (by omega), fun y3 => ⟨fun y4 m14 e14 => hfix _ m14 e14 (by omega), fun y4 => ⟨fun y5 => ⟨fun y6 m17 e17 => hfix _ m17 e17 (by omega), fun y6 m20 e20 => hfix _ m20 e20 (by omega)⟩, fun y5 m23 e23 => hfix _ m23 e23 (by omega)⟩⟩⟩⟩⟩
      · rw [hl1] at z
        have hge : m0 44 20 ≤ m 44 21 := by
          by_cases w : m 44 21 < m0 44 20
          · rw [if_pos w] at z
            have := (ht.2 (m 44 21) (by omega) w).1
            omega
          · omega
        refine ⟨by rw [e26]; exact nx4_set hF1 (by omega), 0, 0, ?_, Or.inl ⟨rfl, by rw [e26, mset_eq]⟩⟩
        have k26 : ∀ j : Nat, j ≠ 23 → m26 44 j = m1 44 j := fun j hj => by rw [e26, mset_at, if_neg (by omega)]
        have e54 : m26 54 = m0 54 := by rw [e26, mset_ne 54 (by decide), hF1.1.at 54]
        rw [e54, k26 20 (by decide), k1 20 (by decide), e20, k26 22 (by decide), k22, k26 21 (by decide), k1 21 (by decide)]
        exact ⟨hs', Or.inl ⟨hge, rfl, rfl⟩⟩
    · rw [hle m hF] at q
      have hlt : m 44 21 < m0 44 20 := by
        by_cases w : m 44 21 < m0 44 20
        · exact w
        · rw [if_neg w] at q
          omega
      rw [if_pos hlt] at q
      refine ⟨by unfold inR; omega, fun m28 e28 => ?_⟩
      have k21 : m28 44 21 = m 44 21 + 1 := by rw [e28, mset_eq]
      refine ih _ m28 (by rw [e28]; exact nx4_set hF (by omega)) (by omega) (by omega) (by omega) ?_
      rw [hs, k21]
      exact spA_go ⟨hlt, q⟩
theorem c_X10_next {m0 : Mem} (hq : nxQ m0) : Tot mX10_next 0 0 [vR 44] SH m0 (Pn SH (nxP m0)) := v_X10_next (nx_skip hq _ _ m0 ⟨Fr.rf, fun _ _ _ _ _ => rfl⟩ (Int.le_refl _) hq.2.2 (Nat.le_refl _) rfl)
