/-! THE MODEL IS MADE -/
set_option maxHeartbeats 8000000 in
set_option maxRecDepth 20000 in
theorem in_X10 {m0 : Mem} (hz : ∀ j : Nat, m0 44 j = 0) : Tot mX10_init 22 495 [vR 44] SA93 m0 (Pn SH (in10 m0)) := by
  refine Tot.of rfl (Nat.le_of_ble_eq_true rfl) (by simp [isJ]) (ls := [vR 44]) rfl ?_
  refine q_aload_n dX10_init_0 rfl ?_
  refine q_objinit dX10_init_1 lm_RX10_1 k_oin ⟨by decide, by decide⟩ (Nat.le_of_ble_eq_true rfl) ?_
  refine q_aload_n dX10_init_4 rfl ?_
  refine q_iconst dX10_init_5 (by decide) ?_
  refine q_puti dX10_init_6 lf_RX10_7 (sh := SA93) rfl rfl (Or.inl rfl) fit_int ?_
  refine q_aload_n dX10_init_9 rfl ?_
  refine q_iconst dX10_init_10 (by decide) ?_
  refine q_puti dX10_init_11 lf_RX10_13 (sh := SA93) rfl rfl (Or.inl rfl) fit_int ?_
  refine q_aload_n dX10_init_14 rfl ?_
  refine q_iconst dX10_init_15 (by decide) ?_
  refine q_puti dX10_init_16 lf_RX10_16 (sh := SA93) rfl rfl (Or.inl rfl) fit_int ?_
  refine q_aload_n dX10_init_19 rfl ?_
  refine q_bipush dX10_init_20 rfl (by decide) ?_
  refine q_newik (k := 45) (a := 12) (sh' := SA94) (mc := 21) (ms := 483) dX10_init_22 k_ai (by decide) (by decide) (by decide) rfl rfl rfl rfl ?_
  refine q_putr (r := 45) (sh := SA94) (sh' := SA95) dX10_init_24 lf_RX10_19 rfl rfl (by decide) (by decide) (Or.inr ⟨rfl, rfl, rfl, lg_RX10_19⟩) rfl ?_
  refine q_aload_n dX10_init_27 rfl ?_
  refine q_bipush dX10_init_28 rfl (by decide) ?_
  refine q_newik (k := 46) (a := 16) (sh' := SA96) (mc := 20) (ms := 467) dX10_init_30 k_ai (by decide) (by decide) (by decide) rfl rfl rfl rfl ?_
  refine q_putr (r := 46) (sh := SA96) (sh' := SA97) dX10_init_32 lf_RX10_23 rfl rfl (by decide) (by decide) (Or.inr ⟨rfl, rfl, rfl, lg_RX10_23⟩) rfl ?_
  refine q_aload_n dX10_init_35 rfl ?_
  refine q_bipush dX10_init_36 rfl (by decide) ?_
  refine q_newik (k := 47) (a := 12) (sh' := SA98) (mc := 19) (ms := 455) dX10_init_38 k_ai (by decide) (by decide) (by decide) rfl rfl rfl rfl ?_
  refine q_putr (r := 47) (sh := SA98) (sh' := SA99) dX10_init_40 lf_RX10_26 rfl rfl (by decide) (by decide) (Or.inr ⟨rfl, rfl, rfl, lg_RX10_26⟩) rfl ?_
  refine q_aload_n dX10_init_43 rfl ?_
  refine q_bipush dX10_init_44 rfl (by decide) ?_
  refine q_newik (k := 48) (a := 10) (sh' := SA100) (mc := 18) (ms := 445) dX10_init_46 k_ai (by decide) (by decide) (by decide) rfl rfl rfl rfl ?_
  refine q_putr (r := 48) (sh := SA100) (sh' := SA101) dX10_init_48 lf_RX10_29 rfl rfl (by decide) (by decide) (Or.inr ⟨rfl, rfl, rfl, lg_RX10_29⟩) rfl ?_
  refine q_aload_n dX10_init_51 rfl ?_
  refine q_bipush dX10_init_52 rfl (by decide) ?_
  refine q_newik (k := 49) (a := 100) (sh' := SA102) (mc := 17) (ms := 345) dX10_init_54 k_ai (by decide) (by decide) (by decide) rfl rfl rfl rfl ?_
  refine q_putr (r := 49) (sh := SA102) (sh' := SA103) dX10_init_56 lf_RX10_32 rfl rfl (by decide) (by decide) (Or.inr ⟨rfl, rfl, rfl, lg_RX10_32⟩) rfl ?_
  refine q_aload_n dX10_init_59 rfl ?_
  refine q_bipush dX10_init_60 rfl (by decide) ?_
  refine q_newik (k := 50) (a := 20) (sh' := SA104) (mc := 16) (ms := 325) dX10_init_62 k_ai (by decide) (by decide) (by decide) rfl rfl rfl rfl ?_
  refine q_putr (r := 50) (sh := SA104) (sh' := SA105) dX10_init_64 lf_RX10_35 rfl rfl (by decide) (by decide) (Or.inr ⟨rfl, rfl, rfl, lg_RX10_35⟩) rfl ?_
  refine q_aload_n dX10_init_67 rfl ?_
  refine q_iconst dX10_init_68 (by decide) ?_
  refine q_newzk (k := 51) (a := 2) (sh' := SA106) (mc := 15) (ms := 323) dX10_init_69 k_az (by decide) (by decide) (by decide) rfl rfl rfl rfl ?_
  refine q_putr (r := 51) (sh := SA106) (sh' := SA107) dX10_init_71 lf_RX10_38 rfl rfl (by decide) (by decide) (Or.inr ⟨rfl, rfl, rfl, lg_RX10_38⟩) rfl ?_
  refine q_aload_n dX10_init_74 rfl ?_
  refine q_bipush dX10_init_75 rfl (by decide) ?_
  refine q_newik (k := 52) (a := 8) (sh' := SA108) (mc := 14) (ms := 315) dX10_init_77 k_ai (by decide) (by decide) (by decide) rfl rfl rfl rfl ?_
  refine q_putr (r := 52) (sh := SA108) (sh' := SA109) dX10_init_79 lf_RX10_42 rfl rfl (by decide) (by decide) (Or.inr ⟨rfl, rfl, rfl, lg_RX10_42⟩) rfl ?_
  refine q_aload_n dX10_init_82 rfl ?_
  refine q_bipush dX10_init_83 rfl (by decide) ?_
  refine q_newik (k := 53) (a := 16) (sh' := SA110) (mc := 13) (ms := 299) dX10_init_85 k_ai (by decide) (by decide) (by decide) rfl rfl rfl rfl ?_
  refine q_putr (r := 53) (sh := SA110) (sh' := SA111) dX10_init_87 lf_RX10_45 rfl rfl (by decide) (by decide) (Or.inr ⟨rfl, rfl, rfl, lg_RX10_45⟩) rfl ?_
  refine q_aload_n dX10_init_90 rfl ?_
  refine q_sipush dX10_init_91 rfl (by decide) ?_
  refine q_newik (k := 54) (a := 200) (sh' := SA112) (mc := 12) (ms := 99) dX10_init_94 k_ai (by decide) (by decide) (by decide) rfl rfl rfl rfl ?_
  refine q_putr (r := 54) (sh := SA112) (sh' := SA113) dX10_init_96 lf_RX10_48 rfl rfl (by decide) (by decide) (Or.inr ⟨rfl, rfl, rfl, lg_RX10_48⟩) rfl ?_
  refine q_aload_n dX10_init_99 rfl ?_
  refine q_iconst dX10_init_100 (by decide) ?_
  refine q_newik (k := 55) (a := 3) (sh' := SA114) (mc := 11) (ms := 96) dX10_init_101 k_ai (by decide) (by decide) (by decide) rfl rfl rfl rfl ?_
  refine q_putr (r := 55) (sh := SA114) (sh' := SA115) dX10_init_103 lf_RX10_51 rfl rfl (by decide) (by decide) (Or.inr ⟨rfl, rfl, rfl, lg_RX10_51⟩) rfl ?_
  refine q_aload_n dX10_init_106 rfl ?_
  refine q_bipush dX10_init_107 rfl (by decide) ?_
  refine q_newik (k := 56) (a := 12) (sh' := SA116) (mc := 10) (ms := 84) dX10_init_109 k_ai (by decide) (by decide) (by decide) rfl rfl rfl rfl ?_
  refine q_putr (r := 56) (sh := SA116) (sh' := SA117) dX10_init_111 lf_RX10_54 rfl rfl (by decide) (by decide) (Or.inr ⟨rfl, rfl, rfl, lg_RX10_54⟩) rfl ?_
  refine q_aload_n dX10_init_114 rfl ?_
  refine q_bipush dX10_init_115 rfl (by decide) ?_
  refine q_newik (k := 57) (a := 16) (sh' := SA118) (mc := 9) (ms := 68) dX10_init_117 k_ai (by decide) (by decide) (by decide) rfl rfl rfl rfl ?_
  refine q_putr (r := 57) (sh := SA118) (sh' := SA119) dX10_init_119 lf_RX10_57 rfl rfl (by decide) (by decide) (Or.inr ⟨rfl, rfl, rfl, lg_RX10_57⟩) rfl ?_
  refine q_aload_n dX10_init_122 rfl ?_
  refine q_bipush dX10_init_123 rfl (by decide) ?_
  refine q_newik (k := 58) (a := 12) (sh' := SA120) (mc := 8) (ms := 56) dX10_init_125 k_ai (by decide) (by decide) (by decide) rfl rfl rfl rfl ?_
  refine q_putr (r := 58) (sh := SA120) (sh' := SA121) dX10_init_127 lf_RX10_60 rfl rfl (by decide) (by decide) (Or.inr ⟨rfl, rfl, rfl, lg_RX10_60⟩) rfl ?_
  refine q_aload_n dX10_init_130 rfl ?_
  refine q_iconst dX10_init_131 (by decide) ?_
  refine q_newik (k := 59) (a := 4) (sh' := SA122) (mc := 7) (ms := 52) dX10_init_132 k_ai (by decide) (by decide) (by decide) rfl rfl rfl rfl ?_
  refine q_putr (r := 59) (sh := SA122) (sh' := SA123) dX10_init_134 lf_RX10_63 rfl rfl (by decide) (by decide) (Or.inr ⟨rfl, rfl, rfl, lg_RX10_63⟩) rfl ?_
  refine q_aload_n dX10_init_137 rfl ?_
  refine q_iconst dX10_init_138 (by decide) ?_
  refine q_newik (k := 60) (a := 4) (sh' := SA124) (mc := 6) (ms := 48) dX10_init_139 k_ai (by decide) (by decide) (by decide) rfl rfl rfl rfl ?_
  refine q_putr (r := 60) (sh := SA124) (sh' := SA125) dX10_init_141 lf_RX10_66 rfl rfl (by decide) (by decide) (Or.inr ⟨rfl, rfl, rfl, lg_RX10_66⟩) rfl ?_
  refine q_aload_n dX10_init_144 rfl ?_
  refine q_bipush dX10_init_145 rfl (by decide) ?_
  refine q_newik (k := 61) (a := 12) (sh' := SA126) (mc := 5) (ms := 36) dX10_init_147 k_ai (by decide) (by decide) (by decide) rfl rfl rfl rfl ?_
  refine q_putr (r := 61) (sh := SA126) (sh' := SA127) dX10_init_149 lf_RX10_69 rfl rfl (by decide) (by decide) (Or.inr ⟨rfl, rfl, rfl, lg_RX10_69⟩) rfl ?_
  refine q_aload_n dX10_init_152 rfl ?_
  refine q_bipush dX10_init_153 rfl (by decide) ?_
  refine q_newik (k := 62) (a := 12) (sh' := SA128) (mc := 4) (ms := 24) dX10_init_155 k_ai (by decide) (by decide) (by decide) rfl rfl rfl rfl ?_
  refine q_putr (r := 62) (sh := SA128) (sh' := SA129) dX10_init_157 lf_RX10_72 rfl rfl (by decide) (by decide) (Or.inr ⟨rfl, rfl, rfl, lg_RX10_72⟩) rfl ?_
  refine q_aload_n dX10_init_160 rfl ?_
  refine q_iconst dX10_init_161 (by decide) ?_
  refine q_newik (k := 63) (a := 4) (sh' := SA130) (mc := 3) (ms := 20) dX10_init_162 k_ai (by decide) (by decide) (by decide) rfl rfl rfl rfl ?_
  refine q_putr (r := 63) (sh := SA130) (sh' := SA131) dX10_init_164 lf_RX10_75 rfl rfl (by decide) (by decide) (Or.inr ⟨rfl, rfl, rfl, lg_RX10_75⟩) rfl ?_
  refine q_aload_n dX10_init_167 rfl ?_
  refine q_iconst dX10_init_168 (by decide) ?_
  refine q_newik (k := 64) (a := 4) (sh' := SA132) (mc := 2) (ms := 16) dX10_init_169 k_ai (by decide) (by decide) (by decide) rfl rfl rfl rfl ?_
  refine q_putr (r := 64) (sh := SA132) (sh' := SA133) dX10_init_171 lf_RX10_78 rfl rfl (by decide) (by decide) (Or.inr ⟨rfl, rfl, rfl, lg_RX10_78⟩) rfl ?_
  refine q_aload_n dX10_init_174 rfl ?_
  refine q_iconst dX10_init_175 (by decide) ?_
  refine q_newik (k := 65) (a := 4) (sh' := SA134) (mc := 1) (ms := 12) dX10_init_176 k_ai (by decide) (by decide) (by decide) rfl rfl rfl rfl ?_
  refine q_putr (r := 65) (sh := SA134) (sh' := SA135) dX10_init_178 lf_RX10_81 rfl rfl (by decide) (by decide) (Or.inr ⟨rfl, rfl, rfl, lg_RX10_81⟩) rfl ?_
  refine q_aload_n dX10_init_181 rfl ?_
  refine q_bipush dX10_init_182 rfl (by decide) ?_
  refine q_newik (k := 66) (a := 12) (sh' := SA136) (mc := 0) (ms := 0) dX10_init_184 k_ai (by decide) (by decide) (by decide) rfl rfl rfl rfl ?_
  refine q_putr (r := 66) (sh := SA136) (sh' := SH) dX10_init_186 lf_RX10_84 rfl rfl (by decide) (by decide) (Or.inr ⟨rfl, rfl, rfl, lg_RX10_84⟩) rfl ?_
  refine q_aload_n dX10_init_189 rfl ?_
  refine q_cVn (as := []) dX10_init_190 kmX10_bare kvX10_bare lm_RX10_87 ⟨by decide, by decide⟩ (sh := SH) rfl ⟨by decide, rfl⟩ rfl rfl (Nat.le_of_ble_eq_true rfl) (c_X10_bare) (fun m1 h1 => ?_)
  have F1 : Fr [44, 45, 46, 47, 48, 49, 50, 51, 52, 53, 54, 55, 56, 57, 58, 59, 60, 61, 62, 63, 64, 65, 66] m0 m1 := ((((((((((((((((((((((((((Fr.rf.set (by decide)).set (by decide)).set (by decide)).new (by decide)).new (by decide)).new (by decide)).new (by decide)).new (by decide)).new (by decide)).new (by decide)).new (by decide)).new (by decide)).new (by decide)).new (by decide)).new (by decide)).new (by decide)).new (by decide)).new (by decide)).new (by decide)).new (by decide)).new (by decide)).new (by decide)).new (by decide)).new (by decide)).new (by decide)).tr (h1.1.mono (by decide)))
  refine q_vret dX10_init_193 rfl ⟨rfl, rfl, ?_⟩
  refine ⟨F1.mono (by decide), ?_, ?_, ?_, ?_⟩
  · rw [h1.1.at 44]; refine ⟨?_, ?_, ?_, ?_, ?_, ?_, ?_, ?_, ?_, ?_, ?_⟩ <;> simp [mnew, mset, hz]
  · exact h1.2
  · intro j; rw [h1.1.at 51]; simp [mnew, mset]
  · intro j; rw [h1.1.at 54]; simp [mnew, mset]

