/-! THE CLASS: tellItem, tell, house -/
theorem ls_out {l : List (Int × Int)} {ks : List (Int × Nat)} {d x : Int} (hk : l.map (fun q => q.1) = ks.map (fun q => q.1)) (hx : ∀ q ∈ ks, x ≠ q.1) : Op.lookupswitch.offset l d x = d := by
  have hy : ∀ p ∈ l, p.1 ≠ x := fun p hp he => by
    have h : p.1 ∈ ks.map (fun q => q.1) := by rw [← hk]; exact List.mem_map_of_mem hp
    obtain ⟨q, hq, e⟩ := List.mem_map.mp h
    exact hx q hq (by rw [e, he])
  clear hk
  induction l with
  | nil => rfl
  | cons p r ih =>
    obtain ⟨a, o⟩ := p
    rw [Op.lookupswitch.offset_cons, if_neg (hy (a, o) List.mem_cons_self)]
    exact ih (fun p hp => hy p (List.mem_cons_of_mem _ hp))
set_option maxRecDepth 20000 in
theorem v_X8_fieldsOf {c : Int} {P : Int → Mem → Prop} {mem : Mem}  (H : (¬ c = 102 → (¬ c = 103 → P 4 mem) ∧ (c = 103 → P 2 mem)) ∧ (c = 102 → P 1 mem)) : Tot mX8_fieldsOf 0 0 [vI c] SH mem (Pr SH P) := by
  refine Tot.of rfl (Nat.le_of_ble_eq_true rfl) (by simp [isJ]) (ls := [vI c]) rfl ?_
  refine q_iload_n dX8_fieldsOf_0 rfl ?_
  refine q_bipush dX8_fieldsOf_1 rfl (by decide) ?_
  refine q_icmp_ne (tgt := 8) dX8_fieldsOf_3 (by decide) (fun c3 => ?_) (fun c3 => ?_)
  · have H := H.1 c3
    refine q_iload_n dX8_fieldsOf_8 rfl ?_
    refine q_bipush dX8_fieldsOf_9 rfl (by decide) ?_
    refine q_icmp_ne (tgt := 18) dX8_fieldsOf_11 (by decide) (fun c11 => ?_) (fun c11 => ?_)
    · have H := H.1 c11
      refine q_iconst dX8_fieldsOf_18 (by decide) ?_
      exact q_iret dX8_fieldsOf_19 rfl ⟨_, rfl, rfl, H⟩
    · have H := H.2 c11
      refine q_iconst dX8_fieldsOf_14 (by decide) ?_
      refine q_goto (tgt := 19) dX8_fieldsOf_15 (by decide) ?_
      exact q_iret dX8_fieldsOf_19 rfl ⟨_, rfl, rfl, H⟩
  · have H := H.2 c3
    refine q_iconst dX8_fieldsOf_6 (by decide) ?_
    exact q_iret dX8_fieldsOf_7 rfl ⟨_, rfl, rfl, H⟩

set_option maxRecDepth 20000 in
theorem v_X8_least {c k : Int} {P : Int → Mem → Prop} {mem : Mem}  (H : (c = 110 → (¬ k = 3 → (¬ k = 1 → P 0 mem) ∧ (k = 1 → P 1 mem)) ∧ (k = 3 → P (mem 3 2) mem)) ∧ (c = 114 → (¬ k = 2 → P 0 mem) ∧ (k = 2 → P (mem 3 1) mem)) ∧ (c = 115 → (¬ k = 0 → P 1 mem) ∧ (k = 0 → P 0 mem)) ∧ (¬ c = 110 ∧ ¬ c = 114 ∧ ¬ c = 115 → P 1 mem)) : Tot mX8_least 0 0 [vR 1, vI c, vI k] SH mem (Pr SH P) := by
  refine Tot.of rfl (Nat.le_of_ble_eq_true rfl) (by simp [isJ]) (ls := [vR 1, vI c, vI k]) rfl ?_
  refine q_iload_n dX8_least_0 rfl ?_
  refine q_lsw (dt := 87) [(110, 36), (114, 71), (115, 61)] dX8_least_1 rfl rfl (by decide) (by decide) (fun x hx => ls_out (by decide) hx) ?_ ?_
  · refine List.forall_mem_cons.mpr ⟨fun ha => ?_, List.forall_mem_cons.mpr ⟨fun ha => ?_, List.forall_mem_cons.mpr ⟨fun ha => ?_, fun _ h => nomatch h⟩⟩⟩
    · have H := H.1 (by simp only at ha; omega)
      refine q_iload_n dX8_least_36 rfl ?_
      refine q_iconst dX8_least_37 (by decide) ?_
      refine q_icmp_ne (tgt := 50) dX8_least_38 (by decide) (fun c38 => ?_) (fun c38 => ?_)
      · have H := H.1 c38
        refine q_iload_n dX8_least_50 rfl ?_
        refine q_iconst dX8_least_51 (by decide) ?_
        refine q_icmp_ne (tgt := 59) dX8_least_52 (by decide) (fun c52 => ?_) (fun c52 => ?_)
        · have H := H.1 c52
          refine q_iconst dX8_least_59 (by decide) ?_
          exact q_iret dX8_least_60 rfl ⟨_, rfl, rfl, H⟩
        · have H := H.2 c52
          refine q_iconst dX8_least_55 (by decide) ?_
          refine q_goto (tgt := 60) dX8_least_56 (by decide) ?_
          exact q_iret dX8_least_60 rfl ⟨_, rfl, rfl, H⟩
      · have H := H.2 c38
        refine q_aload_n dX8_least_41 rfl ?_
        refine q_getr (r := 3) dX8_least_42 lf_RX8_15 s1 rfl rfl ?_
        refine q_iconst dX8_least_45 (by decide) ?_
        refine q_iald dX8_least_46 s3 (by decide) (by decide) ?_
        refine q_goto (tgt := 60) dX8_least_47 (by decide) ?_
        exact q_iret dX8_least_60 rfl ⟨_, rfl, rfl, H⟩
    · have H := H.2.1 (by simp only at ha; omega)
      refine q_iload_n dX8_least_71 rfl ?_
      refine q_iconst dX8_least_72 (by decide) ?_
      refine q_icmp_ne (tgt := 85) dX8_least_73 (by decide) (fun c73 => ?_) (fun c73 => ?_)
      · have H := H.1 c73
        refine q_iconst dX8_least_85 (by decide) ?_
        exact q_iret dX8_least_86 rfl ⟨_, rfl, rfl, H⟩
      · have H := H.2 c73
        refine q_aload_n dX8_least_76 rfl ?_
        refine q_getr (r := 3) dX8_least_77 lf_RX8_15 s1 rfl rfl ?_
        refine q_iconst dX8_least_80 (by decide) ?_
        refine q_iald dX8_least_81 s3 (by decide) (by decide) ?_
        refine q_goto (tgt := 86) dX8_least_82 (by decide) ?_
        exact q_iret dX8_least_86 rfl ⟨_, rfl, rfl, H⟩
    · have H := H.2.2.1 (by simp only at ha; omega)
      refine q_iload_n dX8_least_61 rfl ?_
      refine q_if_ne (tgt := 69) dX8_least_62 (by decide) (fun c62 => ?_) (fun c62 => ?_)
      · have H := H.1 c62
        refine q_iconst dX8_least_69 (by decide) ?_
        exact q_iret dX8_least_70 rfl ⟨_, rfl, rfl, H⟩
      · have H := H.2 c62
        refine q_iconst dX8_least_65 (by decide) ?_
        refine q_goto (tgt := 70) dX8_least_66 (by decide) ?_
        exact q_iret dX8_least_70 rfl ⟨_, rfl, rfl, H⟩
  · intro ho
    have H := H.2.2.2 (by simp at ho; omega)
    refine q_iconst dX8_least_87 (by decide) ?_
    exact q_iret dX8_least_88 rfl ⟨_, rfl, rfl, H⟩

set_option maxRecDepth 20000 in
theorem v_X8_greatest {c k n : Int} {P : Int → Mem → Prop} {mem : Mem}  (H : (c = 102 → P 20 mem) ∧ (c = 103 → (¬ k = 0 → P 3 mem) ∧ (k = 0 → P 4 mem)) ∧ (c = 110 → (¬ k = 0 → (¬ k = 1 → P 23 mem) ∧ (k = 1 → P 99 mem)) ∧ (k = 0 → (inR (n - 1)) ∧ (P (n - 1) mem))) ∧ (c = 115 → (¬ k = 0 → (¬ k = 3 → P 3 mem) ∧ (k = 3 → P 9 mem)) ∧ (k = 0 → P 30 mem)) ∧ (¬ c = 102 ∧ ¬ c = 103 ∧ ¬ c = 110 ∧ ¬ c = 115 → (¬ k = 0 → (¬ k = 3 → P 23 mem) ∧ (k = 3 → P 99 mem)) ∧ (k = 0 → (inR (n - 1)) ∧ (P (n - 1) mem)))) : Tot mX8_greatest 0 0 [vI c, vI k, vI n] SH mem (Pr SH P) := by
  refine Tot.of rfl (Nat.le_of_ble_eq_true rfl) (by simp [isJ]) (ls := [vI c, vI k, vI n]) rfl ?_
  refine q_iload_n dX8_greatest_0 rfl ?_
  refine q_lsw (dt := 101) [(102, 54), (103, 44), (110, 78), (115, 57)] dX8_greatest_1 rfl rfl (by decide) (by decide) (fun x hx => ls_out (by decide) hx) ?_ ?_
  · refine List.forall_mem_cons.mpr ⟨fun ha => ?_, List.forall_mem_cons.mpr ⟨fun ha => ?_, List.forall_mem_cons.mpr ⟨fun ha => ?_, List.forall_mem_cons.mpr ⟨fun ha => ?_, fun _ h => nomatch h⟩⟩⟩⟩
    · have H := H.1 (by simp only at ha; omega)
      refine q_bipush dX8_greatest_54 rfl (by decide) ?_
      exact q_iret dX8_greatest_56 rfl ⟨_, rfl, rfl, H⟩
    · have H := H.2.1 (by simp only at ha; omega)
      refine q_iload_n dX8_greatest_44 rfl ?_
      refine q_if_ne (tgt := 52) dX8_greatest_45 (by decide) (fun c45 => ?_) (fun c45 => ?_)
      · have H := H.1 c45
        refine q_iconst dX8_greatest_52 (by decide) ?_
        exact q_iret dX8_greatest_53 rfl ⟨_, rfl, rfl, H⟩
      · have H := H.2 c45
        refine q_iconst dX8_greatest_48 (by decide) ?_
        refine q_goto (tgt := 53) dX8_greatest_49 (by decide) ?_
        exact q_iret dX8_greatest_53 rfl ⟨_, rfl, rfl, H⟩
    · have H := H.2.2.1 (by simp only at ha; omega)
      refine q_iload_n dX8_greatest_78 rfl ?_
      refine q_if_ne (tgt := 88) dX8_greatest_79 (by decide) (fun c79 => ?_) (fun c79 => ?_)
      · have H := H.1 c79
        refine q_iload_n dX8_greatest_88 rfl ?_
        refine q_iconst dX8_greatest_89 (by decide) ?_
        refine q_icmp_ne (tgt := 98) dX8_greatest_90 (by decide) (fun c90 => ?_) (fun c90 => ?_)
        · have H := H.1 c90
          refine q_bipush dX8_greatest_98 rfl (by decide) ?_
          exact q_iret dX8_greatest_100 rfl ⟨_, rfl, rfl, H⟩
        · have H := H.2 c90
          refine q_bipush dX8_greatest_93 rfl (by decide) ?_
          refine q_goto (tgt := 100) dX8_greatest_95 (by decide) ?_
          exact q_iret dX8_greatest_100 rfl ⟨_, rfl, rfl, H⟩
      · have H := H.2 c79
        refine q_iload_n dX8_greatest_82 rfl ?_
        refine q_iconst dX8_greatest_83 (by decide) ?_
        obtain ⟨h1, H⟩ := H
        refine q_isub dX8_greatest_84 h1 ?_
        refine q_goto (tgt := 100) dX8_greatest_85 (by decide) ?_
        exact q_iret dX8_greatest_100 rfl ⟨_, rfl, rfl, H⟩
    · have H := H.2.2.2.1 (by simp only at ha; omega)
      refine q_iload_n dX8_greatest_57 rfl ?_
      refine q_if_ne (tgt := 66) dX8_greatest_58 (by decide) (fun c58 => ?_) (fun c58 => ?_)
      · have H := H.1 c58
        refine q_iload_n dX8_greatest_66 rfl ?_
        refine q_iconst dX8_greatest_67 (by decide) ?_
        refine q_icmp_ne (tgt := 76) dX8_greatest_68 (by decide) (fun c68 => ?_) (fun c68 => ?_)
        · have H := H.1 c68
          refine q_iconst dX8_greatest_76 (by decide) ?_
          exact q_iret dX8_greatest_77 rfl ⟨_, rfl, rfl, H⟩
        · have H := H.2 c68
          refine q_bipush dX8_greatest_71 rfl (by decide) ?_
          refine q_goto (tgt := 77) dX8_greatest_73 (by decide) ?_
          exact q_iret dX8_greatest_77 rfl ⟨_, rfl, rfl, H⟩
      · have H := H.2 c58
        refine q_bipush dX8_greatest_61 rfl (by decide) ?_
        refine q_goto (tgt := 77) dX8_greatest_63 (by decide) ?_
        exact q_iret dX8_greatest_77 rfl ⟨_, rfl, rfl, H⟩
  · intro ho
    have H := H.2.2.2.2 (by simp at ho; omega)
    refine q_iload_n dX8_greatest_101 rfl ?_
    refine q_if_ne (tgt := 111) dX8_greatest_102 (by decide) (fun c102 => ?_) (fun c102 => ?_)
    · have H := H.1 c102
      refine q_iload_n dX8_greatest_111 rfl ?_
      refine q_iconst dX8_greatest_112 (by decide) ?_
      refine q_icmp_ne (tgt := 121) dX8_greatest_113 (by decide) (fun c113 => ?_) (fun c113 => ?_)
      · have H := H.1 c113
        refine q_bipush dX8_greatest_121 rfl (by decide) ?_
        exact q_iret dX8_greatest_123 rfl ⟨_, rfl, rfl, H⟩
      · have H := H.2 c113
        refine q_bipush dX8_greatest_116 rfl (by decide) ?_
        refine q_goto (tgt := 123) dX8_greatest_118 (by decide) ?_
        exact q_iret dX8_greatest_123 rfl ⟨_, rfl, rfl, H⟩
    · have H := H.2 c102
      refine q_iload_n dX8_greatest_105 rfl ?_
      refine q_iconst dX8_greatest_106 (by decide) ?_
      obtain ⟨h2, H⟩ := H
      refine q_isub dX8_greatest_107 h2 ?_
      refine q_goto (tgt := 123) dX8_greatest_108 (by decide) ?_
      exact q_iret dX8_greatest_123 rfl ⟨_, rfl, rfl, H⟩

set_option maxRecDepth 20000 in
theorem v_X8_enter {c : Int} {P : Mem → Prop} {mem : Mem}  (H : (c = 102 → ∀ m1 : Mem, m1 = (mset mem 11 6 (mem 3 0)) → (∀ m2 : Mem, m2 = (mset m1 11 7 1) → (P m2))) ∧ (c = 103 → (inR ((mem 3 0) * (mem 3 1))) ∧ (∀ m4 : Mem, m4 = mset (mset (mset mem 11 3 (mem 3 0)) 11 4 (mem 3 1)) 11 5 (min 12 ((mem 3 0) * (mem 3 1))) → (P m4))) ∧ (c = 110 → (0 ≤ mem 12 2) ∧ ((mem 12 0 * 4 ≤ 12) ∧ (∀ m7 : Mem, m7 = appF mem 12 13 (mem 3 0) (mem 3 1) (mem 3 2) (mem 3 3) → (P m7)))) ∧ (c = 115 → (0 ≤ mem 14 2) ∧ ((mem 14 0 * 4 ≤ 16) ∧ (∀ m10 : Mem, m10 = appF mem 14 15 (mem 3 0) (mem 3 1) (mem 3 2) (mem 3 3) → (P m10)))) ∧ (¬ c = 102 ∧ ¬ c = 103 ∧ ¬ c = 110 ∧ ¬ c = 115 → (0 ≤ mem 16 2) ∧ ((mem 16 0 * 4 ≤ 12) ∧ (∀ m13 : Mem, m13 = appF mem 16 17 (mem 3 0) (mem 3 1) (mem 3 2) (mem 3 3) → (P m13))))) : Tot mX8_enter 0 0 [vR 1, vR 11, vI c] SH mem (Pn SH P) := by
  refine Tot.of rfl (Nat.le_of_ble_eq_true rfl) (by simp [isJ]) (ls := [vR 1, vR 11, vI c]) rfl ?_
  refine q_iload_n dX8_enter_0 rfl ?_
  refine q_lsw (dt := 149) [(102, 63), (103, 44), (110, 81), (115, 115)] dX8_enter_1 rfl rfl (by decide) (by decide) (fun x hx => ls_out (by decide) hx) ?_ ?_
  · refine List.forall_mem_cons.mpr ⟨fun ha => ?_, List.forall_mem_cons.mpr ⟨fun ha => ?_, List.forall_mem_cons.mpr ⟨fun ha => ?_, List.forall_mem_cons.mpr ⟨fun ha => ?_, fun _ h => nomatch h⟩⟩⟩⟩
    · have H := H.1 (by simp only at ha; omega)
      refine q_aload_n dX8_enter_63 rfl ?_
      refine q_aload_n dX8_enter_64 rfl ?_
      refine q_getr (r := 3) dX8_enter_65 lf_RX8_15 s1 rfl rfl ?_
      refine q_iconst dX8_enter_68 (by decide) ?_
      refine q_iald dX8_enter_69 s3 (by decide) (by decide) ?_
      refine q_puti dX8_enter_70 lf_RX8_94 s11 rfl (Or.inl rfl) fit_int ?_
      have H := H _ rfl
      refine q_aload_n dX8_enter_73 rfl ?_
      refine q_iconst dX8_enter_74 (by decide) ?_
      refine q_puti dX8_enter_75 lf_RX8_51 s11 rfl (Or.inl rfl) (fun _ => by decide) ?_
      have H := H _ rfl
      refine q_goto (tgt := 180) dX8_enter_78 (by decide) ?_
      exact q_vret dX8_enter_180 rfl ⟨rfl, rfl, H⟩
    · have H := H.2.1 (by simp only at ha; omega)
      refine q_aload_n dX8_enter_44 rfl ?_
      refine q_aload_n dX8_enter_45 rfl ?_
      refine q_getr (r := 3) dX8_enter_46 lf_RX8_15 s1 rfl rfl ?_
      refine q_iconst dX8_enter_49 (by decide) ?_
      refine q_iald dX8_enter_50 s3 (by decide) (by decide) ?_
      refine q_aload_n dX8_enter_51 rfl ?_
      refine q_getr (r := 3) dX8_enter_52 lf_RX8_15 s1 rfl rfl ?_
      refine q_iconst dX8_enter_55 (by decide) ?_
      refine q_iald dX8_enter_56 s3 (by decide) (by decide) ?_
      obtain ⟨h3, H⟩ := H
      refine q_cVn (as := [vI _, vI _]) dX8_enter_57 kmX3_form kvX3_form lm_RX8_90 ⟨by decide, by decide⟩ s11 ⟨by decide, rfl⟩ rfl rfl (Nat.le_of_ble_eq_true rfl) (c_X3_form s11 h3) (fun m1 hq => ?_)
      have H := H m1 hq
      refine q_goto (tgt := 180) dX8_enter_60 (by decide) ?_
      exact q_vret dX8_enter_180 rfl ⟨rfl, rfl, H⟩
    · have H := H.2.2.1 (by simp only at ha; omega)
      refine q_aload_n dX8_enter_81 rfl ?_
      refine q_getr (r := 12) dX8_enter_82 lf_RX8_55 s11 rfl rfl ?_
      refine q_aload_n dX8_enter_85 rfl ?_
      refine q_getr (r := 3) dX8_enter_86 lf_RX8_15 s1 rfl rfl ?_
      refine q_iconst dX8_enter_89 (by decide) ?_
      refine q_iald dX8_enter_90 s3 (by decide) (by decide) ?_
      refine q_aload_n dX8_enter_91 rfl ?_
      refine q_getr (r := 3) dX8_enter_92 lf_RX8_15 s1 rfl rfl ?_
      refine q_iconst dX8_enter_95 (by decide) ?_
      refine q_iald dX8_enter_96 s3 (by decide) (by decide) ?_
      refine q_aload_n dX8_enter_97 rfl ?_
      refine q_getr (r := 3) dX8_enter_98 lf_RX8_15 s1 rfl rfl ?_
      refine q_iconst dX8_enter_101 (by decide) ?_
      refine q_iald dX8_enter_102 s3 (by decide) (by decide) ?_
      refine q_aload_n dX8_enter_103 rfl ?_
      refine q_getr (r := 3) dX8_enter_104 lf_RX8_15 s1 rfl rfl ?_
      refine q_iconst dX8_enter_107 (by decide) ?_
      refine q_iald dX8_enter_108 s3 (by decide) (by decide) ?_
      obtain ⟨h5, H⟩ := H
      obtain ⟨h6, H⟩ := H
      refine q_cVn (as := [vI _, vI _, vI _, vI _]) dX8_enter_109 kmX6_append kvX6_append lm_RX8_97 ⟨by decide, by decide⟩ s12 ⟨by decide, rfl⟩ rfl rfl (Nat.le_of_ble_eq_true rfl) (c_app_12 h5 h6) (fun m1 hq => ?_)
      have H := H m1 hq
      refine q_goto (tgt := 180) dX8_enter_112 (by decide) ?_
      exact q_vret dX8_enter_180 rfl ⟨rfl, rfl, H⟩
    · have H := H.2.2.2.1 (by simp only at ha; omega)
      refine q_aload_n dX8_enter_115 rfl ?_
      refine q_getr (r := 14) dX8_enter_116 lf_RX8_62 s11 rfl rfl ?_
      refine q_aload_n dX8_enter_119 rfl ?_
      refine q_getr (r := 3) dX8_enter_120 lf_RX8_15 s1 rfl rfl ?_
      refine q_iconst dX8_enter_123 (by decide) ?_
      refine q_iald dX8_enter_124 s3 (by decide) (by decide) ?_
      refine q_aload_n dX8_enter_125 rfl ?_
      refine q_getr (r := 3) dX8_enter_126 lf_RX8_15 s1 rfl rfl ?_
      refine q_iconst dX8_enter_129 (by decide) ?_
      refine q_iald dX8_enter_130 s3 (by decide) (by decide) ?_
      refine q_aload_n dX8_enter_131 rfl ?_
      refine q_getr (r := 3) dX8_enter_132 lf_RX8_15 s1 rfl rfl ?_
      refine q_iconst dX8_enter_135 (by decide) ?_
      refine q_iald dX8_enter_136 s3 (by decide) (by decide) ?_
      refine q_aload_n dX8_enter_137 rfl ?_
      refine q_getr (r := 3) dX8_enter_138 lf_RX8_15 s1 rfl rfl ?_
      refine q_iconst dX8_enter_141 (by decide) ?_
      refine q_iald dX8_enter_142 s3 (by decide) (by decide) ?_
      obtain ⟨h8, H⟩ := H
      obtain ⟨h9, H⟩ := H
      refine q_cVn (as := [vI _, vI _, vI _, vI _]) dX8_enter_143 kmX6_append kvX6_append lm_RX8_97 ⟨by decide, by decide⟩ s14 ⟨by decide, rfl⟩ rfl rfl (Nat.le_of_ble_eq_true rfl) (c_app_14 h8 h9) (fun m1 hq => ?_)
      have H := H m1 hq
      refine q_goto (tgt := 180) dX8_enter_146 (by decide) ?_
      exact q_vret dX8_enter_180 rfl ⟨rfl, rfl, H⟩
  · intro ho
    have H := H.2.2.2.2 (by simp at ho; omega)
    refine q_aload_n dX8_enter_149 rfl ?_
    refine q_getr (r := 16) dX8_enter_150 lf_RX8_65 s11 rfl rfl ?_
    refine q_aload_n dX8_enter_153 rfl ?_
    refine q_getr (r := 3) dX8_enter_154 lf_RX8_15 s1 rfl rfl ?_
    refine q_iconst dX8_enter_157 (by decide) ?_
    refine q_iald dX8_enter_158 s3 (by decide) (by decide) ?_
    refine q_aload_n dX8_enter_159 rfl ?_
    refine q_getr (r := 3) dX8_enter_160 lf_RX8_15 s1 rfl rfl ?_
    refine q_iconst dX8_enter_163 (by decide) ?_
    refine q_iald dX8_enter_164 s3 (by decide) (by decide) ?_
    refine q_aload_n dX8_enter_165 rfl ?_
    refine q_getr (r := 3) dX8_enter_166 lf_RX8_15 s1 rfl rfl ?_
    refine q_iconst dX8_enter_169 (by decide) ?_
    refine q_iald dX8_enter_170 s3 (by decide) (by decide) ?_
    refine q_aload_n dX8_enter_171 rfl ?_
    refine q_getr (r := 3) dX8_enter_172 lf_RX8_15 s1 rfl rfl ?_
    refine q_iconst dX8_enter_175 (by decide) ?_
    refine q_iald dX8_enter_176 s3 (by decide) (by decide) ?_
    obtain ⟨h11, H⟩ := H
    obtain ⟨h12, H⟩ := H
    refine q_cVn (as := [vI _, vI _, vI _, vI _]) dX8_enter_177 kmX6_append kvX6_append lm_RX8_97 ⟨by decide, by decide⟩ s16 ⟨by decide, rfl⟩ rfl rfl (Nat.le_of_ble_eq_true rfl) (c_app_16 h11 h12) (fun m1 hq => ?_)
    have H := H m1 hq
    exact q_vret dX8_enter_180 rfl ⟨rfl, rfl, H⟩

set_option maxRecDepth 20000 in
theorem v_X8_mayBegin {i : Int} {P : Int → Mem → Prop} {mem : Mem}  (H : ((mem 1 5) = 102 → (¬ (mem 11 7) = 0 → P 0 mem) ∧ ((mem 11 7) = 0 → P 1 mem)) ∧ ((mem 1 5) = 103 → (¬ i = 0 → P 0 mem) ∧ (i = 0 → P 1 mem)) ∧ ((mem 1 5) = 110 → ((mem 12 0 ≤ mem 12 2) → P 0 mem) ∧ (¬ (mem 12 0 ≤ mem 12 2) → P 1 mem)) ∧ ((mem 1 5) = 114 → ((mem 16 0 ≤ mem 16 2) → P 0 mem) ∧ (¬ (mem 16 0 ≤ mem 16 2) → P 1 mem)) ∧ ((mem 1 5) = 115 → ((mem 14 0 ≤ mem 14 2) → P 0 mem) ∧ (¬ (mem 14 0 ≤ mem 14 2) → P 1 mem)) ∧ (¬ (mem 1 5) = 102 ∧ ¬ (mem 1 5) = 103 ∧ ¬ (mem 1 5) = 110 ∧ ¬ (mem 1 5) = 114 ∧ ¬ (mem 1 5) = 115 → P 0 mem)) : Tot mX8_mayBegin 0 0 [vR 1, vR 11, vI i] SH mem (Pr SH P) := by
  refine Tot.of rfl (Nat.le_of_ble_eq_true rfl) (by simp [isJ]) (ls := [vR 1, vR 11, vI i]) rfl ?_
  refine q_aload_n dX8_mayBegin_0 rfl ?_
  refine q_geti dX8_mayBegin_1 lf_RX8_37 s1 rfl ?_
  refine q_tsk (dt := 147) [(102, 86), (103, 76), (104, 147), (105, 147), (106, 147), (107, 147), (108, 147), (109, 147), (110, 99), (111, 147), (112, 147), (113, 147), (114, 131), (115, 115)] dX8_mayBegin_4 rfl rfl (by decide) (by decide) ?_ ?_
  · refine List.forall_mem_cons.mpr ⟨fun ha => ?_, List.forall_mem_cons.mpr ⟨fun ha => ?_, List.forall_mem_cons.mpr ⟨fun ha => ?_, List.forall_mem_cons.mpr ⟨fun ha => ?_, List.forall_mem_cons.mpr ⟨fun ha => ?_, List.forall_mem_cons.mpr ⟨fun ha => ?_, List.forall_mem_cons.mpr ⟨fun ha => ?_, List.forall_mem_cons.mpr ⟨fun ha => ?_, List.forall_mem_cons.mpr ⟨fun ha => ?_, List.forall_mem_cons.mpr ⟨fun ha => ?_, List.forall_mem_cons.mpr ⟨fun ha => ?_, List.forall_mem_cons.mpr ⟨fun ha => ?_, List.forall_mem_cons.mpr ⟨fun ha => ?_, List.forall_mem_cons.mpr ⟨fun ha => ?_, fun _ h => nomatch h⟩⟩⟩⟩⟩⟩⟩⟩⟩⟩⟩⟩⟩⟩
    · have H := H.1 (by simp only at ha; omega)
      refine q_aload_n dX8_mayBegin_86 rfl ?_
      refine q_geti dX8_mayBegin_87 lf_RX8_51 s11 rfl ?_
      refine q_if_ne (tgt := 97) dX8_mayBegin_90 (by decide) (fun c90 => ?_) (fun c90 => ?_)
      · have H := H.1 c90
        refine q_iconst dX8_mayBegin_97 (by decide) ?_
        exact q_zret dX8_mayBegin_98 rfl (by decide) ⟨_, rfl, rfl, H⟩
      · have H := H.2 c90
        refine q_iconst dX8_mayBegin_93 (by decide) ?_
        refine q_goto (tgt := 98) dX8_mayBegin_94 (by decide) ?_
        exact q_zret dX8_mayBegin_98 rfl (by decide) ⟨_, rfl, rfl, H⟩
    · have H := H.2.1 (by simp only at ha; omega)
      refine q_iload_n dX8_mayBegin_76 rfl ?_
      refine q_if_ne (tgt := 84) dX8_mayBegin_77 (by decide) (fun c77 => ?_) (fun c77 => ?_)
      · have H := H.1 c77
        refine q_iconst dX8_mayBegin_84 (by decide) ?_
        exact q_zret dX8_mayBegin_85 rfl (by decide) ⟨_, rfl, rfl, H⟩
      · have H := H.2 c77
        refine q_iconst dX8_mayBegin_80 (by decide) ?_
        refine q_goto (tgt := 85) dX8_mayBegin_81 (by decide) ?_
        exact q_zret dX8_mayBegin_85 rfl (by decide) ⟨_, rfl, rfl, H⟩
    · have H := H.2.2.2.2.2 (by simp only at ha; omega)
      refine q_iconst dX8_mayBegin_147 (by decide) ?_
      exact q_zret dX8_mayBegin_148 rfl (by decide) ⟨_, rfl, rfl, H⟩
    · have H := H.2.2.2.2.2 (by simp only at ha; omega)
      refine q_iconst dX8_mayBegin_147 (by decide) ?_
      exact q_zret dX8_mayBegin_148 rfl (by decide) ⟨_, rfl, rfl, H⟩
    · have H := H.2.2.2.2.2 (by simp only at ha; omega)
      refine q_iconst dX8_mayBegin_147 (by decide) ?_
      exact q_zret dX8_mayBegin_148 rfl (by decide) ⟨_, rfl, rfl, H⟩
    · have H := H.2.2.2.2.2 (by simp only at ha; omega)
      refine q_iconst dX8_mayBegin_147 (by decide) ?_
      exact q_zret dX8_mayBegin_148 rfl (by decide) ⟨_, rfl, rfl, H⟩
    · have H := H.2.2.2.2.2 (by simp only at ha; omega)
      refine q_iconst dX8_mayBegin_147 (by decide) ?_
      exact q_zret dX8_mayBegin_148 rfl (by decide) ⟨_, rfl, rfl, H⟩
    · have H := H.2.2.2.2.2 (by simp only at ha; omega)
      refine q_iconst dX8_mayBegin_147 (by decide) ?_
      exact q_zret dX8_mayBegin_148 rfl (by decide) ⟨_, rfl, rfl, H⟩
    · have H := H.2.2.1 (by simp only at ha; omega)
      refine q_aload_n dX8_mayBegin_99 rfl ?_
      refine q_getr (r := 12) dX8_mayBegin_100 lf_RX8_55 s11 rfl rfl ?_
      refine q_cVi (as := []) dX8_mayBegin_103 kmX6_isFull kvX6_isFull lm_RX8_59 ⟨by decide, by decide⟩ s12 ⟨by decide, rfl⟩ rfl rfl (Nat.le_of_ble_eq_true rfl) (c_X6_isFull s12) (fun v m1 hq => ?_)
      obtain ⟨rfl, rfl⟩ := hq
      refine q_if_ne (tgt := 113) dX8_mayBegin_106 (by decide) (fun c106 => ?_) (fun c106 => ?_)
      · have H := H.1 (b_yes c106)
        refine q_iconst dX8_mayBegin_113 (by decide) ?_
        exact q_zret dX8_mayBegin_114 rfl (by decide) ⟨_, rfl, rfl, H⟩
      · have H := H.2 (b_no c106)
        refine q_iconst dX8_mayBegin_109 (by decide) ?_
        refine q_goto (tgt := 114) dX8_mayBegin_110 (by decide) ?_
        exact q_zret dX8_mayBegin_114 rfl (by decide) ⟨_, rfl, rfl, H⟩
    · have H := H.2.2.2.2.2 (by simp only at ha; omega)
      refine q_iconst dX8_mayBegin_147 (by decide) ?_
      exact q_zret dX8_mayBegin_148 rfl (by decide) ⟨_, rfl, rfl, H⟩
    · have H := H.2.2.2.2.2 (by simp only at ha; omega)
      refine q_iconst dX8_mayBegin_147 (by decide) ?_
      exact q_zret dX8_mayBegin_148 rfl (by decide) ⟨_, rfl, rfl, H⟩
    · have H := H.2.2.2.2.2 (by simp only at ha; omega)
      refine q_iconst dX8_mayBegin_147 (by decide) ?_
      exact q_zret dX8_mayBegin_148 rfl (by decide) ⟨_, rfl, rfl, H⟩
    · have H := H.2.2.2.1 (by simp only at ha; omega)
      refine q_aload_n dX8_mayBegin_131 rfl ?_
      refine q_getr (r := 16) dX8_mayBegin_132 lf_RX8_65 s11 rfl rfl ?_
      refine q_cVi (as := []) dX8_mayBegin_135 kmX6_isFull kvX6_isFull lm_RX8_59 ⟨by decide, by decide⟩ s16 ⟨by decide, rfl⟩ rfl rfl (Nat.le_of_ble_eq_true rfl) (c_X6_isFull s16) (fun v m1 hq => ?_)
      obtain ⟨rfl, rfl⟩ := hq
      refine q_if_ne (tgt := 145) dX8_mayBegin_138 (by decide) (fun c138 => ?_) (fun c138 => ?_)
      · have H := H.1 (b_yes c138)
        refine q_iconst dX8_mayBegin_145 (by decide) ?_
        exact q_zret dX8_mayBegin_146 rfl (by decide) ⟨_, rfl, rfl, H⟩
      · have H := H.2 (b_no c138)
        refine q_iconst dX8_mayBegin_141 (by decide) ?_
        refine q_goto (tgt := 146) dX8_mayBegin_142 (by decide) ?_
        exact q_zret dX8_mayBegin_146 rfl (by decide) ⟨_, rfl, rfl, H⟩
    · have H := H.2.2.2.2.1 (by simp only at ha; omega)
      refine q_aload_n dX8_mayBegin_115 rfl ?_
      refine q_getr (r := 14) dX8_mayBegin_116 lf_RX8_62 s11 rfl rfl ?_
      refine q_cVi (as := []) dX8_mayBegin_119 kmX6_isFull kvX6_isFull lm_RX8_59 ⟨by decide, by decide⟩ s14 ⟨by decide, rfl⟩ rfl rfl (Nat.le_of_ble_eq_true rfl) (c_X6_isFull s14) (fun v m1 hq => ?_)
      obtain ⟨rfl, rfl⟩ := hq
      refine q_if_ne (tgt := 129) dX8_mayBegin_122 (by decide) (fun c122 => ?_) (fun c122 => ?_)
      · have H := H.1 (b_yes c122)
        refine q_iconst dX8_mayBegin_129 (by decide) ?_
        exact q_zret dX8_mayBegin_130 rfl (by decide) ⟨_, rfl, rfl, H⟩
      · have H := H.2 (b_no c122)
        refine q_iconst dX8_mayBegin_125 (by decide) ?_
        refine q_goto (tgt := 130) dX8_mayBegin_126 (by decide) ?_
        exact q_zret dX8_mayBegin_130 rfl (by decide) ⟨_, rfl, rfl, H⟩
  · intro ho
    have H := H.2.2.2.2.2 (by omega)
    refine q_iconst dX8_mayBegin_147 (by decide) ?_
    exact q_zret dX8_mayBegin_148 rfl (by decide) ⟨_, rfl, rfl, H⟩


theorem c_X8_fieldsOf {mem : Mem} {c : Int} : Tot mX8_fieldsOf 0 0 [vI c] SH mem (Pr SH (Pv (fdN c) mem)) := by
  refine v_X8_fieldsOf ⟨fun q => ⟨fun r => ⟨?_, rfl⟩, fun r => ⟨?_, rfl⟩⟩, fun q => ⟨?_, rfl⟩⟩ <;> unfold fdN
  · rw [if_neg q, if_neg r]
  · rw [if_neg q, if_pos r]
  · rw [if_pos q]
theorem c_X8_least {mem : Mem} {c k : Int} : Tot mX8_least 0 0 [vR 1, vI c, vI k] SH mem (Pr SH (Pv (loF (mem 3) c k) mem)) := by
  refine v_X8_least ⟨fun q => ⟨fun r => ⟨fun z => ⟨?_, rfl⟩, fun z => ⟨?_, rfl⟩⟩, fun r => ⟨?_, rfl⟩⟩, fun q => ⟨fun r => ⟨?_, rfl⟩, fun r => ⟨?_, rfl⟩⟩, fun q => ⟨fun r => ⟨?_, rfl⟩, fun r => ⟨?_, rfl⟩⟩, fun q => ⟨?_, rfl⟩⟩ <;> unfold loF
  · rw [if_pos q, if_neg r, if_neg z]
  · rw [if_pos q, if_neg r, if_pos z]
  · rw [if_pos q, if_pos r]
  · rw [if_neg (by omega), if_pos q, if_neg r]
  · rw [if_neg (by omega), if_pos q, if_pos r]
  · rw [if_neg (by omega), if_neg (by omega), if_pos q, if_neg r]
  · rw [if_neg (by omega), if_neg (by omega), if_pos q, if_pos r]
  · rw [if_neg q.1, if_neg q.2.1, if_neg q.2.2]
theorem c_X8_greatest {mem : Mem} {c k n : Int} (hn : inR (n - 1)) : Tot mX8_greatest 0 0 [vI c, vI k, vI n] SH mem (Pr SH (Pv (hiF c k n) mem)) := by
  refine v_X8_greatest ⟨fun q => ⟨?_, rfl⟩, fun q => ⟨fun r => ⟨?_, rfl⟩, fun r => ⟨?_, rfl⟩⟩, fun q => ⟨fun r => ⟨fun z => ⟨?_, rfl⟩, fun z => ⟨?_, rfl⟩⟩, fun r => ⟨hn, ?_, rfl⟩⟩, fun q => ⟨fun r => ⟨fun z => ⟨?_, rfl⟩, fun z => ⟨?_, rfl⟩⟩, fun r => ⟨?_, rfl⟩⟩, fun q => ⟨fun r => ⟨fun z => ⟨?_, rfl⟩, fun z => ⟨?_, rfl⟩⟩, fun r => ⟨hn, ?_, rfl⟩⟩⟩ <;> unfold hiF
  · rw [if_pos q]
  · rw [if_neg (by omega), if_pos q, if_neg r]
  · rw [if_neg (by omega), if_pos q, if_pos r]
  · rw [if_neg (by omega), if_neg (by omega), if_pos q, if_neg r, if_neg z]
  · rw [if_neg (by omega), if_neg (by omega), if_pos q, if_neg r, if_pos z]
  · rw [if_neg (by omega), if_neg (by omega), if_pos q, if_pos r]
  · rw [if_neg (by omega), if_neg (by omega), if_neg (by omega), if_pos q, if_neg r, if_neg z]
  · rw [if_neg (by omega), if_neg (by omega), if_neg (by omega), if_pos q, if_neg r, if_pos z]
  · rw [if_neg (by omega), if_neg (by omega), if_neg (by omega), if_pos q, if_pos r]
  · rw [if_neg q.1, if_neg q.2.1, if_neg q.2.2.1, if_neg q.2.2.2, if_neg r, if_neg z]
  · rw [if_neg q.1, if_neg q.2.1, if_neg q.2.2.1, if_neg q.2.2.2, if_neg r, if_pos z]
  · rw [if_neg q.1, if_neg q.2.1, if_neg q.2.2.1, if_neg q.2.2.2, if_pos r]
/-- the draft is told as far as P -/
def dfP (m : Mem) (P : PS) : Prop := (m 12 0 = 3 ∧ m 14 0 = 4 ∧ m 16 0 = 3) ∧ (m 11 3 = P.w ∧ m 11 4 = P.h ∧ m 11 5 = P.w * P.h ∧ m 11 6 = P.fa ∧ m 11 7 = P.ft) ∧ (m 12 2 = P.nn ∧ m 14 2 = P.ns ∧ m 16 2 = P.nr) ∧ eqR P.nn (m 13) P.N ∧ eqR P.ns (m 15) P.S ∧ eqR P.nr (m 17) P.R
theorem dfP_fr {ks : List Nat} {m m' : Mem} {P : PS} (h : Fr ks m m') (hd : dfP m P) (h11 : 11 ∉ ks := by decide) (h12 : 12 ∉ ks := by decide) (h13 : 13 ∉ ks := by decide) (h14 : 14 ∉ ks := by decide) (h15 : 15 ∉ ks := by decide) (h16 : 16 ∉ ks := by decide) (h17 : 17 ∉ ks := by decide) : dfP m' P := by
  unfold dfP at *
  rw [h 11 h11, h 12 h12, h 13 h13, h 14 h14, h 15 h15, h 16 h16, h 17 h17]
  exact hd
def mbQ (m : Mem) (c i : Int) : Prop := (c = 103 ∧ i = 0) ∨ (c = 102 ∧ m 11 7 = 0) ∨ (c = 110 ∧ ¬ m 12 0 ≤ m 12 2) ∨ (c = 115 ∧ ¬ m 14 0 ≤ m 14 2) ∨ (c = 114 ∧ ¬ m 16 0 ≤ m 16 2)
theorem mbQ_may {m : Mem} {c i : Int} {P : PS} (h : dfP m P) : mbQ m c i ↔ mayP c i P := by
  obtain ⟨⟨a1, a2, a3⟩, ⟨-, -, -, -, b⟩, ⟨c1, c2, c3⟩, -⟩ := h
  unfold mbQ mayP
  rw [a1, a2, a3, b, c1, c2, c3]
  omega
theorem c_X8_mayBegin {mem : Mem} {i : Int} : Tot mX8_mayBegin 0 0 [vR 1, vR 11, vI i] SH mem (Pr SH (fun v m => ((mbQ mem (mem 1 5) i ∧ v = 1) ∨ (¬ mbQ mem (mem 1 5) i ∧ v = 0)) ∧ m = mem)) := by
  refine v_X8_mayBegin ?_
  unfold mbQ
  generalize mem 1 5 = c
  refine ⟨fun q => ⟨fun r => ⟨Or.inr ⟨by omega, rfl⟩, rfl⟩, fun r => ⟨Or.inl ⟨by omega, rfl⟩, rfl⟩⟩, fun q => ⟨fun r => ⟨Or.inr ⟨by omega, rfl⟩, rfl⟩, fun r => ⟨Or.inl ⟨by omega, rfl⟩, rfl⟩⟩, fun q => ⟨fun r => ⟨Or.inr ⟨by omega, rfl⟩, rfl⟩, fun r => ⟨Or.inl ⟨by omega, rfl⟩, rfl⟩⟩, fun q => ⟨fun r => ⟨Or.inr ⟨by omega, rfl⟩, rfl⟩, fun r => ⟨Or.inl ⟨by omega, rfl⟩, rfl⟩⟩, fun q => ⟨fun r => ⟨Or.inr ⟨by omega, rfl⟩, rfl⟩, fun r => ⟨Or.inl ⟨by omega, rfl⟩, rfl⟩⟩, fun q => ⟨Or.inr ⟨by omega, rfl⟩, rfl⟩⟩
theorem eqR_ext {k : Int} {F G H : Nat → Int} (h : eqR k F G) (e : ∀ j : Nat, (j : Int) < 4 * k → H j = F j) : eqR k H G := fun j hj => (e j hj).trans (h j hj)
theorem app_eqR {m : Mem} {h nb : Nat} {n : Int} {F g : Nat → Int} (hne : h ≠ nb) (h2 : m h 2 = n) (h0 : 0 ≤ n) (hc : n < m h 0) (he : eqR n (m nb) F) : eqR (n + 1) (appF m h nb (g 0) (g 1) (g 2) (g 3) nb) (addR F n g) := by
  intro e q
  have ha := (app_ok (m := m) (h := h) (nb := nb) (a := g 0) (b := g 1) (c := g 2) (d := g 3) hne (by omega) (by omega)).2.2 e (by omega)
  have ee : ((e : Int)).toNat = e := by omega
  rw [ee, h2] at ha
  rw [ha]
  unfold addR
  by_cases c0 : (e : Int) = 4 * n
  · rw [if_pos c0, if_pos (by omega), show ((e : Int) - 4 * n).toNat = 0 by omega]
  · rw [if_neg c0]
    by_cases c1 : (e : Int) = 4 * n + 1
    · rw [if_pos c1, if_pos (by omega), show ((e : Int) - 4 * n).toNat = 1 by omega]
    · rw [if_neg c1]
      by_cases c2 : (e : Int) = 4 * n + 2
      · rw [if_pos c2, if_pos (by omega), show ((e : Int) - 4 * n).toNat = 2 by omega]
      · rw [if_neg c2]
        by_cases c3 : (e : Int) = 4 * n + 3
        · rw [if_pos c3, if_pos (by omega), show ((e : Int) - 4 * n).toNat = 3 by omega]
        · rw [if_neg c3, if_neg (by omega)]
          exact he e (by omega)
/-- what enter wants -/
def enQ (m : Mem) (c i : Int) (P : PS) : Prop := dfP m P ∧ psOK i P ∧ mayP c i P ∧ ∀ j : Nat, j < (fdN c).toNat → loF (m 3) c j ≤ m 3 j ∧ m 3 j ≤ hiF c j (P.w * P.h)
def enR (m0 : Mem) (c : Int) (P : PS) (m : Mem) : Prop := Fr [11, 12, 13, 14, 15, 16, 17] m0 m ∧ dfP m (ent c (m0 3) P)
theorem c_X8_enter {m0 : Mem} {c i : Int} {P : PS} (hq : enQ m0 c i P) : Tot mX8_enter 0 0 [vR 1, vR 11, vI c] SH m0 (Pn SH (enR m0 c P)) := by
  obtain ⟨hd, hk, hm, hg⟩ := hq
  obtain ⟨⟨k1, k2, k3⟩, ⟨d3, d4, d5, d6, d7⟩, ⟨n1, n2, n3⟩, r1, r2, r3⟩ := hd
  have hk' := hk
  obtain ⟨-, ⟨h5, h6, h7, -⟩, -⟩ := hk'
  refine v_X8_enter ⟨fun q => ?_, fun q => ?_, fun q => ?_, fun q => ?_, fun q => ?_⟩
  · subst q
    intro m1 e1 m2 e2
    have eP : ent 102 (m0 3) P = mkP P.w P.h (m0 3 0) 1 P.nn P.ns P.nr P.N P.S P.R := by unfold ent; rw [if_neg (by decide), if_pos rfl]
    rw [enR, eP, e2, e1]
    exact ⟨(Fr.rf.set (by decide)).set (by decide), ⟨k1, k2, k3⟩, ⟨d3, d4, d5, rfl, rfl⟩, ⟨n1, n2, n3⟩, r1, r2, r3⟩
  · subst q
    have g0 := hg 0 (by decide)
    have g1 := hg 1 (by decide)
    simp [loF, hiF] at g0 g1
    have hp : m0 3 0 * m0 3 1 = min 12 (m0 3 0 * m0 3 1) ∧ inR (m0 3 0 * m0 3 1) := by
      have a : m0 3 0 = 1 ∨ m0 3 0 = 2 ∨ m0 3 0 = 3 ∨ m0 3 0 = 4 := by omega
      have b : m0 3 1 = 1 ∨ m0 3 1 = 2 ∨ m0 3 1 = 3 := by omega
      rcases a with a | a | a | a <;> rcases b with b | b | b <;> rw [a, b] <;> decide
    refine ⟨hp.2, fun m4 e4 => ?_⟩
    have eP : ent 103 (m0 3) P = mkP (m0 3 0) (m0 3 1) P.fa P.ft P.nn P.ns P.nr P.N P.S P.R := by unfold ent; rw [if_pos rfl]
    rw [← hp.1] at e4
    rw [enR, eP, e4]
    exact ⟨((Fr.rf.set (by decide)).set (by decide)).set (by decide), ⟨k1, k2, k3⟩, ⟨rfl, rfl, rfl, d6, d7⟩, ⟨n1, n2, n3⟩, r1, r2, r3⟩
  · subst q
    have hmm : P.nn < 3 := by unfold mayP at hm; omega
    refine ⟨by omega, by omega, fun m7 e7 => ?_⟩
    have eP : ent 110 (m0 3) P = mkP P.w P.h P.fa P.ft (P.nn + 1) P.ns P.nr (addR P.N P.nn (m0 3)) P.S P.R := by unfold ent; rw [if_neg (by decide), if_neg (by decide), if_pos rfl]
    have hF : Fr [12, 13] m0 m7 := by rw [e7]; exact app_fr
    have ha := app_ok (m := m0) (h := 12) (nb := 13) (a := m0 3 0) (b := m0 3 1) (c := m0 3 2) (d := m0 3 3) (by decide) (by omega) (by omega)
    rw [← e7] at ha
    have he := app_eqR (m := m0) (h := 12) (nb := 13) (n := P.nn) (F := P.N) (g := m0 3) (by decide) n1 h5.1 (by omega) r1
    rw [← e7] at he
    rw [enR, eP]
    refine ⟨hF.mono (by decide), ⟨?_, ?_, ?_⟩, ⟨?_, ?_, ?_, ?_, ?_⟩, ⟨?_, ?_, ?_⟩, he, ?_, ?_⟩
    · rw [ha.1]; exact k1
    · rw [hF.at 14]; exact k2
    · rw [hF.at 16]; exact k3
    · rw [hF.at 11]; exact d3
    · rw [hF.at 11]; exact d4
    · rw [hF.at 11]; exact d5
    · rw [hF.at 11]; exact d6
    · rw [hF.at 11]; exact d7
    · rw [ha.2.1, n1]; rfl
    · rw [hF.at 14]; exact n2
    · rw [hF.at 16]; exact n3
    · rw [hF.at 15]; exact r2
    · rw [hF.at 17]; exact r3
  · subst q
    have hmm : P.ns < 4 := by unfold mayP at hm; omega
    refine ⟨by omega, by omega, fun m7 e7 => ?_⟩
    have eP : ent 115 (m0 3) P = mkP P.w P.h P.fa P.ft P.nn (P.ns + 1) P.nr P.N (addR P.S P.ns (m0 3)) P.R := by unfold ent; rw [if_neg (by decide), if_neg (by decide), if_neg (by decide), if_pos rfl]
    have hF : Fr [14, 15] m0 m7 := by rw [e7]; exact app_fr
    have ha := app_ok (m := m0) (h := 14) (nb := 15) (a := m0 3 0) (b := m0 3 1) (c := m0 3 2) (d := m0 3 3) (by decide) (by omega) (by omega)
    rw [← e7] at ha
    have he := app_eqR (m := m0) (h := 14) (nb := 15) (n := P.ns) (F := P.S) (g := m0 3) (by decide) n2 h6.1 (by omega) r2
    rw [← e7] at he
    rw [enR, eP]
    refine ⟨hF.mono (by decide), ⟨?_, ?_, ?_⟩, ⟨?_, ?_, ?_, ?_, ?_⟩, ⟨?_, ?_, ?_⟩, ?_, he, ?_⟩
    · rw [hF.at 12]; exact k1
    · rw [ha.1]; exact k2
    · rw [hF.at 16]; exact k3
    · rw [hF.at 11]; exact d3
    · rw [hF.at 11]; exact d4
    · rw [hF.at 11]; exact d5
    · rw [hF.at 11]; exact d6
    · rw [hF.at 11]; exact d7
    · rw [hF.at 12]; exact n1
    · rw [ha.2.1, n2]; rfl
    · rw [hF.at 16]; exact n3
    · rw [hF.at 13]; exact r1
    · rw [hF.at 17]; exact r3
  · have hmm : c = 114 ∧ P.nr < 3 := by unfold mayP at hm; omega
    have hc := hmm.1
    subst hc
    refine ⟨by omega, by omega, fun m7 e7 => ?_⟩
    have eP : ent 114 (m0 3) P = mkP P.w P.h P.fa P.ft P.nn P.ns (P.nr + 1) P.N P.S (addR P.R P.nr (m0 3)) := by unfold ent; rw [if_neg (by decide), if_neg (by decide), if_neg (by decide), if_neg (by decide)]
    have hF : Fr [16, 17] m0 m7 := by rw [e7]; exact app_fr
    have ha := app_ok (m := m0) (h := 16) (nb := 17) (a := m0 3 0) (b := m0 3 1) (c := m0 3 2) (d := m0 3 3) (by decide) (by omega) (by omega)
    rw [← e7] at ha
    have he := app_eqR (m := m0) (h := 16) (nb := 17) (n := P.nr) (F := P.R) (g := m0 3) (by decide) n3 h7.1 (by omega) r3
    rw [← e7] at he
    rw [enR, eP]
    refine ⟨hF.mono (by decide), ⟨?_, ?_, ?_⟩, ⟨?_, ?_, ?_, ?_, ?_⟩, ⟨?_, ?_, ?_⟩, ?_, ?_, he⟩
    · rw [hF.at 12]; exact k1
    · rw [hF.at 14]; exact k2
    · rw [ha.1]; exact k3
    · rw [hF.at 11]; exact d3
    · rw [hF.at 11]; exact d4
    · rw [hF.at 11]; exact d5
    · rw [hF.at 11]; exact d6
    · rw [hF.at 11]; exact d7
    · rw [hF.at 12]; exact n1
    · rw [hF.at 14]; exact n2
    · rw [ha.2.1, n3]; rfl
    · rw [hF.at 13]; exact r1
    · rw [hF.at 15]; exact r2
