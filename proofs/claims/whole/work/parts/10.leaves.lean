/-! LEAVES: small methods of both sides -/
set_option maxRecDepth 20000 in
theorem v_X10_in {v lo hi : Int} {sh : Sh} {P : Int → Mem → Prop} {mem : Mem}  (H : (v < lo → P 0 mem) ∧ (lo ≤ v → (hi < v → P 0 mem) ∧ (v ≤ hi → P 1 mem))) : Tot mX10_in 0 0 [vI v, vI lo, vI hi] sh mem (Pr sh P) := by
  refine Tot.of rfl (Nat.le_of_ble_eq_true rfl) (by simp [isJ]) (ls := [vI v, vI lo, vI hi]) rfl ?_
  refine q_iload_n dX10_in_0 rfl ?_
  refine q_iload_n dX10_in_1 rfl ?_
  refine q_icmp_lt (tgt := 14) dX10_in_2 (by decide) (fun c2 => ?_) (fun c2 => ?_)
  · have H := H.1 c2
    refine q_iconst dX10_in_14 (by decide) ?_
    exact q_zret dX10_in_15 rfl (by decide) ⟨_, rfl, rfl, H⟩
  · have H := H.2 c2
    refine q_iload_n dX10_in_5 rfl ?_
    refine q_iload_n dX10_in_6 rfl ?_
    refine q_icmp_gt (tgt := 14) dX10_in_7 (by decide) (fun c7 => ?_) (fun c7 => ?_)
    · have H := H.1 c7
      refine q_iconst dX10_in_14 (by decide) ?_
      exact q_zret dX10_in_15 rfl (by decide) ⟨_, rfl, rfl, H⟩
    · have H := H.2 c7
      refine q_iconst dX10_in_10 (by decide) ?_
      refine q_goto (tgt := 15) dX10_in_11 (by decide) ?_
      exact q_zret dX10_in_15 rfl (by decide) ⟨_, rfl, rfl, H⟩

set_option maxRecDepth 20000 in
theorem v_X3_hasCell {h n : Nat} {rs : List Nat} {c : Int} {sh : Sh} {P : Int → Mem → Prop} {mem : Mem} (hs : sh[h]? = some (3, n, rs)) (H : (c < 0 → P 0 mem) ∧ (0 ≤ c → ((mem h 5) ≤ c → P 0 mem) ∧ (c < (mem h 5) → P 1 mem))) : Tot mX3_hasCell 0 0 [vR h, vI c] sh mem (Pr sh P) := by
  refine Tot.of rfl (Nat.le_of_ble_eq_true rfl) (by simp [isJ]) (ls := [vR h, vI c]) rfl ?_
  refine q_iload_n dX3_hasCell_0 rfl ?_
  refine q_if_lt (tgt := 16) dX3_hasCell_1 (by decide) (fun c1 => ?_) (fun c1 => ?_)
  · have H := H.1 c1
    refine q_iconst dX3_hasCell_16 (by decide) ?_
    exact q_zret dX3_hasCell_17 rfl (by decide) ⟨_, rfl, rfl, H⟩
  · have H := H.2 c1
    refine q_iload_n dX3_hasCell_4 rfl ?_
    refine q_aload_n dX3_hasCell_5 rfl ?_
    refine q_geti dX3_hasCell_6 lf_RX3_60 hs rfl ?_
    refine q_icmp_ge (tgt := 16) dX3_hasCell_9 (by decide) (fun c9 => ?_) (fun c9 => ?_)
    · have H := H.1 c9
      refine q_iconst dX3_hasCell_16 (by decide) ?_
      exact q_zret dX3_hasCell_17 rfl (by decide) ⟨_, rfl, rfl, H⟩
    · have H := H.2 c9
      refine q_iconst dX3_hasCell_12 (by decide) ?_
      refine q_goto (tgt := 17) dX3_hasCell_13 (by decide) ?_
      exact q_zret dX3_hasCell_17 rfl (by decide) ⟨_, rfl, rfl, H⟩

set_option maxRecDepth 20000 in
theorem v_X6_size {h n : Nat} {rs : List Nat}  {sh : Sh} {P : Int → Mem → Prop} {mem : Mem} (hs : sh[h]? = some (6, n, rs)) (H : P (mem h 2) mem) : Tot mX6_size 0 0 [vR h] sh mem (Pr sh P) := by
  refine Tot.of rfl (Nat.le_of_ble_eq_true rfl) (by simp [isJ]) (ls := [vR h]) rfl ?_
  refine q_aload_n dX6_size_0 rfl ?_
  refine q_geti dX6_size_1 lf_RX6_23 hs rfl ?_
  exact q_iret dX6_size_4 rfl ⟨_, rfl, rfl, H⟩

set_option maxRecDepth 20000 in
theorem v_X6_has {h n : Nat} {rs : List Nat} {i : Int} {sh : Sh} {P : Int → Mem → Prop} {mem : Mem} (hs : sh[h]? = some (6, n, rs)) (H : (i < 0 → P 0 mem) ∧ (0 ≤ i → ((mem h 2) ≤ i → P 0 mem) ∧ (i < (mem h 2) → P 1 mem))) : Tot mX6_has 0 0 [vR h, vI i] sh mem (Pr sh P) := by
  refine Tot.of rfl (Nat.le_of_ble_eq_true rfl) (by simp [isJ]) (ls := [vR h, vI i]) rfl ?_
  refine q_iload_n dX6_has_0 rfl ?_
  refine q_if_lt (tgt := 16) dX6_has_1 (by decide) (fun c1 => ?_) (fun c1 => ?_)
  · have H := H.1 c1
    refine q_iconst dX6_has_16 (by decide) ?_
    exact q_zret dX6_has_17 rfl (by decide) ⟨_, rfl, rfl, H⟩
  · have H := H.2 c1
    refine q_iload_n dX6_has_4 rfl ?_
    refine q_aload_n dX6_has_5 rfl ?_
    refine q_geti dX6_has_6 lf_RX6_23 hs rfl ?_
    refine q_icmp_ge (tgt := 16) dX6_has_9 (by decide) (fun c9 => ?_) (fun c9 => ?_)
    · have H := H.1 c9
      refine q_iconst dX6_has_16 (by decide) ?_
      exact q_zret dX6_has_17 rfl (by decide) ⟨_, rfl, rfl, H⟩
    · have H := H.2 c9
      refine q_iconst dX6_has_12 (by decide) ?_
      refine q_goto (tgt := 17) dX6_has_13 (by decide) ?_
      exact q_zret dX6_has_17 rfl (by decide) ⟨_, rfl, rfl, H⟩

set_option maxRecDepth 20000 in
theorem v_X6_isFull {h n : Nat} {rs : List Nat}  {sh : Sh} {P : Int → Mem → Prop} {mem : Mem} (hs : sh[h]? = some (6, n, rs)) (H : ((mem h 2) < (mem h 0) → P 0 mem) ∧ ((mem h 0) ≤ (mem h 2) → P 1 mem)) : Tot mX6_isFull 0 0 [vR h] sh mem (Pr sh P) := by
  refine Tot.of rfl (Nat.le_of_ble_eq_true rfl) (by simp [isJ]) (ls := [vR h]) rfl ?_
  refine q_aload_n dX6_isFull_0 rfl ?_
  refine q_geti dX6_isFull_1 lf_RX6_23 hs rfl ?_
  refine q_aload_n dX6_isFull_4 rfl ?_
  refine q_geti dX6_isFull_5 lf_RX6_13 hs rfl ?_
  refine q_icmp_lt (tgt := 15) dX6_isFull_8 (by decide) (fun c8 => ?_) (fun c8 => ?_)
  · have H := H.1 c8
    refine q_iconst dX6_isFull_15 (by decide) ?_
    exact q_zret dX6_isFull_16 rfl (by decide) ⟨_, rfl, rfl, H⟩
  · have H := H.2 c8
    refine q_iconst dX6_isFull_11 (by decide) ?_
    refine q_goto (tgt := 16) dX6_isFull_12 (by decide) ?_
    exact q_zret dX6_isFull_16 rfl (by decide) ⟨_, rfl, rfl, H⟩

set_option maxRecDepth 20000 in
theorem v_X6_drop {h n : Nat} {rs : List Nat}  {sh : Sh} {P : Mem → Prop} {mem : Mem} (hs : sh[h]? = some (6, n, rs)) (H : ∀ m1 : Mem, m1 = (mset mem h 2 0) → (P m1)) : Tot mX6_drop 0 0 [vR h] sh mem (Pn sh P) := by
  refine Tot.of rfl (Nat.le_of_ble_eq_true rfl) (by simp [isJ]) (ls := [vR h]) rfl ?_
  refine q_aload_n dX6_drop_0 rfl ?_
  refine q_iconst dX6_drop_1 (by decide) ?_
  refine q_puti dX6_drop_2 lf_RX6_23 hs rfl (Or.inl rfl) fit_int ?_
  have H := H _ rfl
  exact q_vret dX6_drop_5 rfl ⟨rfl, rfl, H⟩

set_option maxRecDepth 20000 in
theorem v_X1_taken {from_ to : Int} {P : Int → Mem → Prop} {mem : Mem}  (H : (0 ≤ to) ∧ ((to < 12) ∧ (((mem 35 to.toNat) < 0 → P 0 mem) ∧ (0 ≤ (mem 35 to.toNat) → ((mem 35 to.toNat) < 4 → (0 ≤ from_) ∧ ((from_ < 12) ∧ (((mem 35 from_.toNat) = (-9) → P (mem 36 (mem 35 to.toNat).toNat) mem) ∧ (¬ (mem 35 from_.toNat) = (-9) → ((mem 35 from_.toNat) = (mem 35 to.toNat) → P (mem 36 (mem 35 to.toNat).toNat) mem) ∧ (¬ (mem 35 from_.toNat) = (mem 35 to.toNat) → (0 ≤ (mem 36 (mem 35 to.toNat).toNat)) ∧ (P ((mem 36 (mem 35 to.toNat).toNat) / 2) mem)))))) ∧ (4 ≤ (mem 35 to.toNat) → P 0 mem))))) : Tot mX1_taken 0 0 [vR 34, vI from_, vI to] SH mem (Pr SH P) := by
  refine Tot.of rfl (Nat.le_of_ble_eq_true rfl) (by simp [isJ]) (ls := [vR 34, vI from_, vI to, vJ 0, vJ 0]) rfl ?_
  refine q_aload_n dX1_taken_0 rfl ?_
  refine q_getr (r := 35) dX1_taken_1 lf_RX1_9 s34 rfl rfl ?_
  refine q_iload_n dX1_taken_4 rfl ?_
  obtain ⟨h1, H⟩ := H
  obtain ⟨h2, H⟩ := H
  refine q_iald dX1_taken_5 s35 h1 h2 ?_
  refine q_istore_n dX1_taken_6 (by decide) rfl ?_
  refine q_iload_n dX1_taken_7 rfl ?_
  refine q_if_lt (tgt := 16) dX1_taken_8 (by decide) (fun c8 => ?_) (fun c8 => ?_)
  · have H := H.1 c8
    refine q_iconst dX1_taken_16 (by decide) ?_
    exact q_iret dX1_taken_17 rfl ⟨_, rfl, rfl, H⟩
  · have H := H.2 c8
    refine q_iload_n dX1_taken_11 rfl ?_
    refine q_iconst dX1_taken_12 (by decide) ?_
    refine q_icmp_lt (tgt := 18) dX1_taken_13 (by decide) (fun c13 => ?_) (fun c13 => ?_)
    · have H := H.1 c13
      refine q_aload_n dX1_taken_18 rfl ?_
      refine q_getr (r := 35) dX1_taken_19 lf_RX1_9 s34 rfl rfl ?_
      refine q_iload_n dX1_taken_22 rfl ?_
      obtain ⟨h3, H⟩ := H
      obtain ⟨h4, H⟩ := H
      refine q_iald dX1_taken_23 s35 h3 h4 ?_
      refine q_bipush dX1_taken_24 rfl (by decide) ?_
      refine q_icmp_eq (tgt := 43) dX1_taken_26 (by decide) (fun c26 => ?_) (fun c26 => ?_)
      · have H := H.1 c26
        refine q_iconst dX1_taken_43 (by decide) ?_
        refine q_istore dX1_taken_44 (by decide) rfl ?_
        refine q_iload dX1_taken_46 rfl ?_
        refine q_if_eq (tgt := 62) dX1_taken_48 (by decide) (fun _ => ?_) (fun c => absurd c (by decide))
        refine q_aload_n dX1_taken_62 rfl ?_
        refine q_getr (r := 36) dX1_taken_63 lf_RX1_15 s34 rfl rfl ?_
        refine q_iload_n dX1_taken_66 rfl ?_
        refine q_iald dX1_taken_67 s36 c8 c13 ?_
        exact q_iret dX1_taken_68 rfl ⟨_, rfl, rfl, H⟩
      · have H := H.2 c26
        refine q_aload_n dX1_taken_29 rfl ?_
        refine q_getr (r := 35) dX1_taken_30 lf_RX1_9 s34 rfl rfl ?_
        refine q_iload_n dX1_taken_33 rfl ?_
        refine q_iald dX1_taken_34 s35 h3 h4 ?_
        refine q_iload_n dX1_taken_35 rfl ?_
        refine q_icmp_eq (tgt := 43) dX1_taken_36 (by decide) (fun c36 => ?_) (fun c36 => ?_)
        · have H := H.1 c36
          refine q_iconst dX1_taken_43 (by decide) ?_
          refine q_istore dX1_taken_44 (by decide) rfl ?_
          refine q_iload dX1_taken_46 rfl ?_
          refine q_if_eq (tgt := 62) dX1_taken_48 (by decide) (fun _ => ?_) (fun c => absurd c (by decide))
          refine q_aload_n dX1_taken_62 rfl ?_
          refine q_getr (r := 36) dX1_taken_63 lf_RX1_15 s34 rfl rfl ?_
          refine q_iload_n dX1_taken_66 rfl ?_
          refine q_iald dX1_taken_67 s36 c8 c13 ?_
          exact q_iret dX1_taken_68 rfl ⟨_, rfl, rfl, H⟩
        · have H := H.2 c36
          refine q_iconst dX1_taken_39 (by decide) ?_
          refine q_goto (tgt := 44) dX1_taken_40 (by decide) ?_
          refine q_istore dX1_taken_44 (by decide) rfl ?_
          refine q_iload dX1_taken_46 rfl ?_
          refine q_if_eq (tgt := 62) dX1_taken_48 (by decide) (fun c => absurd c (by decide)) (fun _ => ?_)
          refine q_aload_n dX1_taken_51 rfl ?_
          refine q_getr (r := 36) dX1_taken_52 lf_RX1_15 s34 rfl rfl ?_
          refine q_iload_n dX1_taken_55 rfl ?_
          refine q_iald dX1_taken_56 s36 c8 c13 ?_
          refine q_iconst dX1_taken_57 (by decide) ?_
          obtain ⟨h5, H⟩ := H
          refine q_idiv dX1_taken_58 h5 (by decide) ?_
          refine q_goto (tgt := 68) dX1_taken_59 (by decide) ?_
          exact q_iret dX1_taken_68 rfl ⟨_, rfl, rfl, H⟩
    · have H := H.2 c13
      refine q_iconst dX1_taken_16 (by decide) ?_
      exact q_iret dX1_taken_17 rfl ⟨_, rfl, rfl, H⟩

set_option maxRecDepth 20000 in
theorem v_X10_takes {a b : Int} {P : Int → Mem → Prop} {mem : Mem}  (H : (0 ≤ b) ∧ ((b < 12) ∧ ((¬ (mem 61 b.toNat) = (-9) → (0 ≤ a) ∧ ((a < 12) ∧ (((mem 61 a.toNat) = (-9) → (0 ≤ (mem 61 b.toNat)) ∧ (((mem 61 b.toNat) < 4) ∧ ((inR ((mem 44 2) + (mem 60 (mem 61 b.toNat).toNat))) ∧ (P ((mem 44 2) + (mem 60 (mem 61 b.toNat).toNat)) mem)))) ∧ (¬ (mem 61 a.toNat) = (-9) → ((mem 61 a.toNat) = (mem 61 b.toNat) → (0 ≤ (mem 61 b.toNat)) ∧ (((mem 61 b.toNat) < 4) ∧ ((inR ((mem 44 2) + (mem 60 (mem 61 b.toNat).toNat))) ∧ (P ((mem 44 2) + (mem 60 (mem 61 b.toNat).toNat)) mem)))) ∧ (¬ (mem 61 a.toNat) = (mem 61 b.toNat) → (0 ≤ (mem 61 b.toNat)) ∧ (((mem 61 b.toNat) < 4) ∧ ((0 ≤ (mem 60 (mem 61 b.toNat).toNat)) ∧ ((inR ((mem 44 2) + ((mem 60 (mem 61 b.toNat).toNat) / 2))) ∧ (P ((mem 44 2) + ((mem 60 (mem 61 b.toNat).toNat) / 2)) mem))))))))) ∧ ((mem 61 b.toNat) = (-9) → P (mem 44 2) mem)))) : Tot mX10_takes 0 0 [vR 44, vI a, vI b] SH mem (Pr SH P) := by
  refine Tot.of rfl (Nat.le_of_ble_eq_true rfl) (by simp [isJ]) (ls := [vR 44, vI a, vI b, vJ 0]) rfl ?_
  refine q_aload_n dX10_takes_0 rfl ?_
  refine q_getr (r := 61) dX10_takes_1 lf_RX10_69 s44 rfl rfl ?_
  refine q_iload_n dX10_takes_4 rfl ?_
  obtain ⟨h1, H⟩ := H
  obtain ⟨h2, H⟩ := H
  refine q_iald dX10_takes_5 s61 h1 h2 ?_
  refine q_bipush dX10_takes_6 rfl (by decide) ?_
  refine q_icmp_ne (tgt := 16) dX10_takes_8 (by decide) (fun c8 => ?_) (fun c8 => ?_)
  · have H := H.1 c8
    refine q_aload_n dX10_takes_16 rfl ?_
    refine q_getr (r := 61) dX10_takes_17 lf_RX10_69 s44 rfl rfl ?_
    refine q_iload_n dX10_takes_20 rfl ?_
    obtain ⟨h3, H⟩ := H
    obtain ⟨h4, H⟩ := H
    refine q_iald dX10_takes_21 s61 h3 h4 ?_
    refine q_bipush dX10_takes_22 rfl (by decide) ?_
    refine q_icmp_eq (tgt := 46) dX10_takes_24 (by decide) (fun c24 => ?_) (fun c24 => ?_)
    · have H := H.1 c24
      refine q_iconst dX10_takes_46 (by decide) ?_
      refine q_istore_n dX10_takes_47 (by decide) rfl ?_
      refine q_aload_n dX10_takes_48 rfl ?_
      refine q_geti dX10_takes_49 lf_RX10_16 s44 rfl ?_
      refine q_iload_n dX10_takes_52 rfl ?_
      refine q_if_eq (tgt := 72) dX10_takes_53 (by decide) (fun _ => ?_) (fun c => absurd c (by decide))
      refine q_aload_n dX10_takes_72 rfl ?_
      refine q_getr (r := 60) dX10_takes_73 lf_RX10_66 s44 rfl rfl ?_
      refine q_aload_n dX10_takes_76 rfl ?_
      refine q_getr (r := 61) dX10_takes_77 lf_RX10_69 s44 rfl rfl ?_
      refine q_iload_n dX10_takes_80 rfl ?_
      refine q_iald dX10_takes_81 s61 h1 h2 ?_
      obtain ⟨h5, H⟩ := H
      obtain ⟨h6, H⟩ := H
      refine q_iald dX10_takes_82 s60 h5 h6 ?_
      obtain ⟨h7, H⟩ := H
      refine q_iadd dX10_takes_83 h7 ?_
      exact q_iret dX10_takes_84 rfl ⟨_, rfl, rfl, H⟩
    · have H := H.2 c24
      refine q_aload_n dX10_takes_27 rfl ?_
      refine q_getr (r := 61) dX10_takes_28 lf_RX10_69 s44 rfl rfl ?_
      refine q_iload_n dX10_takes_31 rfl ?_
      refine q_iald dX10_takes_32 s61 h3 h4 ?_
      refine q_aload_n dX10_takes_33 rfl ?_
      refine q_getr (r := 61) dX10_takes_34 lf_RX10_69 s44 rfl rfl ?_
      refine q_iload_n dX10_takes_37 rfl ?_
      refine q_iald dX10_takes_38 s61 h1 h2 ?_
      refine q_icmp_eq (tgt := 46) dX10_takes_39 (by decide) (fun c39 => ?_) (fun c39 => ?_)
      · have H := H.1 c39
        refine q_iconst dX10_takes_46 (by decide) ?_
        refine q_istore_n dX10_takes_47 (by decide) rfl ?_
        refine q_aload_n dX10_takes_48 rfl ?_
        refine q_geti dX10_takes_49 lf_RX10_16 s44 rfl ?_
        refine q_iload_n dX10_takes_52 rfl ?_
        refine q_if_eq (tgt := 72) dX10_takes_53 (by decide) (fun _ => ?_) (fun c => absurd c (by decide))
        refine q_aload_n dX10_takes_72 rfl ?_
        refine q_getr (r := 60) dX10_takes_73 lf_RX10_66 s44 rfl rfl ?_
        refine q_aload_n dX10_takes_76 rfl ?_
        refine q_getr (r := 61) dX10_takes_77 lf_RX10_69 s44 rfl rfl ?_
        refine q_iload_n dX10_takes_80 rfl ?_
        refine q_iald dX10_takes_81 s61 h1 h2 ?_
        obtain ⟨h8, H⟩ := H
        obtain ⟨h9, H⟩ := H
        refine q_iald dX10_takes_82 s60 h8 h9 ?_
        obtain ⟨h10, H⟩ := H
        refine q_iadd dX10_takes_83 h10 ?_
        exact q_iret dX10_takes_84 rfl ⟨_, rfl, rfl, H⟩
      · have H := H.2 c39
        refine q_iconst dX10_takes_42 (by decide) ?_
        refine q_goto (tgt := 47) dX10_takes_43 (by decide) ?_
        refine q_istore_n dX10_takes_47 (by decide) rfl ?_
        refine q_aload_n dX10_takes_48 rfl ?_
        refine q_geti dX10_takes_49 lf_RX10_16 s44 rfl ?_
        refine q_iload_n dX10_takes_52 rfl ?_
        refine q_if_eq (tgt := 72) dX10_takes_53 (by decide) (fun c => absurd c (by decide)) (fun _ => ?_)
        refine q_aload_n dX10_takes_56 rfl ?_
        refine q_getr (r := 60) dX10_takes_57 lf_RX10_66 s44 rfl rfl ?_
        refine q_aload_n dX10_takes_60 rfl ?_
        refine q_getr (r := 61) dX10_takes_61 lf_RX10_69 s44 rfl rfl ?_
        refine q_iload_n dX10_takes_64 rfl ?_
        refine q_iald dX10_takes_65 s61 h1 h2 ?_
        obtain ⟨h11, H⟩ := H
        obtain ⟨h12, H⟩ := H
        refine q_iald dX10_takes_66 s60 h11 h12 ?_
        refine q_iconst dX10_takes_67 (by decide) ?_
        obtain ⟨h13, H⟩ := H
        refine q_idiv dX10_takes_68 h13 (by decide) ?_
        refine q_goto (tgt := 83) dX10_takes_69 (by decide) ?_
        obtain ⟨h14, H⟩ := H
        refine q_iadd dX10_takes_83 h14 ?_
        exact q_iret dX10_takes_84 rfl ⟨_, rfl, rfl, H⟩
  · have H := H.2 c8
    refine q_aload_n dX10_takes_11 rfl ?_
    refine q_geti dX10_takes_12 lf_RX10_16 s44 rfl ?_
    exact q_iret dX10_takes_15 rfl ⟨_, rfl, rfl, H⟩

set_option maxRecDepth 20000 in
theorem v_X10_has {v k : Int} {P : Int → Mem → Prop} {mem : Mem}  (H : (0 ≤ v) ∧ ((0 ≤ k) ∧ ((k < 31) ∧ ((0 ≤ (v / ((2 ^ (k).toNat : Nat) : Int))) ∧ ((¬ ((v / ((2 ^ (k).toNat : Nat) : Int)) % 2) = 1 → P 0 mem) ∧ (((v / ((2 ^ (k).toNat : Nat) : Int)) % 2) = 1 → P 1 mem)))))) : Tot mX10_has 0 0 [vI v, vI k] SH mem (Pr SH P) := by
  refine Tot.of rfl (Nat.le_of_ble_eq_true rfl) (by simp [isJ]) (ls := [vI v, vI k]) rfl ?_
  refine q_iload_n dX10_has_0 rfl ?_
  refine q_iload_n dX10_has_1 rfl ?_
  obtain ⟨h1, H⟩ := H
  obtain ⟨h2, H⟩ := H
  obtain ⟨h3, H⟩ := H
  refine q_shr dX10_has_2 h1 h2 h3 ?_
  refine q_iconst dX10_has_3 (by decide) ?_
  obtain ⟨h4, H⟩ := H
  refine q_and1 dX10_has_4 h4 ?_
  refine q_iconst dX10_has_5 (by decide) ?_
  refine q_icmp_ne (tgt := 13) dX10_has_6 (by decide) (fun c6 => ?_) (fun c6 => ?_)
  · have H := H.1 c6
    refine q_iconst dX10_has_13 (by decide) ?_
    exact q_zret dX10_has_14 rfl (by decide) ⟨_, rfl, rfl, H⟩
  · have H := H.2 c6
    refine q_iconst dX10_has_9 (by decide) ?_
    refine q_goto (tgt := 14) dX10_has_10 (by decide) ?_
    exact q_zret dX10_has_14 rfl (by decide) ⟨_, rfl, rfl, H⟩

set_option maxRecDepth 20000 in
theorem v_X4_hasSheet {s : Int} {sh : Sh} {P : Int → Mem → Prop} {mem : Mem}  (H : (s < 0 → P 0 mem) ∧ (0 ≤ s → (4 ≤ s → P 0 mem) ∧ (s < 4 → P 1 mem))) : Tot mX4_hasSheet 0 0 [vI s] sh mem (Pr sh P) := by
  refine Tot.of rfl (Nat.le_of_ble_eq_true rfl) (by simp [isJ]) (ls := [vI s]) rfl ?_
  refine q_iload_n dX4_hasSheet_0 rfl ?_
  refine q_if_lt (tgt := 13) dX4_hasSheet_1 (by decide) (fun c1 => ?_) (fun c1 => ?_)
  · have H := H.1 c1
    refine q_iconst dX4_hasSheet_13 (by decide) ?_
    exact q_zret dX4_hasSheet_14 rfl (by decide) ⟨_, rfl, rfl, H⟩
  · have H := H.2 c1
    refine q_iload_n dX4_hasSheet_4 rfl ?_
    refine q_iconst dX4_hasSheet_5 (by decide) ?_
    refine q_icmp_ge (tgt := 13) dX4_hasSheet_6 (by decide) (fun c6 => ?_) (fun c6 => ?_)
    · have H := H.1 c6
      refine q_iconst dX4_hasSheet_13 (by decide) ?_
      exact q_zret dX4_hasSheet_14 rfl (by decide) ⟨_, rfl, rfl, H⟩
    · have H := H.2 c6
      refine q_iconst dX4_hasSheet_9 (by decide) ?_
      refine q_goto (tgt := 14) dX4_hasSheet_10 (by decide) ?_
      exact q_zret dX4_hasSheet_14 rfl (by decide) ⟨_, rfl, rfl, H⟩

set_option maxRecDepth 20000 in
theorem v_X9_isWithin {v lo hi : Int} {P : Int → Mem → Prop} {mem : Mem}  (H : (v < lo → P 0 mem) ∧ (lo ≤ v → (hi < v → P 0 mem) ∧ (v ≤ hi → P 1 mem))) : Tot mX9_isWithin 0 0 [vI v, vI lo, vI hi] SH mem (Pr SH P) := by
  refine Tot.of rfl (Nat.le_of_ble_eq_true rfl) (by simp [isJ]) (ls := [vI v, vI lo, vI hi]) rfl ?_
  refine q_iload_n dX9_isWithin_0 rfl ?_
  refine q_iload_n dX9_isWithin_1 rfl ?_
  refine q_icmp_lt (tgt := 14) dX9_isWithin_2 (by decide) (fun c2 => ?_) (fun c2 => ?_)
  · have H := H.1 c2
    refine q_iconst dX9_isWithin_14 (by decide) ?_
    exact q_zret dX9_isWithin_15 rfl (by decide) ⟨_, rfl, rfl, H⟩
  · have H := H.2 c2
    refine q_iload_n dX9_isWithin_5 rfl ?_
    refine q_iload_n dX9_isWithin_6 rfl ?_
    refine q_icmp_gt (tgt := 14) dX9_isWithin_7 (by decide) (fun c7 => ?_) (fun c7 => ?_)
    · have H := H.1 c7
      refine q_iconst dX9_isWithin_14 (by decide) ?_
      exact q_zret dX9_isWithin_15 rfl (by decide) ⟨_, rfl, rfl, H⟩
    · have H := H.2 c7
      refine q_iconst dX9_isWithin_10 (by decide) ?_
      refine q_goto (tgt := 15) dX9_isWithin_11 (by decide) ?_
      exact q_zret dX9_isWithin_15 rfl (by decide) ⟨_, rfl, rfl, H⟩

set_option maxRecDepth 20000 in
theorem v_X10_left {v k : Int} {P : Int → Mem → Prop} {mem : Mem}  (H : (v ≤ k → P 0 mem) ∧ (k < v → (inR (v - k)) ∧ (P (v - k) mem))) : Tot mX10_left 0 0 [vI v, vI k] SH mem (Pr SH P) := by
  refine Tot.of rfl (Nat.le_of_ble_eq_true rfl) (by simp [isJ]) (ls := [vI v, vI k]) rfl ?_
  refine q_iload_n dX10_left_0 rfl ?_
  refine q_iload_n dX10_left_1 rfl ?_
  refine q_icmp_le (tgt := 11) dX10_left_2 (by decide) (fun c2 => ?_) (fun c2 => ?_)
  · have H := H.1 c2
    refine q_iconst dX10_left_11 (by decide) ?_
    exact q_iret dX10_left_12 rfl ⟨_, rfl, rfl, H⟩
  · have H := H.2 c2
    refine q_iload_n dX10_left_5 rfl ?_
    refine q_iload_n dX10_left_6 rfl ?_
    obtain ⟨h1, H⟩ := H
    refine q_isub dX10_left_7 h1 ?_
    refine q_goto (tgt := 12) dX10_left_8 (by decide) ?_
    exact q_iret dX10_left_12 rfl ⟨_, rfl, rfl, H⟩


section C1
variable {sh : Sh} {mem : Mem} {h n : Nat} {rs : List Nat} {v lo hi c i a b k s : Int}
theorem c_X10_in : Tot mX10_in 0 0 [vI v, vI lo, vI hi] sh mem (Pr sh (Pv (if lo ≤ v ∧ v ≤ hi then 1 else 0) mem)) := v_X10_in (by grind)
theorem c_X9_isWithin : Tot mX9_isWithin 0 0 [vI v, vI lo, vI hi] SH mem (Pr SH (Pv (if lo ≤ v ∧ v ≤ hi then 1 else 0) mem)) := v_X9_isWithin (by grind)
theorem c_X3_hasCell (hs : sh[h]? = some (3, n, rs)) : Tot mX3_hasCell 0 0 [vR h, vI c] sh mem (Pr sh (Pv (if 0 ≤ c ∧ c < mem h 5 then 1 else 0) mem)) := v_X3_hasCell hs (by grind)
theorem c_X6_size (hs : sh[h]? = some (6, n, rs)) : Tot mX6_size 0 0 [vR h] sh mem (Pr sh (Pv (mem h 2) mem)) := v_X6_size hs (by grind)
theorem c_X6_has (hs : sh[h]? = some (6, n, rs)) : Tot mX6_has 0 0 [vR h, vI i] sh mem (Pr sh (Pv (if 0 ≤ i ∧ i < mem h 2 then 1 else 0) mem)) := v_X6_has hs (by grind)
theorem c_X6_isFull (hs : sh[h]? = some (6, n, rs)) : Tot mX6_isFull 0 0 [vR h] sh mem (Pr sh (Pv (if mem h 0 ≤ mem h 2 then 1 else 0) mem)) := v_X6_isFull hs (by grind)
theorem c_X6_drop (hs : sh[h]? = some (6, n, rs)) : Tot mX6_drop 0 0 [vR h] sh mem (Pn sh (fun m => m = mset mem h 2 0)) := v_X6_drop hs (by grind)
theorem c_X4_hasSheet : Tot mX4_hasSheet 0 0 [vI s] sh mem (Pr sh (Pv (if 0 ≤ s ∧ s < 4 then 1 else 0) mem)) := v_X4_hasSheet (by grind)
theorem c_X10_left (h1 : inR (v - k)) : Tot mX10_left 0 0 [vI v, vI k] SH mem (Pr SH (Pv (max 0 (v - k)) mem)) := v_X10_left (by grind)
end C1
