/-! THE CLASS: small methods of Moment, House, Rows, Shelf, Past -/
def w_X4_begin_12 (h ca wo : Nat)  (sh : Sh) (P : Mem → Prop) (a1 : Int) (mem : Mem) : Prop := WP mX4_begin none 0 0 (Pn sh P) 12 [vR h, vI a1] [] sh mem
set_option maxRecDepth 20000 in
theorem v_X4_begin_12 {h ca wo : Nat}  {sh : Sh} {P : Mem → Prop} {a1 : Int} {mem : Mem} (hs : sh[h]? = some (4, 0, [ca + 1, wo + 1, 0, 0])) (hc : sh[ca]? = some (11, 4, [])) (hw : sh[wo]? = some (11, 4, [])) (H : (4 ≤ a1 → P mem) ∧ (a1 < 4 → (0 ≤ a1) ∧ (∀ m2 : Mem, m2 = mset mem ca a1.toNat (-9) → (∀ m3 : Mem, m3 = mset m2 wo a1.toNat 0 → ((inR (a1 + 1)) ∧ (w_X4_begin_12 h ca wo sh P (a1 + 1) m3)))))) : w_X4_begin_12 h ca wo sh P a1 mem := by
  unfold w_X4_begin_12
  refine q_iload_n dX4_begin_12 rfl ?_
  refine q_iconst dX4_begin_13 (by decide) ?_
  refine q_icmp_ge (tgt := 38) dX4_begin_14 (by decide) (fun c14 => ?_) (fun c14 => ?_)
  · have H := H.1 c14
    exact q_vret dX4_begin_38 rfl ⟨rfl, rfl, H⟩
  · have H := H.2 c14
    refine q_aload_n dX4_begin_17 rfl ?_
    refine q_getr (r := ca) dX4_begin_18 lf_RX4_9 hs rfl rfl ?_
    refine q_iload_n dX4_begin_21 rfl ?_
    refine q_bipush dX4_begin_22 rfl (by decide) ?_
    obtain ⟨h1, H⟩ := H
    refine q_iast dX4_begin_24 hc h1 c14 ?_
    have H := H _ rfl
    refine q_aload_n dX4_begin_25 rfl ?_
    refine q_getr (r := wo) dX4_begin_26 lf_RX4_15 hs rfl rfl ?_
    refine q_iload_n dX4_begin_29 rfl ?_
    refine q_iconst dX4_begin_30 (by decide) ?_
    refine q_iast dX4_begin_31 hw h1 c14 ?_
    have H := H _ rfl
    obtain ⟨h4, H⟩ := H
    refine q_iinc dX4_begin_32 rfl h4 rfl ?_
    refine q_goto (tgt := 12) dX4_begin_35 (by decide) ?_
    exact H
set_option maxRecDepth 20000 in
theorem v_X4_begin {h ca wo : Nat}  {sh : Sh} {P : Mem → Prop} {mem : Mem} (hs : sh[h]? = some (4, 0, [ca + 1, wo + 1, 0, 0])) (hc : sh[ca]? = some (11, 4, [])) (hw : sh[wo]? = some (11, 4, [])) (H : ∀ m1 : Mem, m1 = (mset mem h 2 0) → (∀ m2 : Mem, m2 = (mset m1 h 3 0) → (w_X4_begin_12 h ca wo sh P 0 m2))) : Tot mX4_begin 0 0 [vR h] sh mem (Pn sh P) := by
  refine Tot.of rfl (Nat.le_of_ble_eq_true rfl) (by simp [isJ]) (ls := [vR h, vJ 0]) rfl ?_
  refine q_aload_n dX4_begin_0 rfl ?_
  refine q_iconst dX4_begin_1 (by decide) ?_
  refine q_puti dX4_begin_2 lf_RX4_21 hs rfl (Or.inl rfl) fit_int ?_
  have H := H _ rfl
  refine q_aload_n dX4_begin_5 rfl ?_
  refine q_iconst dX4_begin_6 (by decide) ?_
  refine q_puti dX4_begin_7 lf_RX4_25 hs rfl (Or.inl rfl) fit_int ?_
  have H := H _ rfl
  refine q_iconst dX4_begin_10 (by decide) ?_
  refine q_istore_n dX4_begin_11 (by decide) rfl ?_
  exact H

def w_X4_copyFrom_18 (P : Mem → Prop) (a2 : Int) (mem : Mem) : Prop := WP mX4_copyFrom none 0 0 (Pn SH P) 18 [vR 21, vR 18, vI a2] [] SH mem
set_option maxRecDepth 20000 in
theorem v_X4_copyFrom_18 {P : Mem → Prop} {a2 : Int} {mem : Mem}  (H : (4 ≤ a2 → P mem) ∧ (a2 < 4 → (0 ≤ a2) ∧ (∀ m2 : Mem, m2 = mset mem 22 a2.toNat (mem 19 a2.toNat) → (∀ m3 : Mem, m3 = mset m2 23 a2.toNat (m2 20 a2.toNat) → ((inR (a2 + 1)) ∧ (w_X4_copyFrom_18 P (a2 + 1) m3)))))) : w_X4_copyFrom_18 P a2 mem := by
  unfold w_X4_copyFrom_18
  refine q_iload_n dX4_copyFrom_18 rfl ?_
  refine q_iconst dX4_copyFrom_19 (by decide) ?_
  refine q_icmp_ge (tgt := 53) dX4_copyFrom_20 (by decide) (fun c20 => ?_) (fun c20 => ?_)
  · have H := H.1 c20
    exact q_vret dX4_copyFrom_53 rfl ⟨rfl, rfl, H⟩
  · have H := H.2 c20
    refine q_aload_n dX4_copyFrom_23 rfl ?_
    refine q_getr (r := 22) dX4_copyFrom_24 lf_RX4_9 s21 rfl rfl ?_
    refine q_iload_n dX4_copyFrom_27 rfl ?_
    refine q_aload_n dX4_copyFrom_28 rfl ?_
    refine q_getr (r := 19) dX4_copyFrom_29 lf_RX4_9 s18 rfl rfl ?_
    refine q_iload_n dX4_copyFrom_32 rfl ?_
    obtain ⟨h1, H⟩ := H
    refine q_iald dX4_copyFrom_33 s19 h1 c20 ?_
    refine q_iast dX4_copyFrom_34 s22 h1 c20 ?_
    have H := H _ rfl
    refine q_aload_n dX4_copyFrom_35 rfl ?_
    refine q_getr (r := 23) dX4_copyFrom_36 lf_RX4_15 s21 rfl rfl ?_
    refine q_iload_n dX4_copyFrom_39 rfl ?_
    refine q_aload_n dX4_copyFrom_40 rfl ?_
    refine q_getr (r := 20) dX4_copyFrom_41 lf_RX4_15 s18 rfl rfl ?_
    refine q_iload_n dX4_copyFrom_44 rfl ?_
    refine q_iald dX4_copyFrom_45 s20 h1 c20 ?_
    refine q_iast dX4_copyFrom_46 s23 h1 c20 ?_
    have H := H _ rfl
    obtain ⟨h4, H⟩ := H
    refine q_iinc dX4_copyFrom_47 rfl h4 rfl ?_
    refine q_goto (tgt := 18) dX4_copyFrom_50 (by decide) ?_
    exact H
set_option maxRecDepth 20000 in
theorem v_X4_copyFrom {P : Mem → Prop} {mem : Mem}  (H : ∀ m1 : Mem, m1 = (mset mem 21 2 (mem 18 2)) → (∀ m2 : Mem, m2 = (mset m1 21 3 (m1 18 3)) → (w_X4_copyFrom_18 P 0 m2))) : Tot mX4_copyFrom 0 0 [vR 21, vR 18] SH mem (Pn SH P) := by
  refine Tot.of rfl (Nat.le_of_ble_eq_true rfl) (by simp [isJ]) (ls := [vR 21, vR 18, vJ 0]) rfl ?_
  refine q_aload_n dX4_copyFrom_0 rfl ?_
  refine q_aload_n dX4_copyFrom_1 rfl ?_
  refine q_geti dX4_copyFrom_2 lf_RX4_21 s18 rfl ?_
  refine q_puti dX4_copyFrom_5 lf_RX4_21 s21 rfl (Or.inl rfl) fit_int ?_
  have H := H _ rfl
  refine q_aload_n dX4_copyFrom_8 rfl ?_
  refine q_aload_n dX4_copyFrom_9 rfl ?_
  refine q_geti dX4_copyFrom_10 lf_RX4_25 s18 rfl ?_
  refine q_puti dX4_copyFrom_13 lf_RX4_25 s21 rfl (Or.inl rfl) fit_int ?_
  have H := H _ rfl
  refine q_iconst dX4_copyFrom_16 (by decide) ?_
  refine q_istore_n dX4_copyFrom_17 (by decide) rfl ?_
  exact H

def w_X4_laidBits_4 (P : Int → Mem → Prop) (a1 : Int) (a2 : Int) (mem : Mem) : Prop := WP mX4_laidBits none 0 0 (Pr SH P) 4 [vR 18, vI a1, vI a2] [] SH mem
set_option maxRecDepth 20000 in
theorem v_X4_laidBits_4 {P : Int → Mem → Prop} {a1 : Int} {a2 : Int} {mem : Mem}  (H : (4 ≤ a2 → P a1 mem) ∧ (a2 < 4 → (¬ ((0 ≤ a2 ∧ a2 < 4) ∧ ¬ mem 19 a2.toNat = -9) → (inR (a2 + 1)) ∧ (w_X4_laidBits_4 P a1 (a2 + 1) mem)) ∧ (((0 ≤ a2 ∧ a2 < 4) ∧ ¬ mem 19 a2.toNat = -9) → (0 ≤ a2) ∧ ((a2 < 31) ∧ ((0 ≤ a1) ∧ ((0 ≤ ((2 ^ (a2).toNat : Nat) : Int)) ∧ ((inR (a2 + 1)) ∧ (w_X4_laidBits_4 P (((a1).toNat ||| (((2 ^ (a2).toNat : Nat) : Int)).toNat : Nat) : Int) (a2 + 1) mem)))))))) : w_X4_laidBits_4 P a1 a2 mem := by
  unfold w_X4_laidBits_4
  refine q_iload_n dX4_laidBits_4 rfl ?_
  refine q_iconst dX4_laidBits_5 (by decide) ?_
  refine q_icmp_ge (tgt := 29) dX4_laidBits_6 (by decide) (fun c6 => ?_) (fun c6 => ?_)
  · have H := H.1 c6
    refine q_iload_n dX4_laidBits_29 rfl ?_
    exact q_iret dX4_laidBits_30 rfl ⟨_, rfl, rfl, H⟩
  · have H := H.2 c6
    refine q_aload_n dX4_laidBits_9 rfl ?_
    refine q_iload_n dX4_laidBits_10 rfl ?_
    refine q_cVi (as := [vI _]) dX4_laidBits_11 kmX4_isLaid kvX4_isLaid lm_RX4_36 ⟨by decide, by decide⟩ s18 ⟨by decide, rfl⟩ rfl rfl (Nat.le_of_ble_eq_true rfl) (c_X4_isLaid s18 s19 s20) (fun v m1 hq => ?_)
    obtain ⟨rfl, rfl⟩ := hq
    refine q_if_eq (tgt := 23) dX4_laidBits_14 (by decide) (fun c14 => ?_) (fun c14 => ?_)
    · have H := H.1 (b_no c14)
      obtain ⟨h1, H⟩ := H
      refine q_iinc dX4_laidBits_23 rfl h1 rfl ?_
      refine q_goto (tgt := 4) dX4_laidBits_26 (by decide) ?_
      exact H
    · have H := H.2 (b_yes c14)
      refine q_iload_n dX4_laidBits_17 rfl ?_
      refine q_iconst dX4_laidBits_18 (by decide) ?_
      refine q_iload_n dX4_laidBits_19 rfl ?_
      obtain ⟨h2, H⟩ := H
      obtain ⟨h3, H⟩ := H
      refine q_shl1 dX4_laidBits_20 h2 h3 ?_
      obtain ⟨h4, H⟩ := H
      obtain ⟨h5, H⟩ := H
      refine q_ior dX4_laidBits_21 h4 h5 ?_
      refine q_istore_n dX4_laidBits_22 (by decide) rfl ?_
      obtain ⟨h6, H⟩ := H
      refine q_iinc dX4_laidBits_23 rfl h6 rfl ?_
      refine q_goto (tgt := 4) dX4_laidBits_26 (by decide) ?_
      exact H
set_option maxRecDepth 20000 in
theorem v_X4_laidBits {P : Int → Mem → Prop} {mem : Mem}  (H : w_X4_laidBits_4 P 0 0 mem) : Tot mX4_laidBits 0 0 [vR 18] SH mem (Pr SH P) := by
  refine Tot.of rfl (Nat.le_of_ble_eq_true rfl) (by simp [isJ]) (ls := [vR 18, vJ 0, vJ 0]) rfl ?_
  refine q_iconst dX4_laidBits_0 (by decide) ?_
  refine q_istore_n dX4_laidBits_1 (by decide) rfl ?_
  refine q_iconst dX4_laidBits_2 (by decide) ?_
  refine q_istore_n dX4_laidBits_3 (by decide) rfl ?_
  exact H

set_option maxRecDepth 20000 in
theorem v_X3_form {h n : Nat} {rs : List Nat} {w d : Int} {sh : Sh} {P : Mem → Prop} {mem : Mem} (hs : sh[h]? = some (3, n, rs)) (H : ∀ m1 : Mem, m1 = (mset mem h 3 w) → (∀ m2 : Mem, m2 = (mset m1 h 4 d) → ((inR (w * d)) ∧ (∀ m4 : Mem, m4 = (mset m2 h 5 (min 12 (w * d))) → (P m4))))) : Tot mX3_form 0 0 [vR h, vI w, vI d] sh mem (Pn sh P) := by
  refine Tot.of rfl (Nat.le_of_ble_eq_true rfl) (by simp [isJ]) (ls := [vR h, vI w, vI d]) rfl ?_
  refine q_aload_n dX3_form_0 rfl ?_
  refine q_iload_n dX3_form_1 rfl ?_
  refine q_puti dX3_form_2 lf_RX3_44 hs rfl (Or.inl rfl) fit_int ?_
  have H := H _ rfl
  refine q_aload_n dX3_form_5 rfl ?_
  refine q_iload_n dX3_form_6 rfl ?_
  refine q_puti dX3_form_7 lf_RX3_47 hs rfl (Or.inl rfl) fit_int ?_
  have H := H _ rfl
  refine q_aload_n dX3_form_10 rfl ?_
  refine q_bipush dX3_form_11 rfl (by decide) ?_
  refine q_iload_n dX3_form_13 rfl ?_
  refine q_iload_n dX3_form_14 rfl ?_
  obtain ⟨h3, H⟩ := H
  refine q_imul dX3_form_15 h3 ?_
  refine q_min dX3_form_16 lm_RX3_54 k_min (by decide) (Nat.le_of_ble_eq_true rfl) ?_
  refine q_puti dX3_form_19 lf_RX3_60 hs rfl (Or.inl rfl) fit_int ?_
  have H := H _ rfl
  exact q_vret dX3_form_22 rfl ⟨rfl, rfl, H⟩

set_option maxRecDepth 20000 in
theorem v_X7_hasPlace {h nb n : Nat} {p : Int} {sh : Sh} {P : Int → Mem → Prop} {mem : Mem} (hs : sh[h]? = some (7, 0, [0, nb + 1])) (hn : sh[nb]? = some (11, n, [])) (H : (p < 0 → P 0 mem) ∧ (0 ≤ p → ((mem h 0) ≤ p → P 0 mem) ∧ (p < (mem h 0) → P 1 mem))) : Tot mX7_hasPlace 0 0 [vR h, vI p] sh mem (Pr sh P) := by
  refine Tot.of rfl (Nat.le_of_ble_eq_true rfl) (by simp [isJ]) (ls := [vR h, vI p]) rfl ?_
  refine q_iload_n dX7_hasPlace_0 rfl ?_
  refine q_if_lt (tgt := 16) dX7_hasPlace_1 (by decide) (fun c1 => ?_) (fun c1 => ?_)
  · have H := H.1 c1
    refine q_iconst dX7_hasPlace_16 (by decide) ?_
    exact q_zret dX7_hasPlace_17 rfl (by decide) ⟨_, rfl, rfl, H⟩
  · have H := H.2 c1
    refine q_iload_n dX7_hasPlace_4 rfl ?_
    refine q_aload_n dX7_hasPlace_5 rfl ?_
    refine q_geti dX7_hasPlace_6 lf_RX7_15 hs rfl ?_
    refine q_icmp_ge (tgt := 16) dX7_hasPlace_9 (by decide) (fun c9 => ?_) (fun c9 => ?_)
    · have H := H.1 c9
      refine q_iconst dX7_hasPlace_16 (by decide) ?_
      exact q_zret dX7_hasPlace_17 rfl (by decide) ⟨_, rfl, rfl, H⟩
    · have H := H.2 c9
      refine q_iconst dX7_hasPlace_12 (by decide) ?_
      refine q_goto (tgt := 17) dX7_hasPlace_13 (by decide) ?_
      exact q_zret dX7_hasPlace_17 rfl (by decide) ⟨_, rfl, rfl, H⟩


theorem c_X7_hasPlace {sh : Sh} {mem : Mem} {h nb n : Nat} {p : Int} (hs : sh[h]? = some (7, 0, [0, nb + 1])) (hn : sh[nb]? = some (11, n, [])) : Tot mX7_hasPlace 0 0 [vR h, vI p] sh mem (Pr sh (Pv (if 0 ≤ p ∧ p < mem h 0 then 1 else 0) mem)) := v_X7_hasPlace hs hn (by grind)
theorem c_X3_form {sh : Sh} {mem : Mem} {h n : Nat} {rs : List Nat} {w d : Int} (hs : sh[h]? = some (3, n, rs)) (hb : inR (w * d)) : Tot mX3_form 0 0 [vR h, vI w, vI d] sh mem (Pn sh (fun m => m = mset (mset (mset mem h 3 w) h 4 d) h 5 (min 12 (w * d)))) := v_X3_form hs (fun m1 e1 m2 e2 => ⟨hb, fun m4 e4 => by rw [e4, e2, e1]⟩)
def w_X7_put_25_39 (p : Int) (P : Mem → Prop) (a3 : Int) (a4 : Int) (mem : Mem) : Prop := WP mX7_put none 0 0 (Pn SH P) 39 [vR 25, vI p, vR 18, vI a3, vI a4] [] SH mem
set_option maxRecDepth 20000 in
theorem v_X7_put_25_39 {p : Int} {P : Mem → Prop} {a3 : Int} {a4 : Int} {mem : Mem}  (H : (4 ≤ a4 → P mem) ∧ (a4 < 4 → (inR (a3 + 2)) ∧ ((inR ((a3 + 2) + a4)) ∧ ((0 ≤ ((a3 + 2) + a4)) ∧ ((((a3 + 2) + a4) < 100) ∧ (∀ m5 : Mem, m5 = mset mem 26 ((a3 + 2) + a4).toNat (if 0 ≤ a4 ∧ a4 < 4 then mem 19 a4.toNat else -9) → ((inR ((a3 + 2) + 4)) ∧ ((inR (((a3 + 2) + 4) + a4)) ∧ ((0 ≤ (((a3 + 2) + 4) + a4)) ∧ (((((a3 + 2) + 4) + a4) < 100) ∧ (∀ m10 : Mem, m10 = mset m5 26 (((a3 + 2) + 4) + a4).toNat (if 0 ≤ a4 ∧ a4 < 4 then m5 20 a4.toNat else 0) → ((inR (a4 + 1)) ∧ (w_X7_put_25_39 p P a3 (a4 + 1) m10))))))))))))) : w_X7_put_25_39 p P a3 a4 mem := by
  unfold w_X7_put_25_39
  refine q_iload dX7_put_39 rfl ?_
  refine q_iconst dX7_put_41 (by decide) ?_
  refine q_icmp_ge (tgt := 87) dX7_put_42 (by decide) (fun c42 => ?_) (fun c42 => ?_)
  · have H := H.1 c42
    exact q_vret dX7_put_87 rfl ⟨rfl, rfl, H⟩
  · have H := H.2 c42
    refine q_aload_n dX7_put_45 rfl ?_
    refine q_getr (r := 26) dX7_put_46 lf_RX7_21 s25 rfl rfl ?_
    refine q_iload_n dX7_put_49 rfl ?_
    refine q_iconst dX7_put_50 (by decide) ?_
    obtain ⟨h1, H⟩ := H
    refine q_iadd dX7_put_51 h1 ?_
    refine q_iload dX7_put_52 rfl ?_
    obtain ⟨h2, H⟩ := H
    refine q_iadd dX7_put_54 h2 ?_
    refine q_aload_n dX7_put_55 rfl ?_
    refine q_iload dX7_put_56 rfl ?_
    refine q_cVi (as := [vI _]) dX7_put_58 kmX4_cellOf kvX4_cellOf lm_RX7_37 ⟨by decide, by decide⟩ s18 ⟨by decide, rfl⟩ rfl rfl (Nat.le_of_ble_eq_true rfl) (c_X4_cellOf s18 s19 s20) (fun v m1 hq => ?_)
    obtain ⟨rfl, rfl⟩ := hq
    obtain ⟨h3, H⟩ := H
    obtain ⟨h4, H⟩ := H
    refine q_iast dX7_put_61 s26 h3 h4 ?_
    have H := H _ rfl
    refine q_aload_n dX7_put_62 rfl ?_
    refine q_getr (r := 26) dX7_put_63 lf_RX7_21 s25 rfl rfl ?_
    refine q_iload_n dX7_put_66 rfl ?_
    refine q_iconst dX7_put_67 (by decide) ?_
    refine q_iadd dX7_put_68 h1 ?_
    refine q_iconst dX7_put_69 (by decide) ?_
    obtain ⟨h6, H⟩ := H
    refine q_iadd dX7_put_70 h6 ?_
    refine q_iload dX7_put_71 rfl ?_
    obtain ⟨h7, H⟩ := H
    refine q_iadd dX7_put_73 h7 ?_
    refine q_aload_n dX7_put_74 rfl ?_
    refine q_iload dX7_put_75 rfl ?_
    refine q_cVi (as := [vI _]) dX7_put_77 kmX4_wornOf kvX4_wornOf lm_RX7_41 ⟨by decide, by decide⟩ s18 ⟨by decide, rfl⟩ rfl rfl (Nat.le_of_ble_eq_true rfl) (c_X4_wornOf s18 s19 s20) (fun v m1 hq => ?_)
    obtain ⟨rfl, rfl⟩ := hq
    obtain ⟨h8, H⟩ := H
    obtain ⟨h9, H⟩ := H
    refine q_iast dX7_put_80 s26 h8 h9 ?_
    have H := H _ rfl
    obtain ⟨h11, H⟩ := H
    refine q_iinc dX7_put_81 rfl h11 rfl ?_
    refine q_goto (tgt := 39) dX7_put_84 (by decide) ?_
    exact H
set_option maxRecDepth 20000 in
theorem v_X7_put_25 {p : Int} {P : Mem → Prop} {mem : Mem}  (H : ((0 ≤ p ∧ p < mem 25 0) → (inR (p * 10)) ∧ ((0 ≤ (p * 10)) ∧ (((p * 10) < 100) ∧ (∀ m4 : Mem, m4 = mset mem 26 (p * 10).toNat (mem 18 2) → ((inR ((p * 10) + 1)) ∧ ((0 ≤ ((p * 10) + 1)) ∧ ((((p * 10) + 1) < 100) ∧ (∀ m8 : Mem, m8 = mset m4 26 ((p * 10) + 1).toNat (m4 18 3) → (w_X7_put_25_39 p P (p * 10) 0 m8))))))))) ∧ (¬ (0 ≤ p ∧ p < mem 25 0) → P mem)) : Tot mX7_put 0 0 [vR 25, vI p, vR 18] SH mem (Pn SH P) := by
  refine Tot.of rfl (Nat.le_of_ble_eq_true rfl) (by simp [isJ]) (ls := [vR 25, vI p, vR 18, vJ 0, vJ 0]) rfl ?_
  refine q_aload_n dX7_put_0 rfl ?_
  refine q_iload_n dX7_put_1 rfl ?_
  refine q_cVi (as := [vI _]) dX7_put_2 kmX7_hasPlace kvX7_hasPlace lm_RX7_25 ⟨by decide, by decide⟩ s25 ⟨by decide, rfl⟩ rfl rfl (Nat.le_of_ble_eq_true rfl) (c_X7_hasPlace s25 s26) (fun v m1 hq => ?_)
  obtain ⟨rfl, rfl⟩ := hq
  refine q_if_ne (tgt := 9) dX7_put_5 (by decide) (fun c5 => ?_) (fun c5 => ?_)
  · have H := H.1 (b_yes c5)
    refine q_iload_n dX7_put_9 rfl ?_
    refine q_bipush dX7_put_10 rfl (by decide) ?_
    obtain ⟨h1, H⟩ := H
    refine q_imul dX7_put_12 h1 ?_
    refine q_istore_n dX7_put_13 (by decide) rfl ?_
    refine q_aload_n dX7_put_14 rfl ?_
    refine q_getr (r := 26) dX7_put_15 lf_RX7_21 s25 rfl rfl ?_
    refine q_iload_n dX7_put_18 rfl ?_
    refine q_aload_n dX7_put_19 rfl ?_
    refine q_geti dX7_put_20 lf_RX7_29 s18 rfl ?_
    obtain ⟨h2, H⟩ := H
    obtain ⟨h3, H⟩ := H
    refine q_iast dX7_put_23 s26 h2 h3 ?_
    have H := H _ rfl
    refine q_aload_n dX7_put_24 rfl ?_
    refine q_getr (r := 26) dX7_put_25 lf_RX7_21 s25 rfl rfl ?_
    refine q_iload_n dX7_put_28 rfl ?_
    refine q_iconst dX7_put_29 (by decide) ?_
    obtain ⟨h5, H⟩ := H
    refine q_iadd dX7_put_30 h5 ?_
    refine q_aload_n dX7_put_31 rfl ?_
    refine q_geti dX7_put_32 lf_RX7_34 s18 rfl ?_
    obtain ⟨h6, H⟩ := H
    obtain ⟨h7, H⟩ := H
    refine q_iast dX7_put_35 s26 h6 h7 ?_
    have H := H _ rfl
    refine q_iconst dX7_put_36 (by decide) ?_
    refine q_istore dX7_put_37 (by decide) rfl ?_
    exact H
  · have H := H.2 (b_no c5)
    exact q_vret dX7_put_8 rfl ⟨rfl, rfl, H⟩

def w_X7_bring_25_39 (p : Int) (P : Mem → Prop) (a3 : Int) (a4 : Int) (mem : Mem) : Prop := WP mX7_bring none 0 0 (Pn SH P) 39 [vR 25, vI p, vR 18, vI a3, vI a4] [] SH mem
set_option maxRecDepth 20000 in
theorem v_X7_bring_25_39 {p : Int} {P : Mem → Prop} {a3 : Int} {a4 : Int} {mem : Mem}  (H : (4 ≤ a4 → P mem) ∧ (a4 < 4 → (inR (a3 + 2)) ∧ ((inR ((a3 + 2) + a4)) ∧ ((0 ≤ ((a3 + 2) + a4)) ∧ ((((a3 + 2) + a4) < 100) ∧ (∀ m5 : Mem, m5 = (if 0 ≤ a4 ∧ a4 < 4 then mset mem 19 a4.toNat (mem 26 ((a3 + 2) + a4).toNat) else mem) → ((inR ((a3 + 2) + 4)) ∧ ((inR (((a3 + 2) + 4) + a4)) ∧ ((0 ≤ (((a3 + 2) + 4) + a4)) ∧ (((((a3 + 2) + 4) + a4) < 100) ∧ (∀ m10 : Mem, m10 = (if 0 ≤ a4 ∧ a4 < 4 then mset m5 20 a4.toNat (m5 26 (((a3 + 2) + 4) + a4).toNat) else m5) → ((inR (a4 + 1)) ∧ (w_X7_bring_25_39 p P a3 (a4 + 1) m10))))))))))))) : w_X7_bring_25_39 p P a3 a4 mem := by
  unfold w_X7_bring_25_39
  refine q_iload dX7_bring_39 rfl ?_
  refine q_iconst dX7_bring_41 (by decide) ?_
  refine q_icmp_ge (tgt := 87) dX7_bring_42 (by decide) (fun c42 => ?_) (fun c42 => ?_)
  · have H := H.1 c42
    exact q_vret dX7_bring_87 rfl ⟨rfl, rfl, H⟩
  · have H := H.2 c42
    refine q_aload_n dX7_bring_45 rfl ?_
    refine q_iload dX7_bring_46 rfl ?_
    refine q_aload_n dX7_bring_48 rfl ?_
    refine q_getr (r := 26) dX7_bring_49 lf_RX7_21 s25 rfl rfl ?_
    refine q_iload_n dX7_bring_52 rfl ?_
    refine q_iconst dX7_bring_53 (by decide) ?_
    obtain ⟨h1, H⟩ := H
    refine q_iadd dX7_bring_54 h1 ?_
    refine q_iload dX7_bring_55 rfl ?_
    obtain ⟨h2, H⟩ := H
    refine q_iadd dX7_bring_57 h2 ?_
    obtain ⟨h3, H⟩ := H
    obtain ⟨h4, H⟩ := H
    refine q_iald dX7_bring_58 s26 h3 h4 ?_
    refine q_cVn (as := [vI _, vI _]) dX7_bring_59 kmX4_put kvX4_put lm_RX7_44 ⟨by decide, by decide⟩ s18 ⟨by decide, rfl⟩ rfl rfl (Nat.le_of_ble_eq_true rfl) (c_X4_put s18 s19 s20) (fun m1 hq => ?_)
    have H := H m1 hq
    refine q_aload_n dX7_bring_62 rfl ?_
    refine q_iload dX7_bring_63 rfl ?_
    refine q_aload_n dX7_bring_65 rfl ?_
    refine q_getr (r := 26) dX7_bring_66 lf_RX7_21 s25 rfl rfl ?_
    refine q_iload_n dX7_bring_69 rfl ?_
    refine q_iconst dX7_bring_70 (by decide) ?_
    refine q_iadd dX7_bring_71 h1 ?_
    refine q_iconst dX7_bring_72 (by decide) ?_
    obtain ⟨h6, H⟩ := H
    refine q_iadd dX7_bring_73 h6 ?_
    refine q_iload dX7_bring_74 rfl ?_
    obtain ⟨h7, H⟩ := H
    refine q_iadd dX7_bring_76 h7 ?_
    obtain ⟨h8, H⟩ := H
    obtain ⟨h9, H⟩ := H
    refine q_iald dX7_bring_77 s26 h8 h9 ?_
    refine q_cVn (as := [vI _, vI _]) dX7_bring_78 kmX4_wear kvX4_wear lm_RX7_48 ⟨by decide, by decide⟩ s18 ⟨by decide, rfl⟩ rfl rfl (Nat.le_of_ble_eq_true rfl) (c_X4_wear s18 s19 s20) (fun m1 hq => ?_)
    have H := H m1 hq
    obtain ⟨h11, H⟩ := H
    refine q_iinc dX7_bring_81 rfl h11 rfl ?_
    refine q_goto (tgt := 39) dX7_bring_84 (by decide) ?_
    exact H
set_option maxRecDepth 20000 in
theorem v_X7_bring_25 {p : Int} {P : Mem → Prop} {mem : Mem}  (H : ((0 ≤ p ∧ p < mem 25 0) → (inR (p * 10)) ∧ ((0 ≤ (p * 10)) ∧ (((p * 10) < 100) ∧ (∀ m4 : Mem, m4 = (mset mem 18 2 (mem 26 (p * 10).toNat)) → ((inR ((p * 10) + 1)) ∧ ((0 ≤ ((p * 10) + 1)) ∧ ((((p * 10) + 1) < 100) ∧ (∀ m8 : Mem, m8 = (mset m4 18 3 (m4 26 ((p * 10) + 1).toNat)) → (w_X7_bring_25_39 p P (p * 10) 0 m8))))))))) ∧ (¬ (0 ≤ p ∧ p < mem 25 0) → P mem)) : Tot mX7_bring 0 0 [vR 25, vI p, vR 18] SH mem (Pn SH P) := by
  refine Tot.of rfl (Nat.le_of_ble_eq_true rfl) (by simp [isJ]) (ls := [vR 25, vI p, vR 18, vJ 0, vJ 0]) rfl ?_
  refine q_aload_n dX7_bring_0 rfl ?_
  refine q_iload_n dX7_bring_1 rfl ?_
  refine q_cVi (as := [vI _]) dX7_bring_2 kmX7_hasPlace kvX7_hasPlace lm_RX7_25 ⟨by decide, by decide⟩ s25 ⟨by decide, rfl⟩ rfl rfl (Nat.le_of_ble_eq_true rfl) (c_X7_hasPlace s25 s26) (fun v m1 hq => ?_)
  obtain ⟨rfl, rfl⟩ := hq
  refine q_if_ne (tgt := 9) dX7_bring_5 (by decide) (fun c5 => ?_) (fun c5 => ?_)
  · have H := H.1 (b_yes c5)
    refine q_iload_n dX7_bring_9 rfl ?_
    refine q_bipush dX7_bring_10 rfl (by decide) ?_
    obtain ⟨h1, H⟩ := H
    refine q_imul dX7_bring_12 h1 ?_
    refine q_istore_n dX7_bring_13 (by decide) rfl ?_
    refine q_aload_n dX7_bring_14 rfl ?_
    refine q_aload_n dX7_bring_15 rfl ?_
    refine q_getr (r := 26) dX7_bring_16 lf_RX7_21 s25 rfl rfl ?_
    refine q_iload_n dX7_bring_19 rfl ?_
    obtain ⟨h2, H⟩ := H
    obtain ⟨h3, H⟩ := H
    refine q_iald dX7_bring_20 s26 h2 h3 ?_
    refine q_puti dX7_bring_21 lf_RX7_29 s18 rfl (Or.inl rfl) fit_int ?_
    have H := H _ rfl
    refine q_aload_n dX7_bring_24 rfl ?_
    refine q_aload_n dX7_bring_25 rfl ?_
    refine q_getr (r := 26) dX7_bring_26 lf_RX7_21 s25 rfl rfl ?_
    refine q_iload_n dX7_bring_29 rfl ?_
    refine q_iconst dX7_bring_30 (by decide) ?_
    obtain ⟨h5, H⟩ := H
    refine q_iadd dX7_bring_31 h5 ?_
    obtain ⟨h6, H⟩ := H
    obtain ⟨h7, H⟩ := H
    refine q_iald dX7_bring_32 s26 h6 h7 ?_
    refine q_puti dX7_bring_33 lf_RX7_34 s18 rfl (Or.inl rfl) fit_int ?_
    have H := H _ rfl
    refine q_iconst dX7_bring_36 (by decide) ?_
    refine q_istore dX7_bring_37 (by decide) rfl ?_
    exact H
  · have H := H.2 (b_no c5)
    exact q_vret dX7_bring_8 rfl ⟨rfl, rfl, H⟩

def w_X7_put_27_39 (p : Int) (P : Mem → Prop) (a3 : Int) (a4 : Int) (mem : Mem) : Prop := WP mX7_put none 0 0 (Pn SH P) 39 [vR 27, vI p, vR 18, vI a3, vI a4] [] SH mem
set_option maxRecDepth 20000 in
theorem v_X7_put_27_39 {p : Int} {P : Mem → Prop} {a3 : Int} {a4 : Int} {mem : Mem}  (H : (4 ≤ a4 → P mem) ∧ (a4 < 4 → (inR (a3 + 2)) ∧ ((inR ((a3 + 2) + a4)) ∧ ((0 ≤ ((a3 + 2) + a4)) ∧ ((((a3 + 2) + a4) < 20) ∧ (∀ m5 : Mem, m5 = mset mem 28 ((a3 + 2) + a4).toNat (if 0 ≤ a4 ∧ a4 < 4 then mem 19 a4.toNat else -9) → ((inR ((a3 + 2) + 4)) ∧ ((inR (((a3 + 2) + 4) + a4)) ∧ ((0 ≤ (((a3 + 2) + 4) + a4)) ∧ (((((a3 + 2) + 4) + a4) < 20) ∧ (∀ m10 : Mem, m10 = mset m5 28 (((a3 + 2) + 4) + a4).toNat (if 0 ≤ a4 ∧ a4 < 4 then m5 20 a4.toNat else 0) → ((inR (a4 + 1)) ∧ (w_X7_put_27_39 p P a3 (a4 + 1) m10))))))))))))) : w_X7_put_27_39 p P a3 a4 mem := by
  unfold w_X7_put_27_39
  refine q_iload dX7_put_39 rfl ?_
  refine q_iconst dX7_put_41 (by decide) ?_
  refine q_icmp_ge (tgt := 87) dX7_put_42 (by decide) (fun c42 => ?_) (fun c42 => ?_)
  · have H := H.1 c42
    exact q_vret dX7_put_87 rfl ⟨rfl, rfl, H⟩
  · have H := H.2 c42
    refine q_aload_n dX7_put_45 rfl ?_
    refine q_getr (r := 28) dX7_put_46 lf_RX7_21 s27 rfl rfl ?_
    refine q_iload_n dX7_put_49 rfl ?_
    refine q_iconst dX7_put_50 (by decide) ?_
    obtain ⟨h1, H⟩ := H
    refine q_iadd dX7_put_51 h1 ?_
    refine q_iload dX7_put_52 rfl ?_
    obtain ⟨h2, H⟩ := H
    refine q_iadd dX7_put_54 h2 ?_
    refine q_aload_n dX7_put_55 rfl ?_
    refine q_iload dX7_put_56 rfl ?_
    refine q_cVi (as := [vI _]) dX7_put_58 kmX4_cellOf kvX4_cellOf lm_RX7_37 ⟨by decide, by decide⟩ s18 ⟨by decide, rfl⟩ rfl rfl (Nat.le_of_ble_eq_true rfl) (c_X4_cellOf s18 s19 s20) (fun v m1 hq => ?_)
    obtain ⟨rfl, rfl⟩ := hq
    obtain ⟨h3, H⟩ := H
    obtain ⟨h4, H⟩ := H
    refine q_iast dX7_put_61 s28 h3 h4 ?_
    have H := H _ rfl
    refine q_aload_n dX7_put_62 rfl ?_
    refine q_getr (r := 28) dX7_put_63 lf_RX7_21 s27 rfl rfl ?_
    refine q_iload_n dX7_put_66 rfl ?_
    refine q_iconst dX7_put_67 (by decide) ?_
    refine q_iadd dX7_put_68 h1 ?_
    refine q_iconst dX7_put_69 (by decide) ?_
    obtain ⟨h6, H⟩ := H
    refine q_iadd dX7_put_70 h6 ?_
    refine q_iload dX7_put_71 rfl ?_
    obtain ⟨h7, H⟩ := H
    refine q_iadd dX7_put_73 h7 ?_
    refine q_aload_n dX7_put_74 rfl ?_
    refine q_iload dX7_put_75 rfl ?_
    refine q_cVi (as := [vI _]) dX7_put_77 kmX4_wornOf kvX4_wornOf lm_RX7_41 ⟨by decide, by decide⟩ s18 ⟨by decide, rfl⟩ rfl rfl (Nat.le_of_ble_eq_true rfl) (c_X4_wornOf s18 s19 s20) (fun v m1 hq => ?_)
    obtain ⟨rfl, rfl⟩ := hq
    obtain ⟨h8, H⟩ := H
    obtain ⟨h9, H⟩ := H
    refine q_iast dX7_put_80 s28 h8 h9 ?_
    have H := H _ rfl
    obtain ⟨h11, H⟩ := H
    refine q_iinc dX7_put_81 rfl h11 rfl ?_
    refine q_goto (tgt := 39) dX7_put_84 (by decide) ?_
    exact H
set_option maxRecDepth 20000 in
theorem v_X7_put_27 {p : Int} {P : Mem → Prop} {mem : Mem}  (H : ((0 ≤ p ∧ p < mem 27 0) → (inR (p * 10)) ∧ ((0 ≤ (p * 10)) ∧ (((p * 10) < 20) ∧ (∀ m4 : Mem, m4 = mset mem 28 (p * 10).toNat (mem 18 2) → ((inR ((p * 10) + 1)) ∧ ((0 ≤ ((p * 10) + 1)) ∧ ((((p * 10) + 1) < 20) ∧ (∀ m8 : Mem, m8 = mset m4 28 ((p * 10) + 1).toNat (m4 18 3) → (w_X7_put_27_39 p P (p * 10) 0 m8))))))))) ∧ (¬ (0 ≤ p ∧ p < mem 27 0) → P mem)) : Tot mX7_put 0 0 [vR 27, vI p, vR 18] SH mem (Pn SH P) := by
  refine Tot.of rfl (Nat.le_of_ble_eq_true rfl) (by simp [isJ]) (ls := [vR 27, vI p, vR 18, vJ 0, vJ 0]) rfl ?_
  refine q_aload_n dX7_put_0 rfl ?_
  refine q_iload_n dX7_put_1 rfl ?_
  refine q_cVi (as := [vI _]) dX7_put_2 kmX7_hasPlace kvX7_hasPlace lm_RX7_25 ⟨by decide, by decide⟩ s27 ⟨by decide, rfl⟩ rfl rfl (Nat.le_of_ble_eq_true rfl) (c_X7_hasPlace s27 s28) (fun v m1 hq => ?_)
  obtain ⟨rfl, rfl⟩ := hq
  refine q_if_ne (tgt := 9) dX7_put_5 (by decide) (fun c5 => ?_) (fun c5 => ?_)
  · have H := H.1 (b_yes c5)
    refine q_iload_n dX7_put_9 rfl ?_
    refine q_bipush dX7_put_10 rfl (by decide) ?_
    obtain ⟨h1, H⟩ := H
    refine q_imul dX7_put_12 h1 ?_
    refine q_istore_n dX7_put_13 (by decide) rfl ?_
    refine q_aload_n dX7_put_14 rfl ?_
    refine q_getr (r := 28) dX7_put_15 lf_RX7_21 s27 rfl rfl ?_
    refine q_iload_n dX7_put_18 rfl ?_
    refine q_aload_n dX7_put_19 rfl ?_
    refine q_geti dX7_put_20 lf_RX7_29 s18 rfl ?_
    obtain ⟨h2, H⟩ := H
    obtain ⟨h3, H⟩ := H
    refine q_iast dX7_put_23 s28 h2 h3 ?_
    have H := H _ rfl
    refine q_aload_n dX7_put_24 rfl ?_
    refine q_getr (r := 28) dX7_put_25 lf_RX7_21 s27 rfl rfl ?_
    refine q_iload_n dX7_put_28 rfl ?_
    refine q_iconst dX7_put_29 (by decide) ?_
    obtain ⟨h5, H⟩ := H
    refine q_iadd dX7_put_30 h5 ?_
    refine q_aload_n dX7_put_31 rfl ?_
    refine q_geti dX7_put_32 lf_RX7_34 s18 rfl ?_
    obtain ⟨h6, H⟩ := H
    obtain ⟨h7, H⟩ := H
    refine q_iast dX7_put_35 s28 h6 h7 ?_
    have H := H _ rfl
    refine q_iconst dX7_put_36 (by decide) ?_
    refine q_istore dX7_put_37 (by decide) rfl ?_
    exact H
  · have H := H.2 (b_no c5)
    exact q_vret dX7_put_8 rfl ⟨rfl, rfl, H⟩

def w_X7_bring_27_39 (p : Int) (P : Mem → Prop) (a3 : Int) (a4 : Int) (mem : Mem) : Prop := WP mX7_bring none 0 0 (Pn SH P) 39 [vR 27, vI p, vR 18, vI a3, vI a4] [] SH mem
set_option maxRecDepth 20000 in
theorem v_X7_bring_27_39 {p : Int} {P : Mem → Prop} {a3 : Int} {a4 : Int} {mem : Mem}  (H : (4 ≤ a4 → P mem) ∧ (a4 < 4 → (inR (a3 + 2)) ∧ ((inR ((a3 + 2) + a4)) ∧ ((0 ≤ ((a3 + 2) + a4)) ∧ ((((a3 + 2) + a4) < 20) ∧ (∀ m5 : Mem, m5 = (if 0 ≤ a4 ∧ a4 < 4 then mset mem 19 a4.toNat (mem 28 ((a3 + 2) + a4).toNat) else mem) → ((inR ((a3 + 2) + 4)) ∧ ((inR (((a3 + 2) + 4) + a4)) ∧ ((0 ≤ (((a3 + 2) + 4) + a4)) ∧ (((((a3 + 2) + 4) + a4) < 20) ∧ (∀ m10 : Mem, m10 = (if 0 ≤ a4 ∧ a4 < 4 then mset m5 20 a4.toNat (m5 28 (((a3 + 2) + 4) + a4).toNat) else m5) → ((inR (a4 + 1)) ∧ (w_X7_bring_27_39 p P a3 (a4 + 1) m10))))))))))))) : w_X7_bring_27_39 p P a3 a4 mem := by
  unfold w_X7_bring_27_39
  refine q_iload dX7_bring_39 rfl ?_
  refine q_iconst dX7_bring_41 (by decide) ?_
  refine q_icmp_ge (tgt := 87) dX7_bring_42 (by decide) (fun c42 => ?_) (fun c42 => ?_)
  · have H := H.1 c42
    exact q_vret dX7_bring_87 rfl ⟨rfl, rfl, H⟩
  · have H := H.2 c42
    refine q_aload_n dX7_bring_45 rfl ?_
    refine q_iload dX7_bring_46 rfl ?_
    refine q_aload_n dX7_bring_48 rfl ?_
    refine q_getr (r := 28) dX7_bring_49 lf_RX7_21 s27 rfl rfl ?_
    refine q_iload_n dX7_bring_52 rfl ?_
    refine q_iconst dX7_bring_53 (by decide) ?_
    obtain ⟨h1, H⟩ := H
    refine q_iadd dX7_bring_54 h1 ?_
    refine q_iload dX7_bring_55 rfl ?_
    obtain ⟨h2, H⟩ := H
    refine q_iadd dX7_bring_57 h2 ?_
    obtain ⟨h3, H⟩ := H
    obtain ⟨h4, H⟩ := H
    refine q_iald dX7_bring_58 s28 h3 h4 ?_
    refine q_cVn (as := [vI _, vI _]) dX7_bring_59 kmX4_put kvX4_put lm_RX7_44 ⟨by decide, by decide⟩ s18 ⟨by decide, rfl⟩ rfl rfl (Nat.le_of_ble_eq_true rfl) (c_X4_put s18 s19 s20) (fun m1 hq => ?_)
    have H := H m1 hq
    refine q_aload_n dX7_bring_62 rfl ?_
    refine q_iload dX7_bring_63 rfl ?_
    refine q_aload_n dX7_bring_65 rfl ?_
    refine q_getr (r := 28) dX7_bring_66 lf_RX7_21 s27 rfl rfl ?_
    refine q_iload_n dX7_bring_69 rfl ?_
    refine q_iconst dX7_bring_70 (by decide) ?_
    refine q_iadd dX7_bring_71 h1 ?_
    refine q_iconst dX7_bring_72 (by decide) ?_
    obtain ⟨h6, H⟩ := H
    refine q_iadd dX7_bring_73 h6 ?_
    refine q_iload dX7_bring_74 rfl ?_
    obtain ⟨h7, H⟩ := H
    refine q_iadd dX7_bring_76 h7 ?_
    obtain ⟨h8, H⟩ := H
    obtain ⟨h9, H⟩ := H
    refine q_iald dX7_bring_77 s28 h8 h9 ?_
    refine q_cVn (as := [vI _, vI _]) dX7_bring_78 kmX4_wear kvX4_wear lm_RX7_48 ⟨by decide, by decide⟩ s18 ⟨by decide, rfl⟩ rfl rfl (Nat.le_of_ble_eq_true rfl) (c_X4_wear s18 s19 s20) (fun m1 hq => ?_)
    have H := H m1 hq
    obtain ⟨h11, H⟩ := H
    refine q_iinc dX7_bring_81 rfl h11 rfl ?_
    refine q_goto (tgt := 39) dX7_bring_84 (by decide) ?_
    exact H
set_option maxRecDepth 20000 in
theorem v_X7_bring_27 {p : Int} {P : Mem → Prop} {mem : Mem}  (H : ((0 ≤ p ∧ p < mem 27 0) → (inR (p * 10)) ∧ ((0 ≤ (p * 10)) ∧ (((p * 10) < 20) ∧ (∀ m4 : Mem, m4 = (mset mem 18 2 (mem 28 (p * 10).toNat)) → ((inR ((p * 10) + 1)) ∧ ((0 ≤ ((p * 10) + 1)) ∧ ((((p * 10) + 1) < 20) ∧ (∀ m8 : Mem, m8 = (mset m4 18 3 (m4 28 ((p * 10) + 1).toNat)) → (w_X7_bring_27_39 p P (p * 10) 0 m8))))))))) ∧ (¬ (0 ≤ p ∧ p < mem 27 0) → P mem)) : Tot mX7_bring 0 0 [vR 27, vI p, vR 18] SH mem (Pn SH P) := by
  refine Tot.of rfl (Nat.le_of_ble_eq_true rfl) (by simp [isJ]) (ls := [vR 27, vI p, vR 18, vJ 0, vJ 0]) rfl ?_
  refine q_aload_n dX7_bring_0 rfl ?_
  refine q_iload_n dX7_bring_1 rfl ?_
  refine q_cVi (as := [vI _]) dX7_bring_2 kmX7_hasPlace kvX7_hasPlace lm_RX7_25 ⟨by decide, by decide⟩ s27 ⟨by decide, rfl⟩ rfl rfl (Nat.le_of_ble_eq_true rfl) (c_X7_hasPlace s27 s28) (fun v m1 hq => ?_)
  obtain ⟨rfl, rfl⟩ := hq
  refine q_if_ne (tgt := 9) dX7_bring_5 (by decide) (fun c5 => ?_) (fun c5 => ?_)
  · have H := H.1 (b_yes c5)
    refine q_iload_n dX7_bring_9 rfl ?_
    refine q_bipush dX7_bring_10 rfl (by decide) ?_
    obtain ⟨h1, H⟩ := H
    refine q_imul dX7_bring_12 h1 ?_
    refine q_istore_n dX7_bring_13 (by decide) rfl ?_
    refine q_aload_n dX7_bring_14 rfl ?_
    refine q_aload_n dX7_bring_15 rfl ?_
    refine q_getr (r := 28) dX7_bring_16 lf_RX7_21 s27 rfl rfl ?_
    refine q_iload_n dX7_bring_19 rfl ?_
    obtain ⟨h2, H⟩ := H
    obtain ⟨h3, H⟩ := H
    refine q_iald dX7_bring_20 s28 h2 h3 ?_
    refine q_puti dX7_bring_21 lf_RX7_29 s18 rfl (Or.inl rfl) fit_int ?_
    have H := H _ rfl
    refine q_aload_n dX7_bring_24 rfl ?_
    refine q_aload_n dX7_bring_25 rfl ?_
    refine q_getr (r := 28) dX7_bring_26 lf_RX7_21 s27 rfl rfl ?_
    refine q_iload_n dX7_bring_29 rfl ?_
    refine q_iconst dX7_bring_30 (by decide) ?_
    obtain ⟨h5, H⟩ := H
    refine q_iadd dX7_bring_31 h5 ?_
    obtain ⟨h6, H⟩ := H
    obtain ⟨h7, H⟩ := H
    refine q_iald dX7_bring_32 s28 h6 h7 ?_
    refine q_puti dX7_bring_33 lf_RX7_34 s18 rfl (Or.inl rfl) fit_int ?_
    have H := H _ rfl
    refine q_iconst dX7_bring_36 (by decide) ?_
    refine q_istore dX7_bring_37 (by decide) rfl ?_
    exact H
  · have H := H.2 (b_no c5)
    exact q_vret dX7_bring_8 rfl ⟨rfl, rfl, H⟩


/-- a moment (present) by its ten numbers -/
def momV (m : Mem) (j : Int) : Int := if j = 0 then m 18 2 else if j = 1 then m 18 3 else if j < 6 then m 19 (j - 2).toNat else m 20 (j - 6).toNat
/-- begin: no sheet lies, none is worn -/
theorem beg_loop {sh : Sh} {m0 : Mem} {h ca wo : Nat} (hs : sh[h]? = some (4, 0, [ca + 1, wo + 1, 0, 0])) (hc : sh[ca]? = some (11, 4, [])) (hw : sh[wo]? = some (11, 4, [])) (hne : ca ≠ wo) {P : Mem → Prop} (K : ∀ m, Fr [ca, wo] m0 m → (∀ s : Int, 0 ≤ s → s < 4 → m ca s.toNat = -9 ∧ m wo s.toNat = 0) → P m) :
    ∀ (k : Nat) (a1 : Int) (m : Mem), 0 ≤ a1 → (4 - a1).toNat ≤ k → Fr [ca, wo] m0 m → (∀ s : Int, 0 ≤ s → s < a1 → m ca s.toNat = -9 ∧ m wo s.toNat = 0) → w_X4_begin_12 h ca wo sh P a1 m := by
  intro k
  induction k with
  | zero => intro a1 m h0 hk hF hx; exact v_X4_begin_12 hs hc hw ⟨fun c => K m hF (fun s s0 s1 => hx s s0 (by omega)), fun c => by omega⟩
  | succ k ih =>
    intro a1 m h0 hk hF hx
    refine v_X4_begin_12 hs hc hw ⟨fun c => K m hF (fun s s0 s1 => hx s s0 (by omega)), fun c => ⟨h0, fun m2 h2 m3 h3 => ⟨by omega, ih _ _ (by omega) (by omega) (by rw [h3, h2]; exact (hF.set (by simp)).set (by simp)) (fun s s0 s1 => ?_)⟩⟩⟩
    rw [h3, h2]
    by_cases q : s = a1
    · rw [q, mset_at, if_neg (fun z => hne z.1), mset_eq, mset_eq]
      exact ⟨rfl, rfl⟩
    · have := hx s s0 (by omega)
      rw [mset_at, if_neg (by omega), mset_at, if_neg (by omega), mset_at, if_neg (by omega), mset_at, if_neg (by omega)]
      exact this
theorem c_X4_begin {sh : Sh} {m0 : Mem} {h ca wo : Nat} (hs : sh[h]? = some (4, 0, [ca + 1, wo + 1, 0, 0])) (hc : sh[ca]? = some (11, 4, [])) (hw : sh[wo]? = some (11, 4, [])) (hne : ca ≠ wo := by decide) (h1 : h ≠ ca := by decide) (h2 : h ≠ wo := by decide) : Tot mX4_begin 0 0 [vR h] sh m0 (Pn sh (fun m => Fr [h, ca, wo] m0 m ∧ m h 2 = 0 ∧ m h 3 = 0 ∧ ∀ s : Int, 0 ≤ s → s < 4 → m ca s.toNat = -9 ∧ m wo s.toNat = 0)) := by
  refine v_X4_begin hs hc hw (fun m1 e1 m2 e2 => beg_loop hs hc hw hne (fun m hF hx => ⟨?_, ?_, ?_, hx⟩) _ 0 m2 (by omega) (Nat.le_refl _) Fr.rf (fun s s0 s1 => by omega))
  · intro k hk
    rw [hF k (fun z => hk (by simp at z ⊢; omega)), e2, mset_ne k (fun z => hk (by simp [z])), e1, mset_ne k (fun z => hk (by simp [z]))]
  · rw [hF h (by simp; omega), e2, mset_at, if_neg (by omega), e1, mset_eq]
  · rw [hF h (by simp; omega), e2, mset_eq]

def shuP_25 (p : Int) (m0 m : Mem) : Prop := Fr [26] m0 m ∧ ∀ j : Int, 0 ≤ j → m 26 j.toNat = if 10 * p ≤ j ∧ j < 10 * p + 10 then momV m0 (j - 10 * p) else m0 26 j.toNat
theorem shu_loop_25 {m0 : Mem} {p : Int} (p0 : 0 ≤ p) (p1 : 10 * p + 10 ≤ 100) :
    ∀ (k : Nat) (a4 : Int) (m : Mem), 0 ≤ a4 → a4 ≤ 4 → (4 - a4).toNat ≤ k → Fr [26] m0 m → (∀ j : Int, 0 ≤ j → m 26 j.toNat = if 10 * p ≤ j ∧ j < 10 * p + 10 ∧ (j < 10 * p + 2 + a4 ∨ (10 * p + 6 ≤ j ∧ j < 10 * p + 6 + a4)) then momV m0 (j - 10 * p) else m0 26 j.toNat) → w_X7_put_25_39 p (shuP_25 p m0) (p * 10) a4 m := by
  have hend : ∀ (a4 : Int) (m : Mem), a4 = 4 → Fr [26] m0 m → (∀ j : Int, 0 ≤ j → m 26 j.toNat = if 10 * p ≤ j ∧ j < 10 * p + 10 ∧ (j < 10 * p + 2 + a4 ∨ (10 * p + 6 ≤ j ∧ j < 10 * p + 6 + a4)) then momV m0 (j - 10 * p) else m0 26 j.toNat) → shuP_25 p m0 m := by
    intro a4 m h hF hx
    refine ⟨hF, fun j j0 => ?_⟩
    rw [hx j j0]
    by_cases q : 10 * p ≤ j ∧ j < 10 * p + 10
    · rw [if_pos q, if_pos ⟨q.1, q.2, by omega⟩]
    · rw [if_neg q, if_neg (fun z => q ⟨z.1, z.2.1⟩)]
  intro k
  induction k with
  | zero => intro a4 m h0 h1 hk hF hx; exact v_X7_put_25_39 ⟨fun c => hend a4 m (by omega) hF hx, fun c => by omega⟩
  | succ k ih =>
    intro a4 m h0 h1 hk hF hx
    refine v_X7_put_25_39 ⟨fun c => hend a4 m (by omega) hF hx, fun c => ⟨by omega, by omega, by omega, by omega, fun m5 e5 => ⟨by omega, by omega, by omega, by omega, fun m10 e10 => ⟨by omega, ih _ _ (by omega) (by omega) (by omega) (by rw [e10, e5]; exact (hF.set (by decide)).set (by decide)) (fun j j0 => ?_)⟩⟩⟩⟩
    rw [if_pos ⟨h0, c⟩, hF.at 19] at e5
    have e20 : m5 20 = m0 20 := by rw [e5]; exact (hF.set (c := 26) (by decide)).at 20
    rw [if_pos ⟨h0, c⟩, e20] at e10
    have hv1 : m0 19 a4.toNat = momV m0 (2 + a4) := by
      unfold momV
      rw [if_neg (by omega), if_neg (by omega), if_pos (by omega), show 2 + a4 - 2 = a4 by omega]
    have hv2 : m0 20 a4.toNat = momV m0 (6 + a4) := by
      unfold momV
      rw [if_neg (by omega), if_neg (by omega), if_neg (by omega), show 6 + a4 - 6 = a4 by omega]
    rw [e10, mset_at]
    by_cases q1 : j = p * 10 + 2 + 4 + a4
    · rw [if_pos ⟨rfl, by rw [q1]⟩, if_pos (by omega), hv2, show j - 10 * p = 6 + a4 by omega]
    · rw [if_neg (by omega), e5, mset_at]
      by_cases q2 : j = p * 10 + 2 + a4
      · rw [if_pos ⟨rfl, by rw [q2]⟩, if_pos (by omega), hv1, show j - 10 * p = 2 + a4 by omega]
      · rw [if_neg (by omega), hx j j0]
        by_cases q3 : 10 * p ≤ j ∧ j < 10 * p + 10 ∧ (j < 10 * p + 2 + a4 ∨ (10 * p + 6 ≤ j ∧ j < 10 * p + 6 + a4))
        · rw [if_pos q3, if_pos (by omega)]
        · rw [if_neg q3, if_neg (by omega)]
theorem c_X7_put_25 {m0 : Mem} {p : Int} (p0 : 0 ≤ p) (p1 : 10 * p + 10 ≤ 100) (p2 : p < m0 25 0) : Tot mX7_put 0 0 [vR 25, vI p, vR 18] SH m0 (Pn SH (shuP_25 p m0)) := by
  refine v_X7_put_25 ⟨fun _ => ⟨by omega, by omega, by omega, fun m4 e4 => ⟨by omega, by omega, by omega, fun m8 e8 => ?_⟩⟩, fun c => absurd ⟨p0, p2⟩ c⟩
  have e18 : m4 18 = m0 18 := by rw [e4]; exact mset_ne 18 (by decide)
  refine shu_loop_25 p0 p1 _ 0 m8 (by omega) (by omega) (Nat.le_refl _) (by rw [e8, e4]; exact (Fr.rf.set (by decide)).set (by decide)) (fun j j0 => ?_)
  rw [e8, mset_at, e18]
  by_cases q1 : j = p * 10 + 1
  · rw [if_pos ⟨rfl, by rw [q1]⟩, if_pos (by omega), show j - 10 * p = 1 by omega]
    rfl
  · rw [if_neg (by omega), e4, mset_at]
    by_cases q2 : j = p * 10
    · rw [if_pos ⟨rfl, by rw [q2]⟩, if_pos (by omega), show j - 10 * p = 0 by omega]
      rfl
    · rw [if_neg (by omega), if_neg (by omega)]
def shbP_25 (p : Int) (m0 m : Mem) : Prop := Fr [18, 19, 20] m0 m ∧ ∀ j : Int, 0 ≤ j → j < 10 → momV m j = m0 26 (10 * p + j).toNat
theorem shb_loop_25 {m0 : Mem} {p : Int} (p0 : 0 ≤ p) (p1 : 10 * p + 10 ≤ 100) :
    ∀ (k : Nat) (a4 : Int) (m : Mem), 0 ≤ a4 → a4 ≤ 4 → (4 - a4).toNat ≤ k → Fr [18, 19, 20] m0 m → m 18 2 = m0 26 (10 * p).toNat → m 18 3 = m0 26 (10 * p + 1).toNat → (∀ s : Int, 0 ≤ s → s < a4 → m 19 s.toNat = m0 26 (10 * p + 2 + s).toNat ∧ m 20 s.toNat = m0 26 (10 * p + 6 + s).toNat) → w_X7_bring_25_39 p (shbP_25 p m0) (p * 10) a4 m := by
  have hend : ∀ (a4 : Int) (m : Mem), a4 = 4 → Fr [18, 19, 20] m0 m → m 18 2 = m0 26 (10 * p).toNat → m 18 3 = m0 26 (10 * p + 1).toNat → (∀ s : Int, 0 ≤ s → s < a4 → m 19 s.toNat = m0 26 (10 * p + 2 + s).toNat ∧ m 20 s.toNat = m0 26 (10 * p + 6 + s).toNat) → shbP_25 p m0 m := by
    intro a4 m h hF hd hh hx
    refine ⟨hF, fun j j0 j1 => ?_⟩
    unfold momV
    by_cases q0 : j = 0
    · rw [if_pos q0, hd, q0, show 10 * p + 0 = 10 * p by omega]
    · rw [if_neg q0]
      by_cases q1 : j = 1
      · rw [if_pos q1, hh, q1]
      · rw [if_neg q1]
        by_cases q2 : j < 6
        · rw [if_pos q2, (hx (j - 2) (by omega) (by omega)).1, show 10 * p + 2 + (j - 2) = 10 * p + j by omega]
        · rw [if_neg q2, (hx (j - 6) (by omega) (by omega)).2, show 10 * p + 6 + (j - 6) = 10 * p + j by omega]
  intro k
  induction k with
  | zero => intro a4 m h0 h1 hk hF hd hh hx; exact v_X7_bring_25_39 ⟨fun c => hend a4 m (by omega) hF hd hh hx, fun c => by omega⟩
  | succ k ih =>
    intro a4 m h0 h1 hk hF hd hh hx
    refine v_X7_bring_25_39 ⟨fun c => hend a4 m (by omega) hF hd hh hx, fun c => ⟨by omega, by omega, by omega, by omega, fun m5 e5 => ⟨by omega, by omega, by omega, by omega, fun m10 e10 => ⟨by omega, ?_⟩⟩⟩⟩
    rw [if_pos ⟨h0, c⟩, hF.at 26] at e5
    have eN : m5 26 = m0 26 := by rw [e5]; exact (hF.set (c := 19) (by decide)).at 26
    rw [if_pos ⟨h0, c⟩, eN] at e10
    refine ih _ _ (by omega) (by omega) (by omega) (by rw [e10, e5]; exact (hF.set (by decide)).set (by decide)) (by rw [e10, mset_at, if_neg (by omega), e5, mset_at, if_neg (by omega)]; exact hd) (by rw [e10, mset_at, if_neg (by omega), e5, mset_at, if_neg (by omega)]; exact hh) (fun s s0 s1 => ?_)
    rw [e10, mset_at, if_neg (by omega), mset_at, e5]
    by_cases q : s = a4
    · rw [q, mset_eq, if_pos ⟨rfl, rfl⟩, show p * 10 + 2 + a4 = 10 * p + 2 + a4 by omega, show p * 10 + 2 + 4 + a4 = 10 * p + 6 + a4 by omega]
      exact ⟨rfl, rfl⟩
    · rw [mset_at, if_neg (by omega), if_neg (by omega), mset_at, if_neg (by omega)]
      exact hx s s0 (by omega)
theorem c_X7_bring_25 {m0 : Mem} {p : Int} (p0 : 0 ≤ p) (p1 : 10 * p + 10 ≤ 100) (p2 : p < m0 25 0) : Tot mX7_bring 0 0 [vR 25, vI p, vR 18] SH m0 (Pn SH (shbP_25 p m0)) := by
  refine v_X7_bring_25 ⟨fun _ => ⟨by omega, by omega, by omega, fun m4 e4 => ⟨by omega, by omega, by omega, fun m8 e8 => ?_⟩⟩, fun c => absurd ⟨p0, p2⟩ c⟩
  have eN : m4 26 = m0 26 := by rw [e4]; exact mset_ne 26 (by decide)
  refine shb_loop_25 p0 p1 _ 0 m8 (by omega) (by omega) (Nat.le_refl _) (by rw [e8, e4]; exact (Fr.rf.set (by decide)).set (by decide)) ?_ ?_ (fun s s0 s1 => by omega)
  · rw [e8, mset_at, if_neg (by omega), e4, mset_eq, Int.mul_comm p 10]
  · rw [e8, mset_eq, eN, Int.mul_comm p 10]


def shuP_27 (p : Int) (m0 m : Mem) : Prop := Fr [28] m0 m ∧ ∀ j : Int, 0 ≤ j → m 28 j.toNat = if 10 * p ≤ j ∧ j < 10 * p + 10 then momV m0 (j - 10 * p) else m0 28 j.toNat
theorem shu_loop_27 {m0 : Mem} {p : Int} (p0 : 0 ≤ p) (p1 : 10 * p + 10 ≤ 20) :
    ∀ (k : Nat) (a4 : Int) (m : Mem), 0 ≤ a4 → a4 ≤ 4 → (4 - a4).toNat ≤ k → Fr [28] m0 m → (∀ j : Int, 0 ≤ j → m 28 j.toNat = if 10 * p ≤ j ∧ j < 10 * p + 10 ∧ (j < 10 * p + 2 + a4 ∨ (10 * p + 6 ≤ j ∧ j < 10 * p + 6 + a4)) then momV m0 (j - 10 * p) else m0 28 j.toNat) → w_X7_put_27_39 p (shuP_27 p m0) (p * 10) a4 m := by
  have hend : ∀ (a4 : Int) (m : Mem), a4 = 4 → Fr [28] m0 m → (∀ j : Int, 0 ≤ j → m 28 j.toNat = if 10 * p ≤ j ∧ j < 10 * p + 10 ∧ (j < 10 * p + 2 + a4 ∨ (10 * p + 6 ≤ j ∧ j < 10 * p + 6 + a4)) then momV m0 (j - 10 * p) else m0 28 j.toNat) → shuP_27 p m0 m := by
    intro a4 m h hF hx
    refine ⟨hF, fun j j0 => ?_⟩
    rw [hx j j0]
    by_cases q : 10 * p ≤ j ∧ j < 10 * p + 10
    · rw [if_pos q, if_pos ⟨q.1, q.2, by omega⟩]
    · rw [if_neg q, if_neg (fun z => q ⟨z.1, z.2.1⟩)]
  intro k
  induction k with
  | zero => intro a4 m h0 h1 hk hF hx; exact v_X7_put_27_39 ⟨fun c => hend a4 m (by omega) hF hx, fun c => by omega⟩
  | succ k ih =>
    intro a4 m h0 h1 hk hF hx
    refine v_X7_put_27_39 ⟨fun c => hend a4 m (by omega) hF hx, fun c => ⟨by omega, by omega, by omega, by omega, fun m5 e5 => ⟨by omega, by omega, by omega, by omega, fun m10 e10 => ⟨by omega, ih _ _ (by omega) (by omega) (by omega) (by rw [e10, e5]; exact (hF.set (by decide)).set (by decide)) (fun j j0 => ?_)⟩⟩⟩⟩
    rw [if_pos ⟨h0, c⟩, hF.at 19] at e5
    have e20 : m5 20 = m0 20 := by rw [e5]; exact (hF.set (c := 28) (by decide)).at 20
    rw [if_pos ⟨h0, c⟩, e20] at e10
    have hv1 : m0 19 a4.toNat = momV m0 (2 + a4) := by
      unfold momV
      rw [if_neg (by omega), if_neg (by omega), if_pos (by omega), show 2 + a4 - 2 = a4 by omega]
    have hv2 : m0 20 a4.toNat = momV m0 (6 + a4) := by
      unfold momV
      rw [if_neg (by omega), if_neg (by omega), if_neg (by omega), show 6 + a4 - 6 = a4 by omega]
    rw [e10, mset_at]
    by_cases q1 : j = p * 10 + 2 + 4 + a4
    · rw [if_pos ⟨rfl, by rw [q1]⟩, if_pos (by omega), hv2, show j - 10 * p = 6 + a4 by omega]
    · rw [if_neg (by omega), e5, mset_at]
      by_cases q2 : j = p * 10 + 2 + a4
      · rw [if_pos ⟨rfl, by rw [q2]⟩, if_pos (by omega), hv1, show j - 10 * p = 2 + a4 by omega]
      · rw [if_neg (by omega), hx j j0]
        by_cases q3 : 10 * p ≤ j ∧ j < 10 * p + 10 ∧ (j < 10 * p + 2 + a4 ∨ (10 * p + 6 ≤ j ∧ j < 10 * p + 6 + a4))
        · rw [if_pos q3, if_pos (by omega)]
        · rw [if_neg q3, if_neg (by omega)]
theorem c_X7_put_27 {m0 : Mem} {p : Int} (p0 : 0 ≤ p) (p1 : 10 * p + 10 ≤ 20) (p2 : p < m0 27 0) : Tot mX7_put 0 0 [vR 27, vI p, vR 18] SH m0 (Pn SH (shuP_27 p m0)) := by
  refine v_X7_put_27 ⟨fun _ => ⟨by omega, by omega, by omega, fun m4 e4 => ⟨by omega, by omega, by omega, fun m8 e8 => ?_⟩⟩, fun c => absurd ⟨p0, p2⟩ c⟩
  have e18 : m4 18 = m0 18 := by rw [e4]; exact mset_ne 18 (by decide)
  refine shu_loop_27 p0 p1 _ 0 m8 (by omega) (by omega) (Nat.le_refl _) (by rw [e8, e4]; exact (Fr.rf.set (by decide)).set (by decide)) (fun j j0 => ?_)
  rw [e8, mset_at, e18]
  by_cases q1 : j = p * 10 + 1
  · rw [if_pos ⟨rfl, by rw [q1]⟩, if_pos (by omega), show j - 10 * p = 1 by omega]
    rfl
  · rw [if_neg (by omega), e4, mset_at]
    by_cases q2 : j = p * 10
    · rw [if_pos ⟨rfl, by rw [q2]⟩, if_pos (by omega), show j - 10 * p = 0 by omega]
      rfl
    · rw [if_neg (by omega), if_neg (by omega)]
def shbP_27 (p : Int) (m0 m : Mem) : Prop := Fr [18, 19, 20] m0 m ∧ ∀ j : Int, 0 ≤ j → j < 10 → momV m j = m0 28 (10 * p + j).toNat
theorem shb_loop_27 {m0 : Mem} {p : Int} (p0 : 0 ≤ p) (p1 : 10 * p + 10 ≤ 20) :
    ∀ (k : Nat) (a4 : Int) (m : Mem), 0 ≤ a4 → a4 ≤ 4 → (4 - a4).toNat ≤ k → Fr [18, 19, 20] m0 m → m 18 2 = m0 28 (10 * p).toNat → m 18 3 = m0 28 (10 * p + 1).toNat → (∀ s : Int, 0 ≤ s → s < a4 → m 19 s.toNat = m0 28 (10 * p + 2 + s).toNat ∧ m 20 s.toNat = m0 28 (10 * p + 6 + s).toNat) → w_X7_bring_27_39 p (shbP_27 p m0) (p * 10) a4 m := by
  have hend : ∀ (a4 : Int) (m : Mem), a4 = 4 → Fr [18, 19, 20] m0 m → m 18 2 = m0 28 (10 * p).toNat → m 18 3 = m0 28 (10 * p + 1).toNat → (∀ s : Int, 0 ≤ s → s < a4 → m 19 s.toNat = m0 28 (10 * p + 2 + s).toNat ∧ m 20 s.toNat = m0 28 (10 * p + 6 + s).toNat) → shbP_27 p m0 m := by
    intro a4 m h hF hd hh hx
    refine ⟨hF, fun j j0 j1 => ?_⟩
    unfold momV
    by_cases q0 : j = 0
    · rw [if_pos q0, hd, q0, show 10 * p + 0 = 10 * p by omega]
    · rw [if_neg q0]
      by_cases q1 : j = 1
      · rw [if_pos q1, hh, q1]
      · rw [if_neg q1]
        by_cases q2 : j < 6
        · rw [if_pos q2, (hx (j - 2) (by omega) (by omega)).1, show 10 * p + 2 + (j - 2) = 10 * p + j by omega]
        · rw [if_neg q2, (hx (j - 6) (by omega) (by omega)).2, show 10 * p + 6 + (j - 6) = 10 * p + j by omega]
  intro k
  induction k with
  | zero => intro a4 m h0 h1 hk hF hd hh hx; exact v_X7_bring_27_39 ⟨fun c => hend a4 m (by omega) hF hd hh hx, fun c => by omega⟩
  | succ k ih =>
    intro a4 m h0 h1 hk hF hd hh hx
    refine v_X7_bring_27_39 ⟨fun c => hend a4 m (by omega) hF hd hh hx, fun c => ⟨by omega, by omega, by omega, by omega, fun m5 e5 => ⟨by omega, by omega, by omega, by omega, fun m10 e10 => ⟨by omega, ?_⟩⟩⟩⟩
    rw [if_pos ⟨h0, c⟩, hF.at 28] at e5
    have eN : m5 28 = m0 28 := by rw [e5]; exact (hF.set (c := 19) (by decide)).at 28
    rw [if_pos ⟨h0, c⟩, eN] at e10
    refine ih _ _ (by omega) (by omega) (by omega) (by rw [e10, e5]; exact (hF.set (by decide)).set (by decide)) (by rw [e10, mset_at, if_neg (by omega), e5, mset_at, if_neg (by omega)]; exact hd) (by rw [e10, mset_at, if_neg (by omega), e5, mset_at, if_neg (by omega)]; exact hh) (fun s s0 s1 => ?_)
    rw [e10, mset_at, if_neg (by omega), mset_at, e5]
    by_cases q : s = a4
    · rw [q, mset_eq, if_pos ⟨rfl, rfl⟩, show p * 10 + 2 + a4 = 10 * p + 2 + a4 by omega, show p * 10 + 2 + 4 + a4 = 10 * p + 6 + a4 by omega]
      exact ⟨rfl, rfl⟩
    · rw [mset_at, if_neg (by omega), if_neg (by omega), mset_at, if_neg (by omega)]
      exact hx s s0 (by omega)
theorem c_X7_bring_27 {m0 : Mem} {p : Int} (p0 : 0 ≤ p) (p1 : 10 * p + 10 ≤ 20) (p2 : p < m0 27 0) : Tot mX7_bring 0 0 [vR 27, vI p, vR 18] SH m0 (Pn SH (shbP_27 p m0)) := by
  refine v_X7_bring_27 ⟨fun _ => ⟨by omega, by omega, by omega, fun m4 e4 => ⟨by omega, by omega, by omega, fun m8 e8 => ?_⟩⟩, fun c => absurd ⟨p0, p2⟩ c⟩
  have eN : m4 28 = m0 28 := by rw [e4]; exact mset_ne 28 (by decide)
  refine shb_loop_27 p0 p1 _ 0 m8 (by omega) (by omega) (Nat.le_refl _) (by rw [e8, e4]; exact (Fr.rf.set (by decide)).set (by decide)) ?_ ?_ (fun s s0 s1 => by omega)
  · rw [e8, mset_at, if_neg (by omega), e4, mset_eq, Int.mul_comm p 10]
  · rw [e8, mset_eq, eN, Int.mul_comm p 10]


