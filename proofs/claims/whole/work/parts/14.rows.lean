/-! ROWS, MOMENTS, TEXT: small methods of the class -/
def getF (f : Nat → Int) (e i j : Int) : Int := if 0 ≤ i ∧ i < e ∧ 0 ≤ j ∧ j < 4 then f (4 * i + j).toNat else 0
/-- a row behind append -/
def appF (m : Mem) (h nb : Nat) (a b c d : Int) : Mem := if m h 0 ≤ m h 2 then m else mset (mset (mset (mset (mset m nb (m h 2 * 4).toNat a) nb (m h 2 * 4 + 1).toNat b) nb (m h 2 * 4 + 2).toNat c) nb (m h 2 * 4 + 3).toNat d) h 2 (m h 2 + 1)
theorem b_no {C : Prop} [Decidable C] (h : (if C then (1 : Int) else 0) = 0) : ¬ C := fun c => by
  rw [if_pos c] at h
  exact absurd h (by decide)
theorem b_yes {C : Prop} [Decidable C] (h : ¬ (if C then (1 : Int) else 0) = 0) : C := by
  by_cases c : C
  · exact c
  · rw [if_neg c] at h
    exact absurd rfl h
theorem b_01 {C : Prop} [Decidable C] : (if C then (1 : Int) else 0) = 0 ∨ (if C then (1 : Int) else 0) = 1 := by
  by_cases c : C
  · exact Or.inr (if_pos c)
  · exact Or.inl (if_neg c)
set_option maxRecDepth 20000 in
theorem v_X6_get {h nb len : Nat} {i j : Int} {sh : Sh} {P : Int → Mem → Prop} {mem : Mem} (hs : sh[h]? = some (6, 0, [0, nb + 1, 0])) (ha : sh[nb]? = some (11, len, [])) (H : (¬ (0 ≤ i ∧ i < mem h 2) → P 0 mem) ∧ ((0 ≤ i ∧ i < mem h 2) → (j < 0 → P 0 mem) ∧ (0 ≤ j → (4 ≤ j → P 0 mem) ∧ (j < 4 → (inR (i * 4)) ∧ ((inR ((i * 4) + j)) ∧ ((0 ≤ ((i * 4) + j)) ∧ ((((i * 4) + j) < (len : Nat)) ∧ (P (mem nb ((i * 4) + j).toNat) mem)))))))) : Tot mX6_get 0 0 [vR h, vI i, vI j] sh mem (Pr sh P) := by
  refine Tot.of rfl (Nat.le_of_ble_eq_true rfl) (by simp [isJ]) (ls := [vR h, vI i, vI j]) rfl ?_
  refine q_aload_n dX6_get_0 rfl ?_
  refine q_iload_n dX6_get_1 rfl ?_
  refine q_cVi (as := [vI _]) dX6_get_2 kmX6_has kvX6_has lm_RX6_26 ⟨by decide, by decide⟩ hs ⟨by decide, rfl⟩ rfl rfl (Nat.le_of_ble_eq_true rfl) (c_X6_has hs) (fun v m1 hq => ?_)
  obtain ⟨rfl, rfl⟩ := hq
  refine q_if_eq (tgt := 30) dX6_get_5 (by decide) (fun c5 => ?_) (fun c5 => ?_)
  · have H := H.1 (b_no c5)
    refine q_iconst dX6_get_30 (by decide) ?_
    exact q_iret dX6_get_31 rfl ⟨_, rfl, rfl, H⟩
  · have H := H.2 (b_yes c5)
    refine q_iload_n dX6_get_8 rfl ?_
    refine q_if_lt (tgt := 30) dX6_get_9 (by decide) (fun c9 => ?_) (fun c9 => ?_)
    · have H := H.1 c9
      refine q_iconst dX6_get_30 (by decide) ?_
      exact q_iret dX6_get_31 rfl ⟨_, rfl, rfl, H⟩
    · have H := H.2 c9
      refine q_iload_n dX6_get_12 rfl ?_
      refine q_iconst dX6_get_13 (by decide) ?_
      refine q_icmp_ge (tgt := 30) dX6_get_14 (by decide) (fun c14 => ?_) (fun c14 => ?_)
      · have H := H.1 c14
        refine q_iconst dX6_get_30 (by decide) ?_
        exact q_iret dX6_get_31 rfl ⟨_, rfl, rfl, H⟩
      · have H := H.2 c14
        refine q_aload_n dX6_get_17 rfl ?_
        refine q_getr (r := nb) dX6_get_18 lf_RX6_19 hs rfl rfl ?_
        refine q_iload_n dX6_get_21 rfl ?_
        refine q_iconst dX6_get_22 (by decide) ?_
        obtain ⟨h1, H⟩ := H
        refine q_imul dX6_get_23 h1 ?_
        refine q_iload_n dX6_get_24 rfl ?_
        obtain ⟨h2, H⟩ := H
        refine q_iadd dX6_get_25 h2 ?_
        obtain ⟨h3, H⟩ := H
        obtain ⟨h4, H⟩ := H
        refine q_iald dX6_get_26 ha h3 h4 ?_
        refine q_goto (tgt := 31) dX6_get_27 (by decide) ?_
        exact q_iret dX6_get_31 rfl ⟨_, rfl, rfl, H⟩

set_option maxRecDepth 20000 in
theorem v_X6_append {h nb len : Nat} {a b c d : Int} {sh : Sh} {P : Mem → Prop} {mem : Mem} (hs : sh[h]? = some (6, 0, [0, nb + 1, 0])) (ha : sh[nb]? = some (11, len, [])) (H : (¬ (mem h 0 ≤ mem h 2) → (inR ((mem h 2) * 4)) ∧ ((0 ≤ ((mem h 2) * 4)) ∧ ((((mem h 2) * 4) < (len : Nat)) ∧ (∀ m4 : Mem, m4 = mset mem nb ((mem h 2) * 4).toNat a → ((inR (((mem h 2) * 4) + 1)) ∧ ((0 ≤ (((mem h 2) * 4) + 1)) ∧ (((((mem h 2) * 4) + 1) < (len : Nat)) ∧ (∀ m8 : Mem, m8 = mset m4 nb (((mem h 2) * 4) + 1).toNat b → ((inR (((mem h 2) * 4) + 2)) ∧ ((0 ≤ (((mem h 2) * 4) + 2)) ∧ (((((mem h 2) * 4) + 2) < (len : Nat)) ∧ (∀ m12 : Mem, m12 = mset m8 nb (((mem h 2) * 4) + 2).toNat c → ((inR (((mem h 2) * 4) + 3)) ∧ ((0 ≤ (((mem h 2) * 4) + 3)) ∧ (((((mem h 2) * 4) + 3) < (len : Nat)) ∧ (∀ m16 : Mem, m16 = mset m12 nb (((mem h 2) * 4) + 3).toNat d → ((inR ((m16 h 2) + 1)) ∧ (∀ m18 : Mem, m18 = (mset m16 h 2 ((m16 h 2) + 1)) → (P m18))))))))))))))))))) ∧ ((mem h 0 ≤ mem h 2) → P mem)) : Tot mX6_append 0 0 [vR h, vI a, vI b, vI c, vI d] sh mem (Pn sh P) := by
  refine Tot.of rfl (Nat.le_of_ble_eq_true rfl) (by simp [isJ]) (ls := [vR h, vI a, vI b, vI c, vI d, vJ 0]) rfl ?_
  refine q_aload_n dX6_append_0 rfl ?_
  refine q_cVi (as := []) dX6_append_1 kmX6_isFull kvX6_isFull lm_RX6_30 ⟨by decide, by decide⟩ hs ⟨by decide, rfl⟩ rfl rfl (Nat.le_of_ble_eq_true rfl) (c_X6_isFull hs) (fun v m1 hq => ?_)
  obtain ⟨rfl, rfl⟩ := hq
  refine q_if_eq (tgt := 8) dX6_append_4 (by decide) (fun c4 => ?_) (fun c4 => ?_)
  · have H := H.1 (b_no c4)
    refine q_aload_n dX6_append_8 rfl ?_
    refine q_geti dX6_append_9 lf_RX6_23 hs rfl ?_
    refine q_iconst dX6_append_12 (by decide) ?_
    obtain ⟨h1, H⟩ := H
    refine q_imul dX6_append_13 h1 ?_
    refine q_istore dX6_append_14 (by decide) rfl ?_
    refine q_aload_n dX6_append_16 rfl ?_
    refine q_getr (r := nb) dX6_append_17 lf_RX6_19 hs rfl rfl ?_
    refine q_iload dX6_append_20 rfl ?_
    refine q_iload_n dX6_append_22 rfl ?_
    obtain ⟨h2, H⟩ := H
    obtain ⟨h3, H⟩ := H
    refine q_iast dX6_append_23 ha h2 h3 ?_
    have H := H _ rfl
    refine q_aload_n dX6_append_24 rfl ?_
    refine q_getr (r := nb) dX6_append_25 lf_RX6_19 hs rfl rfl ?_
    refine q_iload dX6_append_28 rfl ?_
    refine q_iconst dX6_append_30 (by decide) ?_
    obtain ⟨h5, H⟩ := H
    refine q_iadd dX6_append_31 h5 ?_
    refine q_iload_n dX6_append_32 rfl ?_
    obtain ⟨h6, H⟩ := H
    obtain ⟨h7, H⟩ := H
    refine q_iast dX6_append_33 ha h6 h7 ?_
    have H := H _ rfl
    refine q_aload_n dX6_append_34 rfl ?_
    refine q_getr (r := nb) dX6_append_35 lf_RX6_19 hs rfl rfl ?_
    refine q_iload dX6_append_38 rfl ?_
    refine q_iconst dX6_append_40 (by decide) ?_
    obtain ⟨h9, H⟩ := H
    refine q_iadd dX6_append_41 h9 ?_
    refine q_iload_n dX6_append_42 rfl ?_
    obtain ⟨h10, H⟩ := H
    obtain ⟨h11, H⟩ := H
    refine q_iast dX6_append_43 ha h10 h11 ?_
    have H := H _ rfl
    refine q_aload_n dX6_append_44 rfl ?_
    refine q_getr (r := nb) dX6_append_45 lf_RX6_19 hs rfl rfl ?_
    refine q_iload dX6_append_48 rfl ?_
    refine q_iconst dX6_append_50 (by decide) ?_
    obtain ⟨h13, H⟩ := H
    refine q_iadd dX6_append_51 h13 ?_
    refine q_iload dX6_append_52 rfl ?_
    obtain ⟨h14, H⟩ := H
    obtain ⟨h15, H⟩ := H
    refine q_iast dX6_append_54 ha h14 h15 ?_
    have H := H _ rfl
    refine q_aload_n dX6_append_55 rfl ?_
    refine q_dup dX6_append_56 rfl ?_
    refine q_geti dX6_append_57 lf_RX6_23 hs rfl ?_
    refine q_iconst dX6_append_60 (by decide) ?_
    obtain ⟨h17, H⟩ := H
    refine q_iadd dX6_append_61 h17 ?_
    refine q_puti dX6_append_62 lf_RX6_23 hs rfl (Or.inl rfl) fit_int ?_
    have H := H _ rfl
    exact q_vret dX6_append_65 rfl ⟨rfl, rfl, H⟩
  · have H := H.2 (b_yes c4)
    exact q_vret dX6_append_7 rfl ⟨rfl, rfl, H⟩

set_option maxRecDepth 20000 in
theorem v_X4_cellOf {h ca wo : Nat} {s : Int} {sh : Sh} {P : Int → Mem → Prop} {mem : Mem} (hs : sh[h]? = some (4, 0, [ca + 1, wo + 1, 0, 0])) (hc : sh[ca]? = some (11, 4, [])) (hw : sh[wo]? = some (11, 4, [])) (H : (¬ (0 ≤ s ∧ s < 4) → P (-9) mem) ∧ ((0 ≤ s ∧ s < 4) → P (mem ca s.toNat) mem)) : Tot mX4_cellOf 0 0 [vR h, vI s] sh mem (Pr sh P) := by
  refine Tot.of rfl (Nat.le_of_ble_eq_true rfl) (by simp [isJ]) (ls := [vR h, vI s]) rfl ?_
  refine q_iload_n dX4_cellOf_0 rfl ?_
  refine q_cSi (as := [vI _]) dX4_cellOf_1 kmX4_hasSheet ktX4_hasSheet lm_RX4_28 ⟨by decide, by decide⟩ rfl rfl (Nat.le_of_ble_eq_true rfl) (c_X4_hasSheet) (fun v m1 hq => ?_)
  obtain ⟨rfl, rfl⟩ := hq
  refine q_if_eq (tgt := 16) dX4_cellOf_4 (by decide) (fun c4 => ?_) (fun c4 => ?_)
  · have H := H.1 (b_no c4)
    refine q_bipush dX4_cellOf_16 rfl (by decide) ?_
    exact q_iret dX4_cellOf_18 rfl ⟨_, rfl, rfl, H⟩
  · have H := H.2 (b_yes c4)
    refine q_aload_n dX4_cellOf_7 rfl ?_
    refine q_getr (r := ca) dX4_cellOf_8 lf_RX4_9 hs rfl rfl ?_
    refine q_iload_n dX4_cellOf_11 rfl ?_
    refine q_iald dX4_cellOf_12 hc (b_yes c4).1 (b_yes c4).2 ?_
    refine q_goto (tgt := 18) dX4_cellOf_13 (by decide) ?_
    exact q_iret dX4_cellOf_18 rfl ⟨_, rfl, rfl, H⟩

set_option maxRecDepth 20000 in
theorem v_X4_put {h ca wo : Nat} {s c : Int} {sh : Sh} {P : Mem → Prop} {mem : Mem} (hs : sh[h]? = some (4, 0, [ca + 1, wo + 1, 0, 0])) (hc : sh[ca]? = some (11, 4, [])) (hw : sh[wo]? = some (11, 4, [])) (H : (¬ (0 ≤ s ∧ s < 4) → P mem) ∧ ((0 ≤ s ∧ s < 4) → ∀ m1 : Mem, m1 = mset mem ca s.toNat c → (P m1))) : Tot mX4_put 0 0 [vR h, vI s, vI c] sh mem (Pn sh P) := by
  refine Tot.of rfl (Nat.le_of_ble_eq_true rfl) (by simp [isJ]) (ls := [vR h, vI s, vI c]) rfl ?_
  refine q_iload_n dX4_put_0 rfl ?_
  refine q_cSi (as := [vI _]) dX4_put_1 kmX4_hasSheet ktX4_hasSheet lm_RX4_28 ⟨by decide, by decide⟩ rfl rfl (Nat.le_of_ble_eq_true rfl) (c_X4_hasSheet) (fun v m1 hq => ?_)
  obtain ⟨rfl, rfl⟩ := hq
  refine q_if_eq (tgt := 14) dX4_put_4 (by decide) (fun c4 => ?_) (fun c4 => ?_)
  · have H := H.1 (b_no c4)
    exact q_vret dX4_put_14 rfl ⟨rfl, rfl, H⟩
  · have H := H.2 (b_yes c4)
    refine q_aload_n dX4_put_7 rfl ?_
    refine q_getr (r := ca) dX4_put_8 lf_RX4_9 hs rfl rfl ?_
    refine q_iload_n dX4_put_11 rfl ?_
    refine q_iload_n dX4_put_12 rfl ?_
    refine q_iast dX4_put_13 hc (b_yes c4).1 (b_yes c4).2 ?_
    have H := H _ rfl
    exact q_vret dX4_put_14 rfl ⟨rfl, rfl, H⟩

set_option maxRecDepth 20000 in
theorem v_X4_wornOf {h ca wo : Nat} {s : Int} {sh : Sh} {P : Int → Mem → Prop} {mem : Mem} (hs : sh[h]? = some (4, 0, [ca + 1, wo + 1, 0, 0])) (hc : sh[ca]? = some (11, 4, [])) (hw : sh[wo]? = some (11, 4, [])) (H : (¬ (0 ≤ s ∧ s < 4) → P 0 mem) ∧ ((0 ≤ s ∧ s < 4) → P (mem wo s.toNat) mem)) : Tot mX4_wornOf 0 0 [vR h, vI s] sh mem (Pr sh P) := by
  refine Tot.of rfl (Nat.le_of_ble_eq_true rfl) (by simp [isJ]) (ls := [vR h, vI s]) rfl ?_
  refine q_iload_n dX4_wornOf_0 rfl ?_
  refine q_cSi (as := [vI _]) dX4_wornOf_1 kmX4_hasSheet ktX4_hasSheet lm_RX4_28 ⟨by decide, by decide⟩ rfl rfl (Nat.le_of_ble_eq_true rfl) (c_X4_hasSheet) (fun v m1 hq => ?_)
  obtain ⟨rfl, rfl⟩ := hq
  refine q_if_eq (tgt := 16) dX4_wornOf_4 (by decide) (fun c4 => ?_) (fun c4 => ?_)
  · have H := H.1 (b_no c4)
    refine q_iconst dX4_wornOf_16 (by decide) ?_
    exact q_iret dX4_wornOf_17 rfl ⟨_, rfl, rfl, H⟩
  · have H := H.2 (b_yes c4)
    refine q_aload_n dX4_wornOf_7 rfl ?_
    refine q_getr (r := wo) dX4_wornOf_8 lf_RX4_15 hs rfl rfl ?_
    refine q_iload_n dX4_wornOf_11 rfl ?_
    refine q_iald dX4_wornOf_12 hw (b_yes c4).1 (b_yes c4).2 ?_
    refine q_goto (tgt := 17) dX4_wornOf_13 (by decide) ?_
    exact q_iret dX4_wornOf_17 rfl ⟨_, rfl, rfl, H⟩

set_option maxRecDepth 20000 in
theorem v_X4_wear {h ca wo : Nat} {s c : Int} {sh : Sh} {P : Mem → Prop} {mem : Mem} (hs : sh[h]? = some (4, 0, [ca + 1, wo + 1, 0, 0])) (hc : sh[ca]? = some (11, 4, [])) (hw : sh[wo]? = some (11, 4, [])) (H : (¬ (0 ≤ s ∧ s < 4) → P mem) ∧ ((0 ≤ s ∧ s < 4) → ∀ m1 : Mem, m1 = mset mem wo s.toNat c → (P m1))) : Tot mX4_wear 0 0 [vR h, vI s, vI c] sh mem (Pn sh P) := by
  refine Tot.of rfl (Nat.le_of_ble_eq_true rfl) (by simp [isJ]) (ls := [vR h, vI s, vI c]) rfl ?_
  refine q_iload_n dX4_wear_0 rfl ?_
  refine q_cSi (as := [vI _]) dX4_wear_1 kmX4_hasSheet ktX4_hasSheet lm_RX4_28 ⟨by decide, by decide⟩ rfl rfl (Nat.le_of_ble_eq_true rfl) (c_X4_hasSheet) (fun v m1 hq => ?_)
  obtain ⟨rfl, rfl⟩ := hq
  refine q_if_eq (tgt := 14) dX4_wear_4 (by decide) (fun c4 => ?_) (fun c4 => ?_)
  · have H := H.1 (b_no c4)
    exact q_vret dX4_wear_14 rfl ⟨rfl, rfl, H⟩
  · have H := H.2 (b_yes c4)
    refine q_aload_n dX4_wear_7 rfl ?_
    refine q_getr (r := wo) dX4_wear_8 lf_RX4_15 hs rfl rfl ?_
    refine q_iload_n dX4_wear_11 rfl ?_
    refine q_iload_n dX4_wear_12 rfl ?_
    refine q_iast dX4_wear_13 hw (b_yes c4).1 (b_yes c4).2 ?_
    have H := H _ rfl
    exact q_vret dX4_wear_14 rfl ⟨rfl, rfl, H⟩

set_option maxRecDepth 20000 in
theorem v_X4_tick {h ca wo : Nat}  {sh : Sh} {P : Mem → Prop} {mem : Mem} (hs : sh[h]? = some (4, 0, [ca + 1, wo + 1, 0, 0])) (hc : sh[ca]? = some (11, 4, [])) (hw : sh[wo]? = some (11, 4, [])) (H : (inR ((mem h 3) + 1)) ∧ (∀ m2 : Mem, m2 = (mset mem h 3 ((mem h 3) + 1)) → (((m2 h 3) < 24 → P m2) ∧ (24 ≤ (m2 h 3) → ∀ m3 : Mem, m3 = (mset m2 h 3 0) → ((inR ((m3 h 2) + 1)) ∧ (∀ m5 : Mem, m5 = (mset m3 h 2 ((m3 h 2) + 1)) → (P m5))))))) : Tot mX4_tick 0 0 [vR h] sh mem (Pn sh P) := by
  refine Tot.of rfl (Nat.le_of_ble_eq_true rfl) (by simp [isJ]) (ls := [vR h]) rfl ?_
  refine q_aload_n dX4_tick_0 rfl ?_
  refine q_dup dX4_tick_1 rfl ?_
  refine q_geti dX4_tick_2 lf_RX4_25 hs rfl ?_
  refine q_iconst dX4_tick_5 (by decide) ?_
  obtain ⟨h1, H⟩ := H
  refine q_iadd dX4_tick_6 h1 ?_
  refine q_puti dX4_tick_7 lf_RX4_25 hs rfl (Or.inl rfl) fit_int ?_
  have H := H _ rfl
  refine q_aload_n dX4_tick_10 rfl ?_
  refine q_geti dX4_tick_11 lf_RX4_25 hs rfl ?_
  refine q_bipush dX4_tick_14 rfl (by decide) ?_
  refine q_icmp_lt (tgt := 34) dX4_tick_16 (by decide) (fun c16 => ?_) (fun c16 => ?_)
  · have H := H.1 c16
    exact q_vret dX4_tick_34 rfl ⟨rfl, rfl, H⟩
  · have H := H.2 c16
    refine q_aload_n dX4_tick_19 rfl ?_
    refine q_iconst dX4_tick_20 (by decide) ?_
    refine q_puti dX4_tick_21 lf_RX4_25 hs rfl (Or.inl rfl) fit_int ?_
    have H := H _ rfl
    refine q_aload_n dX4_tick_24 rfl ?_
    refine q_dup dX4_tick_25 rfl ?_
    refine q_geti dX4_tick_26 lf_RX4_21 hs rfl ?_
    refine q_iconst dX4_tick_29 (by decide) ?_
    obtain ⟨h4, H⟩ := H
    refine q_iadd dX4_tick_30 h4 ?_
    refine q_puti dX4_tick_31 lf_RX4_21 hs rfl (Or.inl rfl) fit_int ?_
    have H := H _ rfl
    exact q_vret dX4_tick_34 rfl ⟨rfl, rfl, H⟩


section C2
variable {sh : Sh} {mem : Mem} {h nb len ca wo : Nat} {i j a b c d s : Int}
theorem c_X6_get (hs : sh[h]? = some (6, 0, [0, nb + 1, 0])) (ha : sh[nb]? = some (11, len, [])) (h1 : mem h 2 * 4 ≤ len) (h2 : len ≤ 1000 := by decide) : Tot mX6_get 0 0 [vR h, vI i, vI j] sh mem (Pr sh (Pv (getF (mem nb) (mem h 2) i j) mem)) := v_X6_get hs ha (by unfold getF; rw [Int.mul_comm 4 i]; grind)
theorem c_X6_append (hs : sh[h]? = some (6, 0, [0, nb + 1, 0])) (ha : sh[nb]? = some (11, len, [])) (h0 : 0 ≤ mem h 2) (h1 : mem h 0 * 4 ≤ len) (h2 : len ≤ 1000) (hne : h ≠ nb) : Tot mX6_append 0 0 [vR h, vI a, vI b, vI c, vI d] sh mem (Pn sh (fun m => m = appF mem h nb a b c d)) := by
  refine v_X6_append hs ha ⟨fun c1 => ⟨by omega, by omega, by omega, fun m4 e4 => ⟨by omega, by omega, by omega, fun m8 e8 => ⟨by omega, by omega, by omega, fun m12 e12 => ⟨by omega, by omega, by omega, fun m16 e16 => ?_⟩⟩⟩⟩, fun c1 => by unfold appF; rw [if_pos c1]⟩
  have e : m16 h 2 = mem h 2 := by rw [e16, e12, e8, e4, mset_ne h hne, mset_ne h hne, mset_ne h hne, mset_ne h hne]
  rw [e]
  refine ⟨by omega, fun m18 e18 => ?_⟩
  rw [e18, e16, e12, e8, e4]
  unfold appF
  rw [if_neg c1]
theorem c_X4_cellOf (hs : sh[h]? = some (4, 0, [ca + 1, wo + 1, 0, 0])) (hc : sh[ca]? = some (11, 4, [])) (hw : sh[wo]? = some (11, 4, [])) : Tot mX4_cellOf 0 0 [vR h, vI s] sh mem (Pr sh (Pv (if 0 ≤ s ∧ s < 4 then mem ca s.toNat else -9) mem)) := v_X4_cellOf hs hc hw (by grind)
theorem c_X4_wornOf (hs : sh[h]? = some (4, 0, [ca + 1, wo + 1, 0, 0])) (hc : sh[ca]? = some (11, 4, [])) (hw : sh[wo]? = some (11, 4, [])) : Tot mX4_wornOf 0 0 [vR h, vI s] sh mem (Pr sh (Pv (if 0 ≤ s ∧ s < 4 then mem wo s.toNat else 0) mem)) := v_X4_wornOf hs hc hw (by grind)
theorem c_X4_put (hs : sh[h]? = some (4, 0, [ca + 1, wo + 1, 0, 0])) (hc : sh[ca]? = some (11, 4, [])) (hw : sh[wo]? = some (11, 4, [])) : Tot mX4_put 0 0 [vR h, vI s, vI c] sh mem (Pn sh (fun m => m = if 0 ≤ s ∧ s < 4 then mset mem ca s.toNat c else mem)) := v_X4_put hs hc hw (by grind)
theorem c_X4_wear (hs : sh[h]? = some (4, 0, [ca + 1, wo + 1, 0, 0])) (hc : sh[ca]? = some (11, 4, [])) (hw : sh[wo]? = some (11, 4, [])) : Tot mX4_wear 0 0 [vR h, vI s, vI c] sh mem (Pn sh (fun m => m = if 0 ≤ s ∧ s < 4 then mset mem wo s.toNat c else mem)) := v_X4_wear hs hc hw (by grind)
end C2
