/-! THE FLOOR IS SHOWN: thickNow, isLaid, show, cover -/
abbrev noC (m : Mem) (i : Int) : Int := getF (m 6) (m 5 2) i 0
abbrev noS (m : Mem) (i : Int) : Int := getF (m 6) (m 5 2) i 1
abbrev noA (m : Mem) (i : Int) : Int := getF (m 6) (m 5 2) i 2
abbrev noB (m : Mem) (i : Int) : Int := getF (m 6) (m 5 2) i 3
abbrev roC (m : Mem) (i : Int) : Int := getF (m 10) (m 9 2) i 0
abbrev roA (m : Mem) (i : Int) : Int := getF (m 10) (m 9 2) i 1
abbrev roB (m : Mem) (i : Int) : Int := getF (m 10) (m 9 2) i 2
abbrev roM (m : Mem) (i : Int) : Int := getF (m 10) (m 9 2) i 3
/-- the class' house is one that a text can tell -/
def hsD (m : Mem) : Prop := (m 4 3 = 1 ∨ m 4 3 = 2 ∨ m 4 3 = 3 ∨ m 4 3 = 4) ∧ (m 4 4 = 1 ∨ m 4 4 = 2 ∨ m 4 4 = 3) ∧ m 4 5 = m 4 3 * m 4 4 ∧ 1 ≤ m 4 6 ∧ m 4 6 ≤ 20 ∧ (0 ≤ m 5 2 ∧ m 5 2 ≤ 3) ∧ (0 ≤ m 7 2 ∧ m 7 2 ≤ 4) ∧ (0 ≤ m 9 2 ∧ m 9 2 ≤ 3) ∧
  (∀ i : Int, 0 ≤ i → i < m 5 2 → (0 ≤ noC m i ∧ noC m i < m 4 5) ∧ (1 ≤ noS m i ∧ noS m i ≤ 99) ∧ 0 ≤ noA m i ∧ noA m i ≤ noB m i ∧ noB m i ≤ 23) ∧
  (∀ s : Int, 0 ≤ s → s < m 7 2 → (0 ≤ shT m s ∧ shT m s ≤ 30) ∧ (1 ≤ shW m s ∧ shW m s ≤ 3) ∧ (1 ≤ shL m s ∧ shL m s ≤ 3) ∧ 1 ≤ shP m s ∧ shP m s ≤ 9) ∧
  (∀ r : Int, 0 ≤ r → r < m 9 2 → (0 ≤ roC m r ∧ roC m r < m 4 5) ∧ (0 ≤ roA m r ∧ roA m r ≤ roB m r ∧ roB m r ≤ 23) ∧ 0 ≤ roM m r ∧ roM m r ≤ 99)
theorem hsD_fr {ks : List Nat} {m m' : Mem} (h : Fr ks m m') (h4 : 4 ∉ ks := by decide) (h5 : 5 ∉ ks := by decide) (h6 : 6 ∉ ks := by decide) (h7 : 7 ∉ ks := by decide) (h8 : 8 ∉ ks := by decide) (h9 : 9 ∉ ks := by decide) (h10 : 10 ∉ ks := by decide) : hsD m' ↔ hsD m := by
  unfold hsD noC noS noA noB roC roA roB roM shT shW shL shP
  rw [h 4 h4, h 5 h5, h 6 h6, h 7 h7, h 8 h8, h 9 h9, h 10 h10]
/-- a moment (where sheets lie, worn) that can be -/
def moD (m : Mem) (ca wo : Nat) : Prop := (∀ s : Int, 0 ≤ s → s < 4 → (m ca s.toNat = -9 ∨ (s < m 7 2 ∧ fitsAt (m 4 3) (m 4 4) (shW m s) (shL m s) (m ca s.toNat))) ∧ 0 ≤ m wo s.toNat ∧ m wo s.toNat ≤ 100000) ∧
  ∀ s t x : Int, 0 ≤ s → s < 4 → 0 ≤ t → t < 4 → s ≠ t → m ca s.toNat ≠ -9 → m ca t.toNat ≠ -9 → cov (m 4 3) (shW m s) (shL m s) (m ca s.toNat) x → cov (m 4 3) (shW m t) (shL m t) (m ca t.toNat) x → False
theorem moD_fr {ks : List Nat} {m m' : Mem} {ca wo : Nat} (h : Fr ks m m') (hc : ca ∉ ks) (hw : wo ∉ ks) (h4 : 4 ∉ ks := by decide) (h7 : 7 ∉ ks := by decide) (h8 : 8 ∉ ks := by decide) : moD m' ca wo ↔ moD m ca wo := by
  unfold moD shW shL
  rw [h 4 h4, h 7 h7, h 8 h8, h ca hc, h wo hw]
def thOK (m : Mem) : Prop := ∀ s : Int, 0 ≤ s → s < 4 → 0 ≤ m 36 s.toNat ∧ m 36 s.toNat ≤ 30
/-- what lies on x of the first k sheets -/
def onF (w : Int) (wi lo li : Int → Int) : Nat → Int → Int
  | 0, _ => -9
  | k + 1, x => if li k ≠ -9 ∧ cov w (wi k) (lo k) (li k) x then (k : Int) else onF w wi lo li k x
theorem onF_b {w : Int} {wi lo li : Int → Int} : ∀ (k : Nat) (x : Int), onF w wi lo li k x = -9 ∨ (0 ≤ onF w wi lo li k x ∧ onF w wi lo li k x < k)
  | 0, _ => Or.inl rfl
  | k + 1, x => by
    have h := onF_b (w := w) (wi := wi) (lo := lo) (li := li) k x
    simp only [onF]
    split
    · right; omega
    · omega
abbrev liD (m : Mem) (ca : Nat) : Int → Int := fun s => m ca s.toNat
noncomputable abbrev onD (m : Mem) (ca : Nat) (k : Nat) : Int → Int := onF (m 4 3) (shW m) (shL m) (liD m ca) k
abbrev thD (m : Mem) (wo : Nat) (s : Int) : Int := max 0 (shT m s - (if 0 ≤ s ∧ s < 4 then m wo s.toNat else 0) / 10)
abbrev moN (h ca wo : Nat) : Prop := (h = 18 ∧ ca = 19 ∧ wo = 20) ∨ (h = 21 ∧ ca = 22 ∧ wo = 23)
set_option maxRecDepth 20000 in
theorem v_X4_isLaid {h ca wo : Nat} {s : Int} {sh : Sh} {P : Int → Mem → Prop} {mem : Mem} (hs : sh[h]? = some (4, 0, [ca + 1, wo + 1, 0, 0])) (hc : sh[ca]? = some (11, 4, [])) (hw : sh[wo]? = some (11, 4, [])) (H : ((if 0 ≤ s ∧ s < 4 then mem ca s.toNat else -9) = (-9) → P 0 mem) ∧ (¬ (if 0 ≤ s ∧ s < 4 then mem ca s.toNat else -9) = (-9) → P 1 mem)) : Tot mX4_isLaid 0 0 [vR h, vI s] sh mem (Pr sh P) := by
  refine Tot.of rfl (Nat.le_of_ble_eq_true rfl) (by simp [isJ]) (ls := [vR h, vI s]) rfl ?_
  refine q_aload_n dX4_isLaid_0 rfl ?_
  refine q_iload_n dX4_isLaid_1 rfl ?_
  refine q_cVi (as := [vI _]) dX4_isLaid_2 kmX4_cellOf kvX4_cellOf lm_RX4_32 ⟨by decide, by decide⟩ hs ⟨by decide, rfl⟩ rfl rfl (Nat.le_of_ble_eq_true rfl) (c_X4_cellOf hs hc hw) (fun v m1 hq => ?_)
  obtain ⟨rfl, rfl⟩ := hq
  refine q_bipush dX4_isLaid_5 rfl (by decide) ?_
  refine q_icmp_eq (tgt := 14) dX4_isLaid_7 (by decide) (fun c7 => ?_) (fun c7 => ?_)
  · have H := H.1 c7
    refine q_iconst dX4_isLaid_14 (by decide) ?_
    exact q_zret dX4_isLaid_15 rfl (by decide) ⟨_, rfl, rfl, H⟩
  · have H := H.2 c7
    refine q_iconst dX4_isLaid_10 (by decide) ?_
    refine q_goto (tgt := 15) dX4_isLaid_11 (by decide) ?_
    exact q_zret dX4_isLaid_15 rfl (by decide) ⟨_, rfl, rfl, H⟩

set_option maxRecDepth 20000 in
theorem v_X3_thickNow {h ca wo : Nat} {s : Int} {P : Int → Mem → Prop} {mem : Mem} (hs : SH[h]? = some (4, 0, [ca + 1, wo + 1, 0, 0])) (hc : SH[ca]? = some (11, 4, [])) (hw : SH[wo]? = some (11, 4, [])) (H : (mem 7 2 * 4 ≤ 16) ∧ ((0 ≤ (if 0 ≤ s ∧ s < 4 then mem wo s.toNat else 0)) ∧ ((inR ((getF (mem 8) (mem 7 2) s 0) - ((if 0 ≤ s ∧ s < 4 then mem wo s.toNat else 0) / 10))) ∧ (P (max 0 ((getF (mem 8) (mem 7 2) s 0) - ((if 0 ≤ s ∧ s < 4 then mem wo s.toNat else 0) / 10))) mem)))) : Tot mX3_thickNow 0 0 [vR 4, vI s, vR h] SH mem (Pr SH P) := by
  refine Tot.of rfl (Nat.le_of_ble_eq_true rfl) (by simp [isJ]) (ls := [vR 4, vI s, vR h]) rfl ?_
  refine q_iconst dX3_thickNow_0 (by decide) ?_
  refine q_aload_n dX3_thickNow_1 rfl ?_
  refine q_getr (r := 7) dX3_thickNow_2 lf_RX3_20 s4 rfl rfl ?_
  refine q_iload_n dX3_thickNow_5 rfl ?_
  refine q_iconst dX3_thickNow_6 (by decide) ?_
  obtain ⟨h1, H⟩ := H
  refine q_cVi (as := [vI _, vI _]) dX3_thickNow_7 kmX6_get kvX6_get lm_RX3_63 ⟨by decide, by decide⟩ s7 ⟨by decide, rfl⟩ rfl rfl (Nat.le_of_ble_eq_true rfl) (c_X6_get s7 s8 h1) (fun v m1 hq => ?_)
  obtain ⟨rfl, rfl⟩ := hq
  refine q_aload_n dX3_thickNow_10 rfl ?_
  refine q_iload_n dX3_thickNow_11 rfl ?_
  refine q_cVi (as := [vI _]) dX3_thickNow_12 kmX4_wornOf kvX4_wornOf lm_RX3_66 ⟨by decide, by decide⟩ hs ⟨by decide, rfl⟩ rfl rfl (Nat.le_of_ble_eq_true rfl) (c_X4_wornOf hs hc hw) (fun v m1 hq => ?_)
  obtain ⟨rfl, rfl⟩ := hq
  refine q_bipush dX3_thickNow_15 rfl (by decide) ?_
  obtain ⟨h2, H⟩ := H
  refine q_idiv dX3_thickNow_17 h2 (by decide) ?_
  obtain ⟨h3, H⟩ := H
  refine q_isub dX3_thickNow_18 h3 ?_
  refine q_max dX3_thickNow_19 lm_RX3_72 k_max (by decide) (Nat.le_of_ble_eq_true rfl) ?_
  exact q_iret dX3_thickNow_22 rfl ⟨_, rfl, rfl, H⟩


theorem c_X4_isLaid {sh : Sh} {mem : Mem} {h ca wo : Nat} {s : Int} (hs : sh[h]? = some (4, 0, [ca + 1, wo + 1, 0, 0])) (hc : sh[ca]? = some (11, 4, [])) (hw : sh[wo]? = some (11, 4, [])) : Tot mX4_isLaid 0 0 [vR h, vI s] sh mem (Pr sh (Pv (if (0 ≤ s ∧ s < 4) ∧ ¬ mem ca s.toNat = -9 then 1 else 0) mem)) := v_X4_isLaid hs hc hw (by grind)
theorem c_X3_thickNow {mem : Mem} {h ca wo : Nat} {s : Int} (hs : SH[h]? = some (4, 0, [ca + 1, wo + 1, 0, 0])) (hc : SH[ca]? = some (11, 4, [])) (hw : SH[wo]? = some (11, 4, [])) (hh : hsD mem) (hm : moD mem ca wo) (s0 : 0 ≤ s) (sn : s < mem 7 2) : Tot mX3_thickNow 0 0 [vR 4, vI s, vR h] SH mem (Pr SH (Pv (thD mem wo s) mem)) := by
  obtain ⟨-, -, -, -, -, -, h7, -, -, hsh, -⟩ := hh
  have h1 := hsh s s0 sn
  have h2 := hm.1 s s0 (by omega)
  have h3 : 0 ≤ shT mem s ∧ shT mem s ≤ 30 := h1.1
  refine v_X3_thickNow hs hc hw ⟨by omega, ?_, ?_, rfl, rfl⟩
  · rw [if_pos (by omega)]; omega
  · rw [if_pos (by omega)]
    change inR (shT mem s - mem wo s.toNat / 10)
    omega

def spoP (m0 : Mem) (s c : Int) (m : Mem) : Prop := Fr [35] m0 m ∧ putF (cov (m0 4 3) (shW m0 s) (shL m0 s) c) s (m0 35) m
theorem c_spo {m0 : Mem} {s c : Int} (hh : hsD m0) (s0 : 0 ≤ s) (sn : s < m0 7 2) (hf : fitsAt (m0 4 3) (m0 4 4) (shW m0 s) (shL m0 s) c) : Tot mX1_spreadOut 0 0 [vR 34, vI s, vI c] SH m0 (Pn SH (spoP m0 s c)) := by
  obtain ⟨h1, h2, h3, -, -, -, h7, -, -, hsh, -⟩ := hh
  have q := hsh s s0 sn
  have q1 : 1 ≤ shW m0 s := q.2.1.1
  have q2 : 1 ≤ shL m0 s := q.2.2.1.1
  exact c_X1_spreadOut h1 h2 h3 h7.2 hf (Int.le_trans (by decide) q1) (Int.le_trans (by decide) q2)
def w_X1_show_2 (h ca wo : Nat)  (P : Mem → Prop) (a2 : Int) (mem : Mem) : Prop := WP mX1_show none 0 0 (Pn SH P) 2 [vR 34, vR h, vI a2] [] SH mem
def w_X1_show_24 (h ca wo : Nat)  (P : Mem → Prop) (a2 : Int) (mem : Mem) : Prop := WP mX1_show none 0 0 (Pn SH P) 24 [vR 34, vR h, vI a2] [] SH mem
set_option maxRecDepth 20000 in
theorem v_X1_show_2 {h ca wo : Nat}  {P : Mem → Prop} {a2 : Int} {mem : Mem} (hs : SH[h]? = some (4, 0, [ca + 1, wo + 1, 0, 0])) (hc : SH[ca]? = some (11, 4, [])) (hw : SH[wo]? = some (11, 4, [])) (H : (12 ≤ a2 → w_X1_show_24 h ca wo P 0 mem) ∧ (a2 < 12 → (0 ≤ a2) ∧ (∀ m2 : Mem, m2 = mset mem 35 a2.toNat (-9) → ((inR (a2 + 1)) ∧ (w_X1_show_2 h ca wo P (a2 + 1) m2))))) : w_X1_show_2 h ca wo P a2 mem := by
  unfold w_X1_show_2
  refine q_iload_n dX1_show_2 rfl ?_
  refine q_bipush dX1_show_3 rfl (by decide) ?_
  refine q_icmp_ge (tgt := 22) dX1_show_5 (by decide) (fun c5 => ?_) (fun c5 => ?_)
  · have H := H.1 c5
    refine q_iconst dX1_show_22 (by decide) ?_
    refine q_istore_n dX1_show_23 (by decide) rfl ?_
    exact H
  · have H := H.2 c5
    refine q_aload_n dX1_show_8 rfl ?_
    refine q_getr (r := 35) dX1_show_9 lf_RX1_9 s34 rfl rfl ?_
    refine q_iload_n dX1_show_12 rfl ?_
    refine q_bipush dX1_show_13 rfl (by decide) ?_
    obtain ⟨h1, H⟩ := H
    refine q_iast dX1_show_15 s35 h1 c5 ?_
    have H := H _ rfl
    obtain ⟨h3, H⟩ := H
    refine q_iinc dX1_show_16 rfl h3 rfl ?_
    refine q_goto (tgt := 2) dX1_show_19 (by decide) ?_
    exact H
set_option maxRecDepth 20000 in
theorem v_X1_show_24 {h ca wo : Nat}  {P : Mem → Prop} {a2 : Int} {mem : Mem} (hs : SH[h]? = some (4, 0, [ca + 1, wo + 1, 0, 0])) (hc : SH[ca]? = some (11, 4, [])) (hw : SH[wo]? = some (11, 4, [])) (H : ((mem 7 2) ≤ a2 → (okGD mem) ∧ (∀ m2 : Mem, wgP mem m2 → (P m2))) ∧ (a2 < (mem 7 2) → (4 ≤ a2 → (okGD mem) ∧ (∀ m4 : Mem, wgP mem m4 → (P m4))) ∧ (a2 < 4 → (hsD mem) ∧ ((moD mem ca wo) ∧ ((0 ≤ a2) ∧ ((a2 < mem 7 2) ∧ (∀ m9 : Mem, m9 = mset mem 36 a2.toNat (thD mem wo a2) → ((¬ ((0 ≤ a2 ∧ a2 < 4) ∧ ¬ m9 ca a2.toNat = -9) → (inR (a2 + 1)) ∧ (w_X1_show_24 h ca wo P (a2 + 1) m9)) ∧ (((0 ≤ a2 ∧ a2 < 4) ∧ ¬ m9 ca a2.toNat = -9) → (hsD m9) ∧ ((a2 < m9 7 2) ∧ ((fitsAt (m9 4 3) (m9 4 4) (shW m9 a2) (shL m9 a2) (if 0 ≤ a2 ∧ a2 < 4 then m9 ca a2.toNat else -9)) ∧ (∀ m14 : Mem, spoP m9 a2 (if 0 ≤ a2 ∧ a2 < 4 then m9 ca a2.toNat else -9) m14 → ((inR (a2 + 1)) ∧ (w_X1_show_24 h ca wo P (a2 + 1) m14)))))))))))))) : w_X1_show_24 h ca wo P a2 mem := by
  unfold w_X1_show_24
  refine q_iload_n dX1_show_24 rfl ?_
  refine q_aload_n dX1_show_25 rfl ?_
  refine q_getr (r := 4) dX1_show_26 lf_RX1_31 s34 rfl rfl ?_
  refine q_getr (r := 7) dX1_show_29 lf_RX1_52 s4 rfl rfl ?_
  refine q_cVi (as := []) dX1_show_32 kmX6_size kvX6_size lm_RX1_56 ⟨by decide, by decide⟩ s7 ⟨by decide, rfl⟩ rfl rfl (Nat.le_of_ble_eq_true rfl) (c_X6_size s7) (fun v m1 hq => ?_)
  obtain ⟨rfl, rfl⟩ := hq
  refine q_icmp_ge (tgt := 82) dX1_show_35 (by decide) (fun c35 => ?_) (fun c35 => ?_)
  · have H := H.1 c35
    refine q_aload_n dX1_show_82 rfl ?_
    obtain ⟨h1, H⟩ := H
    refine q_cVn (as := []) dX1_show_83 kmX1_weighSteps kvX1_weighSteps lm_RX1_79 ⟨by decide, by decide⟩ s34 ⟨by decide, rfl⟩ rfl rfl (Nat.le_of_ble_eq_true rfl) (c_X1_weighSteps h1) (fun m1 hq => ?_)
    have H := H m1 hq
    exact q_vret dX1_show_86 rfl ⟨rfl, rfl, H⟩
  · have H := H.2 c35
    refine q_iload_n dX1_show_38 rfl ?_
    refine q_iconst dX1_show_39 (by decide) ?_
    refine q_icmp_ge (tgt := 82) dX1_show_40 (by decide) (fun c40 => ?_) (fun c40 => ?_)
    · have H := H.1 c40
      refine q_aload_n dX1_show_82 rfl ?_
      obtain ⟨h3, H⟩ := H
      refine q_cVn (as := []) dX1_show_83 kmX1_weighSteps kvX1_weighSteps lm_RX1_79 ⟨by decide, by decide⟩ s34 ⟨by decide, rfl⟩ rfl rfl (Nat.le_of_ble_eq_true rfl) (c_X1_weighSteps h3) (fun m1 hq => ?_)
      have H := H m1 hq
      exact q_vret dX1_show_86 rfl ⟨rfl, rfl, H⟩
    · have H := H.2 c40
      refine q_aload_n dX1_show_43 rfl ?_
      refine q_getr (r := 36) dX1_show_44 lf_RX1_15 s34 rfl rfl ?_
      refine q_iload_n dX1_show_47 rfl ?_
      refine q_aload_n dX1_show_48 rfl ?_
      refine q_getr (r := 4) dX1_show_49 lf_RX1_31 s34 rfl rfl ?_
      refine q_iload_n dX1_show_52 rfl ?_
      refine q_aload_n dX1_show_53 rfl ?_
      obtain ⟨h5, H⟩ := H
      obtain ⟨h6, H⟩ := H
      obtain ⟨h7, H⟩ := H
      obtain ⟨h8, H⟩ := H
      refine q_cVi (as := [vI _, vR _]) dX1_show_54 kmX3_thickNow kvX3_thickNow lm_RX1_62 ⟨by decide, by decide⟩ s4 ⟨by decide, rfl⟩ rfl rfl (Nat.le_of_ble_eq_true rfl) (c_X3_thickNow hs hc hw h5 h6 h7 h8) (fun v m1 hq => ?_)
      obtain ⟨rfl, rfl⟩ := hq
      refine q_iast dX1_show_57 s36 h7 c40 ?_
      have H := H _ rfl
      refine q_aload_n dX1_show_58 rfl ?_
      refine q_iload_n dX1_show_59 rfl ?_
      refine q_cVi (as := [vI _]) dX1_show_60 kmX4_isLaid kvX4_isLaid lm_RX1_66 ⟨by decide, by decide⟩ hs ⟨by decide, rfl⟩ rfl rfl (Nat.le_of_ble_eq_true rfl) (c_X4_isLaid hs hc hw) (fun v m1 hq => ?_)
      obtain ⟨rfl, rfl⟩ := hq
      refine q_if_eq (tgt := 76) dX1_show_63 (by decide) (fun c63 => ?_) (fun c63 => ?_)
      · have H := H.1 (b_no c63)
        obtain ⟨h10, H⟩ := H
        refine q_iinc dX1_show_76 rfl h10 rfl ?_
        refine q_goto (tgt := 24) dX1_show_79 (by decide) ?_
        exact H
      · have H := H.2 (b_yes c63)
        refine q_aload_n dX1_show_66 rfl ?_
        refine q_iload_n dX1_show_67 rfl ?_
        refine q_aload_n dX1_show_68 rfl ?_
        refine q_iload_n dX1_show_69 rfl ?_
        refine q_cVi (as := [vI _]) dX1_show_70 kmX4_cellOf kvX4_cellOf lm_RX1_71 ⟨by decide, by decide⟩ hs ⟨by decide, rfl⟩ rfl rfl (Nat.le_of_ble_eq_true rfl) (c_X4_cellOf hs hc hw) (fun v m1 hq => ?_)
        obtain ⟨rfl, rfl⟩ := hq
        obtain ⟨h11, H⟩ := H
        obtain ⟨h12, H⟩ := H
        obtain ⟨h13, H⟩ := H
        refine q_cVn (as := [vI _, vI _]) dX1_show_73 kmX1_spreadOut kvX1_spreadOut lm_RX1_75 ⟨by decide, by decide⟩ s34 ⟨by decide, rfl⟩ rfl rfl (Nat.le_of_ble_eq_true rfl) (c_spo h11 h7 h12 h13) (fun m1 hq => ?_)
        have H := H m1 hq
        obtain ⟨h15, H⟩ := H
        refine q_iinc dX1_show_76 rfl h15 rfl ?_
        refine q_goto (tgt := 24) dX1_show_79 (by decide) ?_
        exact H
set_option maxRecDepth 20000 in
theorem v_X1_show {h ca wo : Nat}  {P : Mem → Prop} {mem : Mem} (hs : SH[h]? = some (4, 0, [ca + 1, wo + 1, 0, 0])) (hc : SH[ca]? = some (11, 4, [])) (hw : SH[wo]? = some (11, 4, [])) (H : w_X1_show_2 h ca wo P 0 mem) : Tot mX1_show 0 0 [vR 34, vR h] SH mem (Pn SH P) := by
  refine Tot.of rfl (Nat.le_of_ble_eq_true rfl) (by simp [isJ]) (ls := [vR 34, vR h, vJ 0]) rfl ?_
  refine q_iconst dX1_show_0 (by decide) ?_
  refine q_istore_n dX1_show_1 (by decide) rfl ?_
  exact H

set_option maxRecDepth 20000 in
theorem v_X1_cover {s c : Int} {P : Mem → Prop} {mem : Mem}  (H : (hsD mem) ∧ ((0 ≤ s) ∧ ((s < mem 7 2) ∧ ((fitsAt (mem 4 3) (mem 4 4) (shW mem s) (shL mem s) c) ∧ (∀ m5 : Mem, spoP mem s c m5 → ((okGD m5) ∧ (∀ m7 : Mem, wgP m5 m7 → (P m7)))))))) : Tot mX1_cover 0 0 [vR 34, vI s, vI c] SH mem (Pn SH P) := by
  refine Tot.of rfl (Nat.le_of_ble_eq_true rfl) (by simp [isJ]) (ls := [vR 34, vI s, vI c]) rfl ?_
  refine q_aload_n dX1_cover_0 rfl ?_
  refine q_iload_n dX1_cover_1 rfl ?_
  refine q_iload_n dX1_cover_2 rfl ?_
  obtain ⟨h1, H⟩ := H
  obtain ⟨h2, H⟩ := H
  obtain ⟨h3, H⟩ := H
  obtain ⟨h4, H⟩ := H
  refine q_cVn (as := [vI _, vI _]) dX1_cover_3 kmX1_spreadOut kvX1_spreadOut lm_RX1_75 ⟨by decide, by decide⟩ s34 ⟨by decide, rfl⟩ rfl rfl (Nat.le_of_ble_eq_true rfl) (c_spo h1 h2 h3 h4) (fun m1 hq => ?_)
  have H := H m1 hq
  refine q_aload_n dX1_cover_6 rfl ?_
  obtain ⟨h6, H⟩ := H
  refine q_cVn (as := []) dX1_cover_7 kmX1_weighSteps kvX1_weighSteps lm_RX1_79 ⟨by decide, by decide⟩ s34 ⟨by decide, rfl⟩ rfl rfl (Nat.le_of_ble_eq_true rfl) (c_X1_weighSteps h6) (fun m1 hq => ?_)
  have H := H m1 hq
  exact q_vret dX1_cover_10 rfl ⟨rfl, rfl, H⟩


