/-! THE FLOOR IS SHOWN: thickNow, isLaid, show, cover -/
abbrev noC (m : Mem) (i : Int) : Int := getF (m 6) (m 5 2) i 0
abbrev noS (m : Mem) (i : Int) : Int := getF (m 6) (m 5 2) i 1
abbrev noA (m : Mem) (i : Int) : Int := getF (m 6) (m 5 2) i 2
abbrev noB (m : Mem) (i : Int) : Int := getF (m 6) (m 5 2) i 3
abbrev roC (m : Mem) (i : Int) : Int := getF (m 10) (m 9 2) i 0
abbrev roA (m : Mem) (i : Int) : Int := getF (m 10) (m 9 2) i 1
abbrev roB (m : Mem) (i : Int) : Int := getF (m 10) (m 9 2) i 2
abbrev roM (m : Mem) (i : Int) : Int := getF (m 10) (m 9 2) i 3
/-- the class' house is one that a text can tell -/
def hsD (m : Mem) : Prop := (m 4 3 = 1 ∨ m 4 3 = 2 ∨ m 4 3 = 3 ∨ m 4 3 = 4) ∧ (m 4 4 = 1 ∨ m 4 4 = 2 ∨ m 4 4 = 3) ∧ m 4 5 = m 4 3 * m 4 4 ∧ 1 ≤ m 4 6 ∧ m 4 6 ≤ 20 ∧ (0 ≤ m 5 2 ∧ m 5 2 ≤ 3) ∧ (0 ≤ m 7 2 ∧ m 7 2 ≤ 4) ∧ (0 ≤ m 9 2 ∧ m 9 2 ≤ 3) ∧
  (∀ i : Int, 0 ≤ i → i < m 5 2 → (0 ≤ noC m i ∧ noC m i < m 4 5) ∧ (1 ≤ noS m i ∧ noS m i ≤ 99) ∧ 0 ≤ noA m i ∧ noA m i ≤ noB m i ∧ noB m i ≤ 23) ∧
  (∀ s : Int, 0 ≤ s → s < m 7 2 → (0 ≤ shT m s ∧ shT m s ≤ 30) ∧ (1 ≤ shW m s ∧ shW m s ≤ 3) ∧ (1 ≤ shL m s ∧ shL m s ≤ 3) ∧ 1 ≤ shP m s ∧ shP m s ≤ 9) ∧
  (∀ r : Int, 0 ≤ r → r < m 9 2 → (0 ≤ roC m r ∧ roC m r < m 4 5) ∧ (0 ≤ roA m r ∧ roA m r ≤ roB m r ∧ roB m r ≤ 23) ∧ 0 ≤ roM m r ∧ roM m r ≤ 99)
theorem hsD_fr {ks : List Nat} {m m' : Mem} (h : Fr ks m m') (h4 : 4 ∉ ks := by decide) (h5 : 5 ∉ ks := by decide) (h6 : 6 ∉ ks := by decide) (h7 : 7 ∉ ks := by decide) (h8 : 8 ∉ ks := by decide) (h9 : 9 ∉ ks := by decide) (h10 : 10 ∉ ks := by decide) : hsD m' ↔ hsD m := by
  unfold hsD noC noS noA noB roC roA roB roM shT shW shL shP
  rw [h 4 h4, h 5 h5, h 6 h6, h 7 h7, h 8 h8, h 9 h9, h 10 h10]
/-- a moment (where sheets lie, worn) that can be -/
def moD (m : Mem) (ca wo : Nat) : Prop := (∀ s : Int, 0 ≤ s → s < 4 → (m ca s.toNat = -9 ∨ (s < m 7 2 ∧ fitsAt (m 4 3) (m 4 4) (shW m s) (shL m s) (m ca s.toNat))) ∧ 0 ≤ m wo s.toNat ∧ m wo s.toNat ≤ 100000) ∧
  ∀ s t x : Int, 0 ≤ s → s < 4 → 0 ≤ t → t < 4 → s ≠ t → m ca s.toNat ≠ -9 → m ca t.toNat ≠ -9 → cov (m 4 3) (shW m s) (shL m s) (m ca s.toNat) x → cov (m 4 3) (shW m t) (shL m t) (m ca t.toNat) x → False
theorem moD_fr {ks : List Nat} {m m' : Mem} {ca wo : Nat} (h : Fr ks m m') (hc : ca ∉ ks) (hw : wo ∉ ks) (h4 : 4 ∉ ks := by decide) (h7 : 7 ∉ ks := by decide) (h8 : 8 ∉ ks := by decide) : moD m' ca wo ↔ moD m ca wo := by
  unfold moD shW shL
  rw [h 4 h4, h 7 h7, h 8 h8, h ca hc, h wo hw]
def thOK (m : Mem) : Prop := ∀ s : Int, 0 ≤ s → s < 4 → 0 ≤ m 36 s.toNat ∧ m 36 s.toNat ≤ 30
/-- what lies on x of the first k sheets -/
def onF (w : Int) (wi lo li : Int → Int) : Nat → Int → Int
  | 0, _ => -9
  | k + 1, x => if li k ≠ -9 ∧ cov w (wi k) (lo k) (li k) x then (k : Int) else onF w wi lo li k x
theorem onF_b {w : Int} {wi lo li : Int → Int} : ∀ (k : Nat) (x : Int), onF w wi lo li k x = -9 ∨ (0 ≤ onF w wi lo li k x ∧ onF w wi lo li k x < k)
  | 0, _ => Or.inl rfl
  | k + 1, x => by
    have h := onF_b (w := w) (wi := wi) (lo := lo) (li := li) k x
    simp only [onF]
    split
    · right; omega
    · omega
abbrev liD (m : Mem) (ca : Nat) : Int → Int := fun s => m ca s.toNat
noncomputable abbrev onD (m : Mem) (ca : Nat) (k : Nat) : Int → Int := onF (m 4 3) (shW m) (shL m) (liD m ca) k
abbrev thD (m : Mem) (wo : Nat) (s : Int) : Int := max 0 (shT m s - (if 0 ≤ s ∧ s < 4 then m wo s.toNat else 0) / 10)
abbrev moN (h ca wo : Nat) : Prop := (h = 18 ∧ ca = 19 ∧ wo = 20) ∨ (h = 21 ∧ ca = 22 ∧ wo = 23)
set_option maxRecDepth 20000 in
theorem v_X4_isLaid {h ca wo : Nat} {s : Int} {sh : Sh} {P : Int → Mem → Prop} {mem : Mem} (hs : sh[h]? = some (4, 0, [ca + 1, wo + 1, 0, 0])) (hc : sh[ca]? = some (11, 4, [])) (hw : sh[wo]? = some (11, 4, [])) (H : ((if 0 ≤ s ∧ s < 4 then mem ca s.toNat else -9) = (-9) → P 0 mem) ∧ (¬ (if 0 ≤ s ∧ s < 4 then mem ca s.toNat else -9) = (-9) → P 1 mem)) : Tot mX4_isLaid 0 0 [vR h, vI s] sh mem (Pr sh P) := by
  refine Tot.of rfl (Nat.le_of_ble_eq_true rfl) (by simp [isJ]) (ls := [vR h, vI s]) rfl ?_
  refine q_aload_n dX4_isLaid_0 rfl ?_
  refine q_iload_n dX4_isLaid_1 rfl ?_
  refine q_cVi (as := [vI _]) dX4_isLaid_2 kmX4_cellOf kvX4_cellOf lm_RX4_32 ⟨by decide, by decide⟩ hs ⟨by decide, rfl⟩ rfl rfl (Nat.le_of_ble_eq_true rfl) (c_X4_cellOf hs hc hw) (fun v m1 hq => ?_)
  obtain ⟨rfl, rfl⟩ := hq
  refine q_bipush dX4_isLaid_5 rfl (by decide) ?_
  refine q_icmp_eq (tgt := 14) dX4_isLaid_7 (by decide) (fun c7 => ?_) (fun c7 => ?_)
  · have H := H.1 c7
    refine q_iconst dX4_isLaid_14 (by decide) ?_
    exact q_zret dX4_isLaid_15 rfl (by decide) ⟨_, rfl, rfl, H⟩
  · have H := H.2 c7
    refine q_iconst dX4_isLaid_10 (by decide) ?_
    refine q_goto (tgt := 15) dX4_isLaid_11 (by decide) ?_
    exact q_zret dX4_isLaid_15 rfl (by decide) ⟨_, rfl, rfl, H⟩

set_option maxRecDepth 20000 in
theorem v_X3_thickNow {h ca wo : Nat} {s : Int} {P : Int → Mem → Prop} {mem : Mem} (hs : SH[h]? = some (4, 0, [ca + 1, wo + 1, 0, 0])) (hc : SH[ca]? = some (11, 4, [])) (hw : SH[wo]? = some (11, 4, [])) (H : (mem 7 2 * 4 ≤ 16) ∧ ((0 ≤ (if 0 ≤ s ∧ s < 4 then mem wo s.toNat else 0)) ∧ ((inR ((getF (mem 8) (mem 7 2) s 0) - ((if 0 ≤ s ∧ s < 4 then mem wo s.toNat else 0) / 10))) ∧ (P (max 0 ((getF (mem 8) (mem 7 2) s 0) - ((if 0 ≤ s ∧ s < 4 then mem wo s.toNat else 0) / 10))) mem)))) : Tot mX3_thickNow 0 0 [vR 4, vI s, vR h] SH mem (Pr SH P) := by
  refine Tot.of rfl (Nat.le_of_ble_eq_true rfl) (by simp [isJ]) (ls := [vR 4, vI s, vR h]) rfl ?_
  refine q_iconst dX3_thickNow_0 (by decide) ?_
  refine q_aload_n dX3_thickNow_1 rfl ?_
  refine q_getr (r := 7) dX3_thickNow_2 lf_RX3_20 s4 rfl rfl ?_
  refine q_iload_n dX3_thickNow_5 rfl ?_
  refine q_iconst dX3_thickNow_6 (by decide) ?_
  obtain ⟨h1, H⟩ := H
  refine q_cVi (as := [vI _, vI _]) dX3_thickNow_7 kmX6_get kvX6_get lm_RX3_63 ⟨by decide, by decide⟩ s7 ⟨by decide, rfl⟩ rfl rfl (Nat.le_of_ble_eq_true rfl) (c_X6_get s7 s8 h1) (fun v m1 hq => ?_)
  obtain ⟨rfl, rfl⟩ := hq
  refine q_aload_n dX3_thickNow_10 rfl ?_
  refine q_iload_n dX3_thickNow_11 rfl ?_
  refine q_cVi (as := [vI _]) dX3_thickNow_12 kmX4_wornOf kvX4_wornOf lm_RX3_66 ⟨by decide, by decide⟩ hs ⟨by decide, rfl⟩ rfl rfl (Nat.le_of_ble_eq_true rfl) (c_X4_wornOf hs hc hw) (fun v m1 hq => ?_)
  obtain ⟨rfl, rfl⟩ := hq
  refine q_bipush dX3_thickNow_15 rfl (by decide) ?_
  obtain ⟨h2, H⟩ := H
  refine q_idiv dX3_thickNow_17 h2 (by decide) ?_
  obtain ⟨h3, H⟩ := H
  refine q_isub dX3_thickNow_18 h3 ?_
  refine q_max dX3_thickNow_19 lm_RX3_72 k_max (by decide) (Nat.le_of_ble_eq_true rfl) ?_
  exact q_iret dX3_thickNow_22 rfl ⟨_, rfl, rfl, H⟩


theorem c_X4_isLaid {sh : Sh} {mem : Mem} {h ca wo : Nat} {s : Int} (hs : sh[h]? = some (4, 0, [ca + 1, wo + 1, 0, 0])) (hc : sh[ca]? = some (11, 4, [])) (hw : sh[wo]? = some (11, 4, [])) : Tot mX4_isLaid 0 0 [vR h, vI s] sh mem (Pr sh (Pv (if (0 ≤ s ∧ s < 4) ∧ ¬ mem ca s.toNat = -9 then 1 else 0) mem)) := v_X4_isLaid hs hc hw (by grind)
theorem c_X3_thickNow {mem : Mem} {h ca wo : Nat} {s : Int} (hs : SH[h]? = some (4, 0, [ca + 1, wo + 1, 0, 0])) (hc : SH[ca]? = some (11, 4, [])) (hw : SH[wo]? = some (11, 4, [])) (hh : hsD mem) (hm : moD mem ca wo) (s0 : 0 ≤ s) (sn : s < mem 7 2) : Tot mX3_thickNow 0 0 [vR 4, vI s, vR h] SH mem (Pr SH (Pv (thD mem wo s) mem)) := by
  obtain ⟨-, -, -, -, -, -, h7, -, -, hsh, -⟩ := hh
  have h1 := hsh s s0 sn
  have h2 := hm.1 s s0 (by omega)
  have h3 : 0 ≤ shT mem s ∧ shT mem s ≤ 30 := h1.1
  refine v_X3_thickNow hs hc hw ⟨by omega, ?_, ?_, rfl, rfl⟩
  · rw [if_pos (by omega)]; omega
  · rw [if_pos (by omega)]
    change inR (shT mem s - mem wo s.toNat / 10)
    omega

def spoP (m0 : Mem) (s c : Int) (m : Mem) : Prop := Fr [35] m0 m ∧ putF (cov (m0 4 3) (shW m0 s) (shL m0 s) c) s (m0 35) m
theorem c_spo {m0 : Mem} {s c : Int} (hh : hsD m0) (s0 : 0 ≤ s) (sn : s < m0 7 2) (hf : fitsAt (m0 4 3) (m0 4 4) (shW m0 s) (shL m0 s) c) : Tot mX1_spreadOut 0 0 [vR 34, vI s, vI c] SH m0 (Pn SH (spoP m0 s c)) := by
  obtain ⟨h1, h2, h3, -, -, -, h7, -, -, hsh, -⟩ := hh
  have q := hsh s s0 sn
  have q1 : 1 ≤ shW m0 s := q.2.1.1
  have q2 : 1 ≤ shL m0 s := q.2.2.1.1
  exact c_X1_spreadOut h1 h2 h3 h7.2 hf (Int.le_trans (by decide) q1) (Int.le_trans (by decide) q2)
def w_X1_show_2 (h ca wo : Nat)  (P : Mem → Prop) (a2 : Int) (mem : Mem) : Prop := WP mX1_show none 0 0 (Pn SH P) 2 [vR 34, vR h, vI a2] [] SH mem
def w_X1_show_24 (h ca wo : Nat)  (P : Mem → Prop) (a2 : Int) (mem : Mem) : Prop := WP mX1_show none 0 0 (Pn SH P) 24 [vR 34, vR h, vI a2] [] SH mem
set_option maxRecDepth 20000 in
theorem v_X1_show_2 {h ca wo : Nat}  {P : Mem → Prop} {a2 : Int} {mem : Mem} (hs : SH[h]? = some (4, 0, [ca + 1, wo + 1, 0, 0])) (hc : SH[ca]? = some (11, 4, [])) (hw : SH[wo]? = some (11, 4, [])) (H : (12 ≤ a2 → w_X1_show_24 h ca wo P 0 mem) ∧ (a2 < 12 → (0 ≤ a2) ∧ (∀ m2 : Mem, m2 = mset mem 35 a2.toNat (-9) → ((inR (a2 + 1)) ∧ (w_X1_show_2 h ca wo P (a2 + 1) m2))))) : w_X1_show_2 h ca wo P a2 mem := by
  unfold w_X1_show_2
  refine q_iload_n dX1_show_2 rfl ?_
  refine q_bipush dX1_show_3 rfl (by decide) ?_
  refine q_icmp_ge (tgt := 22) dX1_show_5 (by decide) (fun c5 => ?_) (fun c5 => ?_)
  · have H := H.1 c5
    refine q_iconst dX1_show_22 (by decide) ?_
    refine q_istore_n dX1_show_23 (by decide) rfl ?_
    exact H
  · have H := H.2 c5
    refine q_aload_n dX1_show_8 rfl ?_
    refine q_getr (r := 35) dX1_show_9 lf_RX1_9 s34 rfl rfl ?_
    refine q_iload_n dX1_show_12 rfl ?_
    refine q_bipush dX1_show_13 rfl (by decide) ?_
    obtain ⟨h1, H⟩ := H
    refine q_iast dX1_show_15 s35 h1 c5 ?_
    have H := H _ rfl
    obtain ⟨h3, H⟩ := H
    refine q_iinc dX1_show_16 rfl h3 rfl ?_
    refine q_goto (tgt := 2) dX1_show_19 (by decide) ?_
    exact H
set_option maxRecDepth 20000 in
theorem v_X1_show_24 {h ca wo : Nat}  {P : Mem → Prop} {a2 : Int} {mem : Mem} (hs : SH[h]? = some (4, 0, [ca + 1, wo + 1, 0, 0])) (hc : SH[ca]? = some (11, 4, [])) (hw : SH[wo]? = some (11, 4, [])) (H : ((mem 7 2) ≤ a2 → (okGD mem) ∧ (∀ m2 : Mem, wgP mem m2 → (P m2))) ∧ (a2 < (mem 7 2) → (4 ≤ a2 → (okGD mem) ∧ (∀ m4 : Mem, wgP mem m4 → (P m4))) ∧ (a2 < 4 → (hsD mem) ∧ ((moD mem ca wo) ∧ ((0 ≤ a2) ∧ ((a2 < mem 7 2) ∧ (∀ m9 : Mem, m9 = mset mem 36 a2.toNat (thD mem wo a2) → ((¬ ((0 ≤ a2 ∧ a2 < 4) ∧ ¬ m9 ca a2.toNat = -9) → (inR (a2 + 1)) ∧ (w_X1_show_24 h ca wo P (a2 + 1) m9)) ∧ (((0 ≤ a2 ∧ a2 < 4) ∧ ¬ m9 ca a2.toNat = -9) → (hsD m9) ∧ ((a2 < m9 7 2) ∧ ((fitsAt (m9 4 3) (m9 4 4) (shW m9 a2) (shL m9 a2) (if 0 ≤ a2 ∧ a2 < 4 then m9 ca a2.toNat else -9)) ∧ (∀ m14 : Mem, spoP m9 a2 (if 0 ≤ a2 ∧ a2 < 4 then m9 ca a2.toNat else -9) m14 → ((inR (a2 + 1)) ∧ (w_X1_show_24 h ca wo P (a2 + 1) m14)))))))))))))) : w_X1_show_24 h ca wo P a2 mem := by
  unfold w_X1_show_24
  refine q_iload_n dX1_show_24 rfl ?_
  refine q_aload_n dX1_show_25 rfl ?_
  refine q_getr (r := 4) dX1_show_26 lf_RX1_31 s34 rfl rfl ?_
  refine q_getr (r := 7) dX1_show_29 lf_RX1_52 s4 rfl rfl ?_
  refine q_cVi (as := []) dX1_show_32 kmX6_size kvX6_size lm_RX1_56 ⟨by decide, by decide⟩ s7 ⟨by decide, rfl⟩ rfl rfl (Nat.le_of_ble_eq_true rfl) (c_X6_size s7) (fun v m1 hq => ?_)
  obtain ⟨rfl, rfl⟩ := hq
  refine q_icmp_ge (tgt := 82) dX1_show_35 (by decide) (fun c35 => ?_) (fun c35 => ?_)
  · have H := H.1 c35
    refine q_aload_n dX1_show_82 rfl ?_
    obtain ⟨h1, H⟩ := H
    refine q_cVn (as := []) dX1_show_83 kmX1_weighSteps kvX1_weighSteps lm_RX1_79 ⟨by decide, by decide⟩ s34 ⟨by decide, rfl⟩ rfl rfl (Nat.le_of_ble_eq_true rfl) (c_X1_weighSteps h1) (fun m1 hq => ?_)
    have H := H m1 hq
    exact q_vret dX1_show_86 rfl ⟨rfl, rfl, H⟩
  · have H := H.2 c35
    refine q_iload_n dX1_show_38 rfl ?_
    refine q_iconst dX1_show_39 (by decide) ?_
    refine q_icmp_ge (tgt := 82) dX1_show_40 (by decide) (fun c40 => ?_) (fun c40 => ?_)
    · have H := H.1 c40
      refine q_aload_n dX1_show_82 rfl ?_
      obtain ⟨h3, H⟩ := H
      refine q_cVn (as := []) dX1_show_83 kmX1_weighSteps kvX1_weighSteps lm_RX1_79 ⟨by decide, by decide⟩ s34 ⟨by decide, rfl⟩ rfl rfl (Nat.le_of_ble_eq_true rfl) (c_X1_weighSteps h3) (fun m1 hq => ?_)
      have H := H m1 hq
      exact q_vret dX1_show_86 rfl ⟨rfl, rfl, H⟩
    · have H := H.2 c40
      refine q_aload_n dX1_show_43 rfl ?_
      refine q_getr (r := 36) dX1_show_44 lf_RX1_15 s34 rfl rfl ?_
      refine q_iload_n dX1_show_47 rfl ?_
      refine q_aload_n dX1_show_48 rfl ?_
      refine q_getr (r := 4) dX1_show_49 lf_RX1_31 s34 rfl rfl ?_
      refine q_iload_n dX1_show_52 rfl ?_
      refine q_aload_n dX1_show_53 rfl ?_
      obtain ⟨h5, H⟩ := H
      obtain ⟨h6, H⟩ := H
      obtain ⟨h7, H⟩ := H
      obtain ⟨h8, H⟩ := H
      refine q_cVi (as := [vI _, vR _]) dX1_show_54 kmX3_thickNow kvX3_thickNow lm_RX1_62 ⟨by decide, by decide⟩ s4 ⟨by decide, rfl⟩ rfl rfl (Nat.le_of_ble_eq_true rfl) (c_X3_thickNow hs hc hw h5 h6 h7 h8) (fun v m1 hq => ?_)
      obtain ⟨rfl, rfl⟩ := hq
      refine q_iast dX1_show_57 s36 h7 c40 ?_
      have H := H _ rfl
      refine q_aload_n dX1_show_58 rfl ?_
      refine q_iload_n dX1_show_59 rfl ?_
      refine q_cVi (as := [vI _]) dX1_show_60 kmX4_isLaid kvX4_isLaid lm_RX1_66 ⟨by decide, by decide⟩ hs ⟨by decide, rfl⟩ rfl rfl (Nat.le_of_ble_eq_true rfl) (c_X4_isLaid hs hc hw) (fun v m1 hq => ?_)
      obtain ⟨rfl, rfl⟩ := hq
      refine q_if_eq (tgt := 76) dX1_show_63 (by decide) (fun c63 => ?_) (fun c63 => ?_)
      · have H := H.1 (b_no c63)
        obtain ⟨h10, H⟩ := H
        refine q_iinc dX1_show_76 rfl h10 rfl ?_
        refine q_goto (tgt := 24) dX1_show_79 (by decide) ?_
        exact H
      · have H := H.2 (b_yes c63)
        refine q_aload_n dX1_show_66 rfl ?_
        refine q_iload_n dX1_show_67 rfl ?_
        refine q_aload_n dX1_show_68 rfl ?_
        refine q_iload_n dX1_show_69 rfl ?_
        refine q_cVi (as := [vI _]) dX1_show_70 kmX4_cellOf kvX4_cellOf lm_RX1_71 ⟨by decide, by decide⟩ hs ⟨by decide, rfl⟩ rfl rfl (Nat.le_of_ble_eq_true rfl) (c_X4_cellOf hs hc hw) (fun v m1 hq => ?_)
        obtain ⟨rfl, rfl⟩ := hq
        obtain ⟨h11, H⟩ := H
        obtain ⟨h12, H⟩ := H
        obtain ⟨h13, H⟩ := H
        refine q_cVn (as := [vI _, vI _]) dX1_show_73 kmX1_spreadOut kvX1_spreadOut lm_RX1_75 ⟨by decide, by decide⟩ s34 ⟨by decide, rfl⟩ rfl rfl (Nat.le_of_ble_eq_true rfl) (c_spo h11 h7 h12 h13) (fun m1 hq => ?_)
        have H := H m1 hq
        obtain ⟨h15, H⟩ := H
        refine q_iinc dX1_show_76 rfl h15 rfl ?_
        refine q_goto (tgt := 24) dX1_show_79 (by decide) ?_
        exact H
set_option maxRecDepth 20000 in
theorem v_X1_show {h ca wo : Nat}  {P : Mem → Prop} {mem : Mem} (hs : SH[h]? = some (4, 0, [ca + 1, wo + 1, 0, 0])) (hc : SH[ca]? = some (11, 4, [])) (hw : SH[wo]? = some (11, 4, [])) (H : w_X1_show_2 h ca wo P 0 mem) : Tot mX1_show 0 0 [vR 34, vR h] SH mem (Pn SH P) := by
  refine Tot.of rfl (Nat.le_of_ble_eq_true rfl) (by simp [isJ]) (ls := [vR 34, vR h, vJ 0]) rfl ?_
  refine q_iconst dX1_show_0 (by decide) ?_
  refine q_istore_n dX1_show_1 (by decide) rfl ?_
  exact H

set_option maxRecDepth 20000 in
theorem v_X1_cover {s c : Int} {P : Mem → Prop} {mem : Mem}  (H : (hsD mem) ∧ ((0 ≤ s) ∧ ((s < mem 7 2) ∧ ((fitsAt (mem 4 3) (mem 4 4) (shW mem s) (shL mem s) c) ∧ (∀ m5 : Mem, spoP mem s c m5 → ((okGD m5) ∧ (∀ m7 : Mem, wgP m5 m7 → (P m7)))))))) : Tot mX1_cover 0 0 [vR 34, vI s, vI c] SH mem (Pn SH P) := by
  refine Tot.of rfl (Nat.le_of_ble_eq_true rfl) (by simp [isJ]) (ls := [vR 34, vI s, vI c]) rfl ?_
  refine q_aload_n dX1_cover_0 rfl ?_
  refine q_iload_n dX1_cover_1 rfl ?_
  refine q_iload_n dX1_cover_2 rfl ?_
  obtain ⟨h1, H⟩ := H
  obtain ⟨h2, H⟩ := H
  obtain ⟨h3, H⟩ := H
  obtain ⟨h4, H⟩ := H
  refine q_cVn (as := [vI _, vI _]) dX1_cover_3 kmX1_spreadOut kvX1_spreadOut lm_RX1_75 ⟨by decide, by decide⟩ s34 ⟨by decide, rfl⟩ rfl rfl (Nat.le_of_ble_eq_true rfl) (c_spo h1 h2 h3 h4) (fun m1 hq => ?_)
  have H := H m1 hq
  refine q_aload_n dX1_cover_6 rfl ?_
  obtain ⟨h6, H⟩ := H
  refine q_cVn (as := []) dX1_cover_7 kmX1_weighSteps kvX1_weighSteps lm_RX1_79 ⟨by decide, by decide⟩ s34 ⟨by decide, rfl⟩ rfl rfl (Nat.le_of_ble_eq_true rfl) (c_X1_weighSteps h6) (fun m1 hq => ?_)
  have H := H m1 hq
  exact q_vret dX1_cover_10 rfl ⟨rfl, rfl, H⟩


theorem sh_fr {ks : List Nat} {m m' : Mem} (h : Fr ks m m') (h7 : 7 ∉ ks := by decide) (h8 : 8 ∉ ks := by decide) : shW m' = shW m ∧ shL m' = shL m ∧ shT m' = shT m ∧ shP m' = shP m := by
  unfold shW shL shT shP
  rw [h 7 h7, h 8 h8]
  exact ⟨rfl, rfl, rfl, rfl⟩
theorem moN_ks {h ca wo : Nat} (hm : moN h ca wo) : ca ∉ [35, 36, 38, 40] ∧ wo ∉ [35, 36, 38, 40] ∧ ca ∉ [35, 36, 38, 39, 40] ∧ wo ∉ [35, 36, 38, 39, 40] := by
  rcases hm with ⟨-, rfl, rfl⟩ | ⟨-, rfl, rfl⟩ <;> decide
/-- the floor shows a moment: what lies where, how thick; losses are told right -/
def shoP (m0 : Mem) (ca wo : Nat) (m : Mem) : Prop := Fr [35, 36, 38, 40] m0 m ∧ flOK m ∧ losOK m ∧ (∀ x : Int, 0 ≤ x → x < 12 → m 35 x.toNat = onD m0 ca (m0 7 2).toNat x) ∧ ∀ s : Int, 0 ≤ s → s < m0 7 2 → m 36 s.toNat = thD m0 wo s
def shoI (m0 : Mem) (ca wo : Nat) (k : Int) (m : Mem) : Prop := Fr [35, 36] m0 m ∧ thOK m ∧ (∀ x : Int, 0 ≤ x → x < 12 → m 35 x.toNat = onD m0 ca k.toNat x) ∧ ∀ s : Int, 0 ≤ s → s < k → m 36 s.toNat = thD m0 wo s
theorem okGD_of {m : Mem} (hh : hsD m) (ht : thOK m) (ho : ∀ x : Int, 0 ≤ x → x < 12 → m 35 x.toNat = -9 ∨ (0 ≤ m 35 x.toNat ∧ m 35 x.toNat < 4)) : okGD m := ⟨⟨hh.1, hh.2.1, hh.2.2.2.1, hh.2.2.2.2.1, ho, ht⟩, hh.2.2.1⟩
theorem sho_loop {m0 : Mem} {h ca wo : Nat} (hs : SH[h]? = some (4, 0, [ca + 1, wo + 1, 0, 0])) (hc : SH[ca]? = some (11, 4, [])) (hw : SH[wo]? = some (11, 4, [])) (hm : moN h ca wo) (hh : hsD m0) (hmo : moD m0 ca wo) (hnx : nextOK (m0 4 5) (m0 4 3) (m0 37)) :
    ∀ (k : Nat) (a2 : Int) (m : Mem), 0 ≤ a2 → a2 ≤ m0 7 2 → (m0 7 2 - a2).toNat ≤ k → shoI m0 ca wo a2 m → w_X1_show_24 h ca wo (shoP m0 ca wo) a2 m := by
  have h7 := hh.2.2.2.2.2.2.1
  have hks := moN_ks hm
  have hck : ca ∉ [35, 36] ∧ wo ∉ [35, 36] := ⟨fun z => hks.1 (by revert z; simp; omega), fun z => hks.2.1 (by revert z; simp; omega)⟩
  have hend : ∀ (a2 : Int) (m : Mem), a2 = m0 7 2 → shoI m0 ca wo a2 m → okGD m ∧ ∀ m2, wgP m m2 → shoP m0 ca wo m2 := by
    intro a2 m h2 hI
    obtain ⟨hF, ht, ho, hth⟩ := hI
    have hg : okGD m := okGD_of ((hsD_fr hF).mpr hh) ht (fun x x0 x1 => by
      have hb := onF_b (w := m0 4 3) (wi := shW m0) (lo := shL m0) (li := liD m0 ca) a2.toNat x
      rw [ho x x0 x1]
      show onF (m0 4 3) (shW m0) (shL m0) (liD m0 ca) a2.toNat x = -9 ∨ _
      rcases hb with q | q
      · exact Or.inl q
      · right
        change 0 ≤ onF (m0 4 3) (shW m0) (shL m0) (liD m0 ca) a2.toNat x ∧ onF (m0 4 3) (shW m0) (shL m0) (liD m0 ca) a2.toNat x < 4
        omega)
    refine ⟨hg, fun m2 hw2 => ?_⟩
    have hok := wgP_ok hg (by rw [hF.at 4, hF.at 37]; exact hnx) hw2
    refine ⟨(hF.mono (by decide)).tr (hw2.1.mono (by decide)), hok.1, hok.2, fun x x0 x1 => ?_, fun s s0 sn => ?_⟩
    · rw [hw2.1.at 35, ho x x0 x1, h2]
    · rw [hw2.1.at 36]
      exact hth s s0 (by omega)
  intro k
  induction k with
  | zero =>
    intro a2 m h0 h1 hk hI
    have e7 := hI.1.at 7
    refine v_X1_show_24 hs hc hw ?_
    rw [e7]
    exact ⟨fun q => hend a2 m (by omega) hI, fun q => by omega⟩
  | succ k ih =>
    intro a2 m h0 h1 hk hI
    obtain ⟨hF, ht, ho, hth⟩ := id hI
    have e7 := hF.at 7
    refine v_X1_show_24 hs hc hw ?_
    rw [e7]
    refine ⟨fun q => hend a2 m (by omega) hI, fun q => ⟨fun q2 => by omega, fun q2 => ⟨(hsD_fr hF).mpr hh, (moD_fr hF hck.1 hck.2).mpr hmo, h0, q, fun m9 h9 => ?_⟩⟩⟩
    have eT : thD m wo a2 = thD m0 wo a2 := by
      unfold thD
      rw [(sh_fr hF).2.2.1, hF wo hck.2]
    rw [eT] at h9
    have hF9 : Fr [35, 36] m0 m9 := by rw [h9]; exact hF.set (by decide)
    have hshT := (hh.2.2.2.2.2.2.2.2.2.1 a2 h0 q).1
    have hwor := (hmo.1 a2 h0 q2).2
    have hTb : 0 ≤ thD m0 wo a2 ∧ thD m0 wo a2 ≤ 30 := by
      show 0 ≤ max 0 (shT m0 a2 - (if 0 ≤ a2 ∧ a2 < 4 then m0 wo a2.toNat else 0) / 10) ∧ max 0 (shT m0 a2 - (if 0 ≤ a2 ∧ a2 < 4 then m0 wo a2.toNat else 0) / 10) ≤ 30
      rw [if_pos ⟨h0, q2⟩]
      change 0 ≤ shT m0 a2 ∧ shT m0 a2 ≤ 30 at hshT
      omega
    have h36 : ∀ s : Int, 0 ≤ s → m9 36 s.toNat = if s = a2 then thD m0 wo a2 else m 36 s.toNat := by
      intro s s0
      rw [h9, mset_at]
      by_cases hsa : s = a2
      · rw [if_pos ⟨rfl, by rw [hsa]⟩, if_pos hsa]
      · rw [if_neg (by omega), if_neg hsa]
    have h35 : ∀ x : Nat, m9 35 x = m 35 x := by intro x; rw [h9, mset_at, if_neg (by omega)]
    have ht9 : thOK m9 := by
      intro s s0 s1
      rw [h36 s s0]
      split
      · exact hTb
      · exact ht s s0 s1
    have hth9 : ∀ s : Int, 0 ≤ s → s < a2 + 1 → m9 36 s.toNat = thD m0 wo s := by
      intro s s0 s1
      rw [h36 s s0]
      split
      · rename_i e; rw [e]
      · exact hth s s0 (by omega)
    have ekk : (a2 + 1).toNat = a2.toNat + 1 := by omega
    have eka : ((a2.toNat : Nat) : Int) = a2 := by omega
    have eca : m9 ca = m0 ca := hF9 ca hck.1
    rw [eca]
    refine ⟨fun q3 => ⟨by omega, ih _ _ (by omega) (by omega) (by omega) ⟨hF9, ht9, fun x x0 x1 => ?_, hth9⟩⟩, fun q3 => ⟨(hsD_fr hF9).mpr hh, by rw [hF9.at 7]; exact q, ?_⟩⟩
    · have hnl : m0 ca a2.toNat = -9 := by
        by_cases z : m0 ca a2.toNat = -9
        · exact z
        · exact absurd ⟨⟨h0, q2⟩, z⟩ q3
      rw [h35, ho x x0 x1, ekk]
      show onF _ _ _ _ _ _ = onF _ _ _ _ (a2.toNat + 1) _
      simp only [onF]
      rw [eka, if_neg (fun z => z.1 hnl)]
    · rw [if_pos q3.1, hF9.at 4, (sh_fr hF9).1, (sh_fr hF9).2.1]
      have hfit : fitsAt (m0 4 3) (m0 4 4) (shW m0 a2) (shL m0 a2) (m0 ca a2.toNat) := by
        rcases (hmo.1 a2 h0 q2).1 with z | z
        · exact absurd z q3.2
        · exact z.2
      refine ⟨hfit, fun m14 h14 => ⟨by omega, ih _ _ (by omega) (by omega) (by omega) ?_⟩⟩
      obtain ⟨g1, g2⟩ := h14
      refine ⟨hF9.tr (g1.mono (by decide)), fun s s0 s1 => by rw [g1.at 36]; exact ht9 s s0 s1, fun x x0 x1 => ?_, fun s s0 s1 => by rw [g1.at 36]; exact hth9 s s0 s1⟩
      have hx := g2 x x0 x1
      rw [hF9.at 4, (sh_fr hF9).1, (sh_fr hF9).2.1] at hx
      rw [ekk]
      show _ = onF _ _ _ _ (a2.toNat + 1) _
      simp only [onF]
      rw [eka]
      by_cases hcv : cov (m0 4 3) (shW m0 a2) (shL m0 a2) (m0 ca a2.toNat) x
      · rw [if_pos ⟨q3.2, hcv⟩]
        exact hx.1 hcv
      · rw [if_neg (fun z => hcv z.2), hx.2 hcv, h35]
        exact ho x x0 x1
theorem sho_fill {m0 : Mem} {h ca wo : Nat} {P : Mem → Prop} (hs : SH[h]? = some (4, 0, [ca + 1, wo + 1, 0, 0])) (hc : SH[ca]? = some (11, 4, [])) (hw : SH[wo]? = some (11, 4, [])) (K : ∀ m, Fr [35] m0 m → (∀ x : Int, 0 ≤ x → x < 12 → m 35 x.toNat = -9) → w_X1_show_24 h ca wo P 0 m) :
    ∀ (k : Nat) (a2 : Int) (m : Mem), 0 ≤ a2 → (12 - a2).toNat ≤ k → Fr [35] m0 m → (∀ x : Int, 0 ≤ x → x < a2 → m 35 x.toNat = -9) → w_X1_show_2 h ca wo P a2 m := by
  intro k
  induction k with
  | zero => intro a2 m h0 hk hF hx; exact v_X1_show_2 hs hc hw ⟨fun c => K m hF (fun x x0 x1 => hx x x0 (by omega)), fun c => by omega⟩
  | succ k ih =>
    intro a2 m h0 hk hF hx
    refine v_X1_show_2 hs hc hw ⟨fun c => K m hF (fun x x0 x1 => hx x x0 (by omega)), fun c => ⟨h0, fun m2 h2 => ⟨by omega, ih _ _ (by omega) (by omega) (by rw [h2]; exact hF.set (by decide)) (fun x x0 x1 => ?_)⟩⟩⟩
    rw [h2, mset_at]
    by_cases q : x = a2
    · rw [if_pos ⟨rfl, by rw [q]⟩]
    · rw [if_neg (by omega)]
      exact hx x x0 (by omega)
theorem c_X1_show {m0 : Mem} {h ca wo : Nat} (hs : SH[h]? = some (4, 0, [ca + 1, wo + 1, 0, 0])) (hc : SH[ca]? = some (11, 4, [])) (hw : SH[wo]? = some (11, 4, [])) (hm : moN h ca wo) (hh : hsD m0) (hmo : moD m0 ca wo) (hnx : nextOK (m0 4 5) (m0 4 3) (m0 37)) (ht : thOK m0) : Tot mX1_show 0 0 [vR 34, vR h] SH m0 (Pn SH (shoP m0 ca wo)) :=
  v_X1_show hs hc hw (sho_fill hs hc hw (fun m hF hx => by
    have hks := moN_ks hm
    exact sho_loop hs hc hw hm hh hmo hnx _ 0 m (by omega) hh.2.2.2.2.2.2.1.1 (Nat.le_refl _) ⟨hF.mono (by decide), fun s s0 s1 => by rw [hF.at 36]; exact ht s s0 s1, fun x x0 x1 => by rw [hx x x0 x1]; rfl, fun s s0 s1 => by omega⟩) _ 0 m0 (by omega) (Nat.le_refl _) Fr.rf (fun x x0 x1 => by omega))
