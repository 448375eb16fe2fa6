/-! THE CLASS: kinds, images, what was traced -/
theorem mset2 {m : Mem} {h k : Nat} {a b : Int} : mset (mset m h k a) h k b = mset m h k b := by
  funext h' k'
  rw [mset_at, mset_at, mset_at]
  split <;> rfl
def trB (z : Int) (m : Mem) : Prop := -z ≤ m 0 14 ∧ m 0 14 ≤ z
def asP (m0 : Mem) (d x v : Int) (m : Mem) : Prop := v = x ∧ m = mset m0 0 14 (m0 0 14 + d)
theorem mo_wb {m : Mem} (h : moD m 19 20) {s : Int} (s0 : 0 ≤ s) (sn : s < 4) : 0 ≤ m 20 s.toNat ∧ m 20 s.toNat ≤ 100000 := (h.1 s s0 sn).2
theorem tr_fr {m0 m : Mem} {d : Int} (h : m = mset m0 0 14 d) : Fr [0] m0 m := by
  rw [h]
  exact Fr.rf.set (by decide)
theorem thD_fr {ks : List Nat} {m m' : Mem} (h : Fr ks m m') (h7 : 7 ∉ ks := by decide) (h8 : 8 ∉ ks := by decide) (h20 : 20 ∉ ks := by decide) : thD m' 20 = thD m 20 := by
  funext s
  show max 0 (shT m' s - (if 0 ≤ s ∧ s < 4 then m' 20 s.toNat else 0) / 10) = max 0 (shT m s - (if 0 ≤ s ∧ s < 4 then m 20 s.toNat else 0) / 10)
  rw [h 20 h20, (sh_fr h h7 h8).2.2.1]
set_option maxRecDepth 20000 in
theorem v_X9_asSheet {s : Int} {P : Int → Mem → Prop} {mem : Mem}  (H : (inL ((mem 0 14) + 1)) ∧ (∀ m2 : Mem, m2 = (mset mem 0 14 ((mem 0 14) + 1)) → ((hsD m2) ∧ ((moD m2 19 20) ∧ ((0 ≤ s) ∧ ((s < m2 7 2) ∧ (P (thD m2 20 s) m2))))))) : Tot mX9_asSheet 0 0 [vR 0, vI s] SH mem (Pr SH P) := by
  refine Tot.of rfl (Nat.le_of_ble_eq_true rfl) (by simp [isJ]) (ls := [vR 0, vI s]) rfl ?_
  refine q_aload_n dX9_asSheet_0 rfl ?_
  refine q_dup dX9_asSheet_1 rfl ?_
  refine q_getl dX9_asSheet_2 lf_RX9_318 s0 rfl ?_
  refine q_lconst (z := 1) dX9_asSheet_5 rfl (by decide) ?_
  obtain ⟨h1, H⟩ := H
  refine q_ladd dX9_asSheet_6 h1 ?_
  refine q_putl dX9_asSheet_7 lf_RX9_318 s0 rfl rfl ?_
  have H := H _ rfl
  refine q_aload_n dX9_asSheet_10 rfl ?_
  refine q_getr (r := 4) dX9_asSheet_11 lf_RX9_19 s0 rfl rfl ?_
  refine q_iload_n dX9_asSheet_14 rfl ?_
  refine q_aload_n dX9_asSheet_15 rfl ?_
  refine q_getr (r := 18) dX9_asSheet_16 lf_RX9_29 s0 rfl rfl ?_
  obtain ⟨h3, H⟩ := H
  obtain ⟨h4, H⟩ := H
  obtain ⟨h5, H⟩ := H
  obtain ⟨h6, H⟩ := H
  refine q_cVi (as := [vI _, vR _]) dX9_asSheet_19 kmX3_thickNow kvX3_thickNow lm_RX9_154 ⟨by decide, by decide⟩ s4 ⟨by decide, rfl⟩ rfl rfl (Nat.le_of_ble_eq_true rfl) (c_X3_thickNow s18 s19 s20 h3 h4 h5 h6) (fun v m1 hq => ?_)
  obtain ⟨rfl, rfl⟩ := hq
  exact q_iret dX9_asSheet_22 rfl ⟨_, rfl, rfl, H⟩


theorem c_X9_asSheet {m0 : Mem} {s : Int} (hh : hsD m0) (hm : moD m0 19 20) (s0 : 0 ≤ s) (sn : s < m0 7 2) (ht : trB 4000000000000 m0) : Tot mX9_asSheet 0 0 [vR 0, vI s] SH m0 (Pr SH (asP m0 1 (thD m0 20 s))) := by
  refine v_X9_asSheet ⟨by unfold inL; have := ht.1; have := ht.2; omega, fun m2 h2 => ?_⟩
  have hF := tr_fr h2
  refine ⟨(hsD_fr hF).mpr hh, (moD_fr hF (by decide) (by decide)).mpr hm, s0, by rw [hF.at 7]; exact sn, ?_, h2⟩
  rw [thD_fr hF]
set_option maxRecDepth 20000 in
theorem v_X9_asChurch {s : Int} {P : Int → Mem → Prop} {mem : Mem}  (H : (inL ((mem 0 14) + 10)) ∧ (∀ m2 : Mem, m2 = (mset mem 0 14 ((mem 0 14) + 10)) → ((hsD m2) ∧ ((moD m2 19 20) ∧ ((0 ≤ s) ∧ ((s < m2 7 2) ∧ ((trB 4000000000000 m2) ∧ (∀ (v8 : Int) (m9 : Mem), asP m2 1 (thD m2 20 s) v8 m9 → ((m9 7 2 * 4 ≤ 16) ∧ ((inR (v8 + (getF (m9 8) (m9 7 2) s 3))) ∧ (P (v8 + (getF (m9 8) (m9 7 2) s 3)) m9))))))))))) : Tot mX9_asChurch 0 0 [vR 0, vI s] SH mem (Pr SH P) := by
  refine Tot.of rfl (Nat.le_of_ble_eq_true rfl) (by simp [isJ]) (ls := [vR 0, vI s]) rfl ?_
  refine q_aload_n dX9_asChurch_0 rfl ?_
  refine q_dup dX9_asChurch_1 rfl ?_
  refine q_getl dX9_asChurch_2 lf_RX9_318 s0 rfl ?_
  refine q_ldc2 (n := 10) dX9_asChurch_5 lk_RX9_322 (by decide) ?_
  obtain ⟨h1, H⟩ := H
  refine q_ladd dX9_asChurch_8 h1 ?_
  refine q_putl dX9_asChurch_9 lf_RX9_318 s0 rfl rfl ?_
  have H := H _ rfl
  refine q_aload_n dX9_asChurch_12 rfl ?_
  refine q_iload_n dX9_asChurch_13 rfl ?_
  obtain ⟨h3, H⟩ := H
  obtain ⟨h4, H⟩ := H
  obtain ⟨h5, H⟩ := H
  obtain ⟨h6, H⟩ := H
  obtain ⟨h7, H⟩ := H
  refine q_cVi (as := [vI _]) dX9_asChurch_14 kmX9_asSheet kvX9_asSheet lm_RX9_300 ⟨by decide, by decide⟩ s0 ⟨by decide, rfl⟩ rfl rfl (Nat.le_of_ble_eq_true rfl) (c_X9_asSheet h3 h4 h5 h6 h7) (fun v m1 hq => ?_)
  have H := H v m1 hq
  refine q_aload_n dX9_asChurch_17 rfl ?_
  refine q_getr (r := 4) dX9_asChurch_18 lf_RX9_19 s0 rfl rfl ?_
  refine q_getr (r := 7) dX9_asChurch_21 lf_RX9_144 s4 rfl rfl ?_
  refine q_iload_n dX9_asChurch_24 rfl ?_
  refine q_iconst dX9_asChurch_25 (by decide) ?_
  obtain ⟨h10, H⟩ := H
  refine q_cVi (as := [vI _, vI _]) dX9_asChurch_26 kmX6_get kvX6_get lm_RX9_140 ⟨by decide, by decide⟩ s7 ⟨by decide, rfl⟩ rfl rfl (Nat.le_of_ble_eq_true rfl) (c_X6_get s7 s8 h10) (fun v m1 hq => ?_)
  obtain ⟨rfl, rfl⟩ := hq
  obtain ⟨h11, H⟩ := H
  refine q_iadd dX9_asChurch_29 h11 ?_
  exact q_iret dX9_asChurch_30 rfl ⟨_, rfl, rfl, H⟩

set_option maxRecDepth 20000 in
theorem v_X9_asSnow {s : Int} {P : Int → Mem → Prop} {mem : Mem}  (H : (inL ((mem 0 14) + 100)) ∧ (∀ m2 : Mem, m2 = (mset mem 0 14 ((mem 0 14) + 100)) → ((hsD m2) ∧ ((moD m2 19 20) ∧ ((0 ≤ s) ∧ ((s < m2 7 2) ∧ ((trB 4000000000000 m2) ∧ (∀ (v8 : Int) (m9 : Mem), asP m2 1 (thD m2 20 s) v8 m9 → ((inR (v8 - (if 0 ≤ s ∧ s < 4 then m9 20 s.toNat else 0))) ∧ (P (v8 - (if 0 ≤ s ∧ s < 4 then m9 20 s.toNat else 0)) m9)))))))))) : Tot mX9_asSnow 0 0 [vR 0, vI s] SH mem (Pr SH P) := by
  refine Tot.of rfl (Nat.le_of_ble_eq_true rfl) (by simp [isJ]) (ls := [vR 0, vI s]) rfl ?_
  refine q_aload_n dX9_asSnow_0 rfl ?_
  refine q_dup dX9_asSnow_1 rfl ?_
  refine q_getl dX9_asSnow_2 lf_RX9_318 s0 rfl ?_
  refine q_ldc2 (n := 100) dX9_asSnow_5 lk_RX9_324 (by decide) ?_
  obtain ⟨h1, H⟩ := H
  refine q_ladd dX9_asSnow_8 h1 ?_
  refine q_putl dX9_asSnow_9 lf_RX9_318 s0 rfl rfl ?_
  have H := H _ rfl
  refine q_aload_n dX9_asSnow_12 rfl ?_
  refine q_iload_n dX9_asSnow_13 rfl ?_
  obtain ⟨h3, H⟩ := H
  obtain ⟨h4, H⟩ := H
  obtain ⟨h5, H⟩ := H
  obtain ⟨h6, H⟩ := H
  obtain ⟨h7, H⟩ := H
  refine q_cVi (as := [vI _]) dX9_asSnow_14 kmX9_asSheet kvX9_asSheet lm_RX9_300 ⟨by decide, by decide⟩ s0 ⟨by decide, rfl⟩ rfl rfl (Nat.le_of_ble_eq_true rfl) (c_X9_asSheet h3 h4 h5 h6 h7) (fun v m1 hq => ?_)
  have H := H v m1 hq
  refine q_aload_n dX9_asSnow_17 rfl ?_
  refine q_getr (r := 18) dX9_asSnow_18 lf_RX9_29 s0 rfl rfl ?_
  refine q_iload_n dX9_asSnow_21 rfl ?_
  refine q_cVi (as := [vI _]) dX9_asSnow_22 kmX4_wornOf kvX4_wornOf lm_RX9_151 ⟨by decide, by decide⟩ s18 ⟨by decide, rfl⟩ rfl rfl (Nat.le_of_ble_eq_true rfl) (c_X4_wornOf s18 s19 s20) (fun v m1 hq => ?_)
  obtain ⟨rfl, rfl⟩ := hq
  obtain ⟨h10, H⟩ := H
  refine q_isub dX9_asSnow_25 h10 ?_
  exact q_iret dX9_asSnow_26 rfl ⟨_, rfl, rfl, H⟩

set_option maxRecDepth 20000 in
theorem v_X9_asBell {s : Int} {P : Int → Mem → Prop} {mem : Mem}  (H : (inL ((mem 0 14) + 100000)) ∧ (∀ m2 : Mem, m2 = (mset mem 0 14 ((mem 0 14) + 100000)) → ((hsD m2) ∧ ((moD m2 19 20) ∧ ((0 ≤ s) ∧ ((s < m2 7 2) ∧ ((trB 4000000000000 m2) ∧ (∀ (v8 : Int) (m9 : Mem), asP m2 1 (thD m2 20 s) v8 m9 → ((inR (v8 + (m9 18 3))) ∧ (P (v8 + (m9 18 3)) m9)))))))))) : Tot mX9_asBell 0 0 [vR 0, vI s] SH mem (Pr SH P) := by
  refine Tot.of rfl (Nat.le_of_ble_eq_true rfl) (by simp [isJ]) (ls := [vR 0, vI s]) rfl ?_
  refine q_aload_n dX9_asBell_0 rfl ?_
  refine q_dup dX9_asBell_1 rfl ?_
  refine q_getl dX9_asBell_2 lf_RX9_318 s0 rfl ?_
  refine q_ldc2 (n := 100000) dX9_asBell_5 lk_RX9_330 (by decide) ?_
  obtain ⟨h1, H⟩ := H
  refine q_ladd dX9_asBell_8 h1 ?_
  refine q_putl dX9_asBell_9 lf_RX9_318 s0 rfl rfl ?_
  have H := H _ rfl
  refine q_aload_n dX9_asBell_12 rfl ?_
  refine q_iload_n dX9_asBell_13 rfl ?_
  obtain ⟨h3, H⟩ := H
  obtain ⟨h4, H⟩ := H
  obtain ⟨h5, H⟩ := H
  obtain ⟨h6, H⟩ := H
  obtain ⟨h7, H⟩ := H
  refine q_cVi (as := [vI _]) dX9_asBell_14 kmX9_asSheet kvX9_asSheet lm_RX9_300 ⟨by decide, by decide⟩ s0 ⟨by decide, rfl⟩ rfl rfl (Nat.le_of_ble_eq_true rfl) (c_X9_asSheet h3 h4 h5 h6 h7) (fun v m1 hq => ?_)
  have H := H v m1 hq
  refine q_aload_n dX9_asBell_17 rfl ?_
  refine q_getr (r := 18) dX9_asBell_18 lf_RX9_29 s0 rfl rfl ?_
  refine q_geti dX9_asBell_21 lf_RX9_179 s18 rfl ?_
  obtain ⟨h10, H⟩ := H
  refine q_iadd dX9_asBell_24 h10 ?_
  exact q_iret dX9_asBell_25 rfl ⟨_, rfl, rfl, H⟩


theorem tr_up {m0 m2 : Mem} {d z z' : Int} (h : trB z m0) (e : m2 = mset m0 0 14 (m0 0 14 + d)) (d0 : 0 ≤ d) (d1 : z + d ≤ z') : trB z' m2 := by
  unfold trB at *
  rw [e, mset_eq]
  omega
theorem as_two {m0 m2 m : Mem} {a b c : Int} (h2 : m2 = mset m0 0 14 (m0 0 14 + a)) (h : m = mset m2 0 14 (m2 0 14 + b)) (e : a + b = c) : m = mset m0 0 14 (m0 0 14 + c) := by
  rw [h, h2, mset_eq, mset2, ← e, Int.add_assoc]
theorem c_X9_asChurch {m0 : Mem} {s : Int} (hh : hsD m0) (hm : moD m0 19 20) (s0 : 0 ≤ s) (sn : s < m0 7 2) (ht : trB 3000000000000 m0) : Tot mX9_asChurch 0 0 [vR 0, vI s] SH m0 (Pr SH (asP m0 11 (thD m0 20 s + shP m0 s))) := by
  refine v_X9_asChurch ⟨by unfold inL; have := ht.1; have := ht.2; omega, fun m2 h2 => ?_⟩
  have hF := tr_fr h2
  refine ⟨(hsD_fr hF).mpr hh, (moD_fr hF (by decide) (by decide)).mpr hm, s0, by rw [hF.at 7]; exact sn, tr_up ht h2 (by decide) (by decide), fun v8 m9 h9 => ?_⟩
  have hF9 := hF.tr (tr_fr h9.2)
  have h7 := hh.2.2.2.2.2.2.1
  have hp : 1 ≤ shP m0 s ∧ shP m0 s ≤ 9 := (hh.2.2.2.2.2.2.2.2.2.1 s s0 sn).2.2.2
  have hb := thD_b hh hm s0 sn
  have ep : getF (m9 8) (m9 7 2) s 3 = shP m0 s := by rw [← (sh_fr hF9).2.2.2]
  have ev := h9.1
  rw [thD_fr hF] at ev
  rw [ep, ev, hF9.at 7]
  exact ⟨by omega, by unfold inR; generalize thD m0 20 s = x at hb ⊢; omega, rfl, as_two h2 h9.2 rfl⟩
theorem c_X9_asSnow {m0 : Mem} {s : Int} (hh : hsD m0) (hm : moD m0 19 20) (s0 : 0 ≤ s) (sn : s < m0 7 2) (ht : trB 3000000000000 m0) : Tot mX9_asSnow 0 0 [vR 0, vI s] SH m0 (Pr SH (asP m0 101 (thD m0 20 s - m0 20 s.toNat))) := by
  refine v_X9_asSnow ⟨by unfold inL; have := ht.1; have := ht.2; omega, fun m2 h2 => ?_⟩
  have hF := tr_fr h2
  refine ⟨(hsD_fr hF).mpr hh, (moD_fr hF (by decide) (by decide)).mpr hm, s0, by rw [hF.at 7]; exact sn, tr_up ht h2 (by decide) (by decide), fun v8 m9 h9 => ?_⟩
  have hF9 := hF.tr (tr_fr h9.2)
  have h7 := hh.2.2.2.2.2.2.1
  have hb := thD_b hh hm s0 sn
  have hw := mo_wb hm s0 (by omega)
  have ev := h9.1
  rw [thD_fr hF] at ev
  rw [if_pos ⟨s0, by omega⟩, ev, hF9.at 20]
  exact ⟨by unfold inR; generalize thD m0 20 s = x at hb ⊢; omega, rfl, as_two h2 h9.2 rfl⟩
theorem c_X9_asBell {m0 : Mem} {s : Int} (hh : hsD m0) (hm : moD m0 19 20) (s0 : 0 ≤ s) (sn : s < m0 7 2) (ht : trB 3000000000000 m0) (h3 : 0 ≤ m0 18 3 ∧ m0 18 3 ≤ 23) : Tot mX9_asBell 0 0 [vR 0, vI s] SH m0 (Pr SH (asP m0 100001 (thD m0 20 s + m0 18 3))) := by
  refine v_X9_asBell ⟨by unfold inL; have := ht.1; have := ht.2; omega, fun m2 h2 => ?_⟩
  have hF := tr_fr h2
  refine ⟨(hsD_fr hF).mpr hh, (moD_fr hF (by decide) (by decide)).mpr hm, s0, by rw [hF.at 7]; exact sn, tr_up ht h2 (by decide) (by decide), fun v8 m9 h9 => ?_⟩
  have hF9 := hF.tr (tr_fr h9.2)
  have hb := thD_b hh hm s0 sn
  have ev := h9.1
  rw [thD_fr hF] at ev
  rw [ev, hF9.at 18]
  exact ⟨by unfold inR; generalize thD m0 20 s = x at hb ⊢; omega, rfl, as_two h2 h9.2 rfl⟩
set_option maxRecDepth 20000 in
theorem v_X9_asCrypt {s : Int} {P : Int → Mem → Prop} {mem : Mem}  (H : (inL ((mem 0 14) + 1000)) ∧ (∀ m2 : Mem, m2 = (mset mem 0 14 ((mem 0 14) + 1000)) → ((hsD m2) ∧ ((moD m2 19 20) ∧ ((0 ≤ s) ∧ ((s < m2 7 2) ∧ ((trB 3000000000000 m2) ∧ (∀ (v8 : Int) (m9 : Mem), asP m2 11 (thD m2 20 s + shP m2 s) v8 m9 → ((inR (2 * v8)) ∧ (P (2 * v8) m9)))))))))) : Tot mX9_asCrypt 0 0 [vR 0, vI s] SH mem (Pr SH P) := by
  refine Tot.of rfl (Nat.le_of_ble_eq_true rfl) (by simp [isJ]) (ls := [vR 0, vI s]) rfl ?_
  refine q_aload_n dX9_asCrypt_0 rfl ?_
  refine q_dup dX9_asCrypt_1 rfl ?_
  refine q_getl dX9_asCrypt_2 lf_RX9_318 s0 rfl ?_
  refine q_ldc2 (n := 1000) dX9_asCrypt_5 lk_RX9_326 (by decide) ?_
  obtain ⟨h1, H⟩ := H
  refine q_ladd dX9_asCrypt_8 h1 ?_
  refine q_putl dX9_asCrypt_9 lf_RX9_318 s0 rfl rfl ?_
  have H := H _ rfl
  refine q_iconst dX9_asCrypt_12 (by decide) ?_
  refine q_aload_n dX9_asCrypt_13 rfl ?_
  refine q_iload_n dX9_asCrypt_14 rfl ?_
  obtain ⟨h3, H⟩ := H
  obtain ⟨h4, H⟩ := H
  obtain ⟨h5, H⟩ := H
  obtain ⟨h6, H⟩ := H
  obtain ⟨h7, H⟩ := H
  refine q_cVi (as := [vI _]) dX9_asCrypt_15 kmX9_asChurch kvX9_asChurch lm_RX9_303 ⟨by decide, by decide⟩ s0 ⟨by decide, rfl⟩ rfl rfl (Nat.le_of_ble_eq_true rfl) (c_X9_asChurch h3 h4 h5 h6 h7) (fun v m1 hq => ?_)
  have H := H v m1 hq
  obtain ⟨h10, H⟩ := H
  refine q_imul dX9_asCrypt_18 h10 ?_
  exact q_iret dX9_asCrypt_19 rfl ⟨_, rfl, rfl, H⟩

set_option maxRecDepth 20000 in
theorem v_X9_asSlush {s : Int} {P : Int → Mem → Prop} {mem : Mem}  (H : (inL ((mem 0 14) + 10000)) ∧ (∀ m2 : Mem, m2 = (mset mem 0 14 ((mem 0 14) + 10000)) → ((hsD m2) ∧ ((moD m2 19 20) ∧ ((0 ≤ s) ∧ ((s < m2 7 2) ∧ ((trB 3000000000000 m2) ∧ (∀ (v8 : Int) (m9 : Mem), asP m2 101 (thD m2 20 s - m2 20 s.toNat) v8 m9 → ((inR (v8 + s)) ∧ (P (v8 + s) m9)))))))))) : Tot mX9_asSlush 0 0 [vR 0, vI s] SH mem (Pr SH P) := by
  refine Tot.of rfl (Nat.le_of_ble_eq_true rfl) (by simp [isJ]) (ls := [vR 0, vI s]) rfl ?_
  refine q_aload_n dX9_asSlush_0 rfl ?_
  refine q_dup dX9_asSlush_1 rfl ?_
  refine q_getl dX9_asSlush_2 lf_RX9_318 s0 rfl ?_
  refine q_ldc2 (n := 10000) dX9_asSlush_5 lk_RX9_328 (by decide) ?_
  obtain ⟨h1, H⟩ := H
  refine q_ladd dX9_asSlush_8 h1 ?_
  refine q_putl dX9_asSlush_9 lf_RX9_318 s0 rfl rfl ?_
  have H := H _ rfl
  refine q_aload_n dX9_asSlush_12 rfl ?_
  refine q_iload_n dX9_asSlush_13 rfl ?_
  obtain ⟨h3, H⟩ := H
  obtain ⟨h4, H⟩ := H
  obtain ⟨h5, H⟩ := H
  obtain ⟨h6, H⟩ := H
  obtain ⟨h7, H⟩ := H
  refine q_cVi (as := [vI _]) dX9_asSlush_14 kmX9_asSnow kvX9_asSnow lm_RX9_306 ⟨by decide, by decide⟩ s0 ⟨by decide, rfl⟩ rfl rfl (Nat.le_of_ble_eq_true rfl) (c_X9_asSnow h3 h4 h5 h6 h7) (fun v m1 hq => ?_)
  have H := H v m1 hq
  refine q_iload_n dX9_asSlush_17 rfl ?_
  obtain ⟨h10, H⟩ := H
  refine q_iadd dX9_asSlush_18 h10 ?_
  exact q_iret dX9_asSlush_19 rfl ⟨_, rfl, rfl, H⟩


theorem c_X9_asCrypt {m0 : Mem} {s : Int} (hh : hsD m0) (hm : moD m0 19 20) (s0 : 0 ≤ s) (sn : s < m0 7 2) (ht : trB 2000000000000 m0) : Tot mX9_asCrypt 0 0 [vR 0, vI s] SH m0 (Pr SH (asP m0 1011 (2 * (thD m0 20 s + shP m0 s)))) := by
  refine v_X9_asCrypt ⟨by unfold inL; have := ht.1; have := ht.2; omega, fun m2 h2 => ?_⟩
  have hF := tr_fr h2
  refine ⟨(hsD_fr hF).mpr hh, (moD_fr hF (by decide) (by decide)).mpr hm, s0, by rw [hF.at 7]; exact sn, tr_up ht h2 (by decide) (by decide), fun v8 m9 h9 => ?_⟩
  have hp : 1 ≤ shP m0 s ∧ shP m0 s ≤ 9 := (hh.2.2.2.2.2.2.2.2.2.1 s s0 sn).2.2.2
  have hb := thD_b hh hm s0 sn
  have ev := h9.1
  rw [thD_fr hF, (sh_fr hF).2.2.2] at ev
  rw [ev]
  exact ⟨by unfold inR; generalize thD m0 20 s = x at hb ⊢; generalize shP m0 s = y at hp ⊢; omega, rfl, as_two h2 h9.2 rfl⟩
theorem c_X9_asSlush {m0 : Mem} {s : Int} (hh : hsD m0) (hm : moD m0 19 20) (s0 : 0 ≤ s) (sn : s < m0 7 2) (ht : trB 2000000000000 m0) : Tot mX9_asSlush 0 0 [vR 0, vI s] SH m0 (Pr SH (asP m0 10101 (thD m0 20 s - m0 20 s.toNat + s))) := by
  refine v_X9_asSlush ⟨by unfold inL; have := ht.1; have := ht.2; omega, fun m2 h2 => ?_⟩
  have hF := tr_fr h2
  refine ⟨(hsD_fr hF).mpr hh, (moD_fr hF (by decide) (by decide)).mpr hm, s0, by rw [hF.at 7]; exact sn, tr_up ht h2 (by decide) (by decide), fun v8 m9 h9 => ?_⟩
  have h7 := hh.2.2.2.2.2.2.1
  have hb := thD_b hh hm s0 sn
  have hw := mo_wb hm s0 (by omega)
  have ev := h9.1
  rw [thD_fr hF, hF.at 20] at ev
  rw [ev]
  exact ⟨by unfold inR; generalize thD m0 20 s = x at hb ⊢; omega, rfl, as_two h2 h9.2 rfl⟩
set_option maxRecDepth 20000 in
theorem v_X9_rate {k s : Int} {P : Int → Mem → Prop} {mem : Mem}  (H : ((0 ≤ s ∧ s < mem 7 2) → (k = 0 → (hsD mem) ∧ ((moD mem 19 20) ∧ ((trB 4000000000000 mem) ∧ (∀ (v4 : Int) (m5 : Mem), asP mem 1 (thD mem 20 s) v4 m5 → (P v4 m5))))) ∧ (k = 1 → (hsD mem) ∧ ((moD mem 19 20) ∧ ((trB 3000000000000 mem) ∧ (∀ (v9 : Int) (m10 : Mem), asP mem 11 (thD mem 20 s + shP mem s) v9 m10 → (P v9 m10))))) ∧ (k = 2 → (hsD mem) ∧ ((moD mem 19 20) ∧ ((trB 3000000000000 mem) ∧ (∀ (v14 : Int) (m15 : Mem), asP mem 101 (thD mem 20 s - mem 20 s.toNat) v14 m15 → (P v14 m15))))) ∧ (k = 3 → (hsD mem) ∧ ((moD mem 19 20) ∧ ((trB 2000000000000 mem) ∧ (∀ (v19 : Int) (m20 : Mem), asP mem 1011 (2 * (thD mem 20 s + shP mem s)) v19 m20 → (P v19 m20))))) ∧ (k = 4 → (hsD mem) ∧ ((moD mem 19 20) ∧ ((trB 2000000000000 mem) ∧ (∀ (v24 : Int) (m25 : Mem), asP mem 10101 (thD mem 20 s - mem 20 s.toNat + s) v24 m25 → (P v24 m25))))) ∧ (k = 5 → (hsD mem) ∧ ((moD mem 19 20) ∧ ((trB 3000000000000 mem) ∧ ((0 ≤ mem 18 3 ∧ mem 18 3 ≤ 23) ∧ (∀ (v30 : Int) (m31 : Mem), asP mem 100001 (thD mem 20 s + mem 18 3) v30 m31 → (P v30 m31)))))) ∧ (¬ k = 0 ∧ ¬ k = 1 ∧ ¬ k = 2 ∧ ¬ k = 3 ∧ ¬ k = 4 ∧ ¬ k = 5 → P (-1000000) mem)) ∧ (¬ (0 ≤ s ∧ s < mem 7 2) → P (-1000000) mem)) : Tot mX9_rate 0 0 [vR 0, vI k, vI s] SH mem (Pr SH P) := by
  refine Tot.of rfl (Nat.le_of_ble_eq_true rfl) (by simp [isJ]) (ls := [vR 0, vI k, vI s]) rfl ?_
  refine q_aload_n dX9_rate_0 rfl ?_
  refine q_getr (r := 4) dX9_rate_1 lf_RX9_19 s0 rfl rfl ?_
  refine q_getr (r := 7) dX9_rate_4 lf_RX9_144 s4 rfl rfl ?_
  refine q_iload_n dX9_rate_7 rfl ?_
  refine q_cVi (as := [vI _]) dX9_rate_8 kmX6_has kvX6_has lm_RX9_136 ⟨by decide, by decide⟩ s7 ⟨by decide, rfl⟩ rfl rfl (Nat.le_of_ble_eq_true rfl) (c_X6_has s7) (fun v m1 hq => ?_)
  obtain ⟨rfl, rfl⟩ := hq
  refine q_if_ne (tgt := 17) dX9_rate_11 (by decide) (fun c11 => ?_) (fun c11 => ?_)
  · have H := H.1 (b_yes c11)
    refine q_iload_n dX9_rate_17 rfl ?_
    refine q_tsk (dt := 92) [(0, 56), (1, 62), (2, 68), (3, 74), (4, 80), (5, 86)] dX9_rate_18 rfl rfl (by decide) (by decide) ?_ ?_
    · refine List.forall_mem_cons.mpr ⟨fun ha => ?_, List.forall_mem_cons.mpr ⟨fun ha => ?_, List.forall_mem_cons.mpr ⟨fun ha => ?_, List.forall_mem_cons.mpr ⟨fun ha => ?_, List.forall_mem_cons.mpr ⟨fun ha => ?_, List.forall_mem_cons.mpr ⟨fun ha => ?_, fun _ h => nomatch h⟩⟩⟩⟩⟩⟩
      · have H := H.1 (by simp only at ha; omega)
        refine q_aload_n dX9_rate_56 rfl ?_
        refine q_iload_n dX9_rate_57 rfl ?_
        obtain ⟨h1, H⟩ := H
        obtain ⟨h2, H⟩ := H
        obtain ⟨h3, H⟩ := H
        refine q_cVi (as := [vI _]) dX9_rate_58 kmX9_asSheet kvX9_asSheet lm_RX9_300 ⟨by decide, by decide⟩ s0 ⟨by decide, rfl⟩ rfl rfl (Nat.le_of_ble_eq_true rfl) (c_X9_asSheet h1 h2 (b_yes c11).1 (b_yes c11).2 h3) (fun v m1 hq => ?_)
        have H := H v m1 hq
        exact q_iret dX9_rate_61 rfl ⟨_, rfl, rfl, H⟩
      · have H := H.2.1 (by simp only at ha; omega)
        refine q_aload_n dX9_rate_62 rfl ?_
        refine q_iload_n dX9_rate_63 rfl ?_
        obtain ⟨h6, H⟩ := H
        obtain ⟨h7, H⟩ := H
        obtain ⟨h8, H⟩ := H
        refine q_cVi (as := [vI _]) dX9_rate_64 kmX9_asChurch kvX9_asChurch lm_RX9_303 ⟨by decide, by decide⟩ s0 ⟨by decide, rfl⟩ rfl rfl (Nat.le_of_ble_eq_true rfl) (c_X9_asChurch h6 h7 (b_yes c11).1 (b_yes c11).2 h8) (fun v m1 hq => ?_)
        have H := H v m1 hq
        exact q_iret dX9_rate_67 rfl ⟨_, rfl, rfl, H⟩
      · have H := H.2.2.1 (by simp only at ha; omega)
        refine q_aload_n dX9_rate_68 rfl ?_
        refine q_iload_n dX9_rate_69 rfl ?_
        obtain ⟨h11, H⟩ := H
        obtain ⟨h12, H⟩ := H
        obtain ⟨h13, H⟩ := H
        refine q_cVi (as := [vI _]) dX9_rate_70 kmX9_asSnow kvX9_asSnow lm_RX9_306 ⟨by decide, by decide⟩ s0 ⟨by decide, rfl⟩ rfl rfl (Nat.le_of_ble_eq_true rfl) (c_X9_asSnow h11 h12 (b_yes c11).1 (b_yes c11).2 h13) (fun v m1 hq => ?_)
        have H := H v m1 hq
        exact q_iret dX9_rate_73 rfl ⟨_, rfl, rfl, H⟩
      · have H := H.2.2.2.1 (by simp only at ha; omega)
        refine q_aload_n dX9_rate_74 rfl ?_
        refine q_iload_n dX9_rate_75 rfl ?_
        obtain ⟨h16, H⟩ := H
        obtain ⟨h17, H⟩ := H
        obtain ⟨h18, H⟩ := H
        refine q_cVi (as := [vI _]) dX9_rate_76 kmX9_asCrypt kvX9_asCrypt lm_RX9_309 ⟨by decide, by decide⟩ s0 ⟨by decide, rfl⟩ rfl rfl (Nat.le_of_ble_eq_true rfl) (c_X9_asCrypt h16 h17 (b_yes c11).1 (b_yes c11).2 h18) (fun v m1 hq => ?_)
        have H := H v m1 hq
        exact q_iret dX9_rate_79 rfl ⟨_, rfl, rfl, H⟩
      · have H := H.2.2.2.2.1 (by simp only at ha; omega)
        refine q_aload_n dX9_rate_80 rfl ?_
        refine q_iload_n dX9_rate_81 rfl ?_
        obtain ⟨h21, H⟩ := H
        obtain ⟨h22, H⟩ := H
        obtain ⟨h23, H⟩ := H
        refine q_cVi (as := [vI _]) dX9_rate_82 kmX9_asSlush kvX9_asSlush lm_RX9_312 ⟨by decide, by decide⟩ s0 ⟨by decide, rfl⟩ rfl rfl (Nat.le_of_ble_eq_true rfl) (c_X9_asSlush h21 h22 (b_yes c11).1 (b_yes c11).2 h23) (fun v m1 hq => ?_)
        have H := H v m1 hq
        exact q_iret dX9_rate_85 rfl ⟨_, rfl, rfl, H⟩
      · have H := H.2.2.2.2.2.1 (by simp only at ha; omega)
        refine q_aload_n dX9_rate_86 rfl ?_
        refine q_iload_n dX9_rate_87 rfl ?_
        obtain ⟨h26, H⟩ := H
        obtain ⟨h27, H⟩ := H
        obtain ⟨h28, H⟩ := H
        obtain ⟨h29, H⟩ := H
        refine q_cVi (as := [vI _]) dX9_rate_88 kmX9_asBell kvX9_asBell lm_RX9_315 ⟨by decide, by decide⟩ s0 ⟨by decide, rfl⟩ rfl rfl (Nat.le_of_ble_eq_true rfl) (c_X9_asBell h26 h27 (b_yes c11).1 (b_yes c11).2 h28 h29) (fun v m1 hq => ?_)
        have H := H v m1 hq
        exact q_iret dX9_rate_91 rfl ⟨_, rfl, rfl, H⟩
    · intro ho
      have H := H.2.2.2.2.2.2 (by omega)
      refine q_ldc (n := (-1000000)) dX9_rate_92 lk_RX9_251 (by decide) ?_
      exact q_iret dX9_rate_94 rfl ⟨_, rfl, rfl, H⟩
  · have H := H.2 (b_no c11)
    refine q_ldc (n := (-1000000)) dX9_rate_14 lk_RX9_251 (by decide) ?_
    exact q_iret dX9_rate_16 rfl ⟨_, rfl, rfl, H⟩

set_option maxRecDepth 20000 in
theorem v_X9_keep {i : Int} {P : Int → Mem → Prop} {mem : Mem}  (H : ((0 ≤ i ∧ i ≤ 1) → (10 * i + 10 ≤ 20) ∧ ((i < mem 27 0) ∧ (∀ m3 : Mem, shuP_27 i mem m3 → ((i < 2) ∧ (∀ m5 : Mem, m5 = mset m3 29 i.toNat 1 → (P (m5 18 2) m5)))))) ∧ (¬ (0 ≤ i ∧ i ≤ 1) → P (-1) mem)) : Tot mX9_keep 0 0 [vR 0, vI i] SH mem (Pr SH P) := by
  refine Tot.of rfl (Nat.le_of_ble_eq_true rfl) (by simp [isJ]) (ls := [vR 0, vI i]) rfl ?_
  refine q_iload_n dX9_keep_0 rfl ?_
  refine q_iconst dX9_keep_1 (by decide) ?_
  refine q_iconst dX9_keep_2 (by decide) ?_
  refine q_cSi (as := [vI _, vI _, vI _]) dX9_keep_3 kmX9_isWithin ktX9_isWithin lm_RX9_97 ⟨by decide, by decide⟩ rfl rfl (Nat.le_of_ble_eq_true rfl) (c_X9_isWithin) (fun v m1 hq => ?_)
  obtain ⟨rfl, rfl⟩ := hq
  refine q_if_ne (tgt := 11) dX9_keep_6 (by decide) (fun c6 => ?_) (fun c6 => ?_)
  · have H := H.1 (b_yes c6)
    refine q_aload_n dX9_keep_11 rfl ?_
    refine q_getr (r := 27) dX9_keep_12 lf_RX9_48 s0 rfl rfl ?_
    refine q_iload_n dX9_keep_15 rfl ?_
    refine q_aload_n dX9_keep_16 rfl ?_
    refine q_getr (r := 18) dX9_keep_17 lf_RX9_29 s0 rfl rfl ?_
    obtain ⟨h1, H⟩ := H
    obtain ⟨h2, H⟩ := H
    refine q_cVn (as := [vI _, vR _]) dX9_keep_20 kmX7_put kvX7_put lm_RX9_332 ⟨by decide, by decide⟩ s27 ⟨by decide, rfl⟩ rfl rfl (Nat.le_of_ble_eq_true rfl) (c_X7_put_27 (b_yes c6).1 h1 h2) (fun m1 hq => ?_)
    have H := H m1 hq
    refine q_aload_n dX9_keep_23 rfl ?_
    refine q_getr (r := 29) dX9_keep_24 lf_RX9_52 s0 rfl rfl ?_
    refine q_iload_n dX9_keep_27 rfl ?_
    refine q_iconst dX9_keep_28 (by decide) ?_
    obtain ⟨h4, H⟩ := H
    refine q_zast dX9_keep_29 s29 (b_yes c6).1 h4 (by decide) ?_
    have H := H _ rfl
    refine q_aload_n dX9_keep_30 rfl ?_
    refine q_getr (r := 18) dX9_keep_31 lf_RX9_29 s0 rfl rfl ?_
    refine q_geti dX9_keep_34 lf_RX9_175 s18 rfl ?_
    exact q_iret dX9_keep_37 rfl ⟨_, rfl, rfl, H⟩
  · have H := H.2 (b_no c6)
    refine q_iconst dX9_keep_9 (by decide) ?_
    exact q_iret dX9_keep_10 rfl ⟨_, rfl, rfl, H⟩

set_option maxRecDepth 20000 in
theorem v_X9_back {i : Int} {P : Int → Mem → Prop} {mem : Mem}  (H : ((0 ≤ i ∧ i ≤ 1) → (i < 2) ∧ ((¬ (mem 29 i.toNat) = 0 → (10 * i + 10 ≤ 20) ∧ ((i < mem 27 0) ∧ (∀ m4 : Mem, shbP_27 i mem m4 → (∀ m5 : Mem, m5 = mset m4 24 2 0 → (P (m5 18 2) m5))))) ∧ ((mem 29 i.toNat) = 0 → P (-2) mem))) ∧ (¬ (0 ≤ i ∧ i ≤ 1) → P (-1) mem)) : Tot mX9_back 0 0 [vR 0, vI i] SH mem (Pr SH P) := by
  refine Tot.of rfl (Nat.le_of_ble_eq_true rfl) (by simp [isJ]) (ls := [vR 0, vI i]) rfl ?_
  refine q_iload_n dX9_back_0 rfl ?_
  refine q_iconst dX9_back_1 (by decide) ?_
  refine q_iconst dX9_back_2 (by decide) ?_
  refine q_cSi (as := [vI _, vI _, vI _]) dX9_back_3 kmX9_isWithin ktX9_isWithin lm_RX9_97 ⟨by decide, by decide⟩ rfl rfl (Nat.le_of_ble_eq_true rfl) (c_X9_isWithin) (fun v m1 hq => ?_)
  obtain ⟨rfl, rfl⟩ := hq
  refine q_if_ne (tgt := 11) dX9_back_6 (by decide) (fun c6 => ?_) (fun c6 => ?_)
  · have H := H.1 (b_yes c6)
    refine q_aload_n dX9_back_11 rfl ?_
    refine q_getr (r := 29) dX9_back_12 lf_RX9_52 s0 rfl rfl ?_
    refine q_iload_n dX9_back_15 rfl ?_
    obtain ⟨h1, H⟩ := H
    refine q_zald dX9_back_16 s29 (b_yes c6).1 h1 ?_
    refine q_if_ne (tgt := 23) dX9_back_17 (by decide) (fun c17 => ?_) (fun c17 => ?_)
    · have H := H.1 c17
      refine q_aload_n dX9_back_23 rfl ?_
      refine q_getr (r := 27) dX9_back_24 lf_RX9_48 s0 rfl rfl ?_
      refine q_iload_n dX9_back_27 rfl ?_
      refine q_aload_n dX9_back_28 rfl ?_
      refine q_getr (r := 18) dX9_back_29 lf_RX9_29 s0 rfl rfl ?_
      obtain ⟨h2, H⟩ := H
      obtain ⟨h3, H⟩ := H
      refine q_cVn (as := [vI _, vR _]) dX9_back_32 kmX7_bring kvX7_bring lm_RX9_335 ⟨by decide, by decide⟩ s27 ⟨by decide, rfl⟩ rfl rfl (Nat.le_of_ble_eq_true rfl) (c_X7_bring_27 (b_yes c6).1 h2 h3) (fun m1 hq => ?_)
      have H := H m1 hq
      refine q_aload_n dX9_back_35 rfl ?_
      refine q_getr (r := 24) dX9_back_36 lf_RX9_39 s0 rfl rfl ?_
      refine q_cVn (as := []) dX9_back_39 kmX5_drop kvX5_drop lm_RX9_131 ⟨by decide, by decide⟩ s24 ⟨by decide, rfl⟩ rfl rfl (Nat.le_of_ble_eq_true rfl) (c_X5_drop) (fun m1 hq => ?_)
      have H := H m1 hq
      refine q_aload_n dX9_back_42 rfl ?_
      refine q_getr (r := 18) dX9_back_43 lf_RX9_29 s0 rfl rfl ?_
      refine q_geti dX9_back_46 lf_RX9_175 s18 rfl ?_
      exact q_iret dX9_back_49 rfl ⟨_, rfl, rfl, H⟩
    · have H := H.2 c17
      refine q_bipush dX9_back_20 rfl (by decide) ?_
      exact q_iret dX9_back_22 rfl ⟨_, rfl, rfl, H⟩
  · have H := H.2 (b_no c6)
    refine q_iconst dX9_back_9 (by decide) ?_
    exact q_iret dX9_back_10 rfl ⟨_, rfl, rfl, H⟩

set_option maxRecDepth 20000 in
theorem v_X9_trace {P : Int → Mem → Prop} {mem : Mem}  (H : P (mem 0 14) mem) : Tot mX9_trace 0 0 [vR 0] SH mem (Pl SH P) := by
  refine Tot.of rfl (Nat.le_of_ble_eq_true rfl) (by simp [isJ]) (ls := [vR 0]) rfl ?_
  refine q_aload_n dX9_trace_0 rfl ?_
  refine q_getl dX9_trace_1 lf_RX9_318 s0 rfl ?_
  exact q_lret dX9_trace_4 rfl ⟨_, rfl, rfl, H⟩


def raV (m : Mem) (k s : Int) : Int := if k = 0 then thD m 20 s else if k = 1 then thD m 20 s + shP m s else if k = 2 then thD m 20 s - m 20 s.toNat else if k = 3 then 2 * (thD m 20 s + shP m s) else if k = 4 then thD m 20 s - m 20 s.toNat + s else thD m 20 s + m 18 3
def raT (k : Int) : Int := if k = 0 then 1 else if k = 1 then 11 else if k = 2 then 101 else if k = 3 then 1011 else if k = 4 then 10101 else 100001
def raQ (m0 : Mem) (k s v : Int) (m : Mem) : Prop := ((0 ≤ k ∧ k ≤ 5) ∧ (0 ≤ s ∧ s < m0 7 2) ∧ v = raV m0 k s ∧ m = mset m0 0 14 (m0 0 14 + raT k)) ∨ (¬ ((0 ≤ k ∧ k ≤ 5) ∧ (0 ≤ s ∧ s < m0 7 2)) ∧ v = -1000000 ∧ m = m0)
def kpQ (m0 : Mem) (i v : Int) (m : Mem) : Prop := ((0 ≤ i ∧ i ≤ 1) ∧ v = m0 18 2 ∧ ∃ m3, shuP_27 i m0 m3 ∧ m = mset m3 29 i.toNat 1) ∨ (¬ (0 ≤ i ∧ i ≤ 1) ∧ v = -1 ∧ m = m0)
def bkQ (m0 : Mem) (i v : Int) (m : Mem) : Prop := ((0 ≤ i ∧ i ≤ 1) ∧ ((m0 29 i.toNat = 0 ∧ v = -2 ∧ m = m0) ∨ (m0 29 i.toNat ≠ 0 ∧ v = m 18 2 ∧ ∃ m4, shbP_27 i m0 m4 ∧ m = mset m4 24 2 0))) ∨ (¬ (0 ≤ i ∧ i ≤ 1) ∧ v = -1 ∧ m = m0)
theorem c_X9_keep {m0 : Mem} {i : Int} (h27 : m0 27 0 = 2) : Tot mX9_keep 0 0 [vR 0, vI i] SH m0 (Pr SH (kpQ m0 i)) := by
  refine v_X9_keep ⟨fun q => ⟨by omega, by omega, fun m3 h3 => ⟨by omega, fun m5 h5 => Or.inl ⟨q, ?_, m3, h3, h5⟩⟩⟩, fun q => Or.inr ⟨q, rfl, rfl⟩⟩
  rw [h5, mset_ne 18 (by decide), h3.1.at 18]
theorem c_X9_back {m0 : Mem} {i : Int} (h27 : m0 27 0 = 2) : Tot mX9_back 0 0 [vR 0, vI i] SH m0 (Pr SH (bkQ m0 i)) := by
  exact v_X9_back ⟨fun q => ⟨by omega, fun z => ⟨by omega, by omega, fun m4 h4 m5 h5 => Or.inl ⟨q, Or.inr ⟨z, rfl, m4, h4, h5⟩⟩⟩, fun z => Or.inl ⟨q, Or.inl ⟨z, rfl, rfl⟩⟩⟩, fun q => Or.inr ⟨q, rfl, rfl⟩⟩
theorem trB_le {z z' : Int} {m : Mem} (h : trB z m) (hz : z ≤ z') : trB z' m := by
  unfold trB at *
  omega
theorem c_X9_rate {m0 : Mem} {k s : Int} (hh : hsD m0) (hm : moD m0 19 20) (ht : trB 1000000000000 m0) (h3 : 0 ≤ m0 18 3 ∧ m0 18 3 ≤ 23) : Tot mX9_rate 0 0 [vR 0, vI k, vI s] SH m0 (Pr SH (raQ m0 k s)) := by
  refine v_X9_rate ⟨fun q => ⟨fun e => ⟨hh, hm, trB_le ht (by decide), fun v m h => ?_⟩, fun e => ⟨hh, hm, trB_le ht (by decide), fun v m h => ?_⟩, fun e => ⟨hh, hm, trB_le ht (by decide), fun v m h => ?_⟩, fun e => ⟨hh, hm, trB_le ht (by decide), fun v m h => ?_⟩, fun e => ⟨hh, hm, trB_le ht (by decide), fun v m h => ?_⟩, fun e => ⟨hh, hm, trB_le ht (by decide), h3, fun v m h => ?_⟩, fun e => ?_⟩, fun q => Or.inr ⟨fun z => q z.2, rfl, rfl⟩⟩
  all_goals first
    | (subst e; exact Or.inl ⟨by decide, q, h.1, h.2⟩)
    | exact Or.inr ⟨by omega, rfl, rfl⟩
theorem c_X9_trace {m0 : Mem} : Tot mX9_trace 0 0 [vR 0] SH m0 (Pl SH (Pv (m0 0 14) m0)) := v_X9_trace ⟨rfl, rfl⟩
def bgP (m0 m : Mem) : Prop := Fr [18, 19, 20] m0 m ∧ m 18 2 = 0 ∧ m 18 3 = 0 ∧ ∀ s : Int, 0 ≤ s → s < 4 → m 19 s.toNat = -9 ∧ m 20 s.toNat = 0
theorem c_beg18 {m0 : Mem} : Tot mX4_begin 0 0 [vR 18] SH m0 (Pn SH (bgP m0)) := c_X4_begin (by decide) (by decide) (by decide)
def w_X9_startAnew_30 (P : Mem → Prop) (a1 : Int) (mem : Mem) : Prop := WP mX9_startAnew none 0 0 (Pn SH P) 30 [vR 0, vI a1] [] SH mem
set_option maxRecDepth 20000 in
theorem v_X9_startAnew_30 {P : Mem → Prop} {a1 : Int} {mem : Mem}  (H : (2 ≤ a1 → P mem) ∧ (a1 < 2 → (0 ≤ a1) ∧ (∀ m2 : Mem, m2 = mset mem 29 a1.toNat 0 → ((inR (a1 + 1)) ∧ (w_X9_startAnew_30 P (a1 + 1) m2))))) : w_X9_startAnew_30 P a1 mem := by
  unfold w_X9_startAnew_30
  refine q_iload_n dX9_startAnew_30 rfl ?_
  refine q_iconst dX9_startAnew_31 (by decide) ?_
  refine q_icmp_ge (tgt := 48) dX9_startAnew_32 (by decide) (fun c32 => ?_) (fun c32 => ?_)
  · have H := H.1 c32
    exact q_vret dX9_startAnew_48 rfl ⟨rfl, rfl, H⟩
  · have H := H.2 c32
    refine q_aload_n dX9_startAnew_35 rfl ?_
    refine q_getr (r := 29) dX9_startAnew_36 lf_RX9_52 s0 rfl rfl ?_
    refine q_iload_n dX9_startAnew_39 rfl ?_
    refine q_iconst dX9_startAnew_40 (by decide) ?_
    obtain ⟨h1, H⟩ := H
    refine q_zast dX9_startAnew_41 s29 h1 c32 (by decide) ?_
    have H := H _ rfl
    obtain ⟨h3, H⟩ := H
    refine q_iinc dX9_startAnew_42 rfl h3 rfl ?_
    refine q_goto (tgt := 30) dX9_startAnew_45 (by decide) ?_
    exact H
set_option maxRecDepth 20000 in
theorem v_X9_startAnew {P : Mem → Prop} {mem : Mem}  (H : ∀ m1 : Mem, bgP mem m1 → (∀ m2 : Mem, m2 = mset m1 24 2 0 → (∀ m3 : Mem, m3 = mset m2 30 2 0 → (∀ m4 : Mem, m4 = mset m3 32 2 0 → (w_X9_startAnew_30 P 0 m4))))) : Tot mX9_startAnew 0 0 [vR 0] SH mem (Pn SH P) := by
  refine Tot.of rfl (Nat.le_of_ble_eq_true rfl) (by simp [isJ]) (ls := [vR 0, vJ 0]) rfl ?_
  refine q_aload_n dX9_startAnew_0 rfl ?_
  refine q_getr (r := 18) dX9_startAnew_1 lf_RX9_29 s0 rfl rfl ?_
  refine q_cVn (as := []) dX9_startAnew_4 kmX4_begin kvX4_begin lm_RX9_128 ⟨by decide, by decide⟩ s18 ⟨by decide, rfl⟩ rfl rfl (Nat.le_of_ble_eq_true rfl) (c_beg18) (fun m1 hq => ?_)
  have H := H m1 hq
  refine q_aload_n dX9_startAnew_7 rfl ?_
  refine q_getr (r := 24) dX9_startAnew_8 lf_RX9_39 s0 rfl rfl ?_
  refine q_cVn (as := []) dX9_startAnew_11 kmX5_drop kvX5_drop lm_RX9_131 ⟨by decide, by decide⟩ s24 ⟨by decide, rfl⟩ rfl rfl (Nat.le_of_ble_eq_true rfl) (c_X5_drop) (fun m1 hq => ?_)
  have H := H m1 hq
  refine q_aload_n dX9_startAnew_14 rfl ?_
  refine q_getr (r := 30) dX9_startAnew_15 lf_RX9_59 s0 rfl rfl ?_
  refine q_cVn (as := []) dX9_startAnew_18 kmX6_drop kvX6_drop lm_RX9_132 ⟨by decide, by decide⟩ s30 ⟨by decide, rfl⟩ rfl rfl (Nat.le_of_ble_eq_true rfl) (c_X6_drop s30) (fun m1 hq => ?_)
  have H := H m1 hq
  refine q_aload_n dX9_startAnew_21 rfl ?_
  refine q_getr (r := 32) dX9_startAnew_22 lf_RX9_63 s0 rfl rfl ?_
  refine q_cVn (as := []) dX9_startAnew_25 kmX6_drop kvX6_drop lm_RX9_132 ⟨by decide, by decide⟩ s32 ⟨by decide, rfl⟩ rfl rfl (Nat.le_of_ble_eq_true rfl) (c_X6_drop s32) (fun m1 hq => ?_)
  have H := H m1 hq
  refine q_iconst dX9_startAnew_28 (by decide) ?_
  refine q_istore_n dX9_startAnew_29 (by decide) rfl ?_
  exact H


def saP (m0 m : Mem) : Prop := ∃ m1, bgP m0 m1 ∧ Fr [24, 29, 30, 32] m1 m ∧ m 24 2 = 0 ∧ m 24 1 = m1 24 1 ∧ m 30 2 = 0 ∧ m 30 0 = m1 30 0 ∧ m 32 2 = 0 ∧ m 32 0 = m1 32 0 ∧ ∀ i : Int, 0 ≤ i → i < 2 → m 29 i.toNat = 0
theorem sa_loop {m0 m1 m4 : Mem} (h1 : bgP m0 m1) (hF4 : Fr [24, 30, 32] m1 m4) (h2 : m4 24 2 = 0 ∧ m4 24 1 = m1 24 1 ∧ m4 30 2 = 0 ∧ m4 30 0 = m1 30 0 ∧ m4 32 2 = 0 ∧ m4 32 0 = m1 32 0) : ∀ (k : Nat) (a1 : Int) (m : Mem), 0 ≤ a1 → a1 ≤ 2 → (2 - a1).toNat ≤ k → Fr [29] m4 m → (∀ i : Int, 0 ≤ i → i < a1 → m 29 i.toNat = 0) → w_X9_startAnew_30 (saP m0) a1 m := by
  have hfin : ∀ (a1 : Int) (m : Mem), a1 = 2 → Fr [29] m4 m → (∀ i : Int, 0 ≤ i → i < a1 → m 29 i.toNat = 0) → saP m0 m := by
    intro a1 m e hF hx
    refine ⟨m1, h1, (hF4.mono (by decide)).tr (hF.mono (by decide)), ?_, ?_, ?_, ?_, ?_, ?_, fun i i0 i1 => hx i i0 (by omega)⟩
    · rw [hF.at 24]; exact h2.1
    · rw [hF.at 24]; exact h2.2.1
    · rw [hF.at 30]; exact h2.2.2.1
    · rw [hF.at 30]; exact h2.2.2.2.1
    · rw [hF.at 32]; exact h2.2.2.2.2.1
    · rw [hF.at 32]; exact h2.2.2.2.2.2
  intro k
  induction k with
  | zero =>
    intro a1 m h0 h1 hk hF hx
    exact v_X9_startAnew_30 ⟨fun _ => hfin a1 m (by omega) hF hx, fun q => by omega⟩
  | succ k ih =>
    intro a1 m h0 h1 hk hF hx
    refine v_X9_startAnew_30 ⟨fun q => hfin a1 m (by omega) hF hx, fun q => ⟨h0, fun m2 e2 => ⟨by unfold inR; omega, ?_⟩⟩⟩
    rw [e2]
    refine ih _ _ (by omega) (by omega) (by omega) (hF.set (by decide)) (fun i i0 i1 => ?_)
    rw [mset_at]
    by_cases e : i = a1
    · rw [e, if_pos ⟨rfl, rfl⟩]
    · rw [if_neg (fun r => e (by omega))]
      exact hx i i0 (by omega)
theorem c_X9_startAnew {m0 : Mem} : Tot mX9_startAnew 0 0 [vR 0] SH m0 (Pn SH (saP m0)) := by
  refine v_X9_startAnew (fun m1 h1 m2 e2 m3 e3 m4 e4 => ?_)
  refine sa_loop h1 (m4 := m4) ?_ ?_ 2 0 m4 (by omega) (by omega) (by omega) Fr.rf (fun i i0 i1 => by omega)
  · rw [e4, e3, e2]
    exact ((Fr.rf.set (by decide)).set (by decide)).set (by decide)
  · rw [e4, e3, e2]
    exact ⟨rfl, rfl, rfl, rfl, rfl, rfl⟩
