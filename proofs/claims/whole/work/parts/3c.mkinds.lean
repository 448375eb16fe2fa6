/-! THE MODEL: kinds; the first sheet worn through -/
theorem hsM_k {m m' : Mem} (h4 : ∀ k : Nat, k < 8 → m' 44 k = m 44 k) (h5 : m' 45 = m 45) (h6 : m' 46 = m 46) (h7 : m' 47 = m 47) : hsM m' ↔ hsM m := by
  unfold hsM mnC mnS mnA mnB mrC mrA mrB mrM mT mW mL mP
  rw [h4 0 (by decide), h4 1 (by decide), h4 2 (by decide), h4 3 (by decide), h4 5 (by decide), h4 7 (by decide), h5, h6, h7]
theorem moM_k {m m' : Mem} (h4 : ∀ k : Nat, k < 8 → m' 44 k = m 44 k) (h6 : m' 46 = m 46) (h8 : m' 48 = m 48) : moM m' ↔ moM m := by
  unfold moM mW mL
  rw [h4 0 (by decide), h4 1 (by decide), h4 5 (by decide), h6, h8]
def tmB (z : Int) (m : Mem) : Prop := -z ≤ m 44 18 ∧ m 44 18 ≤ z
def amP (m0 : Mem) (d x v : Int) (m : Mem) : Prop := v = x ∧ m = mset m0 44 18 (m0 44 18 + d)
theorem am_k {m0 m : Mem} {d : Int} (h : m = mset m0 44 18 d) : (∀ k : Nat, k < 8 → m 44 k = m0 44 k) ∧ Fr [44] m0 m := by
  rw [h]
  exact ⟨fun k hk => by rw [mset_at, if_neg (by omega)], Fr.rf.set (by decide)⟩
theorem am_hs {m0 m : Mem} {d : Int} (h : m = mset m0 44 18 d) (hh : hsM m0) : hsM m := (hsM_k (am_k h).1 ((am_k h).2.at 45) ((am_k h).2.at 46) ((am_k h).2.at 47)).mpr hh
theorem am_mo {m0 m : Mem} {d : Int} (h : m = mset m0 44 18 d) (hh : moM m0) : moM m := (moM_k (am_k h).1 ((am_k h).2.at 46) ((am_k h).2.at 48)).mpr hh
theorem am_up {m0 m2 : Mem} {d z z' : Int} (h : tmB z m0) (e : m2 = mset m0 44 18 (m0 44 18 + d)) (d0 : 0 ≤ d) (d1 : z + d ≤ z') : tmB z' m2 := by
  unfold tmB at *
  rw [e, mset_eq]
  omega
theorem am_two {m0 m2 m : Mem} {a b c : Int} (h2 : m2 = mset m0 44 18 (m0 44 18 + a)) (h : m = mset m2 44 18 (m2 44 18 + b)) (e : a + b = c) : m = mset m0 44 18 (m0 44 18 + c) := by
  rw [h, h2, mset_eq, mset2, ← e, Int.add_assoc]
set_option maxRecDepth 20000 in
theorem v_X10_sheetRate {s : Int} {P : Int → Mem → Prop} {mem : Mem}  (H : (inL ((mem 44 18) + 1)) ∧ (∀ m2 : Mem, m2 = (mset mem 44 18 ((mem 44 18) + 1)) → ((inR (6 + s)) ∧ ((0 ≤ (6 + s)) ∧ (((6 + s) < 10) ∧ ((hsM m2) ∧ ((0 ≤ s) ∧ ((s < m2 44 5) ∧ ((0 ≤ (m2 48 (6 + s).toNat)) ∧ (((m2 48 (6 + s).toNat) ≤ 100000) ∧ (P (thM m2 s (m2 48 (6 + s).toNat)) m2))))))))))) : Tot mX10_sheetRate 0 0 [vR 44, vI s] SH mem (Pr SH P) := by
  refine Tot.of rfl (Nat.le_of_ble_eq_true rfl) (by simp [isJ]) (ls := [vR 44, vI s]) rfl ?_
  refine q_aload_n dX10_sheetRate_0 rfl ?_
  refine q_dup dX10_sheetRate_1 rfl ?_
  refine q_getl dX10_sheetRate_2 lf_RX10_275 s44 rfl ?_
  refine q_lconst (z := 1) dX10_sheetRate_5 rfl (by decide) ?_
  obtain ⟨h1, H⟩ := H
  refine q_ladd dX10_sheetRate_6 h1 ?_
  refine q_putl dX10_sheetRate_7 lf_RX10_275 s44 rfl rfl ?_
  have H := H _ rfl
  refine q_aload_n dX10_sheetRate_10 rfl ?_
  refine q_iload_n dX10_sheetRate_11 rfl ?_
  refine q_aload_n dX10_sheetRate_12 rfl ?_
  refine q_getr (r := 48) dX10_sheetRate_13 lf_RX10_29 s44 rfl rfl ?_
  refine q_bipush dX10_sheetRate_16 rfl (by decide) ?_
  refine q_iload_n dX10_sheetRate_18 rfl ?_
  obtain ⟨h3, H⟩ := H
  refine q_iadd dX10_sheetRate_19 h3 ?_
  obtain ⟨h4, H⟩ := H
  obtain ⟨h5, H⟩ := H
  refine q_iald dX10_sheetRate_20 s48 h4 h5 ?_
  obtain ⟨h6, H⟩ := H
  obtain ⟨h7, H⟩ := H
  obtain ⟨h8, H⟩ := H
  obtain ⟨h9, H⟩ := H
  obtain ⟨h10, H⟩ := H
  refine q_cVi (as := [vI _, vI _]) dX10_sheetRate_21 kmX10_thickNow kvX10_thickNow lm_RX10_180 ⟨by decide, by decide⟩ s44 ⟨by decide, rfl⟩ rfl rfl (Nat.le_of_ble_eq_true rfl) (c_X10_thickNow h6 h7 h8 h9 h10) (fun v m1 hq => ?_)
  obtain ⟨rfl, rfl⟩ := hq
  exact q_iret dX10_sheetRate_24 rfl ⟨_, rfl, rfl, H⟩


theorem thM_b {m : Mem} (hh : hsM m) {s wn : Int} (s0 : 0 ≤ s) (sn : s < m 44 5) (w0 : 0 ≤ wn) : 0 ≤ thM m s wn ∧ thM m s wn ≤ 30 := by
  have q := (hh.2.2.2.2.2.2.2.2.1 s s0 sn).1
  show 0 ≤ max 0 (mT m s - wn / 10) ∧ max 0 (mT m s - wn / 10) ≤ 30
  generalize mT m s = a at q ⊢
  omega
abbrev trV (m : Mem) (s : Int) : Int := thM m s (m 48 (6 + s).toNat)
theorem trV_am {m0 m : Mem} {d s : Int} (h : m = mset m0 44 18 d) : trV m s = trV m0 s := by
  unfold trV thM mT
  rw [(am_k h).2.at 46, (am_k h).2.at 48]
theorem c_X10_sheetRate {m0 : Mem} {s : Int} (hh : hsM m0) (hm : moM m0) (s0 : 0 ≤ s) (sn : s < m0 44 5) (ht : tmB 4000000000000 m0) : Tot mX10_sheetRate 0 0 [vR 44, vI s] SH m0 (Pr SH (amP m0 1 (trV m0 s))) := by
  have h5 := hh.2.2.2.2.2.1
  refine v_X10_sheetRate ⟨by unfold inL; have := ht.1; have := ht.2; omega, fun m2 h2 => ?_⟩
  have hk := am_k h2
  rw [hk.2.at 48, hk.1 5 (by decide)]
  refine ⟨by unfold inR; omega, by omega, by omega, am_hs h2 hh, s0, sn, (hm s s0 sn).2.1, (hm s s0 sn).2.2, ?_, h2⟩
  have e := trV_am (s := s) h2
  unfold trV at e
  rw [hk.2.at 48] at e
  exact e
set_option maxRecDepth 20000 in
theorem v_X10_churchRate {s : Int} {P : Int → Mem → Prop} {mem : Mem}  (H : (inL ((mem 44 18) + 10)) ∧ (∀ m2 : Mem, m2 = (mset mem 44 18 ((mem 44 18) + 10)) → ((hsM m2) ∧ ((moM m2) ∧ ((0 ≤ s) ∧ ((s < m2 44 5) ∧ ((tmB 4000000000000 m2) ∧ (∀ (v8 : Int) (m9 : Mem), amP m2 1 (trV m2 s) v8 m9 → ((inR (4 * s)) ∧ ((inR ((4 * s) + 3)) ∧ ((0 ≤ ((4 * s) + 3)) ∧ ((((4 * s) + 3) < 16) ∧ ((inR (v8 + (m9 46 ((4 * s) + 3).toNat))) ∧ (P (v8 + (m9 46 ((4 * s) + 3).toNat)) m9)))))))))))))) : Tot mX10_churchRate 0 0 [vR 44, vI s] SH mem (Pr SH P) := by
  refine Tot.of rfl (Nat.le_of_ble_eq_true rfl) (by simp [isJ]) (ls := [vR 44, vI s]) rfl ?_
  refine q_aload_n dX10_churchRate_0 rfl ?_
  refine q_dup dX10_churchRate_1 rfl ?_
  refine q_getl dX10_churchRate_2 lf_RX10_275 s44 rfl ?_
  refine q_ldc2 (n := 10) dX10_churchRate_5 lk_RX10_279 (by decide) ?_
  obtain ⟨h1, H⟩ := H
  refine q_ladd dX10_churchRate_8 h1 ?_
  refine q_putl dX10_churchRate_9 lf_RX10_275 s44 rfl rfl ?_
  have H := H _ rfl
  refine q_aload_n dX10_churchRate_12 rfl ?_
  refine q_iload_n dX10_churchRate_13 rfl ?_
  obtain ⟨h3, H⟩ := H
  obtain ⟨h4, H⟩ := H
  obtain ⟨h5, H⟩ := H
  obtain ⟨h6, H⟩ := H
  obtain ⟨h7, H⟩ := H
  refine q_cVi (as := [vI _]) dX10_churchRate_14 kmX10_sheetRate kvX10_sheetRate lm_RX10_281 ⟨by decide, by decide⟩ s44 ⟨by decide, rfl⟩ rfl rfl (Nat.le_of_ble_eq_true rfl) (c_X10_sheetRate h3 h4 h5 h6 h7) (fun v m1 hq => ?_)
  have H := H v m1 hq
  refine q_aload_n dX10_churchRate_17 rfl ?_
  refine q_getr (r := 46) dX10_churchRate_18 lf_RX10_23 s44 rfl rfl ?_
  refine q_iconst dX10_churchRate_21 (by decide) ?_
  refine q_iload_n dX10_churchRate_22 rfl ?_
  obtain ⟨h10, H⟩ := H
  refine q_imul dX10_churchRate_23 h10 ?_
  refine q_iconst dX10_churchRate_24 (by decide) ?_
  obtain ⟨h11, H⟩ := H
  refine q_iadd dX10_churchRate_25 h11 ?_
  obtain ⟨h12, H⟩ := H
  obtain ⟨h13, H⟩ := H
  refine q_iald dX10_churchRate_26 s46 h12 h13 ?_
  obtain ⟨h14, H⟩ := H
  refine q_iadd dX10_churchRate_27 h14 ?_
  exact q_iret dX10_churchRate_28 rfl ⟨_, rfl, rfl, H⟩

set_option maxRecDepth 20000 in
theorem v_X10_snowRate {s : Int} {P : Int → Mem → Prop} {mem : Mem}  (H : (inL ((mem 44 18) + 100)) ∧ (∀ m2 : Mem, m2 = (mset mem 44 18 ((mem 44 18) + 100)) → ((hsM m2) ∧ ((moM m2) ∧ ((0 ≤ s) ∧ ((s < m2 44 5) ∧ ((tmB 4000000000000 m2) ∧ (∀ (v8 : Int) (m9 : Mem), amP m2 1 (trV m2 s) v8 m9 → ((inR (6 + s)) ∧ ((0 ≤ (6 + s)) ∧ (((6 + s) < 10) ∧ ((inR (v8 - (m9 48 (6 + s).toNat))) ∧ (P (v8 - (m9 48 (6 + s).toNat)) m9))))))))))))) : Tot mX10_snowRate 0 0 [vR 44, vI s] SH mem (Pr SH P) := by
  refine Tot.of rfl (Nat.le_of_ble_eq_true rfl) (by simp [isJ]) (ls := [vR 44, vI s]) rfl ?_
  refine q_aload_n dX10_snowRate_0 rfl ?_
  refine q_dup dX10_snowRate_1 rfl ?_
  refine q_getl dX10_snowRate_2 lf_RX10_275 s44 rfl ?_
  refine q_ldc2 (n := 100) dX10_snowRate_5 lk_RX10_284 (by decide) ?_
  obtain ⟨h1, H⟩ := H
  refine q_ladd dX10_snowRate_8 h1 ?_
  refine q_putl dX10_snowRate_9 lf_RX10_275 s44 rfl rfl ?_
  have H := H _ rfl
  refine q_aload_n dX10_snowRate_12 rfl ?_
  refine q_iload_n dX10_snowRate_13 rfl ?_
  obtain ⟨h3, H⟩ := H
  obtain ⟨h4, H⟩ := H
  obtain ⟨h5, H⟩ := H
  obtain ⟨h6, H⟩ := H
  obtain ⟨h7, H⟩ := H
  refine q_cVi (as := [vI _]) dX10_snowRate_14 kmX10_sheetRate kvX10_sheetRate lm_RX10_281 ⟨by decide, by decide⟩ s44 ⟨by decide, rfl⟩ rfl rfl (Nat.le_of_ble_eq_true rfl) (c_X10_sheetRate h3 h4 h5 h6 h7) (fun v m1 hq => ?_)
  have H := H v m1 hq
  refine q_aload_n dX10_snowRate_17 rfl ?_
  refine q_getr (r := 48) dX10_snowRate_18 lf_RX10_29 s44 rfl rfl ?_
  refine q_bipush dX10_snowRate_21 rfl (by decide) ?_
  refine q_iload_n dX10_snowRate_23 rfl ?_
  obtain ⟨h10, H⟩ := H
  refine q_iadd dX10_snowRate_24 h10 ?_
  obtain ⟨h11, H⟩ := H
  obtain ⟨h12, H⟩ := H
  refine q_iald dX10_snowRate_25 s48 h11 h12 ?_
  obtain ⟨h13, H⟩ := H
  refine q_isub dX10_snowRate_26 h13 ?_
  exact q_iret dX10_snowRate_27 rfl ⟨_, rfl, rfl, H⟩


theorem c_X10_churchRate {m0 : Mem} {s : Int} (hh : hsM m0) (hm : moM m0) (s0 : 0 ≤ s) (sn : s < m0 44 5) (ht : tmB 3000000000000 m0) : Tot mX10_churchRate 0 0 [vR 44, vI s] SH m0 (Pr SH (amP m0 11 (trV m0 s + mP m0 s))) := by
  have h5 := hh.2.2.2.2.2.1
  refine v_X10_churchRate ⟨by unfold inL; have := ht.1; have := ht.2; omega, fun m2 h2 => ?_⟩
  have hk := am_k h2
  refine ⟨am_hs h2 hh, am_mo h2 hm, s0, by rw [hk.1 5 (by decide)]; exact sn, am_up ht h2 (by decide) (by decide), fun v8 m9 h9 => ?_⟩
  have hk9 := am_k h9.2
  have hp : 1 ≤ mP m0 s ∧ mP m0 s ≤ 9 := (hh.2.2.2.2.2.2.2.2.1 s s0 sn).2.2.2
  have hb := thM_b hh s0 sn (hm s s0 sn).2.1
  have ev := h9.1
  rw [trV_am h2] at ev
  have ep : m9 46 (4 * s + 3).toNat = mP m0 s := by rw [hk9.2.at 46, hk.2.at 46]
  rw [ep, ev]
  refine ⟨by unfold inR; omega, by unfold inR; omega, by omega, by omega, ?_, rfl, am_two h2 h9.2 rfl⟩
  have hb' : 0 ≤ trV m0 s ∧ trV m0 s ≤ 30 := hb
  unfold inR
  generalize trV m0 s = x at hb' ⊢
  generalize mP m0 s = y at hp ⊢
  omega
theorem c_X10_snowRate {m0 : Mem} {s : Int} (hh : hsM m0) (hm : moM m0) (s0 : 0 ≤ s) (sn : s < m0 44 5) (ht : tmB 3000000000000 m0) : Tot mX10_snowRate 0 0 [vR 44, vI s] SH m0 (Pr SH (amP m0 101 (trV m0 s - m0 48 (6 + s).toNat))) := by
  have h5 := hh.2.2.2.2.2.1
  refine v_X10_snowRate ⟨by unfold inL; have := ht.1; have := ht.2; omega, fun m2 h2 => ?_⟩
  have hk := am_k h2
  refine ⟨am_hs h2 hh, am_mo h2 hm, s0, by rw [hk.1 5 (by decide)]; exact sn, am_up ht h2 (by decide) (by decide), fun v8 m9 h9 => ?_⟩
  have hk9 := am_k h9.2
  have hw := (hm s s0 sn).2
  have hb := thM_b hh s0 sn (hm s s0 sn).2.1
  have ev := h9.1
  rw [trV_am h2] at ev
  have ep : m9 48 (6 + s).toNat = m0 48 (6 + s).toNat := by rw [hk9.2.at 48, hk.2.at 48]
  rw [ep, ev]
  refine ⟨by unfold inR; omega, by omega, by omega, ?_, rfl, am_two h2 h9.2 rfl⟩
  have hb' : 0 ≤ trV m0 s ∧ trV m0 s ≤ 30 := hb
  unfold inR
  generalize trV m0 s = x at hb' ⊢
  omega
set_option maxRecDepth 20000 in
theorem v_X10_rate {k s : Int} {P : Int → Mem → Prop} {mem : Mem}  (H : (¬ (0 ≤ k ∧ k ≤ 5) → P (-1000000) mem) ∧ ((0 ≤ k ∧ k ≤ 5) → (hsM mem) ∧ (((0 ≤ s ∧ s < mem 44 5) → (k = 0 → (moM mem) ∧ ((tmB 4000000000000 mem) ∧ (∀ (v4 : Int) (m5 : Mem), amP mem 1 (trV mem s) v4 m5 → (P v4 m5)))) ∧ (k = 1 → (moM mem) ∧ ((tmB 3000000000000 mem) ∧ (∀ (v8 : Int) (m9 : Mem), amP mem 11 (trV mem s + mP mem s) v8 m9 → (P v8 m9)))) ∧ (k = 2 → (moM mem) ∧ ((tmB 3000000000000 mem) ∧ (∀ (v12 : Int) (m13 : Mem), amP mem 101 (trV mem s - mem 48 (6 + s).toNat) v12 m13 → (P v12 m13)))) ∧ (k = 3 → (inL ((mem 44 18) + 1000)) ∧ (∀ m15 : Mem, m15 = (mset mem 44 18 ((mem 44 18) + 1000)) → ((hsM m15) ∧ ((moM m15) ∧ ((s < m15 44 5) ∧ ((tmB 3000000000000 m15) ∧ (∀ (v20 : Int) (m21 : Mem), amP m15 11 (trV m15 s + mP m15 s) v20 m21 → ((inR (2 * v20)) ∧ (P (2 * v20) m21))))))))) ∧ (k = 4 → (inL ((mem 44 18) + 10000)) ∧ (∀ m24 : Mem, m24 = (mset mem 44 18 ((mem 44 18) + 10000)) → ((hsM m24) ∧ ((moM m24) ∧ ((s < m24 44 5) ∧ ((tmB 3000000000000 m24) ∧ (∀ (v29 : Int) (m30 : Mem), amP m24 101 (trV m24 s - m24 48 (6 + s).toNat) v29 m30 → ((inR (v29 + s)) ∧ (P (v29 + s) m30))))))))) ∧ (¬ k = 0 ∧ ¬ k = 1 ∧ ¬ k = 2 ∧ ¬ k = 3 ∧ ¬ k = 4 → (inL ((mem 44 18) + 100000)) ∧ (∀ m33 : Mem, m33 = (mset mem 44 18 ((mem 44 18) + 100000)) → ((hsM m33) ∧ ((moM m33) ∧ ((s < m33 44 5) ∧ ((tmB 4000000000000 m33) ∧ (∀ (v38 : Int) (m39 : Mem), amP m33 1 (trV m33 s) v38 m39 → ((inR (v38 + (m39 48 1))) ∧ (P (v38 + (m39 48 1)) m39)))))))))) ∧ (¬ (0 ≤ s ∧ s < mem 44 5) → P (-1000000) mem)))) : Tot mX10_rate 0 0 [vR 44, vI k, vI s] SH mem (Pr SH P) := by
  refine Tot.of rfl (Nat.le_of_ble_eq_true rfl) (by simp [isJ]) (ls := [vR 44, vI k, vI s]) rfl ?_
  refine q_iload_n dX10_rate_0 rfl ?_
  refine q_iconst dX10_rate_1 (by decide) ?_
  refine q_iconst dX10_rate_2 (by decide) ?_
  refine q_cSi (as := [vI _, vI _, vI _]) dX10_rate_3 kmX10_in ktX10_in lm_RX10_90 ⟨by decide, by decide⟩ rfl rfl (Nat.le_of_ble_eq_true rfl) (c_X10_in) (fun v m1 hq => ?_)
  obtain ⟨rfl, rfl⟩ := hq
  refine q_if_eq (tgt := 17) dX10_rate_6 (by decide) (fun c6 => ?_) (fun c6 => ?_)
  · have H := H.1 (b_no c6)
    refine q_ldcw (n := (-1000000)) dX10_rate_17 lk_RX10_262 (by decide) ?_
    exact q_iret dX10_rate_20 rfl ⟨_, rfl, rfl, H⟩
  · have H := H.2 (b_yes c6)
    refine q_aload_n dX10_rate_9 rfl ?_
    refine q_iload_n dX10_rate_10 rfl ?_
    obtain ⟨h1, H⟩ := H
    refine q_cVi (as := [vI _]) dX10_rate_11 kmX10_isSheet kvX10_isSheet lm_RX10_204 ⟨by decide, by decide⟩ s44 ⟨by decide, rfl⟩ rfl rfl (Nat.le_of_ble_eq_true rfl) (c_X10_isSheet h1) (fun v m1 hq => ?_)
    obtain ⟨rfl, rfl⟩ := hq
    refine q_if_ne (tgt := 21) dX10_rate_14 (by decide) (fun c14 => ?_) (fun c14 => ?_)
    · have H := H.1 (b_yes c14)
      refine q_iload_n dX10_rate_21 rfl ?_
      refine q_tsk (dt := 114) [(0, 56), (1, 62), (2, 68), (3, 74), (4, 94)] dX10_rate_22 rfl rfl (by decide) (by decide) ?_ ?_
      · refine List.forall_mem_cons.mpr ⟨fun ha => ?_, List.forall_mem_cons.mpr ⟨fun ha => ?_, List.forall_mem_cons.mpr ⟨fun ha => ?_, List.forall_mem_cons.mpr ⟨fun ha => ?_, List.forall_mem_cons.mpr ⟨fun ha => ?_, fun _ h => nomatch h⟩⟩⟩⟩⟩
        · have H := H.1 (by simp only at ha; omega)
          refine q_aload_n dX10_rate_56 rfl ?_
          refine q_iload_n dX10_rate_57 rfl ?_
          obtain ⟨h2, H⟩ := H
          obtain ⟨h3, H⟩ := H
          refine q_cVi (as := [vI _]) dX10_rate_58 kmX10_sheetRate kvX10_sheetRate lm_RX10_281 ⟨by decide, by decide⟩ s44 ⟨by decide, rfl⟩ rfl rfl (Nat.le_of_ble_eq_true rfl) (c_X10_sheetRate h1 h2 (b_yes c14).1 (b_yes c14).2 h3) (fun v m1 hq => ?_)
          have H := H v m1 hq
          exact q_iret dX10_rate_61 rfl ⟨_, rfl, rfl, H⟩
        · have H := H.2.1 (by simp only at ha; omega)
          refine q_aload_n dX10_rate_62 rfl ?_
          refine q_iload_n dX10_rate_63 rfl ?_
          obtain ⟨h6, H⟩ := H
          obtain ⟨h7, H⟩ := H
          refine q_cVi (as := [vI _]) dX10_rate_64 kmX10_churchRate kvX10_churchRate lm_RX10_286 ⟨by decide, by decide⟩ s44 ⟨by decide, rfl⟩ rfl rfl (Nat.le_of_ble_eq_true rfl) (c_X10_churchRate h1 h6 (b_yes c14).1 (b_yes c14).2 h7) (fun v m1 hq => ?_)
          have H := H v m1 hq
          exact q_iret dX10_rate_67 rfl ⟨_, rfl, rfl, H⟩
        · have H := H.2.2.1 (by simp only at ha; omega)
          refine q_aload_n dX10_rate_68 rfl ?_
          refine q_iload_n dX10_rate_69 rfl ?_
          obtain ⟨h10, H⟩ := H
          obtain ⟨h11, H⟩ := H
          refine q_cVi (as := [vI _]) dX10_rate_70 kmX10_snowRate kvX10_snowRate lm_RX10_289 ⟨by decide, by decide⟩ s44 ⟨by decide, rfl⟩ rfl rfl (Nat.le_of_ble_eq_true rfl) (c_X10_snowRate h1 h10 (b_yes c14).1 (b_yes c14).2 h11) (fun v m1 hq => ?_)
          have H := H v m1 hq
          exact q_iret dX10_rate_73 rfl ⟨_, rfl, rfl, H⟩
        · have H := H.2.2.2.1 (by simp only at ha; omega)
          refine q_aload_n dX10_rate_74 rfl ?_
          refine q_dup dX10_rate_75 rfl ?_
          refine q_getl dX10_rate_76 lf_RX10_275 s44 rfl ?_
          refine q_ldc2 (n := 1000) dX10_rate_79 lk_RX10_292 (by decide) ?_
          obtain ⟨h14, H⟩ := H
          refine q_ladd dX10_rate_82 h14 ?_
          refine q_putl dX10_rate_83 lf_RX10_275 s44 rfl rfl ?_
          have H := H _ rfl
          refine q_iconst dX10_rate_86 (by decide) ?_
          refine q_aload_n dX10_rate_87 rfl ?_
          refine q_iload_n dX10_rate_88 rfl ?_
          obtain ⟨h16, H⟩ := H
          obtain ⟨h17, H⟩ := H
          obtain ⟨h18, H⟩ := H
          obtain ⟨h19, H⟩ := H
          refine q_cVi (as := [vI _]) dX10_rate_89 kmX10_churchRate kvX10_churchRate lm_RX10_286 ⟨by decide, by decide⟩ s44 ⟨by decide, rfl⟩ rfl rfl (Nat.le_of_ble_eq_true rfl) (c_X10_churchRate h16 h17 (b_yes c14).1 h18 h19) (fun v m1 hq => ?_)
          have H := H v m1 hq
          obtain ⟨h22, H⟩ := H
          refine q_imul dX10_rate_92 h22 ?_
          exact q_iret dX10_rate_93 rfl ⟨_, rfl, rfl, H⟩
        · have H := H.2.2.2.2.1 (by simp only at ha; omega)
          refine q_aload_n dX10_rate_94 rfl ?_
          refine q_dup dX10_rate_95 rfl ?_
          refine q_getl dX10_rate_96 lf_RX10_275 s44 rfl ?_
          refine q_ldc2 (n := 10000) dX10_rate_99 lk_RX10_294 (by decide) ?_
          obtain ⟨h23, H⟩ := H
          refine q_ladd dX10_rate_102 h23 ?_
          refine q_putl dX10_rate_103 lf_RX10_275 s44 rfl rfl ?_
          have H := H _ rfl
          refine q_aload_n dX10_rate_106 rfl ?_
          refine q_iload_n dX10_rate_107 rfl ?_
          obtain ⟨h25, H⟩ := H
          obtain ⟨h26, H⟩ := H
          obtain ⟨h27, H⟩ := H
          obtain ⟨h28, H⟩ := H
          refine q_cVi (as := [vI _]) dX10_rate_108 kmX10_snowRate kvX10_snowRate lm_RX10_289 ⟨by decide, by decide⟩ s44 ⟨by decide, rfl⟩ rfl rfl (Nat.le_of_ble_eq_true rfl) (c_X10_snowRate h25 h26 (b_yes c14).1 h27 h28) (fun v m1 hq => ?_)
          have H := H v m1 hq
          refine q_iload_n dX10_rate_111 rfl ?_
          obtain ⟨h31, H⟩ := H
          refine q_iadd dX10_rate_112 h31 ?_
          exact q_iret dX10_rate_113 rfl ⟨_, rfl, rfl, H⟩
      · intro ho
        have H := H.2.2.2.2.2 (by omega)
        refine q_aload_n dX10_rate_114 rfl ?_
        refine q_dup dX10_rate_115 rfl ?_
        refine q_getl dX10_rate_116 lf_RX10_275 s44 rfl ?_
        refine q_ldc2 (n := 100000) dX10_rate_119 lk_RX10_296 (by decide) ?_
        obtain ⟨h32, H⟩ := H
        refine q_ladd dX10_rate_122 h32 ?_
        refine q_putl dX10_rate_123 lf_RX10_275 s44 rfl rfl ?_
        have H := H _ rfl
        refine q_aload_n dX10_rate_126 rfl ?_
        refine q_iload_n dX10_rate_127 rfl ?_
        obtain ⟨h34, H⟩ := H
        obtain ⟨h35, H⟩ := H
        obtain ⟨h36, H⟩ := H
        obtain ⟨h37, H⟩ := H
        refine q_cVi (as := [vI _]) dX10_rate_128 kmX10_sheetRate kvX10_sheetRate lm_RX10_281 ⟨by decide, by decide⟩ s44 ⟨by decide, rfl⟩ rfl rfl (Nat.le_of_ble_eq_true rfl) (c_X10_sheetRate h34 h35 (b_yes c14).1 h36 h37) (fun v m1 hq => ?_)
        have H := H v m1 hq
        refine q_aload_n dX10_rate_131 rfl ?_
        refine q_getr (r := 48) dX10_rate_132 lf_RX10_29 s44 rfl rfl ?_
        refine q_iconst dX10_rate_135 (by decide) ?_
        refine q_iald dX10_rate_136 s48 (by decide) (by decide) ?_
        obtain ⟨h40, H⟩ := H
        refine q_iadd dX10_rate_137 h40 ?_
        exact q_iret dX10_rate_138 rfl ⟨_, rfl, rfl, H⟩
    · have H := H.2 (b_no c14)
      refine q_ldcw (n := (-1000000)) dX10_rate_17 lk_RX10_262 (by decide) ?_
      exact q_iret dX10_rate_20 rfl ⟨_, rfl, rfl, H⟩


def raV2 (m : Mem) (k s : Int) : Int := if k = 0 then trV m s else if k = 1 then trV m s + mP m s else if k = 2 then trV m s - m 48 (6 + s).toNat else if k = 3 then 2 * (trV m s + mP m s) else if k = 4 then trV m s - m 48 (6 + s).toNat + s else trV m s + m 48 1
def raM (m0 : Mem) (k s v : Int) (m : Mem) : Prop := ((0 ≤ k ∧ k ≤ 5) ∧ (0 ≤ s ∧ s < m0 44 5) ∧ v = raV2 m0 k s ∧ m = mset m0 44 18 (m0 44 18 + raT k)) ∨ (¬ ((0 ≤ k ∧ k ≤ 5) ∧ (0 ≤ s ∧ s < m0 44 5)) ∧ v = -1000000 ∧ m = m0)
theorem c_X10_rate {m0 : Mem} {k s : Int} (hh : hsM m0) (hm : moM m0) (ht : tmB 1000000000000 m0) (h1 : 0 ≤ m0 48 1 ∧ m0 48 1 ≤ 23) : Tot mX10_rate 0 0 [vR 44, vI k, vI s] SH m0 (Pr SH (raM m0 k s)) := by
  have h5 := hh.2.2.2.2.2.1
  have hup : ∀ {z : Int}, 1000000000000 ≤ z → tmB z m0 := fun h => by unfold tmB at *; omega
  have hiL : ∀ d : Int, 0 ≤ d → d ≤ 1000000 → inL (m0 44 18 + d) := fun d h0 h1 => by
    unfold tmB at ht
    unfold inL
    omega
  refine v_X10_rate ⟨fun q => Or.inr ⟨fun z => q z.1, rfl, rfl⟩, fun q => ⟨hh, fun q2 => ⟨fun e => ⟨hm, hup (by decide), fun v m h => ?_⟩, fun e => ⟨hm, hup (by decide), fun v m h => ?_⟩, fun e => ⟨hm, hup (by decide), fun v m h => ?_⟩, fun e => ⟨hiL _ (by decide) (by decide), fun m2 e2 => ?_⟩, fun e => ⟨hiL _ (by decide) (by decide), fun m2 e2 => ?_⟩, fun e => ⟨hiL _ (by decide) (by decide), fun m2 e2 => ?_⟩⟩, fun q2 => Or.inr ⟨fun z => q2 z.2, rfl, rfl⟩⟩⟩
  · subst e; exact Or.inl ⟨q, q2, h.1, h.2⟩
  · subst e; exact Or.inl ⟨q, q2, h.1, h.2⟩
  · subst e; exact Or.inl ⟨q, q2, h.1, h.2⟩
  all_goals
    have hk := am_k e2
    have hp : 1 ≤ mP m0 s ∧ mP m0 s ≤ 9 := (hh.2.2.2.2.2.2.2.2.1 s q2.1 q2.2).2.2.2
    have hb : 0 ≤ trV m0 s ∧ trV m0 s ≤ 30 := thM_b hh q2.1 q2.2 (hm s q2.1 q2.2).2.1
    have hw := (hm s q2.1 q2.2).2
    refine ⟨am_hs e2 hh, am_mo e2 hm, by rw [hk.1 5 (by decide)]; exact q2.2, am_up ht e2 (by decide) (by decide), fun v m h => ?_⟩
    have hk9 := am_k h.2
    have ev := h.1
    rw [trV_am e2] at ev
  · have em : mP m2 s = mP m0 s := by unfold mP; rw [hk.2.at 46]
    rw [em] at ev
    rw [ev]
    subst e
    exact ⟨by unfold inR; generalize trV m0 s = x at hb ⊢; generalize mP m0 s = y at hp ⊢; omega, Or.inl ⟨q, q2, rfl, am_two e2 h.2 rfl⟩⟩
  · rw [hk.2.at 48] at ev
    rw [ev]
    subst e
    exact ⟨by unfold inR; generalize trV m0 s = x at hb ⊢; omega, Or.inl ⟨q, q2, rfl, am_two e2 h.2 rfl⟩⟩
  · have e5 : k = 5 := by omega
    rw [hk9.2.at 48, hk.2.at 48, ev]
    subst e5
    exact ⟨by unfold inR; generalize trV m0 s = x at hb ⊢; omega, Or.inl ⟨q, q2, rfl, am_two e2 h.2 rfl⟩⟩
