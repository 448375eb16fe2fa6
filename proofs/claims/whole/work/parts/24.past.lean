/-! THE CLASS: Past, Text's letters, and its first public methods -/
set_option maxRecDepth 20000 in
theorem v_X5_size {P : Int → Mem → Prop} {mem : Mem}  (H : P (mem 24 2) mem) : Tot mX5_size 0 0 [vR 24] SH mem (Pr SH P) := by
  refine Tot.of rfl (Nat.le_of_ble_eq_true rfl) (by simp [isJ]) (ls := [vR 24]) rfl ?_
  refine q_aload_n dX5_size_0 rfl ?_
  refine q_geti dX5_size_1 lf_RX5_18 s24 rfl ?_
  exact q_iret dX5_size_4 rfl ⟨_, rfl, rfl, H⟩

set_option maxRecDepth 20000 in
theorem v_X5_drop {P : Mem → Prop} {mem : Mem}  (H : ∀ m1 : Mem, m1 = (mset mem 24 2 0) → (P m1)) : Tot mX5_drop 0 0 [vR 24] SH mem (Pn SH P) := by
  refine Tot.of rfl (Nat.le_of_ble_eq_true rfl) (by simp [isJ]) (ls := [vR 24]) rfl ?_
  refine q_aload_n dX5_drop_0 rfl ?_
  refine q_iconst dX5_drop_1 (by decide) ?_
  refine q_puti dX5_drop_2 lf_RX5_18 s24 rfl (Or.inl rfl) fit_int ?_
  have H := H _ rfl
  exact q_vret dX5_drop_5 rfl ⟨rfl, rfl, H⟩

set_option maxRecDepth 20000 in
theorem v_X5_remember {P : Mem → Prop} {mem : Mem}  (H : (0 ≤ (mem 24 1)) ∧ ((10 * (mem 24 1) + 10 ≤ 100) ∧ (((mem 24 1) < mem 25 0) ∧ (∀ m4 : Mem, shuP_25 (mem 24 1) mem m4 → ((inR ((m4 24 1) + 1)) ∧ ((0 ≤ ((m4 24 1) + 1)) ∧ (∀ m7 : Mem, m7 = (mset m4 24 1 (((m4 24 1) + 1) % 10)) → ((inR ((m7 24 2) + 1)) ∧ (∀ m9 : Mem, m9 = (mset m7 24 2 (min 10 ((m7 24 2) + 1))) → (P m9)))))))))) : Tot mX5_remember 0 0 [vR 24, vR 18] SH mem (Pn SH P) := by
  refine Tot.of rfl (Nat.le_of_ble_eq_true rfl) (by simp [isJ]) (ls := [vR 24, vR 18]) rfl ?_
  refine q_aload_n dX5_remember_0 rfl ?_
  refine q_getr (r := 25) dX5_remember_1 lf_RX5_14 s24 rfl rfl ?_
  refine q_aload_n dX5_remember_4 rfl ?_
  refine q_geti dX5_remember_5 lf_RX5_22 s24 rfl ?_
  refine q_aload_n dX5_remember_8 rfl ?_
  obtain ⟨h1, H⟩ := H
  obtain ⟨h2, H⟩ := H
  obtain ⟨h3, H⟩ := H
  refine q_cVn (as := [vI _, vR _]) dX5_remember_9 kmX7_put kvX7_put lm_RX5_25 ⟨by decide, by decide⟩ s25 ⟨by decide, rfl⟩ rfl rfl (Nat.le_of_ble_eq_true rfl) (c_X7_put_25 h1 h2 h3) (fun m1 hq => ?_)
  have H := H m1 hq
  refine q_aload_n dX5_remember_12 rfl ?_
  refine q_aload_n dX5_remember_13 rfl ?_
  refine q_geti dX5_remember_14 lf_RX5_22 s24 rfl ?_
  refine q_iconst dX5_remember_17 (by decide) ?_
  obtain ⟨h5, H⟩ := H
  refine q_iadd dX5_remember_18 h5 ?_
  refine q_bipush dX5_remember_19 rfl (by decide) ?_
  obtain ⟨h6, H⟩ := H
  refine q_irem dX5_remember_21 h6 (by decide) ?_
  refine q_puti dX5_remember_22 lf_RX5_22 s24 rfl (Or.inl rfl) fit_int ?_
  have H := H _ rfl
  refine q_aload_n dX5_remember_25 rfl ?_
  refine q_bipush dX5_remember_26 rfl (by decide) ?_
  refine q_aload_n dX5_remember_28 rfl ?_
  refine q_geti dX5_remember_29 lf_RX5_18 s24 rfl ?_
  refine q_iconst dX5_remember_32 (by decide) ?_
  obtain ⟨h8, H⟩ := H
  refine q_iadd dX5_remember_33 h8 ?_
  refine q_min dX5_remember_34 lm_RX5_29 k_min (by decide) (Nat.le_of_ble_eq_true rfl) ?_
  refine q_puti dX5_remember_37 lf_RX5_18 s24 rfl (Or.inl rfl) fit_int ?_
  have H := H _ rfl
  exact q_vret dX5_remember_40 rfl ⟨rfl, rfl, H⟩

set_option maxRecDepth 20000 in
theorem v_X5_recall {P : Mem → Prop} {mem : Mem}  (H : (¬ (mem 24 2) = 0 → (inR ((mem 24 1) + 10)) ∧ ((inR (((mem 24 1) + 10) - 1)) ∧ ((0 ≤ (((mem 24 1) + 10) - 1)) ∧ (∀ m4 : Mem, m4 = (mset mem 24 1 ((((mem 24 1) + 10) - 1) % 10)) → ((inR ((m4 24 2) - 1)) ∧ (∀ m6 : Mem, m6 = (mset m4 24 2 ((m4 24 2) - 1)) → ((0 ≤ (m6 24 1)) ∧ ((10 * (m6 24 1) + 10 ≤ 100) ∧ (((m6 24 1) < m6 25 0) ∧ (∀ m10 : Mem, shbP_25 (m6 24 1) m6 m10 → (P m10))))))))))) ∧ ((mem 24 2) = 0 → P mem)) : Tot mX5_recall 0 0 [vR 24, vR 18] SH mem (Pn SH P) := by
  refine Tot.of rfl (Nat.le_of_ble_eq_true rfl) (by simp [isJ]) (ls := [vR 24, vR 18]) rfl ?_
  refine q_aload_n dX5_recall_0 rfl ?_
  refine q_geti dX5_recall_1 lf_RX5_18 s24 rfl ?_
  refine q_if_ne (tgt := 8) dX5_recall_4 (by decide) (fun c4 => ?_) (fun c4 => ?_)
  · have H := H.1 c4
    refine q_aload_n dX5_recall_8 rfl ?_
    refine q_aload_n dX5_recall_9 rfl ?_
    refine q_geti dX5_recall_10 lf_RX5_22 s24 rfl ?_
    refine q_bipush dX5_recall_13 rfl (by decide) ?_
    obtain ⟨h1, H⟩ := H
    refine q_iadd dX5_recall_15 h1 ?_
    refine q_iconst dX5_recall_16 (by decide) ?_
    obtain ⟨h2, H⟩ := H
    refine q_isub dX5_recall_17 h2 ?_
    refine q_bipush dX5_recall_18 rfl (by decide) ?_
    obtain ⟨h3, H⟩ := H
    refine q_irem dX5_recall_20 h3 (by decide) ?_
    refine q_puti dX5_recall_21 lf_RX5_22 s24 rfl (Or.inl rfl) fit_int ?_
    have H := H _ rfl
    refine q_aload_n dX5_recall_24 rfl ?_
    refine q_dup dX5_recall_25 rfl ?_
    refine q_geti dX5_recall_26 lf_RX5_18 s24 rfl ?_
    refine q_iconst dX5_recall_29 (by decide) ?_
    obtain ⟨h5, H⟩ := H
    refine q_isub dX5_recall_30 h5 ?_
    refine q_puti dX5_recall_31 lf_RX5_18 s24 rfl (Or.inl rfl) fit_int ?_
    have H := H _ rfl
    refine q_aload_n dX5_recall_34 rfl ?_
    refine q_getr (r := 25) dX5_recall_35 lf_RX5_14 s24 rfl rfl ?_
    refine q_aload_n dX5_recall_38 rfl ?_
    refine q_geti dX5_recall_39 lf_RX5_22 s24 rfl ?_
    refine q_aload_n dX5_recall_42 rfl ?_
    obtain ⟨h7, H⟩ := H
    obtain ⟨h8, H⟩ := H
    obtain ⟨h9, H⟩ := H
    refine q_cVn (as := [vI _, vR _]) dX5_recall_43 kmX7_bring kvX7_bring lm_RX5_35 ⟨by decide, by decide⟩ s25 ⟨by decide, rfl⟩ rfl rfl (Nat.le_of_ble_eq_true rfl) (c_X7_bring_25 h7 h8 h9) (fun m1 hq => ?_)
    have H := H m1 hq
    exact q_vret dX5_recall_46 rfl ⟨rfl, rfl, H⟩
  · have H := H.2 c4
    exact q_vret dX5_recall_7 rfl ⟨rfl, rfl, H⟩

set_option maxRecDepth 20000 in
theorem v_X8_size {P : Int → Mem → Prop} {mem : Mem}  (H : P (mem 1 2) mem) : Tot mX8_size 0 0 [vR 1] SH mem (Pr SH P) := by
  refine Tot.of rfl (Nat.le_of_ble_eq_true rfl) (by simp [isJ]) (ls := [vR 1]) rfl ?_
  refine q_aload_n dX8_size_0 rfl ?_
  refine q_geti dX8_size_1 lf_RX8_18 s1 rfl ?_
  exact q_iret dX8_size_4 rfl ⟨_, rfl, rfl, H⟩

set_option maxRecDepth 20000 in
theorem v_X8_isFull {P : Int → Mem → Prop} {mem : Mem}  (H : ((mem 1 2) < 200 → P 0 mem) ∧ (200 ≤ (mem 1 2) → P 1 mem)) : Tot mX8_isFull 0 0 [vR 1] SH mem (Pr SH P) := by
  refine Tot.of rfl (Nat.le_of_ble_eq_true rfl) (by simp [isJ]) (ls := [vR 1]) rfl ?_
  refine q_aload_n dX8_isFull_0 rfl ?_
  refine q_geti dX8_isFull_1 lf_RX8_18 s1 rfl ?_
  refine q_sipush dX8_isFull_4 rfl (by decide) ?_
  refine q_icmp_lt (tgt := 14) dX8_isFull_7 (by decide) (fun c7 => ?_) (fun c7 => ?_)
  · have H := H.1 c7
    refine q_iconst dX8_isFull_14 (by decide) ?_
    exact q_zret dX8_isFull_15 rfl (by decide) ⟨_, rfl, rfl, H⟩
  · have H := H.2 c7
    refine q_iconst dX8_isFull_10 (by decide) ?_
    refine q_goto (tgt := 15) dX8_isFull_11 (by decide) ?_
    exact q_zret dX8_isFull_15 rfl (by decide) ⟨_, rfl, rfl, H⟩

set_option maxRecDepth 20000 in
theorem v_X8_drop {P : Mem → Prop} {mem : Mem}  (H : ∀ m1 : Mem, m1 = (mset mem 1 2 0) → (P m1)) : Tot mX8_drop 0 0 [vR 1] SH mem (Pn SH P) := by
  refine Tot.of rfl (Nat.le_of_ble_eq_true rfl) (by simp [isJ]) (ls := [vR 1]) rfl ?_
  refine q_aload_n dX8_drop_0 rfl ?_
  refine q_iconst dX8_drop_1 (by decide) ?_
  refine q_puti dX8_drop_2 lf_RX8_18 s1 rfl (Or.inl rfl) fit_int ?_
  have H := H _ rfl
  exact q_vret dX8_drop_5 rfl ⟨rfl, rfl, H⟩


theorem c_X5_size {m : Mem} : Tot mX5_size 0 0 [vR 24] SH m (Pr SH (Pv (m 24 2) m)) := v_X5_size ⟨rfl, rfl⟩
theorem c_X5_drop {m : Mem} : Tot mX5_drop 0 0 [vR 24] SH m (Pn SH (fun m' => m' = mset m 24 2 0)) := v_X5_drop (fun m1 e => e)
theorem c_X8_size {m : Mem} : Tot mX8_size 0 0 [vR 1] SH m (Pr SH (Pv (m 1 2) m)) := v_X8_size ⟨rfl, rfl⟩
theorem c_X8_isFull {m : Mem} : Tot mX8_isFull 0 0 [vR 1] SH m (Pr SH (Pv (if 200 ≤ m 1 2 then 1 else 0) m)) := v_X8_isFull (by grind)
theorem c_X8_drop {m : Mem} : Tot mX8_drop 0 0 [vR 1] SH m (Pn SH (fun m' => m' = mset m 1 2 0)) := v_X8_drop (fun m1 e => e)
set_option maxRecDepth 20000 in
theorem v_X8_append {c : Int} {P : Mem → Prop} {mem : Mem}  (H : ((200 ≤ mem 1 2) → P mem) ∧ (¬ (200 ≤ mem 1 2) → (0 ≤ (mem 1 2)) ∧ (((mem 1 2) < 200) ∧ (∀ m3 : Mem, m3 = mset mem 2 (mem 1 2).toNat c → ((inR ((m3 1 2) + 1)) ∧ (∀ m5 : Mem, m5 = (mset m3 1 2 ((m3 1 2) + 1)) → (P m5))))))) : Tot mX8_append 0 0 [vR 1, vI c] SH mem (Pn SH P) := by
  refine Tot.of rfl (Nat.le_of_ble_eq_true rfl) (by simp [isJ]) (ls := [vR 1, vI c]) rfl ?_
  refine q_aload_n dX8_append_0 rfl ?_
  refine q_cVi (as := []) dX8_append_1 kmX8_isFull kvX8_isFull lm_RX8_22 ⟨by decide, by decide⟩ s1 ⟨by decide, rfl⟩ rfl rfl (Nat.le_of_ble_eq_true rfl) (c_X8_isFull) (fun v m1 hq => ?_)
  obtain ⟨rfl, rfl⟩ := hq
  refine q_if_ne (tgt := 27) dX8_append_4 (by decide) (fun c4 => ?_) (fun c4 => ?_)
  · have H := H.1 (b_yes c4)
    exact q_vret dX8_append_27 rfl ⟨rfl, rfl, H⟩
  · have H := H.2 (b_no c4)
    refine q_aload_n dX8_append_7 rfl ?_
    refine q_getr (r := 2) dX8_append_8 lf_RX8_9 s1 rfl rfl ?_
    refine q_aload_n dX8_append_11 rfl ?_
    refine q_geti dX8_append_12 lf_RX8_18 s1 rfl ?_
    refine q_iload_n dX8_append_15 rfl ?_
    obtain ⟨h1, H⟩ := H
    obtain ⟨h2, H⟩ := H
    refine q_iast dX8_append_16 s2 h1 h2 ?_
    have H := H _ rfl
    refine q_aload_n dX8_append_17 rfl ?_
    refine q_dup dX8_append_18 rfl ?_
    refine q_geti dX8_append_19 lf_RX8_18 s1 rfl ?_
    refine q_iconst dX8_append_22 (by decide) ?_
    obtain ⟨h4, H⟩ := H
    refine q_iadd dX8_append_23 h4 ?_
    refine q_puti dX8_append_24 lf_RX8_18 s1 rfl (Or.inl rfl) fit_int ?_
    have H := H _ rfl
    exact q_vret dX8_append_27 rfl ⟨rfl, rfl, H⟩


/-- the past: a ring of ten -/
def paOK (m : Mem) : Prop := (0 ≤ m 24 1 ∧ m 24 1 ≤ 9) ∧ (0 ≤ m 24 2 ∧ m 24 2 ≤ 10) ∧ m 25 0 = 10
def remP (m0 m : Mem) : Prop := Fr [24, 26] m0 m ∧ m 24 1 = (m0 24 1 + 1) % 10 ∧ m 24 2 = min 10 (m0 24 2 + 1) ∧ ∀ j : Int, 0 ≤ j → m 26 j.toNat = if 10 * m0 24 1 ≤ j ∧ j < 10 * m0 24 1 + 10 then momV m0 (j - 10 * m0 24 1) else m0 26 j.toNat
def recP (m0 m : Mem) : Prop := Fr [18, 19, 20, 24] m0 m ∧ m 24 1 = (m0 24 1 + 9) % 10 ∧ m 24 2 = m0 24 2 - 1 ∧ ∀ j : Int, 0 ≤ j → j < 10 → momV m j = m0 26 (10 * ((m0 24 1 + 9) % 10) + j).toNat
theorem c_X5_remember {m0 : Mem} (hp : paOK m0) : Tot mX5_remember 0 0 [vR 24, vR 18] SH m0 (Pn SH (remP m0)) := by
  obtain ⟨h1, h2, h3⟩ := hp
  refine v_X5_remember ⟨h1.1, by omega, by omega, fun m4 h4 => ?_⟩
  have e24 := h4.1.at 24
  rw [e24]
  refine ⟨by omega, by omega, fun m7 e7 => ?_⟩
  have e72 : m7 24 2 = m0 24 2 := by rw [e7, mset_at, if_neg (by omega), e24]
  rw [e72]
  refine ⟨by omega, fun m9 e9 => ⟨?_, ?_, ?_, fun j j0 => ?_⟩⟩
  · rw [e9, e7]
    exact ((h4.1.mono (by decide)).set (by decide)).set (by decide)
  · rw [e9, mset_at, if_neg (by omega), e7, mset_eq]
  · rw [e9, mset_eq]
  · rw [e9, mset_at, if_neg (by omega), e7, mset_at, if_neg (by omega)]
    exact h4.2 j j0
theorem c_X5_recall {m0 : Mem} (hp : paOK m0) (hk : m0 24 2 ≠ 0) : Tot mX5_recall 0 0 [vR 24, vR 18] SH m0 (Pn SH (recP m0)) := by
  obtain ⟨h1, h2, h3⟩ := hp
  refine v_X5_recall ⟨fun _ => ⟨by omega, by omega, by omega, fun m4 e4 => ?_⟩, fun c => absurd c hk⟩
  have e42 : m4 24 2 = m0 24 2 := by rw [e4, mset_at, if_neg (by omega)]
  rw [e42]
  refine ⟨by omega, fun m6 e6 => ?_⟩
  have e61 : m6 24 1 = (m0 24 1 + 9) % 10 := by rw [e6, mset_at, if_neg (by omega), e4, mset_eq, show m0 24 1 + 10 - 1 = m0 24 1 + 9 by omega]
  have hF6 : Fr [24] m0 m6 := by rw [e6, e4]; exact (Fr.rf.set (by decide)).set (by decide)
  rw [e61, hF6.at 25]
  refine ⟨by omega, by omega, by omega, fun m10 h10 => ⟨(hF6.mono (by decide)).tr (h10.1.mono (by decide)), ?_, ?_, fun j j0 j1 => ?_⟩⟩
  · rw [h10.1.at 24, e61]
  · rw [h10.1.at 24, e6, mset_eq]
  · rw [h10.2 j j0 j1, hF6.at 26]
theorem c_X8_append {m0 : Mem} {c : Int} (h0 : 0 ≤ m0 1 2) : Tot mX8_append 0 0 [vR 1, vI c] SH m0 (Pn SH (fun m => m = if 200 ≤ m0 1 2 then m0 else mset (mset m0 2 (m0 1 2).toNat c) 1 2 (m0 1 2 + 1))) := by
  refine v_X8_append ⟨fun q => by rw [if_pos q], fun q => ⟨h0, by omega, fun m3 e3 => ?_⟩⟩
  have e : m3 1 2 = m0 1 2 := by rw [e3, mset_at, if_neg (by omega)]
  rw [e]
  exact ⟨by omega, fun m5 e5 => by rw [e5, e3, if_neg q]⟩

theorem c_can {m0 : Mem} {s c : Int} (hh : hsD m0) (hs : 0 ≤ s ∧ s < m0 7 2) : Tot mX1_canLie 0 0 [vR 34, vI s, vI c] SH m0 (Pr SH (canV (m0 4 3) (m0 4 4) (shW m0 s) (shL m0 s) c (m0 35) m0)) := by
  have q := hh.2.2.2.2.2.2.2.2.2.1 s hs.1 hs.2
  have q1 : 1 ≤ shW m0 s ∧ shW m0 s ≤ 3 := q.2.1
  have q2 : 1 ≤ shL m0 s ∧ shL m0 s ≤ 3 := q.2.2.1
  exact c_X1_canLie hh.1 hh.2.1 hh.2.2.1 hh.2.2.2.2.2.2.1.2 ⟨Int.le_trans (by decide) q1.1, q1.2⟩ ⟨Int.le_trans (by decide) q2.1, q2.2⟩
set_option maxRecDepth 20000 in
theorem v_X9_type {c : Int} {P : Int → Mem → Prop} {mem : Mem}  (H : ((0 ≤ c ∧ c ≤ 255) → (¬ (200 ≤ mem 1 2) → (0 ≤ mem 1 2) ∧ (∀ m2 : Mem, m2 = (if 200 ≤ mem 1 2 then mem else mset (mset mem 2 (mem 1 2).toNat c) 1 2 (mem 1 2 + 1)) → (P (m2 1 2) m2))) ∧ ((200 ≤ mem 1 2) → P (-3) mem)) ∧ (¬ (0 ≤ c ∧ c ≤ 255) → P (-1) mem)) : Tot mX9_type 0 0 [vR 0, vI c] SH mem (Pr SH P) := by
  refine Tot.of rfl (Nat.le_of_ble_eq_true rfl) (by simp [isJ]) (ls := [vR 0, vI c]) rfl ?_
  refine q_iload_n dX9_type_0 rfl ?_
  refine q_iconst dX9_type_1 (by decide) ?_
  refine q_sipush dX9_type_2 rfl (by decide) ?_
  refine q_cSi (as := [vI _, vI _, vI _]) dX9_type_5 kmX9_isWithin ktX9_isWithin lm_RX9_97 ⟨by decide, by decide⟩ rfl rfl (Nat.le_of_ble_eq_true rfl) (c_X9_isWithin) (fun v m1 hq => ?_)
  obtain ⟨rfl, rfl⟩ := hq
  refine q_if_ne (tgt := 13) dX9_type_8 (by decide) (fun c8 => ?_) (fun c8 => ?_)
  · have H := H.1 (b_yes c8)
    refine q_aload_n dX9_type_13 rfl ?_
    refine q_getr (r := 1) dX9_type_14 lf_RX9_10 s0 rfl rfl ?_
    refine q_cVi (as := []) dX9_type_17 kmX8_isFull kvX8_isFull lm_RX9_101 ⟨by decide, by decide⟩ s1 ⟨by decide, rfl⟩ rfl rfl (Nat.le_of_ble_eq_true rfl) (c_X8_isFull) (fun v m1 hq => ?_)
    obtain ⟨rfl, rfl⟩ := hq
    refine q_if_eq (tgt := 26) dX9_type_20 (by decide) (fun c20 => ?_) (fun c20 => ?_)
    · have H := H.1 (b_no c20)
      refine q_aload_n dX9_type_26 rfl ?_
      refine q_getr (r := 1) dX9_type_27 lf_RX9_10 s0 rfl rfl ?_
      refine q_iload_n dX9_type_30 rfl ?_
      obtain ⟨h1, H⟩ := H
      refine q_cVn (as := [vI _]) dX9_type_31 kmX8_append kvX8_append lm_RX9_105 ⟨by decide, by decide⟩ s1 ⟨by decide, rfl⟩ rfl rfl (Nat.le_of_ble_eq_true rfl) (c_X8_append h1) (fun m1 hq => ?_)
      have H := H m1 hq
      refine q_aload_n dX9_type_34 rfl ?_
      refine q_getr (r := 1) dX9_type_35 lf_RX9_10 s0 rfl rfl ?_
      refine q_cVi (as := []) dX9_type_38 kmX8_size kvX8_size lm_RX9_108 ⟨by decide, by decide⟩ s1 ⟨by decide, rfl⟩ rfl rfl (Nat.le_of_ble_eq_true rfl) (c_X8_size) (fun v m1 hq => ?_)
      obtain ⟨rfl, rfl⟩ := hq
      exact q_iret dX9_type_41 rfl ⟨_, rfl, rfl, H⟩
    · have H := H.2 (b_yes c20)
      refine q_bipush dX9_type_23 rfl (by decide) ?_
      exact q_iret dX9_type_25 rfl ⟨_, rfl, rfl, H⟩
  · have H := H.2 (b_no c8)
    refine q_iconst dX9_type_11 (by decide) ?_
    exact q_iret dX9_type_12 rfl ⟨_, rfl, rfl, H⟩

set_option maxRecDepth 20000 in
theorem v_X9_clear {P : Int → Mem → Prop} {mem : Mem}  (H : ∀ m1 : Mem, m1 = mset mem 1 2 0 → (P (mem 1 2) m1)) : Tot mX9_clear 0 0 [vR 0] SH mem (Pr SH P) := by
  refine Tot.of rfl (Nat.le_of_ble_eq_true rfl) (by simp [isJ]) (ls := [vR 0, vJ 0]) rfl ?_
  refine q_aload_n dX9_clear_0 rfl ?_
  refine q_getr (r := 1) dX9_clear_1 lf_RX9_10 s0 rfl rfl ?_
  refine q_cVi (as := []) dX9_clear_4 kmX8_size kvX8_size lm_RX9_108 ⟨by decide, by decide⟩ s1 ⟨by decide, rfl⟩ rfl rfl (Nat.le_of_ble_eq_true rfl) (c_X8_size) (fun v m1 hq => ?_)
  obtain ⟨rfl, rfl⟩ := hq
  refine q_istore_n dX9_clear_7 (by decide) rfl ?_
  refine q_aload_n dX9_clear_8 rfl ?_
  refine q_getr (r := 1) dX9_clear_9 lf_RX9_10 s0 rfl rfl ?_
  refine q_cVn (as := []) dX9_clear_12 kmX8_drop kvX8_drop lm_RX9_112 ⟨by decide, by decide⟩ s1 ⟨by decide, rfl⟩ rfl rfl (Nat.le_of_ble_eq_true rfl) (c_X8_drop) (fun m1 hq => ?_)
  have H := H m1 hq
  refine q_iload_n dX9_clear_15 rfl ?_
  exact q_iret dX9_clear_16 rfl ⟨_, rfl, rfl, H⟩

set_option maxRecDepth 20000 in
theorem v_X9_noise {n w : Int} {P : Int → Mem → Prop} {mem : Mem}  (H : (¬ (0 ≤ n ∧ n < mem 5 2) → P (-1) mem) ∧ ((0 ≤ n ∧ n < mem 5 2) → (¬ (0 ≤ w ∧ w ≤ 3) → P (-1) mem) ∧ ((0 ≤ w ∧ w ≤ 3) → (mem 5 2 * 4 ≤ 12) ∧ (P (getF (mem 6) (mem 5 2) n w) mem)))) : Tot mX9_noise 0 0 [vR 0, vI n, vI w] SH mem (Pr SH P) := by
  refine Tot.of rfl (Nat.le_of_ble_eq_true rfl) (by simp [isJ]) (ls := [vR 0, vI n, vI w]) rfl ?_
  refine q_aload_n dX9_noise_0 rfl ?_
  refine q_getr (r := 4) dX9_noise_1 lf_RX9_19 s0 rfl rfl ?_
  refine q_getr (r := 5) dX9_noise_4 lf_RX9_133 s4 rfl rfl ?_
  refine q_iload_n dX9_noise_7 rfl ?_
  refine q_cVi (as := [vI _]) dX9_noise_8 kmX6_has kvX6_has lm_RX9_136 ⟨by decide, by decide⟩ s5 ⟨by decide, rfl⟩ rfl rfl (Nat.le_of_ble_eq_true rfl) (c_X6_has s5) (fun v m1 hq => ?_)
  obtain ⟨rfl, rfl⟩ := hq
  refine q_if_eq (tgt := 38) dX9_noise_11 (by decide) (fun c11 => ?_) (fun c11 => ?_)
  · have H := H.1 (b_no c11)
    refine q_iconst dX9_noise_38 (by decide) ?_
    exact q_iret dX9_noise_39 rfl ⟨_, rfl, rfl, H⟩
  · have H := H.2 (b_yes c11)
    refine q_iload_n dX9_noise_14 rfl ?_
    refine q_iconst dX9_noise_15 (by decide) ?_
    refine q_iconst dX9_noise_16 (by decide) ?_
    refine q_cSi (as := [vI _, vI _, vI _]) dX9_noise_17 kmX9_isWithin ktX9_isWithin lm_RX9_97 ⟨by decide, by decide⟩ rfl rfl (Nat.le_of_ble_eq_true rfl) (c_X9_isWithin) (fun v m1 hq => ?_)
    obtain ⟨rfl, rfl⟩ := hq
    refine q_if_eq (tgt := 38) dX9_noise_20 (by decide) (fun c20 => ?_) (fun c20 => ?_)
    · have H := H.1 (b_no c20)
      refine q_iconst dX9_noise_38 (by decide) ?_
      exact q_iret dX9_noise_39 rfl ⟨_, rfl, rfl, H⟩
    · have H := H.2 (b_yes c20)
      refine q_aload_n dX9_noise_23 rfl ?_
      refine q_getr (r := 4) dX9_noise_24 lf_RX9_19 s0 rfl rfl ?_
      refine q_getr (r := 5) dX9_noise_27 lf_RX9_133 s4 rfl rfl ?_
      refine q_iload_n dX9_noise_30 rfl ?_
      refine q_iload_n dX9_noise_31 rfl ?_
      obtain ⟨h1, H⟩ := H
      refine q_cVi (as := [vI _, vI _]) dX9_noise_32 kmX6_get kvX6_get lm_RX9_140 ⟨by decide, by decide⟩ s5 ⟨by decide, rfl⟩ rfl rfl (Nat.le_of_ble_eq_true rfl) (c_X6_get s5 s6 h1) (fun v m1 hq => ?_)
      obtain ⟨rfl, rfl⟩ := hq
      refine q_goto (tgt := 39) dX9_noise_35 (by decide) ?_
      exact q_iret dX9_noise_39 rfl ⟨_, rfl, rfl, H⟩

set_option maxRecDepth 20000 in
theorem v_X9_sheet {s w : Int} {P : Int → Mem → Prop} {mem : Mem}  (H : ((0 ≤ s ∧ s < mem 7 2) → (w = 0 ∨ w = 1 ∨ w = 2 ∨ w = 3 → (mem 7 2 * 4 ≤ 16) ∧ (P (getF (mem 8) (mem 7 2) s w) mem)) ∧ (w = 4 → P (if 0 ≤ s ∧ s < 4 then mem 19 s.toNat else -9) mem) ∧ (w = 5 → P (if 0 ≤ s ∧ s < 4 then mem 20 s.toNat else 0) mem) ∧ (w = 6 → (hsD mem) ∧ ((moD mem 19 20) ∧ (P (thD mem 20 s) mem))) ∧ (¬ w = 0 ∧ ¬ w = 1 ∧ ¬ w = 2 ∧ ¬ w = 3 ∧ ¬ w = 4 ∧ ¬ w = 5 ∧ ¬ w = 6 → P (-1) mem)) ∧ (¬ (0 ≤ s ∧ s < mem 7 2) → P (-1) mem)) : Tot mX9_sheet 0 0 [vR 0, vI s, vI w] SH mem (Pr SH P) := by
  refine Tot.of rfl (Nat.le_of_ble_eq_true rfl) (by simp [isJ]) (ls := [vR 0, vI s, vI w]) rfl ?_
  refine q_aload_n dX9_sheet_0 rfl ?_
  refine q_getr (r := 4) dX9_sheet_1 lf_RX9_19 s0 rfl rfl ?_
  refine q_getr (r := 7) dX9_sheet_4 lf_RX9_144 s4 rfl rfl ?_
  refine q_iload_n dX9_sheet_7 rfl ?_
  refine q_cVi (as := [vI _]) dX9_sheet_8 kmX6_has kvX6_has lm_RX9_136 ⟨by decide, by decide⟩ s7 ⟨by decide, rfl⟩ rfl rfl (Nat.le_of_ble_eq_true rfl) (c_X6_has s7) (fun v m1 hq => ?_)
  obtain ⟨rfl, rfl⟩ := hq
  refine q_if_ne (tgt := 16) dX9_sheet_11 (by decide) (fun c11 => ?_) (fun c11 => ?_)
  · have H := H.1 (b_yes c11)
    refine q_iload_n dX9_sheet_16 rfl ?_
    refine q_tsk (dt := 104) [(0, 60), (1, 60), (2, 60), (3, 60), (4, 73), (5, 82), (6, 91)] dX9_sheet_17 rfl rfl (by decide) (by decide) ?_ ?_
    · refine List.forall_mem_cons.mpr ⟨fun ha => ?_, List.forall_mem_cons.mpr ⟨fun ha => ?_, List.forall_mem_cons.mpr ⟨fun ha => ?_, List.forall_mem_cons.mpr ⟨fun ha => ?_, List.forall_mem_cons.mpr ⟨fun ha => ?_, List.forall_mem_cons.mpr ⟨fun ha => ?_, List.forall_mem_cons.mpr ⟨fun ha => ?_, fun _ h => nomatch h⟩⟩⟩⟩⟩⟩⟩
      · have H := H.1 (by simp only at ha; omega)
        refine q_aload_n dX9_sheet_60 rfl ?_
        refine q_getr (r := 4) dX9_sheet_61 lf_RX9_19 s0 rfl rfl ?_
        refine q_getr (r := 7) dX9_sheet_64 lf_RX9_144 s4 rfl rfl ?_
        refine q_iload_n dX9_sheet_67 rfl ?_
        refine q_iload_n dX9_sheet_68 rfl ?_
        obtain ⟨h1, H⟩ := H
        refine q_cVi (as := [vI _, vI _]) dX9_sheet_69 kmX6_get kvX6_get lm_RX9_140 ⟨by decide, by decide⟩ s7 ⟨by decide, rfl⟩ rfl rfl (Nat.le_of_ble_eq_true rfl) (c_X6_get s7 s8 h1) (fun v m1 hq => ?_)
        obtain ⟨rfl, rfl⟩ := hq
        exact q_iret dX9_sheet_72 rfl ⟨_, rfl, rfl, H⟩
      · have H := H.1 (by simp only at ha; omega)
        refine q_aload_n dX9_sheet_60 rfl ?_
        refine q_getr (r := 4) dX9_sheet_61 lf_RX9_19 s0 rfl rfl ?_
        refine q_getr (r := 7) dX9_sheet_64 lf_RX9_144 s4 rfl rfl ?_
        refine q_iload_n dX9_sheet_67 rfl ?_
        refine q_iload_n dX9_sheet_68 rfl ?_
        obtain ⟨h1, H⟩ := H
        refine q_cVi (as := [vI _, vI _]) dX9_sheet_69 kmX6_get kvX6_get lm_RX9_140 ⟨by decide, by decide⟩ s7 ⟨by decide, rfl⟩ rfl rfl (Nat.le_of_ble_eq_true rfl) (c_X6_get s7 s8 h1) (fun v m1 hq => ?_)
        obtain ⟨rfl, rfl⟩ := hq
        exact q_iret dX9_sheet_72 rfl ⟨_, rfl, rfl, H⟩
      · have H := H.1 (by simp only at ha; omega)
        refine q_aload_n dX9_sheet_60 rfl ?_
        refine q_getr (r := 4) dX9_sheet_61 lf_RX9_19 s0 rfl rfl ?_
        refine q_getr (r := 7) dX9_sheet_64 lf_RX9_144 s4 rfl rfl ?_
        refine q_iload_n dX9_sheet_67 rfl ?_
        refine q_iload_n dX9_sheet_68 rfl ?_
        obtain ⟨h1, H⟩ := H
        refine q_cVi (as := [vI _, vI _]) dX9_sheet_69 kmX6_get kvX6_get lm_RX9_140 ⟨by decide, by decide⟩ s7 ⟨by decide, rfl⟩ rfl rfl (Nat.le_of_ble_eq_true rfl) (c_X6_get s7 s8 h1) (fun v m1 hq => ?_)
        obtain ⟨rfl, rfl⟩ := hq
        exact q_iret dX9_sheet_72 rfl ⟨_, rfl, rfl, H⟩
      · have H := H.1 (by simp only at ha; omega)
        refine q_aload_n dX9_sheet_60 rfl ?_
        refine q_getr (r := 4) dX9_sheet_61 lf_RX9_19 s0 rfl rfl ?_
        refine q_getr (r := 7) dX9_sheet_64 lf_RX9_144 s4 rfl rfl ?_
        refine q_iload_n dX9_sheet_67 rfl ?_
        refine q_iload_n dX9_sheet_68 rfl ?_
        obtain ⟨h1, H⟩ := H
        refine q_cVi (as := [vI _, vI _]) dX9_sheet_69 kmX6_get kvX6_get lm_RX9_140 ⟨by decide, by decide⟩ s7 ⟨by decide, rfl⟩ rfl rfl (Nat.le_of_ble_eq_true rfl) (c_X6_get s7 s8 h1) (fun v m1 hq => ?_)
        obtain ⟨rfl, rfl⟩ := hq
        exact q_iret dX9_sheet_72 rfl ⟨_, rfl, rfl, H⟩
      · have H := H.2.1 (by simp only at ha; omega)
        refine q_aload_n dX9_sheet_73 rfl ?_
        refine q_getr (r := 18) dX9_sheet_74 lf_RX9_29 s0 rfl rfl ?_
        refine q_iload_n dX9_sheet_77 rfl ?_
        refine q_cVi (as := [vI _]) dX9_sheet_78 kmX4_cellOf kvX4_cellOf lm_RX9_147 ⟨by decide, by decide⟩ s18 ⟨by decide, rfl⟩ rfl rfl (Nat.le_of_ble_eq_true rfl) (c_X4_cellOf s18 s19 s20) (fun v m1 hq => ?_)
        obtain ⟨rfl, rfl⟩ := hq
        exact q_iret dX9_sheet_81 rfl ⟨_, rfl, rfl, H⟩
      · have H := H.2.2.1 (by simp only at ha; omega)
        refine q_aload_n dX9_sheet_82 rfl ?_
        refine q_getr (r := 18) dX9_sheet_83 lf_RX9_29 s0 rfl rfl ?_
        refine q_iload_n dX9_sheet_86 rfl ?_
        refine q_cVi (as := [vI _]) dX9_sheet_87 kmX4_wornOf kvX4_wornOf lm_RX9_151 ⟨by decide, by decide⟩ s18 ⟨by decide, rfl⟩ rfl rfl (Nat.le_of_ble_eq_true rfl) (c_X4_wornOf s18 s19 s20) (fun v m1 hq => ?_)
        obtain ⟨rfl, rfl⟩ := hq
        exact q_iret dX9_sheet_90 rfl ⟨_, rfl, rfl, H⟩
      · have H := H.2.2.2.1 (by simp only at ha; omega)
        refine q_aload_n dX9_sheet_91 rfl ?_
        refine q_getr (r := 4) dX9_sheet_92 lf_RX9_19 s0 rfl rfl ?_
        refine q_iload_n dX9_sheet_95 rfl ?_
        refine q_aload_n dX9_sheet_96 rfl ?_
        refine q_getr (r := 18) dX9_sheet_97 lf_RX9_29 s0 rfl rfl ?_
        obtain ⟨h2, H⟩ := H
        obtain ⟨h3, H⟩ := H
        refine q_cVi (as := [vI _, vR _]) dX9_sheet_100 kmX3_thickNow kvX3_thickNow lm_RX9_154 ⟨by decide, by decide⟩ s4 ⟨by decide, rfl⟩ rfl rfl (Nat.le_of_ble_eq_true rfl) (c_X3_thickNow s18 s19 s20 h2 h3 (b_yes c11).1 (b_yes c11).2) (fun v m1 hq => ?_)
        obtain ⟨rfl, rfl⟩ := hq
        exact q_iret dX9_sheet_103 rfl ⟨_, rfl, rfl, H⟩
    · intro ho
      have H := H.2.2.2.2 (by omega)
      refine q_iconst dX9_sheet_104 (by decide) ?_
      exact q_iret dX9_sheet_105 rfl ⟨_, rfl, rfl, H⟩
  · have H := H.2 (b_no c11)
    refine q_iconst dX9_sheet_14 (by decide) ?_
    exact q_iret dX9_sheet_15 rfl ⟨_, rfl, rfl, H⟩

set_option maxRecDepth 20000 in
theorem v_X9_room {r w : Int} {P : Int → Mem → Prop} {mem : Mem}  (H : (¬ (0 ≤ r ∧ r < mem 9 2) → P (-1) mem) ∧ ((0 ≤ r ∧ r < mem 9 2) → (¬ (0 ≤ w ∧ w ≤ 3) → P (-1) mem) ∧ ((0 ≤ w ∧ w ≤ 3) → (mem 9 2 * 4 ≤ 12) ∧ (P (getF (mem 10) (mem 9 2) r w) mem)))) : Tot mX9_room 0 0 [vR 0, vI r, vI w] SH mem (Pr SH P) := by
  refine Tot.of rfl (Nat.le_of_ble_eq_true rfl) (by simp [isJ]) (ls := [vR 0, vI r, vI w]) rfl ?_
  refine q_aload_n dX9_room_0 rfl ?_
  refine q_getr (r := 4) dX9_room_1 lf_RX9_19 s0 rfl rfl ?_
  refine q_getr (r := 9) dX9_room_4 lf_RX9_158 s4 rfl rfl ?_
  refine q_iload_n dX9_room_7 rfl ?_
  refine q_cVi (as := [vI _]) dX9_room_8 kmX6_has kvX6_has lm_RX9_136 ⟨by decide, by decide⟩ s9 ⟨by decide, rfl⟩ rfl rfl (Nat.le_of_ble_eq_true rfl) (c_X6_has s9) (fun v m1 hq => ?_)
  obtain ⟨rfl, rfl⟩ := hq
  refine q_if_eq (tgt := 38) dX9_room_11 (by decide) (fun c11 => ?_) (fun c11 => ?_)
  · have H := H.1 (b_no c11)
    refine q_iconst dX9_room_38 (by decide) ?_
    exact q_iret dX9_room_39 rfl ⟨_, rfl, rfl, H⟩
  · have H := H.2 (b_yes c11)
    refine q_iload_n dX9_room_14 rfl ?_
    refine q_iconst dX9_room_15 (by decide) ?_
    refine q_iconst dX9_room_16 (by decide) ?_
    refine q_cSi (as := [vI _, vI _, vI _]) dX9_room_17 kmX9_isWithin ktX9_isWithin lm_RX9_97 ⟨by decide, by decide⟩ rfl rfl (Nat.le_of_ble_eq_true rfl) (c_X9_isWithin) (fun v m1 hq => ?_)
    obtain ⟨rfl, rfl⟩ := hq
    refine q_if_eq (tgt := 38) dX9_room_20 (by decide) (fun c20 => ?_) (fun c20 => ?_)
    · have H := H.1 (b_no c20)
      refine q_iconst dX9_room_38 (by decide) ?_
      exact q_iret dX9_room_39 rfl ⟨_, rfl, rfl, H⟩
    · have H := H.2 (b_yes c20)
      refine q_aload_n dX9_room_23 rfl ?_
      refine q_getr (r := 4) dX9_room_24 lf_RX9_19 s0 rfl rfl ?_
      refine q_getr (r := 9) dX9_room_27 lf_RX9_158 s4 rfl rfl ?_
      refine q_iload_n dX9_room_30 rfl ?_
      refine q_iload_n dX9_room_31 rfl ?_
      obtain ⟨h1, H⟩ := H
      refine q_cVi (as := [vI _, vI _]) dX9_room_32 kmX6_get kvX6_get lm_RX9_140 ⟨by decide, by decide⟩ s9 ⟨by decide, rfl⟩ rfl rfl (Nat.le_of_ble_eq_true rfl) (c_X6_get s9 s10 h1) (fun v m1 hq => ?_)
      obtain ⟨rfl, rfl⟩ := hq
      refine q_goto (tgt := 39) dX9_room_35 (by decide) ?_
      exact q_iret dX9_room_39 rfl ⟨_, rfl, rfl, H⟩

set_option maxRecDepth 20000 in
theorem v_X9_onCell {c : Int} {P : Int → Mem → Prop} {mem : Mem}  (H : ((0 ≤ c ∧ c < mem 4 5) → (hsD mem) ∧ ((moD mem 19 20) ∧ ((nextOK (mem 4 5) (mem 4 3) (mem 37)) ∧ ((thOK mem) ∧ (∀ m5 : Mem, shoP mem 19 20 m5 → ((m5 4 5 ≤ 12) ∧ (P (if 0 ≤ c ∧ c < m5 4 5 then m5 35 c.toNat else -9) m5))))))) ∧ (¬ (0 ≤ c ∧ c < mem 4 5) → P (-1) mem)) : Tot mX9_onCell 0 0 [vR 0, vI c] SH mem (Pr SH P) := by
  refine Tot.of rfl (Nat.le_of_ble_eq_true rfl) (by simp [isJ]) (ls := [vR 0, vI c]) rfl ?_
  refine q_aload_n dX9_onCell_0 rfl ?_
  refine q_getr (r := 4) dX9_onCell_1 lf_RX9_19 s0 rfl rfl ?_
  refine q_iload_n dX9_onCell_4 rfl ?_
  refine q_cVi (as := [vI _]) dX9_onCell_5 kmX3_hasCell kvX3_hasCell lm_RX9_161 ⟨by decide, by decide⟩ s4 ⟨by decide, rfl⟩ rfl rfl (Nat.le_of_ble_eq_true rfl) (c_X3_hasCell s4) (fun v m1 hq => ?_)
  obtain ⟨rfl, rfl⟩ := hq
  refine q_if_ne (tgt := 13) dX9_onCell_8 (by decide) (fun c8 => ?_) (fun c8 => ?_)
  · have H := H.1 (b_yes c8)
    refine q_aload_n dX9_onCell_13 rfl ?_
    refine q_getr (r := 34) dX9_onCell_14 lf_RX9_71 s0 rfl rfl ?_
    refine q_aload_n dX9_onCell_17 rfl ?_
    refine q_getr (r := 18) dX9_onCell_18 lf_RX9_29 s0 rfl rfl ?_
    obtain ⟨h1, H⟩ := H
    obtain ⟨h2, H⟩ := H
    obtain ⟨h3, H⟩ := H
    obtain ⟨h4, H⟩ := H
    refine q_cVn (as := [vR _]) dX9_onCell_21 kmX1_show kvX1_show lm_RX9_164 ⟨by decide, by decide⟩ s34 ⟨by decide, rfl⟩ rfl rfl (Nat.le_of_ble_eq_true rfl) (c_X1_show s18 s19 s20 (by decide) h1 h2 h3 h4) (fun m1 hq => ?_)
    have H := H m1 hq
    refine q_aload_n dX9_onCell_24 rfl ?_
    refine q_getr (r := 34) dX9_onCell_25 lf_RX9_71 s0 rfl rfl ?_
    refine q_iload_n dX9_onCell_28 rfl ?_
    obtain ⟨h6, H⟩ := H
    refine q_cVi (as := [vI _]) dX9_onCell_29 kmX1_sheetOn kvX1_sheetOn lm_RX9_168 ⟨by decide, by decide⟩ s34 ⟨by decide, rfl⟩ rfl rfl (Nat.le_of_ble_eq_true rfl) (c_X1_sheetOn h6) (fun v m1 hq => ?_)
    obtain ⟨rfl, rfl⟩ := hq
    exact q_iret dX9_onCell_32 rfl ⟨_, rfl, rfl, H⟩
  · have H := H.2 (b_no c8)
    refine q_iconst dX9_onCell_11 (by decide) ?_
    exact q_iret dX9_onCell_12 rfl ⟨_, rfl, rfl, H⟩

set_option maxRecDepth 20000 in
theorem v_X9_loud {c hr : Int} {P : Int → Mem → Prop} {mem : Mem}  (H : (¬ (0 ≤ c ∧ c < mem 4 5) → P (-1) mem) ∧ ((0 ≤ c ∧ c < mem 4 5) → ((0 ≤ hr ∧ hr ≤ 23) → (hsD mem) ∧ ((moD mem 19 20) ∧ ((nextOK (mem 4 5) (mem 4 3) (mem 37)) ∧ ((thOK mem) ∧ (∀ m5 : Mem, shoP mem 19 20 m5 → ((rdy m5) ∧ ((c < m5 4 5) ∧ (∀ (v8 : Int) (m9 : Mem), anP m5 (ldD m5 c hr hr) v8 m9 → (P v8 m9))))))))) ∧ (¬ (0 ≤ hr ∧ hr ≤ 23) → P (-1) mem))) : Tot mX9_loud 0 0 [vR 0, vI c, vI hr] SH mem (Pr SH P) := by
  refine Tot.of rfl (Nat.le_of_ble_eq_true rfl) (by simp [isJ]) (ls := [vR 0, vI c, vI hr]) rfl ?_
  refine q_aload_n dX9_loud_0 rfl ?_
  refine q_getr (r := 4) dX9_loud_1 lf_RX9_19 s0 rfl rfl ?_
  refine q_iload_n dX9_loud_4 rfl ?_
  refine q_cVi (as := [vI _]) dX9_loud_5 kmX3_hasCell kvX3_hasCell lm_RX9_161 ⟨by decide, by decide⟩ s4 ⟨by decide, rfl⟩ rfl rfl (Nat.le_of_ble_eq_true rfl) (c_X3_hasCell s4) (fun v m1 hq => ?_)
  obtain ⟨rfl, rfl⟩ := hq
  refine q_if_eq (tgt := 21) dX9_loud_8 (by decide) (fun c8 => ?_) (fun c8 => ?_)
  · have H := H.1 (b_no c8)
    refine q_iconst dX9_loud_21 (by decide) ?_
    exact q_iret dX9_loud_22 rfl ⟨_, rfl, rfl, H⟩
  · have H := H.2 (b_yes c8)
    refine q_iload_n dX9_loud_11 rfl ?_
    refine q_iconst dX9_loud_12 (by decide) ?_
    refine q_bipush dX9_loud_13 rfl (by decide) ?_
    refine q_cSi (as := [vI _, vI _, vI _]) dX9_loud_15 kmX9_isWithin ktX9_isWithin lm_RX9_97 ⟨by decide, by decide⟩ rfl rfl (Nat.le_of_ble_eq_true rfl) (c_X9_isWithin) (fun v m1 hq => ?_)
    obtain ⟨rfl, rfl⟩ := hq
    refine q_if_ne (tgt := 23) dX9_loud_18 (by decide) (fun c18 => ?_) (fun c18 => ?_)
    · have H := H.1 (b_yes c18)
      refine q_aload_n dX9_loud_23 rfl ?_
      refine q_getr (r := 34) dX9_loud_24 lf_RX9_71 s0 rfl rfl ?_
      refine q_aload_n dX9_loud_27 rfl ?_
      refine q_getr (r := 18) dX9_loud_28 lf_RX9_29 s0 rfl rfl ?_
      obtain ⟨h1, H⟩ := H
      obtain ⟨h2, H⟩ := H
      obtain ⟨h3, H⟩ := H
      obtain ⟨h4, H⟩ := H
      refine q_cVn (as := [vR _]) dX9_loud_31 kmX1_show kvX1_show lm_RX9_164 ⟨by decide, by decide⟩ s34 ⟨by decide, rfl⟩ rfl rfl (Nat.le_of_ble_eq_true rfl) (c_X1_show s18 s19 s20 (by decide) h1 h2 h3 h4) (fun m1 hq => ?_)
      have H := H m1 hq
      refine q_aload_n dX9_loud_34 rfl ?_
      refine q_getr (r := 41) dX9_loud_35 lf_RX9_80 s0 rfl rfl ?_
      refine q_iload_n dX9_loud_38 rfl ?_
      refine q_iload_n dX9_loud_39 rfl ?_
      refine q_iload_n dX9_loud_40 rfl ?_
      obtain ⟨h6, H⟩ := H
      obtain ⟨h7, H⟩ := H
      refine q_cVi (as := [vI _, vI _, vI _]) dX9_loud_41 kmX2_loudWithin kvX2_loudWithin lm_RX9_171 ⟨by decide, by decide⟩ s41 ⟨by decide, rfl⟩ rfl rfl (Nat.le_of_ble_eq_true rfl) (c_X2_loudWithin h6 (b_yes c8).1 h7) (fun v m1 hq => ?_)
      have H := H v m1 hq
      exact q_iret dX9_loud_44 rfl ⟨_, rfl, rfl, H⟩
    · have H := H.2 (b_no c18)
      refine q_iconst dX9_loud_21 (by decide) ?_
      exact q_iret dX9_loud_22 rfl ⟨_, rfl, rfl, H⟩

set_option maxRecDepth 20000 in
theorem v_X9_lift {s : Int} {P : Int → Mem → Prop} {mem : Mem}  (H : ((0 ≤ s ∧ s < mem 7 2) → (((0 ≤ s ∧ s < 4) ∧ ¬ mem 19 s.toNat = -9) → (paOK mem) ∧ (∀ m2 : Mem, remP mem m2 → (∀ m3 : Mem, m3 = (if 0 ≤ s ∧ s < 4 then mset m2 19 s.toNat (-9) else m2) → (P (if 0 ≤ s ∧ s < 4 then mem 19 s.toNat else -9) m3)))) ∧ (¬ ((0 ≤ s ∧ s < 4) ∧ ¬ mem 19 s.toNat = -9) → P (-2) mem)) ∧ (¬ (0 ≤ s ∧ s < mem 7 2) → P (-1) mem)) : Tot mX9_lift 0 0 [vR 0, vI s] SH mem (Pr SH P) := by
  refine Tot.of rfl (Nat.le_of_ble_eq_true rfl) (by simp [isJ]) (ls := [vR 0, vI s, vJ 0]) rfl ?_
  refine q_aload_n dX9_lift_0 rfl ?_
  refine q_getr (r := 4) dX9_lift_1 lf_RX9_19 s0 rfl rfl ?_
  refine q_getr (r := 7) dX9_lift_4 lf_RX9_144 s4 rfl rfl ?_
  refine q_iload_n dX9_lift_7 rfl ?_
  refine q_cVi (as := [vI _]) dX9_lift_8 kmX6_has kvX6_has lm_RX9_136 ⟨by decide, by decide⟩ s7 ⟨by decide, rfl⟩ rfl rfl (Nat.le_of_ble_eq_true rfl) (c_X6_has s7) (fun v m1 hq => ?_)
  obtain ⟨rfl, rfl⟩ := hq
  refine q_if_ne (tgt := 16) dX9_lift_11 (by decide) (fun c11 => ?_) (fun c11 => ?_)
  · have H := H.1 (b_yes c11)
    refine q_aload_n dX9_lift_16 rfl ?_
    refine q_getr (r := 18) dX9_lift_17 lf_RX9_29 s0 rfl rfl ?_
    refine q_iload_n dX9_lift_20 rfl ?_
    refine q_cVi (as := [vI _]) dX9_lift_21 kmX4_isLaid kvX4_isLaid lm_RX9_186 ⟨by decide, by decide⟩ s18 ⟨by decide, rfl⟩ rfl rfl (Nat.le_of_ble_eq_true rfl) (c_X4_isLaid s18 s19 s20) (fun v m1 hq => ?_)
    obtain ⟨rfl, rfl⟩ := hq
    refine q_if_ne (tgt := 30) dX9_lift_24 (by decide) (fun c24 => ?_) (fun c24 => ?_)
    · have H := H.1 (b_yes c24)
      refine q_aload_n dX9_lift_30 rfl ?_
      refine q_getr (r := 18) dX9_lift_31 lf_RX9_29 s0 rfl rfl ?_
      refine q_iload_n dX9_lift_34 rfl ?_
      refine q_cVi (as := [vI _]) dX9_lift_35 kmX4_cellOf kvX4_cellOf lm_RX9_147 ⟨by decide, by decide⟩ s18 ⟨by decide, rfl⟩ rfl rfl (Nat.le_of_ble_eq_true rfl) (c_X4_cellOf s18 s19 s20) (fun v m1 hq => ?_)
      obtain ⟨rfl, rfl⟩ := hq
      refine q_istore_n dX9_lift_38 (by decide) rfl ?_
      refine q_aload_n dX9_lift_39 rfl ?_
      refine q_getr (r := 24) dX9_lift_40 lf_RX9_39 s0 rfl rfl ?_
      refine q_aload_n dX9_lift_43 rfl ?_
      refine q_getr (r := 18) dX9_lift_44 lf_RX9_29 s0 rfl rfl ?_
      obtain ⟨h1, H⟩ := H
      refine q_cVn (as := [vR _]) dX9_lift_47 kmX5_remember kvX5_remember lm_RX9_193 ⟨by decide, by decide⟩ s24 ⟨by decide, rfl⟩ rfl rfl (Nat.le_of_ble_eq_true rfl) (c_X5_remember h1) (fun m1 hq => ?_)
      have H := H m1 hq
      refine q_aload_n dX9_lift_50 rfl ?_
      refine q_getr (r := 18) dX9_lift_51 lf_RX9_29 s0 rfl rfl ?_
      refine q_iload_n dX9_lift_54 rfl ?_
      refine q_bipush dX9_lift_55 rfl (by decide) ?_
      refine q_cVn (as := [vI _, vI _]) dX9_lift_57 kmX4_put kvX4_put lm_RX9_196 ⟨by decide, by decide⟩ s18 ⟨by decide, rfl⟩ rfl rfl (Nat.le_of_ble_eq_true rfl) (c_X4_put s18 s19 s20) (fun m1 hq => ?_)
      have H := H m1 hq
      refine q_iload_n dX9_lift_60 rfl ?_
      exact q_iret dX9_lift_61 rfl ⟨_, rfl, rfl, H⟩
    · have H := H.2 (b_no c24)
      refine q_bipush dX9_lift_27 rfl (by decide) ?_
      exact q_iret dX9_lift_29 rfl ⟨_, rfl, rfl, H⟩
  · have H := H.2 (b_no c11)
    refine q_iconst dX9_lift_14 (by decide) ?_
    exact q_iret dX9_lift_15 rfl ⟨_, rfl, rfl, H⟩

set_option maxRecDepth 20000 in
theorem v_X9_turn {s : Int} {P : Int → Mem → Prop} {mem : Mem}  (H : ((0 ≤ s ∧ s < mem 7 2) → (paOK mem) ∧ (∀ m2 : Mem, remP mem m2 → ((0 ≤ (if 0 ≤ s ∧ s < 4 then m2 20 s.toNat else 0)) ∧ (∀ m4 : Mem, m4 = (if 0 ≤ s ∧ s < 4 then mset m2 20 s.toNat ((if 0 ≤ s ∧ s < 4 then m2 20 s.toNat else 0) / 2) else m2) → (P (if 0 ≤ s ∧ s < 4 then m4 20 s.toNat else 0) m4))))) ∧ (¬ (0 ≤ s ∧ s < mem 7 2) → P (-1) mem)) : Tot mX9_turn 0 0 [vR 0, vI s] SH mem (Pr SH P) := by
  refine Tot.of rfl (Nat.le_of_ble_eq_true rfl) (by simp [isJ]) (ls := [vR 0, vI s]) rfl ?_
  refine q_aload_n dX9_turn_0 rfl ?_
  refine q_getr (r := 4) dX9_turn_1 lf_RX9_19 s0 rfl rfl ?_
  refine q_getr (r := 7) dX9_turn_4 lf_RX9_144 s4 rfl rfl ?_
  refine q_iload_n dX9_turn_7 rfl ?_
  refine q_cVi (as := [vI _]) dX9_turn_8 kmX6_has kvX6_has lm_RX9_136 ⟨by decide, by decide⟩ s7 ⟨by decide, rfl⟩ rfl rfl (Nat.le_of_ble_eq_true rfl) (c_X6_has s7) (fun v m1 hq => ?_)
  obtain ⟨rfl, rfl⟩ := hq
  refine q_if_ne (tgt := 16) dX9_turn_11 (by decide) (fun c11 => ?_) (fun c11 => ?_)
  · have H := H.1 (b_yes c11)
    refine q_aload_n dX9_turn_16 rfl ?_
    refine q_getr (r := 24) dX9_turn_17 lf_RX9_39 s0 rfl rfl ?_
    refine q_aload_n dX9_turn_20 rfl ?_
    refine q_getr (r := 18) dX9_turn_21 lf_RX9_29 s0 rfl rfl ?_
    obtain ⟨h1, H⟩ := H
    refine q_cVn (as := [vR _]) dX9_turn_24 kmX5_remember kvX5_remember lm_RX9_193 ⟨by decide, by decide⟩ s24 ⟨by decide, rfl⟩ rfl rfl (Nat.le_of_ble_eq_true rfl) (c_X5_remember h1) (fun m1 hq => ?_)
    have H := H m1 hq
    refine q_aload_n dX9_turn_27 rfl ?_
    refine q_getr (r := 18) dX9_turn_28 lf_RX9_29 s0 rfl rfl ?_
    refine q_iload_n dX9_turn_31 rfl ?_
    refine q_aload_n dX9_turn_32 rfl ?_
    refine q_getr (r := 18) dX9_turn_33 lf_RX9_29 s0 rfl rfl ?_
    refine q_iload_n dX9_turn_36 rfl ?_
    refine q_cVi (as := [vI _]) dX9_turn_37 kmX4_wornOf kvX4_wornOf lm_RX9_151 ⟨by decide, by decide⟩ s18 ⟨by decide, rfl⟩ rfl rfl (Nat.le_of_ble_eq_true rfl) (c_X4_wornOf s18 s19 s20) (fun v m1 hq => ?_)
    obtain ⟨rfl, rfl⟩ := hq
    refine q_iconst dX9_turn_40 (by decide) ?_
    obtain ⟨h3, H⟩ := H
    refine q_idiv dX9_turn_41 h3 (by decide) ?_
    refine q_cVn (as := [vI _, vI _]) dX9_turn_42 kmX4_wear kvX4_wear lm_RX9_205 ⟨by decide, by decide⟩ s18 ⟨by decide, rfl⟩ rfl rfl (Nat.le_of_ble_eq_true rfl) (c_X4_wear s18 s19 s20) (fun m1 hq => ?_)
    have H := H m1 hq
    refine q_aload_n dX9_turn_45 rfl ?_
    refine q_getr (r := 18) dX9_turn_46 lf_RX9_29 s0 rfl rfl ?_
    refine q_iload_n dX9_turn_49 rfl ?_
    refine q_cVi (as := [vI _]) dX9_turn_50 kmX4_wornOf kvX4_wornOf lm_RX9_151 ⟨by decide, by decide⟩ s18 ⟨by decide, rfl⟩ rfl rfl (Nat.le_of_ble_eq_true rfl) (c_X4_wornOf s18 s19 s20) (fun v m1 hq => ?_)
    obtain ⟨rfl, rfl⟩ := hq
    exact q_iret dX9_turn_53 rfl ⟨_, rfl, rfl, H⟩
  · have H := H.2 (b_no c11)
    refine q_iconst dX9_turn_14 (by decide) ?_
    exact q_iret dX9_turn_15 rfl ⟨_, rfl, rfl, H⟩

set_option maxRecDepth 20000 in
theorem v_X9_hour {P : Int → Mem → Prop} {mem : Mem}  (H : ((mem 18 2) < 99 → (paOK mem) ∧ (∀ m2 : Mem, remP mem m2 → ((hsD m2) ∧ ((moD m2 19 20) ∧ ((nextOK (m2 4 5) (m2 4 3) (m2 37)) ∧ ((thOK m2) ∧ (∀ m7 : Mem, shoP m2 19 20 m7 → ((rdy m7) ∧ ((moD m7 19 20) ∧ ((∀ s : Int, 0 ≤ s → s < 4 → m7 20 s.toNat ≤ 99990) ∧ ((0 ≤ m7 18 3 ∧ m7 18 3 ≤ 23) ∧ ((0 ≤ m7 18 2 ∧ m7 18 2 ≤ 1000) ∧ (∀ m13 : Mem, phP_18 m7 m13 → (P (m13 18 3) m13)))))))))))))) ∧ (99 ≤ (mem 18 2) → P (-2) mem)) : Tot mX9_hour 0 0 [vR 0] SH mem (Pr SH P) := by
  refine Tot.of rfl (Nat.le_of_ble_eq_true rfl) (by simp [isJ]) (ls := [vR 0]) rfl ?_
  refine q_aload_n dX9_hour_0 rfl ?_
  refine q_getr (r := 18) dX9_hour_1 lf_RX9_29 s0 rfl rfl ?_
  refine q_geti dX9_hour_4 lf_RX9_175 s18 rfl ?_
  refine q_bipush dX9_hour_7 rfl (by decide) ?_
  refine q_icmp_lt (tgt := 15) dX9_hour_9 (by decide) (fun c9 => ?_) (fun c9 => ?_)
  · have H := H.1 c9
    refine q_aload_n dX9_hour_15 rfl ?_
    refine q_getr (r := 24) dX9_hour_16 lf_RX9_39 s0 rfl rfl ?_
    refine q_aload_n dX9_hour_19 rfl ?_
    refine q_getr (r := 18) dX9_hour_20 lf_RX9_29 s0 rfl rfl ?_
    obtain ⟨h1, H⟩ := H
    refine q_cVn (as := [vR _]) dX9_hour_23 kmX5_remember kvX5_remember lm_RX9_193 ⟨by decide, by decide⟩ s24 ⟨by decide, rfl⟩ rfl rfl (Nat.le_of_ble_eq_true rfl) (c_X5_remember h1) (fun m1 hq => ?_)
    have H := H m1 hq
    refine q_aload_n dX9_hour_26 rfl ?_
    refine q_getr (r := 34) dX9_hour_27 lf_RX9_71 s0 rfl rfl ?_
    refine q_aload_n dX9_hour_30 rfl ?_
    refine q_getr (r := 18) dX9_hour_31 lf_RX9_29 s0 rfl rfl ?_
    obtain ⟨h3, H⟩ := H
    obtain ⟨h4, H⟩ := H
    obtain ⟨h5, H⟩ := H
    obtain ⟨h6, H⟩ := H
    refine q_cVn (as := [vR _]) dX9_hour_34 kmX1_show kvX1_show lm_RX9_164 ⟨by decide, by decide⟩ s34 ⟨by decide, rfl⟩ rfl rfl (Nat.le_of_ble_eq_true rfl) (c_X1_show s18 s19 s20 (by decide) h3 h4 h5 h6) (fun m1 hq => ?_)
    have H := H m1 hq
    refine q_aload_n dX9_hour_37 rfl ?_
    refine q_aload_n dX9_hour_38 rfl ?_
    refine q_getr (r := 18) dX9_hour_39 lf_RX9_29 s0 rfl rfl ?_
    obtain ⟨h8, H⟩ := H
    obtain ⟨h9, H⟩ := H
    obtain ⟨h10, H⟩ := H
    obtain ⟨h11, H⟩ := H
    obtain ⟨h12, H⟩ := H
    refine q_cVn (as := [vR _]) dX9_hour_42 kmX9_passHour kvX9_passHour lm_RX9_208 ⟨by decide, by decide⟩ s0 ⟨by decide, rfl⟩ rfl rfl (Nat.le_of_ble_eq_true rfl) (c_X9_passHour_18 h8 h9 h10 h11 h12) (fun m1 hq => ?_)
    have H := H m1 hq
    refine q_aload_n dX9_hour_45 rfl ?_
    refine q_getr (r := 18) dX9_hour_46 lf_RX9_29 s0 rfl rfl ?_
    refine q_geti dX9_hour_49 lf_RX9_179 s18 rfl ?_
    exact q_iret dX9_hour_52 rfl ⟨_, rfl, rfl, H⟩
  · have H := H.2 c9
    refine q_bipush dX9_hour_12 rfl (by decide) ?_
    exact q_iret dX9_hour_14 rfl ⟨_, rfl, rfl, H⟩

set_option maxRecDepth 20000 in
theorem v_X9_undo {P : Int → Mem → Prop} {mem : Mem}  (H : (¬ (mem 24 2) = 0 → (paOK mem) ∧ ((mem 24 2 ≠ 0) ∧ (∀ m3 : Mem, recP mem m3 → (P (m3 24 2) m3)))) ∧ ((mem 24 2) = 0 → P (-2) mem)) : Tot mX9_undo 0 0 [vR 0] SH mem (Pr SH P) := by
  refine Tot.of rfl (Nat.le_of_ble_eq_true rfl) (by simp [isJ]) (ls := [vR 0]) rfl ?_
  refine q_aload_n dX9_undo_0 rfl ?_
  refine q_getr (r := 24) dX9_undo_1 lf_RX9_39 s0 rfl rfl ?_
  refine q_cVi (as := []) dX9_undo_4 kmX5_size kvX5_size lm_RX9_185 ⟨by decide, by decide⟩ s24 ⟨by decide, rfl⟩ rfl rfl (Nat.le_of_ble_eq_true rfl) (c_X5_size) (fun v m1 hq => ?_)
  obtain ⟨rfl, rfl⟩ := hq
  refine q_if_ne (tgt := 13) dX9_undo_7 (by decide) (fun c7 => ?_) (fun c7 => ?_)
  · have H := H.1 c7
    refine q_aload_n dX9_undo_13 rfl ?_
    refine q_getr (r := 24) dX9_undo_14 lf_RX9_39 s0 rfl rfl ?_
    refine q_aload_n dX9_undo_17 rfl ?_
    refine q_getr (r := 18) dX9_undo_18 lf_RX9_29 s0 rfl rfl ?_
    obtain ⟨h1, H⟩ := H
    obtain ⟨h2, H⟩ := H
    refine q_cVn (as := [vR _]) dX9_undo_21 kmX5_recall kvX5_recall lm_RX9_211 ⟨by decide, by decide⟩ s24 ⟨by decide, rfl⟩ rfl rfl (Nat.le_of_ble_eq_true rfl) (c_X5_recall h1 h2) (fun m1 hq => ?_)
    have H := H m1 hq
    refine q_aload_n dX9_undo_24 rfl ?_
    refine q_getr (r := 24) dX9_undo_25 lf_RX9_39 s0 rfl rfl ?_
    refine q_cVi (as := []) dX9_undo_28 kmX5_size kvX5_size lm_RX9_185 ⟨by decide, by decide⟩ s24 ⟨by decide, rfl⟩ rfl rfl (Nat.le_of_ble_eq_true rfl) (c_X5_size) (fun v m1 hq => ?_)
    obtain ⟨rfl, rfl⟩ := hq
    exact q_iret dX9_undo_31 rfl ⟨_, rfl, rfl, H⟩
  · have H := H.2 c7
    refine q_bipush dX9_undo_10 rfl (by decide) ?_
    exact q_iret dX9_undo_12 rfl ⟨_, rfl, rfl, H⟩

set_option maxRecDepth 20000 in
theorem v_X9_waked {w : Int} {P : Int → Mem → Prop} {mem : Mem}  (H : ((0 ≤ w ∧ w ≤ 1) → (hsD mem) ∧ ((moD mem 19 20) ∧ ((nextOK (mem 4 5) (mem 4 3) (mem 37)) ∧ ((thOK mem) ∧ (∀ m5 : Mem, shoP mem 19 20 m5 → ((rdy m5) ∧ (∀ (v7 : Int) (m8 : Mem), anQ m5 (isFirst (wakP m5) 0 (m5 9 2)) v7 m8 → ((w = 0 → P v7 m8) ∧ (¬ w = 0 → (¬ v7 = (-9) → (rdy m8) ∧ ((0 ≤ v7) ∧ ((v7 < m8 9 2) ∧ (∀ (v12 : Int) (m13 : Mem), anQ m8 (isFirst (lhP m8 v7) (roA m8 v7) 24) v12 m13 → (P v12 m13))))) ∧ (v7 = (-9) → P v7 m8)))))))))) ∧ (¬ (0 ≤ w ∧ w ≤ 1) → P (-1) mem)) : Tot mX9_waked 0 0 [vR 0, vI w] SH mem (Pr SH P) := by
  refine Tot.of rfl (Nat.le_of_ble_eq_true rfl) (by simp [isJ]) (ls := [vR 0, vI w, vJ 0]) rfl ?_
  refine q_iload_n dX9_waked_0 rfl ?_
  refine q_iconst dX9_waked_1 (by decide) ?_
  refine q_iconst dX9_waked_2 (by decide) ?_
  refine q_cSi (as := [vI _, vI _, vI _]) dX9_waked_3 kmX9_isWithin ktX9_isWithin lm_RX9_97 ⟨by decide, by decide⟩ rfl rfl (Nat.le_of_ble_eq_true rfl) (c_X9_isWithin) (fun v m1 hq => ?_)
  obtain ⟨rfl, rfl⟩ := hq
  refine q_if_ne (tgt := 11) dX9_waked_6 (by decide) (fun c6 => ?_) (fun c6 => ?_)
  · have H := H.1 (b_yes c6)
    refine q_aload_n dX9_waked_11 rfl ?_
    refine q_getr (r := 34) dX9_waked_12 lf_RX9_71 s0 rfl rfl ?_
    refine q_aload_n dX9_waked_15 rfl ?_
    refine q_getr (r := 18) dX9_waked_16 lf_RX9_29 s0 rfl rfl ?_
    obtain ⟨h1, H⟩ := H
    obtain ⟨h2, H⟩ := H
    obtain ⟨h3, H⟩ := H
    obtain ⟨h4, H⟩ := H
    refine q_cVn (as := [vR _]) dX9_waked_19 kmX1_show kvX1_show lm_RX9_164 ⟨by decide, by decide⟩ s34 ⟨by decide, rfl⟩ rfl rfl (Nat.le_of_ble_eq_true rfl) (c_X1_show s18 s19 s20 (by decide) h1 h2 h3 h4) (fun m1 hq => ?_)
    have H := H m1 hq
    refine q_aload_n dX9_waked_22 rfl ?_
    refine q_getr (r := 41) dX9_waked_23 lf_RX9_80 s0 rfl rfl ?_
    obtain ⟨h6, H⟩ := H
    refine q_cVi (as := []) dX9_waked_26 kmX2_firstWaked kvX2_firstWaked lm_RX9_224 ⟨by decide, by decide⟩ s41 ⟨by decide, rfl⟩ rfl rfl (Nat.le_of_ble_eq_true rfl) (c_X2_firstWaked h6) (fun v m1 hq => ?_)
    have H := H v m1 hq
    refine q_istore_n dX9_waked_29 (by decide) rfl ?_
    refine q_iload_n dX9_waked_30 rfl ?_
    refine q_if_eq (tgt := 40) dX9_waked_31 (by decide) (fun c31 => ?_) (fun c31 => ?_)
    · have H := H.1 c31
      refine q_iload_n dX9_waked_40 rfl ?_
      refine q_goto (tgt := 52) dX9_waked_41 (by decide) ?_
      exact q_iret dX9_waked_52 rfl ⟨_, rfl, rfl, H⟩
    · have H := H.2 c31
      refine q_iload_n dX9_waked_34 rfl ?_
      refine q_bipush dX9_waked_35 rfl (by decide) ?_
      refine q_icmp_ne (tgt := 44) dX9_waked_37 (by decide) (fun c37 => ?_) (fun c37 => ?_)
      · have H := H.1 c37
        refine q_aload_n dX9_waked_44 rfl ?_
        refine q_getr (r := 41) dX9_waked_45 lf_RX9_80 s0 rfl rfl ?_
        refine q_iload_n dX9_waked_48 rfl ?_
        obtain ⟨h9, H⟩ := H
        obtain ⟨h10, H⟩ := H
        obtain ⟨h11, H⟩ := H
        refine q_cVi (as := [vI _]) dX9_waked_49 kmX2_firstLoudHour kvX2_firstLoudHour lm_RX9_227 ⟨by decide, by decide⟩ s41 ⟨by decide, rfl⟩ rfl rfl (Nat.le_of_ble_eq_true rfl) (c_X2_firstLoudHour h9 h10 h11) (fun v m1 hq => ?_)
        have H := H v m1 hq
        exact q_iret dX9_waked_52 rfl ⟨_, rfl, rfl, H⟩
      · have H := H.2 c37
        refine q_iload_n dX9_waked_40 rfl ?_
        refine q_goto (tgt := 52) dX9_waked_41 (by decide) ?_
        exact q_iret dX9_waked_52 rfl ⟨_, rfl, rfl, H⟩
  · have H := H.2 (b_no c6)
    refine q_iconst dX9_waked_9 (by decide) ?_
    exact q_iret dX9_waked_10 rfl ⟨_, rfl, rfl, H⟩

set_option maxRecDepth 20000 in
theorem v_X9_gain {s : Int} {P : Int → Mem → Prop} {mem : Mem}  (H : (¬ (0 ≤ s ∧ s < mem 7 2) → P (-1000000) mem) ∧ ((0 ≤ s ∧ s < mem 7 2) → (((0 ≤ s ∧ s < 4) ∧ ¬ mem 19 s.toNat = -9) → (hsD mem) ∧ ((moD mem 19 20) ∧ ((nextOK (mem 4 5) (mem 4 3) (mem 37)) ∧ ((thOK mem) ∧ (∀ m5 : Mem, shoP mem 19 20 m5 → ((rdy m5) ∧ (∀ (v7 : Int) (m8 : Mem), anP m5 (sumF (lrD m5) (m5 9 2).toNat) v7 m8 → ((flOK m8) ∧ (∀ m10 : Mem, uncP m8 s m10 → ((rdy m10) ∧ (∀ (v12 : Int) (m13 : Mem), anP m10 (sumF (lrD m10) (m10 9 2).toNat) v12 m13 → ((inR (v12 - v7)) ∧ (P (v12 - v7) m13))))))))))))) ∧ (¬ ((0 ≤ s ∧ s < 4) ∧ ¬ mem 19 s.toNat = -9) → P (-1000000) mem))) : Tot mX9_gain 0 0 [vR 0, vI s] SH mem (Pr SH P) := by
  refine Tot.of rfl (Nat.le_of_ble_eq_true rfl) (by simp [isJ]) (ls := [vR 0, vI s, vJ 0]) rfl ?_
  refine q_aload_n dX9_gain_0 rfl ?_
  refine q_getr (r := 4) dX9_gain_1 lf_RX9_19 s0 rfl rfl ?_
  refine q_getr (r := 7) dX9_gain_4 lf_RX9_144 s4 rfl rfl ?_
  refine q_iload_n dX9_gain_7 rfl ?_
  refine q_cVi (as := [vI _]) dX9_gain_8 kmX6_has kvX6_has lm_RX9_136 ⟨by decide, by decide⟩ s7 ⟨by decide, rfl⟩ rfl rfl (Nat.le_of_ble_eq_true rfl) (c_X6_has s7) (fun v m1 hq => ?_)
  obtain ⟨rfl, rfl⟩ := hq
  refine q_if_eq (tgt := 25) dX9_gain_11 (by decide) (fun c11 => ?_) (fun c11 => ?_)
  · have H := H.1 (b_no c11)
    refine q_ldc (n := (-1000000)) dX9_gain_25 lk_RX9_251 (by decide) ?_
    exact q_iret dX9_gain_27 rfl ⟨_, rfl, rfl, H⟩
  · have H := H.2 (b_yes c11)
    refine q_aload_n dX9_gain_14 rfl ?_
    refine q_getr (r := 18) dX9_gain_15 lf_RX9_29 s0 rfl rfl ?_
    refine q_iload_n dX9_gain_18 rfl ?_
    refine q_cVi (as := [vI _]) dX9_gain_19 kmX4_isLaid kvX4_isLaid lm_RX9_186 ⟨by decide, by decide⟩ s18 ⟨by decide, rfl⟩ rfl rfl (Nat.le_of_ble_eq_true rfl) (c_X4_isLaid s18 s19 s20) (fun v m1 hq => ?_)
    obtain ⟨rfl, rfl⟩ := hq
    refine q_if_ne (tgt := 28) dX9_gain_22 (by decide) (fun c22 => ?_) (fun c22 => ?_)
    · have H := H.1 (b_yes c22)
      refine q_aload_n dX9_gain_28 rfl ?_
      refine q_getr (r := 34) dX9_gain_29 lf_RX9_71 s0 rfl rfl ?_
      refine q_aload_n dX9_gain_32 rfl ?_
      refine q_getr (r := 18) dX9_gain_33 lf_RX9_29 s0 rfl rfl ?_
      obtain ⟨h1, H⟩ := H
      obtain ⟨h2, H⟩ := H
      obtain ⟨h3, H⟩ := H
      obtain ⟨h4, H⟩ := H
      refine q_cVn (as := [vR _]) dX9_gain_36 kmX1_show kvX1_show lm_RX9_164 ⟨by decide, by decide⟩ s34 ⟨by decide, rfl⟩ rfl rfl (Nat.le_of_ble_eq_true rfl) (c_X1_show s18 s19 s20 (by decide) h1 h2 h3 h4) (fun m1 hq => ?_)
      have H := H m1 hq
      refine q_aload_n dX9_gain_39 rfl ?_
      refine q_getr (r := 41) dX9_gain_40 lf_RX9_80 s0 rfl rfl ?_
      obtain ⟨h6, H⟩ := H
      refine q_cVi (as := []) dX9_gain_43 kmX2_loudInRooms kvX2_loudInRooms lm_RX9_252 ⟨by decide, by decide⟩ s41 ⟨by decide, rfl⟩ rfl rfl (Nat.le_of_ble_eq_true rfl) (c_X2_loudInRooms h6) (fun v m1 hq => ?_)
      have H := H v m1 hq
      refine q_istore_n dX9_gain_46 (by decide) rfl ?_
      refine q_aload_n dX9_gain_47 rfl ?_
      refine q_getr (r := 34) dX9_gain_48 lf_RX9_71 s0 rfl rfl ?_
      refine q_iload_n dX9_gain_51 rfl ?_
      obtain ⟨h9, H⟩ := H
      refine q_cVn (as := [vI _]) dX9_gain_52 kmX1_uncover kvX1_uncover lm_RX9_255 ⟨by decide, by decide⟩ s34 ⟨by decide, rfl⟩ rfl rfl (Nat.le_of_ble_eq_true rfl) (c_X1_uncover h9) (fun m1 hq => ?_)
      have H := H m1 hq
      refine q_aload_n dX9_gain_55 rfl ?_
      refine q_getr (r := 41) dX9_gain_56 lf_RX9_80 s0 rfl rfl ?_
      obtain ⟨h11, H⟩ := H
      refine q_cVi (as := []) dX9_gain_59 kmX2_loudInRooms kvX2_loudInRooms lm_RX9_252 ⟨by decide, by decide⟩ s41 ⟨by decide, rfl⟩ rfl rfl (Nat.le_of_ble_eq_true rfl) (c_X2_loudInRooms h11) (fun v m1 hq => ?_)
      have H := H v m1 hq
      refine q_iload_n dX9_gain_62 rfl ?_
      obtain ⟨h14, H⟩ := H
      refine q_isub dX9_gain_63 h14 ?_
      exact q_iret dX9_gain_64 rfl ⟨_, rfl, rfl, H⟩
    · have H := H.2 (b_no c22)
      refine q_ldc (n := (-1000000)) dX9_gain_25 lk_RX9_251 (by decide) ?_
      exact q_iret dX9_gain_27 rfl ⟨_, rfl, rfl, H⟩

-- NOT YET hear X9_hear: no contract of X6_append
set_option maxRecDepth 20000 in
theorem v_X9_forget {w : Int} {P : Int → Mem → Prop} {mem : Mem}  (H : ((0 ≤ w ∧ w ≤ 1) → (¬ w = 0 → ∀ m1 : Mem, m1 = mset mem 32 2 0 → (P (mem 32 2) m1)) ∧ (w = 0 → ∀ m2 : Mem, m2 = mset mem 30 2 0 → (P (mem 30 2) m2))) ∧ (¬ (0 ≤ w ∧ w ≤ 1) → P (-1) mem)) : Tot mX9_forget 0 0 [vR 0, vI w] SH mem (Pr SH P) := by
  refine Tot.of rfl (Nat.le_of_ble_eq_true rfl) (by simp [isJ]) (ls := [vR 0, vI w, vJ 0, vJ 0]) rfl ?_
  refine q_iload_n dX9_forget_0 rfl ?_
  refine q_iconst dX9_forget_1 (by decide) ?_
  refine q_iconst dX9_forget_2 (by decide) ?_
  refine q_cSi (as := [vI _, vI _, vI _]) dX9_forget_3 kmX9_isWithin ktX9_isWithin lm_RX9_97 ⟨by decide, by decide⟩ rfl rfl (Nat.le_of_ble_eq_true rfl) (c_X9_isWithin) (fun v m1 hq => ?_)
  obtain ⟨rfl, rfl⟩ := hq
  refine q_if_ne (tgt := 11) dX9_forget_6 (by decide) (fun c6 => ?_) (fun c6 => ?_)
  · have H := H.1 (b_yes c6)
    refine q_iload_n dX9_forget_11 rfl ?_
    refine q_if_ne (tgt := 22) dX9_forget_12 (by decide) (fun c12 => ?_) (fun c12 => ?_)
    · have H := H.1 c12
      refine q_aload_n dX9_forget_22 rfl ?_
      refine q_getr (r := 32) dX9_forget_23 lf_RX9_63 s0 rfl rfl ?_
      refine q_astore_n dX9_forget_26 (by decide) rfl ?_
      refine q_aload_n dX9_forget_27 rfl ?_
      refine q_cVi (as := []) dX9_forget_28 kmX6_size kvX6_size lm_RX9_214 ⟨by decide, by decide⟩ s32 ⟨by decide, rfl⟩ rfl rfl (Nat.le_of_ble_eq_true rfl) (c_X6_size s32) (fun v m1 hq => ?_)
      obtain ⟨rfl, rfl⟩ := hq
      refine q_istore_n dX9_forget_31 (by decide) rfl ?_
      refine q_aload_n dX9_forget_32 rfl ?_
      refine q_cVn (as := []) dX9_forget_33 kmX6_drop kvX6_drop lm_RX9_132 ⟨by decide, by decide⟩ s32 ⟨by decide, rfl⟩ rfl rfl (Nat.le_of_ble_eq_true rfl) (c_X6_drop s32) (fun m1 hq => ?_)
      have H := H m1 hq
      refine q_iload_n dX9_forget_36 rfl ?_
      exact q_iret dX9_forget_37 rfl ⟨_, rfl, rfl, H⟩
    · have H := H.2 c12
      refine q_aload_n dX9_forget_15 rfl ?_
      refine q_getr (r := 30) dX9_forget_16 lf_RX9_59 s0 rfl rfl ?_
      refine q_goto (tgt := 26) dX9_forget_19 (by decide) ?_
      refine q_astore_n dX9_forget_26 (by decide) rfl ?_
      refine q_aload_n dX9_forget_27 rfl ?_
      refine q_cVi (as := []) dX9_forget_28 kmX6_size kvX6_size lm_RX9_214 ⟨by decide, by decide⟩ s30 ⟨by decide, rfl⟩ rfl rfl (Nat.le_of_ble_eq_true rfl) (c_X6_size s30) (fun v m1 hq => ?_)
      obtain ⟨rfl, rfl⟩ := hq
      refine q_istore_n dX9_forget_31 (by decide) rfl ?_
      refine q_aload_n dX9_forget_32 rfl ?_
      refine q_cVn (as := []) dX9_forget_33 kmX6_drop kvX6_drop lm_RX9_132 ⟨by decide, by decide⟩ s30 ⟨by decide, rfl⟩ rfl rfl (Nat.le_of_ble_eq_true rfl) (c_X6_drop s30) (fun m1 hq => ?_)
      have H := H m1 hq
      refine q_iload_n dX9_forget_36 rfl ?_
      exact q_iret dX9_forget_37 rfl ⟨_, rfl, rfl, H⟩
  · have H := H.2 (b_no c6)
    refine q_iconst dX9_forget_9 (by decide) ?_
    exact q_iret dX9_forget_10 rfl ⟨_, rfl, rfl, H⟩

set_option maxRecDepth 20000 in
theorem v_X9_count {w : Int} {P : Int → Mem → Prop} {mem : Mem}  (H : (w = 0 → P (mem 4 3) mem) ∧ (w = 1 → P (mem 4 4) mem) ∧ (w = 2 → P (mem 4 6) mem) ∧ (w = 3 → P (mem 5 2) mem) ∧ (w = 4 → P (mem 7 2) mem) ∧ (w = 5 → P (mem 9 2) mem) ∧ (w = 6 → P (mem 30 2) mem) ∧ (w = 7 → P (mem 32 2) mem) ∧ (w = 8 → P (mem 1 2) mem) ∧ (¬ w = 0 ∧ ¬ w = 1 ∧ ¬ w = 2 ∧ ¬ w = 3 ∧ ¬ w = 4 ∧ ¬ w = 5 ∧ ¬ w = 6 ∧ ¬ w = 7 ∧ ¬ w = 8 → P (-1) mem)) : Tot mX9_count 0 0 [vR 0, vI w] SH mem (Pr SH P) := by
  refine Tot.of rfl (Nat.le_of_ble_eq_true rfl) (by simp [isJ]) (ls := [vR 0, vI w]) rfl ?_
  refine q_iload_n dX9_count_0 rfl ?_
  refine q_tsk (dt := 133) [(0, 52), (1, 60), (2, 68), (3, 76), (4, 87), (5, 98), (6, 109), (7, 117), (8, 125)] dX9_count_1 rfl rfl (by decide) (by decide) ?_ ?_
  · refine List.forall_mem_cons.mpr ⟨fun ha => ?_, List.forall_mem_cons.mpr ⟨fun ha => ?_, List.forall_mem_cons.mpr ⟨fun ha => ?_, List.forall_mem_cons.mpr ⟨fun ha => ?_, List.forall_mem_cons.mpr ⟨fun ha => ?_, List.forall_mem_cons.mpr ⟨fun ha => ?_, List.forall_mem_cons.mpr ⟨fun ha => ?_, List.forall_mem_cons.mpr ⟨fun ha => ?_, List.forall_mem_cons.mpr ⟨fun ha => ?_, fun _ h => nomatch h⟩⟩⟩⟩⟩⟩⟩⟩⟩
    · have H := H.1 (by simp only at ha; omega)
      refine q_aload_n dX9_count_52 rfl ?_
      refine q_getr (r := 4) dX9_count_53 lf_RX9_19 s0 rfl rfl ?_
      refine q_geti dX9_count_56 lf_RX9_338 s4 rfl ?_
      exact q_iret dX9_count_59 rfl ⟨_, rfl, rfl, H⟩
    · have H := H.2.1 (by simp only at ha; omega)
      refine q_aload_n dX9_count_60 rfl ?_
      refine q_getr (r := 4) dX9_count_61 lf_RX9_19 s0 rfl rfl ?_
      refine q_geti dX9_count_64 lf_RX9_341 s4 rfl ?_
      exact q_iret dX9_count_67 rfl ⟨_, rfl, rfl, H⟩
    · have H := H.2.2.1 (by simp only at ha; omega)
      refine q_aload_n dX9_count_68 rfl ?_
      refine q_getr (r := 4) dX9_count_69 lf_RX9_19 s0 rfl rfl ?_
      refine q_geti dX9_count_72 lf_RX9_344 s4 rfl ?_
      exact q_iret dX9_count_75 rfl ⟨_, rfl, rfl, H⟩
    · have H := H.2.2.2.1 (by simp only at ha; omega)
      refine q_aload_n dX9_count_76 rfl ?_
      refine q_getr (r := 4) dX9_count_77 lf_RX9_19 s0 rfl rfl ?_
      refine q_getr (r := 5) dX9_count_80 lf_RX9_133 s4 rfl rfl ?_
      refine q_cVi (as := []) dX9_count_83 kmX6_size kvX6_size lm_RX9_214 ⟨by decide, by decide⟩ s5 ⟨by decide, rfl⟩ rfl rfl (Nat.le_of_ble_eq_true rfl) (c_X6_size s5) (fun v m1 hq => ?_)
      obtain ⟨rfl, rfl⟩ := hq
      exact q_iret dX9_count_86 rfl ⟨_, rfl, rfl, H⟩
    · have H := H.2.2.2.2.1 (by simp only at ha; omega)
      refine q_aload_n dX9_count_87 rfl ?_
      refine q_getr (r := 4) dX9_count_88 lf_RX9_19 s0 rfl rfl ?_
      refine q_getr (r := 7) dX9_count_91 lf_RX9_144 s4 rfl rfl ?_
      refine q_cVi (as := []) dX9_count_94 kmX6_size kvX6_size lm_RX9_214 ⟨by decide, by decide⟩ s7 ⟨by decide, rfl⟩ rfl rfl (Nat.le_of_ble_eq_true rfl) (c_X6_size s7) (fun v m1 hq => ?_)
      obtain ⟨rfl, rfl⟩ := hq
      exact q_iret dX9_count_97 rfl ⟨_, rfl, rfl, H⟩
    · have H := H.2.2.2.2.2.1 (by simp only at ha; omega)
      refine q_aload_n dX9_count_98 rfl ?_
      refine q_getr (r := 4) dX9_count_99 lf_RX9_19 s0 rfl rfl ?_
      refine q_getr (r := 9) dX9_count_102 lf_RX9_158 s4 rfl rfl ?_
      refine q_cVi (as := []) dX9_count_105 kmX6_size kvX6_size lm_RX9_214 ⟨by decide, by decide⟩ s9 ⟨by decide, rfl⟩ rfl rfl (Nat.le_of_ble_eq_true rfl) (c_X6_size s9) (fun v m1 hq => ?_)
      obtain ⟨rfl, rfl⟩ := hq
      exact q_iret dX9_count_108 rfl ⟨_, rfl, rfl, H⟩
    · have H := H.2.2.2.2.2.2.1 (by simp only at ha; omega)
      refine q_aload_n dX9_count_109 rfl ?_
      refine q_getr (r := 30) dX9_count_110 lf_RX9_59 s0 rfl rfl ?_
      refine q_cVi (as := []) dX9_count_113 kmX6_size kvX6_size lm_RX9_214 ⟨by decide, by decide⟩ s30 ⟨by decide, rfl⟩ rfl rfl (Nat.le_of_ble_eq_true rfl) (c_X6_size s30) (fun v m1 hq => ?_)
      obtain ⟨rfl, rfl⟩ := hq
      exact q_iret dX9_count_116 rfl ⟨_, rfl, rfl, H⟩
    · have H := H.2.2.2.2.2.2.2.1 (by simp only at ha; omega)
      refine q_aload_n dX9_count_117 rfl ?_
      refine q_getr (r := 32) dX9_count_118 lf_RX9_63 s0 rfl rfl ?_
      refine q_cVi (as := []) dX9_count_121 kmX6_size kvX6_size lm_RX9_214 ⟨by decide, by decide⟩ s32 ⟨by decide, rfl⟩ rfl rfl (Nat.le_of_ble_eq_true rfl) (c_X6_size s32) (fun v m1 hq => ?_)
      obtain ⟨rfl, rfl⟩ := hq
      exact q_iret dX9_count_124 rfl ⟨_, rfl, rfl, H⟩
    · have H := H.2.2.2.2.2.2.2.2.1 (by simp only at ha; omega)
      refine q_aload_n dX9_count_125 rfl ?_
      refine q_getr (r := 1) dX9_count_126 lf_RX9_10 s0 rfl rfl ?_
      refine q_cVi (as := []) dX9_count_129 kmX8_size kvX8_size lm_RX9_108 ⟨by decide, by decide⟩ s1 ⟨by decide, rfl⟩ rfl rfl (Nat.le_of_ble_eq_true rfl) (c_X8_size) (fun v m1 hq => ?_)
      obtain ⟨rfl, rfl⟩ := hq
      exact q_iret dX9_count_132 rfl ⟨_, rfl, rfl, H⟩
  · intro ho
    have H := H.2.2.2.2.2.2.2.2.2 (by omega)
    refine q_iconst dX9_count_133 (by decide) ?_
    exact q_iret dX9_count_134 rfl ⟨_, rfl, rfl, H⟩

-- NOT YET tap X9_tap: no contract of X6_append

