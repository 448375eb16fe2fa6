/-! THE CLASS: bits counted, lay -/
theorem i_back {z : Int32} : Int32.ofInt z.toInt = z := Int32.ofInt_toInt z
theorem i_inT {z : Int32} : inR z.toInt := by
  have h1 := Int32.toInt_lt z
  have h2 := Int32.le_toInt z
  unfold inR
  omega
section
variable {M : MD} {scr : Option (Nat × (Nat → Int32))} {mc ms : Nat} {Q : Po} {pc : Nat} {ls st : List Vl} {sh : Sh} {mem : Mem} {a b : Int}
theorem q_iandT (hd : decode M.2.1 pc = .ok (.iand, 1)) (k : WP M scr mc ms Q (pc + 1) ls (vI (Int32.ofInt a &&& Int32.ofInt b).toInt :: st) sh mem) : WP M scr mc ms Q pc ls (vI b :: vI a :: st) sh mem :=
  WP.step (fun hC _ _ hL hst kk => lv_iand hC.1 hC.2.1 hd (by
    rw [← i_back (z := Int32.ofInt a &&& Int32.ofInt b)]
    exact kk _ hL (okcI i_inT (okt (okt hst))))) k
theorem q_iushrT (hd : decode M.2.1 pc = .ok (.iushr, 1)) (k : WP M scr mc ms Q (pc + 1) ls (vI ((Int32.ofInt a).toUInt32 >>> ((Int32.ofInt b).toUInt32 &&& Int32.toUInt32 31)).toInt32.toInt :: st) sh mem) : WP M scr mc ms Q pc ls (vI b :: vI a :: st) sh mem :=
  WP.step (fun hC _ _ hL hst kk => lv_iushr hC.1 hC.2.1 hd (v := Int32.ofInt ((Int32.ofInt a).toUInt32 >>> ((Int32.ofInt b).toUInt32 &&& Int32.toUInt32 31)).toInt32.toInt) i_back.symm (kk _ hL (okcI i_inT (okt (okt hst))))) k
theorem q_iaddT (hd : decode M.2.1 pc = .ok (.iadd, 1)) (k : WP M scr mc ms Q (pc + 1) ls (vI (Int32.ofInt a + Int32.ofInt b).toInt :: st) sh mem) : WP M scr mc ms Q pc ls (vI b :: vI a :: st) sh mem :=
  WP.step (fun hC _ _ hL hst kk => lv_iadd hC.1 hC.2.1 hd (by
    rw [← i_back (z := Int32.ofInt a + Int32.ofInt b)]
    exact kk _ hL (okcI i_inT (okt (okt hst))))) k
theorem q_isubT (hd : decode M.2.1 pc = .ok (.isub, 1)) (k : WP M scr mc ms Q (pc + 1) ls (vI (Int32.ofInt a - Int32.ofInt b).toInt :: st) sh mem) : WP M scr mc ms Q pc ls (vI b :: vI a :: st) sh mem :=
  WP.step (fun hC _ _ hL hst kk => lv_isub hC.1 hC.2.1 hd (by
    rw [← i_back (z := Int32.ofInt a - Int32.ofInt b)]
    exact kk _ hL (okcI i_inT (okt (okt hst))))) k
theorem q_ldcw {n : Int} {idx : Nat} (hd : decode M.2.1 pc = .ok (.ldc_w idx, 3)) (hc : Cond.constant M.1.cls idx (Int32.ofInt n) ∈ gdW) (hn : inR n) (k : WP M scr mc ms Q (pc + 3) ls (vI n :: st) sh mem) : WP M scr mc ms Q pc ls st sh mem :=
  WP.step (fun hC _ _ hL hst kk => lv_ldcw hC.1 hC.2.1 hC.2.2.2.2.2.1 (hC.2.2.2.2.2.2.1 _ hc) hd (kk _ hL (okcI hn hst))) k
end
theorem lk_RJ6_265 : Cond.constant RJ6 265 (Int32.ofInt (1431655765)) ∈ gdW := gd_at 568 (by decide +kernel) rfl
theorem lk_RJ6_266 : Cond.constant RJ6 266 (Int32.ofInt (858993459)) ∈ gdW := gd_at 569 (by decide +kernel) rfl
theorem lk_RJ6_267 : Cond.constant RJ6 267 (Int32.ofInt (252645135)) ∈ gdW := gd_at 570 (by decide +kernel) rfl
def bcF (v : Int) : Int :=
  let x1 := (Int32.ofInt v - Int32.ofInt ((Int32.ofInt (((Int32.ofInt v).toUInt32 >>> ((Int32.ofInt 1).toUInt32 &&& Int32.toUInt32 31)).toInt32.toInt) &&& Int32.ofInt 1431655765).toInt)).toInt
  let x2 := (Int32.ofInt ((Int32.ofInt x1 &&& Int32.ofInt 858993459).toInt) + Int32.ofInt ((Int32.ofInt (((Int32.ofInt x1).toUInt32 >>> ((Int32.ofInt 2).toUInt32 &&& Int32.toUInt32 31)).toInt32.toInt) &&& Int32.ofInt 858993459).toInt)).toInt
  let x3 := (Int32.ofInt ((Int32.ofInt x2 + Int32.ofInt (((Int32.ofInt x2).toUInt32 >>> ((Int32.ofInt 4).toUInt32 &&& Int32.toUInt32 31)).toInt32.toInt)).toInt) &&& Int32.ofInt 252645135).toInt
  let x4 := (Int32.ofInt x3 + Int32.ofInt (((Int32.ofInt x3).toUInt32 >>> ((Int32.ofInt 8).toUInt32 &&& Int32.toUInt32 31)).toInt32.toInt)).toInt
  let x5 := (Int32.ofInt x4 + Int32.ofInt (((Int32.ofInt x4).toUInt32 >>> ((Int32.ofInt 16).toUInt32 &&& Int32.toUInt32 31)).toInt32.toInt)).toInt
  (Int32.ofInt x5 &&& Int32.ofInt 63).toInt
theorem c_bitCount {sh : Sh} {mem : Mem} {v : Int} : Tot mJ6_bitCount_0f7a4 0 0 [vI v] sh mem (Pr sh (Pv (bcF v) mem)) := by
  refine Tot.of rfl (Nat.le_of_ble_eq_true rfl) (by simp [isJ]) (ls := [vI v]) rfl ?_
  refine q_iload_n dJ6_bitCount_0f7a4_0 rfl ?_
  refine q_iload_n dJ6_bitCount_0f7a4_1 rfl ?_
  refine q_iconst dJ6_bitCount_0f7a4_2 (by decide) ?_
  refine q_iushrT dJ6_bitCount_0f7a4_3 ?_
  refine q_ldcw dJ6_bitCount_0f7a4_4 lk_RJ6_265 (by decide) ?_
  refine q_iandT dJ6_bitCount_0f7a4_7 ?_
  refine q_isubT dJ6_bitCount_0f7a4_8 ?_
  refine q_istore_n dJ6_bitCount_0f7a4_9 (by decide) rfl ?_
  refine q_iload_n dJ6_bitCount_0f7a4_10 rfl ?_
  refine q_ldcw dJ6_bitCount_0f7a4_11 lk_RJ6_266 (by decide) ?_
  refine q_iandT dJ6_bitCount_0f7a4_14 ?_
  refine q_iload_n dJ6_bitCount_0f7a4_15 rfl ?_
  refine q_iconst dJ6_bitCount_0f7a4_16 (by decide) ?_
  refine q_iushrT dJ6_bitCount_0f7a4_17 ?_
  refine q_ldcw dJ6_bitCount_0f7a4_18 lk_RJ6_266 (by decide) ?_
  refine q_iandT dJ6_bitCount_0f7a4_21 ?_
  refine q_iaddT dJ6_bitCount_0f7a4_22 ?_
  refine q_istore_n dJ6_bitCount_0f7a4_23 (by decide) rfl ?_
  refine q_iload_n dJ6_bitCount_0f7a4_24 rfl ?_
  refine q_iload_n dJ6_bitCount_0f7a4_25 rfl ?_
  refine q_iconst dJ6_bitCount_0f7a4_26 (by decide) ?_
  refine q_iushrT dJ6_bitCount_0f7a4_27 ?_
  refine q_iaddT dJ6_bitCount_0f7a4_28 ?_
  refine q_ldcw dJ6_bitCount_0f7a4_29 lk_RJ6_267 (by decide) ?_
  refine q_iandT dJ6_bitCount_0f7a4_32 ?_
  refine q_istore_n dJ6_bitCount_0f7a4_33 (by decide) rfl ?_
  refine q_iload_n dJ6_bitCount_0f7a4_34 rfl ?_
  refine q_iload_n dJ6_bitCount_0f7a4_35 rfl ?_
  refine q_bipush dJ6_bitCount_0f7a4_36 (by decide) (by decide) ?_
  refine q_iushrT dJ6_bitCount_0f7a4_38 ?_
  refine q_iaddT dJ6_bitCount_0f7a4_39 ?_
  refine q_istore_n dJ6_bitCount_0f7a4_40 (by decide) rfl ?_
  refine q_iload_n dJ6_bitCount_0f7a4_41 rfl ?_
  refine q_iload_n dJ6_bitCount_0f7a4_42 rfl ?_
  refine q_bipush dJ6_bitCount_0f7a4_43 (by decide) (by decide) ?_
  refine q_iushrT dJ6_bitCount_0f7a4_45 ?_
  refine q_iaddT dJ6_bitCount_0f7a4_46 ?_
  refine q_istore_n dJ6_bitCount_0f7a4_47 (by decide) rfl ?_
  refine q_iload_n dJ6_bitCount_0f7a4_48 rfl ?_
  refine q_bipush dJ6_bitCount_0f7a4_49 (by decide) (by decide) ?_
  refine q_iandT dJ6_bitCount_0f7a4_51 ?_
  exact q_iret dJ6_bitCount_0f7a4_52 rfl ⟨_, rfl, rfl, rfl, rfl⟩

theorem bcF_16 {v : Int} (h0 : 0 ≤ v) (h1 : v < 16) : bcF v = v % 2 + v / 2 % 2 + v / 4 % 2 + v / 8 := by
  have h : v = 0 ∨ v = 1 ∨ v = 2 ∨ v = 3 ∨ v = 4 ∨ v = 5 ∨ v = 6 ∨ v = 7 ∨ v = 8 ∨ v = 9 ∨ v = 10 ∨ v = 11 ∨ v = 12 ∨ v = 13 ∨ v = 14 ∨ v = 15 := by omega
  rcases h with h | h | h | h | h | h | h | h | h | h | h | h | h | h | h | h <;> subst h <;> decide +kernel
set_option maxRecDepth 20000 in
theorem v_X9_lay {s c : Int} {P : Int → Mem → Prop} {mem : Mem}  (H : (¬ (0 ≤ s ∧ s < mem 7 2) → P (-1) mem) ∧ ((0 ≤ s ∧ s < mem 7 2) → ((0 ≤ c ∧ c < mem 4 5) → (hsD mem) ∧ ((moD mem 19 20) ∧ ((nextOK (mem 4 5) (mem 4 3) (mem 37)) ∧ ((thOK mem) ∧ (∀ m5 : Mem, shoP mem 19 20 m5 → ((((0 ≤ s ∧ s < 4) ∧ ¬ m5 19 s.toNat = -9) → P (-2) m5) ∧ (¬ ((0 ≤ s ∧ s < 4) ∧ ¬ m5 19 s.toNat = -9) → (hsD m5) ∧ ((0 ≤ s ∧ s < m5 7 2) ∧ (∀ (v8 : Int) (m9 : Mem), canV (m5 4 3) (m5 4 4) (shW m5 s) (shL m5 s) c (m5 35) m5 v8 m9 → ((¬ v8 = 0 → (paOK m9) ∧ (∀ m11 : Mem, remP m9 m11 → (∀ m12 : Mem, m12 = (if 0 ≤ s ∧ s < 4 then mset m11 19 s.toNat c else m11) → (P (bcF ((bitF (laD m12) 4 : Nat) : Int)) m12)))) ∧ (v8 = 0 → P (-2) m9))))))))))) ∧ (¬ (0 ≤ c ∧ c < mem 4 5) → P (-1) mem))) : Tot mX9_lay 0 0 [vR 0, vI s, vI c] SH mem (Pr SH P) := by
  refine Tot.of rfl (Nat.le_of_ble_eq_true rfl) (by simp [isJ]) (ls := [vR 0, vI s, vI c]) rfl ?_
  refine q_aload_n dX9_lay_0 rfl ?_
  refine q_getr (r := 4) dX9_lay_1 lf_RX9_19 s0 rfl rfl ?_
  refine q_getr (r := 7) dX9_lay_4 lf_RX9_144 s4 rfl rfl ?_
  refine q_iload_n dX9_lay_7 rfl ?_
  refine q_cVi (as := [vI _]) dX9_lay_8 kmX6_has kvX6_has lm_RX9_136 ⟨by decide, by decide⟩ s7 ⟨by decide, rfl⟩ rfl rfl (Nat.le_of_ble_eq_true rfl) (c_X6_has s7) (fun v m1 hq => ?_)
  obtain ⟨rfl, rfl⟩ := hq
  refine q_if_eq (tgt := 25) dX9_lay_11 (by decide) (fun c11 => ?_) (fun c11 => ?_)
  · have H := H.1 (b_no c11)
    refine q_iconst dX9_lay_25 (by decide) ?_
    exact q_iret dX9_lay_26 rfl ⟨_, rfl, rfl, H⟩
  · have H := H.2 (b_yes c11)
    refine q_aload_n dX9_lay_14 rfl ?_
    refine q_getr (r := 4) dX9_lay_15 lf_RX9_19 s0 rfl rfl ?_
    refine q_iload_n dX9_lay_18 rfl ?_
    refine q_cVi (as := [vI _]) dX9_lay_19 kmX3_hasCell kvX3_hasCell lm_RX9_161 ⟨by decide, by decide⟩ s4 ⟨by decide, rfl⟩ rfl rfl (Nat.le_of_ble_eq_true rfl) (c_X3_hasCell s4) (fun v m1 hq => ?_)
    obtain ⟨rfl, rfl⟩ := hq
    refine q_if_ne (tgt := 27) dX9_lay_22 (by decide) (fun c22 => ?_) (fun c22 => ?_)
    · have H := H.1 (b_yes c22)
      refine q_aload_n dX9_lay_27 rfl ?_
      refine q_getr (r := 34) dX9_lay_28 lf_RX9_71 s0 rfl rfl ?_
      refine q_aload_n dX9_lay_31 rfl ?_
      refine q_getr (r := 18) dX9_lay_32 lf_RX9_29 s0 rfl rfl ?_
      obtain ⟨h1, H⟩ := H
      obtain ⟨h2, H⟩ := H
      obtain ⟨h3, H⟩ := H
      obtain ⟨h4, H⟩ := H
      refine q_cVn (as := [vR _]) dX9_lay_35 kmX1_show kvX1_show lm_RX9_164 ⟨by decide, by decide⟩ s34 ⟨by decide, rfl⟩ rfl rfl (Nat.le_of_ble_eq_true rfl) (c_X1_show s18 s19 s20 (by decide) h1 h2 h3 h4) (fun m1 hq => ?_)
      have H := H m1 hq
      refine q_aload_n dX9_lay_38 rfl ?_
      refine q_getr (r := 18) dX9_lay_39 lf_RX9_29 s0 rfl rfl ?_
      refine q_iload_n dX9_lay_42 rfl ?_
      refine q_cVi (as := [vI _]) dX9_lay_43 kmX4_isLaid kvX4_isLaid lm_RX9_186 ⟨by decide, by decide⟩ s18 ⟨by decide, rfl⟩ rfl rfl (Nat.le_of_ble_eq_true rfl) (c_X4_isLaid s18 s19 s20) (fun v m1 hq => ?_)
      obtain ⟨rfl, rfl⟩ := hq
      refine q_if_ne (tgt := 61) dX9_lay_46 (by decide) (fun c46 => ?_) (fun c46 => ?_)
      · have H := H.1 (b_yes c46)
        refine q_bipush dX9_lay_61 rfl (by decide) ?_
        exact q_iret dX9_lay_63 rfl ⟨_, rfl, rfl, H⟩
      · have H := H.2 (b_no c46)
        refine q_aload_n dX9_lay_49 rfl ?_
        refine q_getr (r := 34) dX9_lay_50 lf_RX9_71 s0 rfl rfl ?_
        refine q_iload_n dX9_lay_53 rfl ?_
        refine q_iload_n dX9_lay_54 rfl ?_
        obtain ⟨h6, H⟩ := H
        obtain ⟨h7, H⟩ := H
        refine q_cVi (as := [vI _, vI _]) dX9_lay_55 kmX1_canLie kvX1_canLie lm_RX9_189 ⟨by decide, by decide⟩ s34 ⟨by decide, rfl⟩ rfl rfl (Nat.le_of_ble_eq_true rfl) (c_can h6 h7) (fun v m1 hq => ?_)
        have H := H v m1 hq
        refine q_if_ne (tgt := 64) dX9_lay_58 (by decide) (fun c58 => ?_) (fun c58 => ?_)
        · have H := H.1 c58
          refine q_aload_n dX9_lay_64 rfl ?_
          refine q_getr (r := 24) dX9_lay_65 lf_RX9_39 s0 rfl rfl ?_
          refine q_aload_n dX9_lay_68 rfl ?_
          refine q_getr (r := 18) dX9_lay_69 lf_RX9_29 s0 rfl rfl ?_
          obtain ⟨h10, H⟩ := H
          refine q_cVn (as := [vR _]) dX9_lay_72 kmX5_remember kvX5_remember lm_RX9_193 ⟨by decide, by decide⟩ s24 ⟨by decide, rfl⟩ rfl rfl (Nat.le_of_ble_eq_true rfl) (c_X5_remember h10) (fun m1 hq => ?_)
          have H := H m1 hq
          refine q_aload_n dX9_lay_75 rfl ?_
          refine q_getr (r := 18) dX9_lay_76 lf_RX9_29 s0 rfl rfl ?_
          refine q_iload_n dX9_lay_79 rfl ?_
          refine q_iload_n dX9_lay_80 rfl ?_
          refine q_cVn (as := [vI _, vI _]) dX9_lay_81 kmX4_put kvX4_put lm_RX9_196 ⟨by decide, by decide⟩ s18 ⟨by decide, rfl⟩ rfl rfl (Nat.le_of_ble_eq_true rfl) (c_X4_put s18 s19 s20) (fun m1 hq => ?_)
          have H := H m1 hq
          refine q_aload_n dX9_lay_84 rfl ?_
          refine q_getr (r := 18) dX9_lay_85 lf_RX9_29 s0 rfl rfl ?_
          refine q_cVi (as := []) dX9_lay_88 kmX4_laidBits kvX4_laidBits lm_RX9_182 ⟨by decide, by decide⟩ s18 ⟨by decide, rfl⟩ rfl rfl (Nat.le_of_ble_eq_true rfl) (c_X4_laidBits) (fun v m1 hq => ?_)
          obtain ⟨rfl, rfl⟩ := hq
          refine q_cSi (as := [vI _]) dX9_lay_91 kmJ6_bitCount_0f7a4 ktJ6_bitCount_0f7a4 lm_RX9_200 ⟨by decide, by decide⟩ rfl rfl (Nat.le_of_ble_eq_true rfl) (c_bitCount) (fun v m1 hq => ?_)
          obtain ⟨rfl, rfl⟩ := hq
          exact q_iret dX9_lay_94 rfl ⟨_, rfl, rfl, H⟩
        · have H := H.2 c58
          refine q_bipush dX9_lay_61 rfl (by decide) ?_
          exact q_iret dX9_lay_63 rfl ⟨_, rfl, rfl, H⟩
    · have H := H.2 (b_no c22)
      refine q_iconst dX9_lay_25 (by decide) ?_
      exact q_iret dX9_lay_26 rfl ⟨_, rfl, rfl, H⟩

set_option maxRecDepth 20000 in
theorem v_X9_now {w : Int} {P : Int → Mem → Prop} {mem : Mem}  (H : (w = 0 → P (mem 18 2) mem) ∧ (w = 1 → P (mem 18 3) mem) ∧ (w = 2 → P ((bitF (laD mem) 4 : Nat) : Int) mem) ∧ (w = 3 → P (mem 24 2) mem) ∧ (¬ w = 0 ∧ ¬ w = 1 ∧ ¬ w = 2 ∧ ¬ w = 3 → P (-1) mem)) : Tot mX9_now 0 0 [vR 0, vI w] SH mem (Pr SH P) := by
  refine Tot.of rfl (Nat.le_of_ble_eq_true rfl) (by simp [isJ]) (ls := [vR 0, vI w]) rfl ?_
  refine q_iload_n dX9_now_0 rfl ?_
  refine q_tsk (dt := 64) [(0, 32), (1, 40), (2, 48), (3, 56)] dX9_now_1 rfl rfl (by decide) (by decide) ?_ ?_
  · refine List.forall_mem_cons.mpr ⟨fun ha => ?_, List.forall_mem_cons.mpr ⟨fun ha => ?_, List.forall_mem_cons.mpr ⟨fun ha => ?_, List.forall_mem_cons.mpr ⟨fun ha => ?_, fun _ h => nomatch h⟩⟩⟩⟩
    · have H := H.1 (by simp only at ha; omega)
      refine q_aload_n dX9_now_32 rfl ?_
      refine q_getr (r := 18) dX9_now_33 lf_RX9_29 s0 rfl rfl ?_
      refine q_geti dX9_now_36 lf_RX9_175 s18 rfl ?_
      exact q_iret dX9_now_39 rfl ⟨_, rfl, rfl, H⟩
    · have H := H.2.1 (by simp only at ha; omega)
      refine q_aload_n dX9_now_40 rfl ?_
      refine q_getr (r := 18) dX9_now_41 lf_RX9_29 s0 rfl rfl ?_
      refine q_geti dX9_now_44 lf_RX9_179 s18 rfl ?_
      exact q_iret dX9_now_47 rfl ⟨_, rfl, rfl, H⟩
    · have H := H.2.2.1 (by simp only at ha; omega)
      refine q_aload_n dX9_now_48 rfl ?_
      refine q_getr (r := 18) dX9_now_49 lf_RX9_29 s0 rfl rfl ?_
      refine q_cVi (as := []) dX9_now_52 kmX4_laidBits kvX4_laidBits lm_RX9_182 ⟨by decide, by decide⟩ s18 ⟨by decide, rfl⟩ rfl rfl (Nat.le_of_ble_eq_true rfl) (c_X4_laidBits) (fun v m1 hq => ?_)
      obtain ⟨rfl, rfl⟩ := hq
      exact q_iret dX9_now_55 rfl ⟨_, rfl, rfl, H⟩
    · have H := H.2.2.2.1 (by simp only at ha; omega)
      refine q_aload_n dX9_now_56 rfl ?_
      refine q_getr (r := 24) dX9_now_57 lf_RX9_39 s0 rfl rfl ?_
      refine q_cVi (as := []) dX9_now_60 kmX5_size kvX5_size lm_RX9_185 ⟨by decide, by decide⟩ s24 ⟨by decide, rfl⟩ rfl rfl (Nat.le_of_ble_eq_true rfl) (c_X5_size) (fun v m1 hq => ?_)
      obtain ⟨rfl, rfl⟩ := hq
      exact q_iret dX9_now_63 rfl ⟨_, rfl, rfl, H⟩
  · intro ho
    have H := H.2.2.2.2 (by omega)
    refine q_iconst dX9_now_64 (by decide) ?_
    exact q_iret dX9_now_65 rfl ⟨_, rfl, rfl, H⟩

def w_X9_wholeBits_4 (P : Int → Mem → Prop) (a1 : Int) (a2 : Int) (mem : Mem) : Prop := WP mX9_wholeBits none 0 0 (Pr SH P) 4 [vR 0, vI a1, vI a2] [] SH mem
set_option maxRecDepth 20000 in
theorem v_X9_wholeBits_4 {P : Int → Mem → Prop} {a1 : Int} {a2 : Int} {mem : Mem}  (H : ((mem 7 2) ≤ a2 → P a1 mem) ∧ (a2 < (mem 7 2) → (¬ ((0 ≤ a2 ∧ a2 < 4) ∧ ¬ mem 19 a2.toNat = -9) → (inR (a2 + 1)) ∧ (w_X9_wholeBits_4 P a1 (a2 + 1) mem)) ∧ (((0 ≤ a2 ∧ a2 < 4) ∧ ¬ mem 19 a2.toNat = -9) → (hsD mem) ∧ ((moD mem 19 20) ∧ ((0 ≤ a2) ∧ ((a2 < mem 7 2) ∧ (((thD mem 20 a2) ≤ 0 → (inR (a2 + 1)) ∧ (w_X9_wholeBits_4 P a1 (a2 + 1) mem)) ∧ (0 < (thD mem 20 a2) → (a2 < 31) ∧ ((0 ≤ a1) ∧ ((0 ≤ ((2 ^ (a2).toNat : Nat) : Int)) ∧ ((inR (a2 + 1)) ∧ (w_X9_wholeBits_4 P (((a1).toNat ||| (((2 ^ (a2).toNat : Nat) : Int)).toNat : Nat) : Int) (a2 + 1) mem)))))))))))) : w_X9_wholeBits_4 P a1 a2 mem := by
  unfold w_X9_wholeBits_4
  refine q_iload_n dX9_wholeBits_4 rfl ?_
  refine q_aload_n dX9_wholeBits_5 rfl ?_
  refine q_getr (r := 4) dX9_wholeBits_6 lf_RX9_19 s0 rfl rfl ?_
  refine q_getr (r := 7) dX9_wholeBits_9 lf_RX9_144 s4 rfl rfl ?_
  refine q_cVi (as := []) dX9_wholeBits_12 kmX6_size kvX6_size lm_RX9_214 ⟨by decide, by decide⟩ s7 ⟨by decide, rfl⟩ rfl rfl (Nat.le_of_ble_eq_true rfl) (c_X6_size s7) (fun v m1 hq => ?_)
  obtain ⟨rfl, rfl⟩ := hq
  refine q_icmp_ge (tgt := 56) dX9_wholeBits_15 (by decide) (fun c15 => ?_) (fun c15 => ?_)
  · have H := H.1 c15
    refine q_iload_n dX9_wholeBits_56 rfl ?_
    exact q_iret dX9_wholeBits_57 rfl ⟨_, rfl, rfl, H⟩
  · have H := H.2 c15
    refine q_aload_n dX9_wholeBits_18 rfl ?_
    refine q_getr (r := 18) dX9_wholeBits_19 lf_RX9_29 s0 rfl rfl ?_
    refine q_iload_n dX9_wholeBits_22 rfl ?_
    refine q_cVi (as := [vI _]) dX9_wholeBits_23 kmX4_isLaid kvX4_isLaid lm_RX9_186 ⟨by decide, by decide⟩ s18 ⟨by decide, rfl⟩ rfl rfl (Nat.le_of_ble_eq_true rfl) (c_X4_isLaid s18 s19 s20) (fun v m1 hq => ?_)
    obtain ⟨rfl, rfl⟩ := hq
    refine q_if_eq (tgt := 50) dX9_wholeBits_26 (by decide) (fun c26 => ?_) (fun c26 => ?_)
    · have H := H.1 (b_no c26)
      obtain ⟨h1, H⟩ := H
      refine q_iinc dX9_wholeBits_50 rfl h1 rfl ?_
      refine q_goto (tgt := 4) dX9_wholeBits_53 (by decide) ?_
      exact H
    · have H := H.2 (b_yes c26)
      refine q_aload_n dX9_wholeBits_29 rfl ?_
      refine q_getr (r := 4) dX9_wholeBits_30 lf_RX9_19 s0 rfl rfl ?_
      refine q_iload_n dX9_wholeBits_33 rfl ?_
      refine q_aload_n dX9_wholeBits_34 rfl ?_
      refine q_getr (r := 18) dX9_wholeBits_35 lf_RX9_29 s0 rfl rfl ?_
      obtain ⟨h2, H⟩ := H
      obtain ⟨h3, H⟩ := H
      obtain ⟨h4, H⟩ := H
      obtain ⟨h5, H⟩ := H
      refine q_cVi (as := [vI _, vR _]) dX9_wholeBits_38 kmX3_thickNow kvX3_thickNow lm_RX9_154 ⟨by decide, by decide⟩ s4 ⟨by decide, rfl⟩ rfl rfl (Nat.le_of_ble_eq_true rfl) (c_X3_thickNow s18 s19 s20 h2 h3 h4 h5) (fun v m1 hq => ?_)
      obtain ⟨rfl, rfl⟩ := hq
      refine q_if_le (tgt := 50) dX9_wholeBits_41 (by decide) (fun c41 => ?_) (fun c41 => ?_)
      · have H := H.1 c41
        obtain ⟨h6, H⟩ := H
        refine q_iinc dX9_wholeBits_50 rfl h6 rfl ?_
        refine q_goto (tgt := 4) dX9_wholeBits_53 (by decide) ?_
        exact H
      · have H := H.2 c41
        refine q_iload_n dX9_wholeBits_44 rfl ?_
        refine q_iconst dX9_wholeBits_45 (by decide) ?_
        refine q_iload_n dX9_wholeBits_46 rfl ?_
        obtain ⟨h7, H⟩ := H
        refine q_shl1 dX9_wholeBits_47 h4 h7 ?_
        obtain ⟨h8, H⟩ := H
        obtain ⟨h9, H⟩ := H
        refine q_ior dX9_wholeBits_48 h8 h9 ?_
        refine q_istore_n dX9_wholeBits_49 (by decide) rfl ?_
        obtain ⟨h10, H⟩ := H
        refine q_iinc dX9_wholeBits_50 rfl h10 rfl ?_
        refine q_goto (tgt := 4) dX9_wholeBits_53 (by decide) ?_
        exact H
set_option maxRecDepth 20000 in
theorem v_X9_wholeBits {P : Int → Mem → Prop} {mem : Mem}  (H : w_X9_wholeBits_4 P 0 0 mem) : Tot mX9_wholeBits 0 0 [vR 0] SH mem (Pr SH P) := by
  refine Tot.of rfl (Nat.le_of_ble_eq_true rfl) (by simp [isJ]) (ls := [vR 0, vJ 0, vJ 0]) rfl ?_
  refine q_iconst dX9_wholeBits_0 (by decide) ?_
  refine q_istore_n dX9_wholeBits_1 (by decide) rfl ?_
  refine q_iconst dX9_wholeBits_2 (by decide) ?_
  refine q_istore_n dX9_wholeBits_3 (by decide) rfl ?_
  exact H


noncomputable def noQ (m : Mem) (w : Int) : Int := if w = 0 then m 18 2 else if w = 1 then m 18 3 else if w = 2 then (bitF (laD m) 4 : Nat) else if w = 3 then m 24 2 else -1
theorem c_X9_now {m0 : Mem} {w : Int} : Tot mX9_now 0 0 [vR 0, vI w] SH m0 (Pr SH (Pv (noQ m0 w) m0)) := by
  refine v_X9_now ⟨fun r => ⟨?_, rfl⟩, fun r => ⟨?_, rfl⟩, fun r => ⟨?_, rfl⟩, fun r => ⟨?_, rfl⟩, fun r => ⟨?_, rfl⟩⟩ <;> unfold noQ
  · rw [if_pos r]
  · rw [if_neg (by omega), if_pos r]
  · rw [if_neg (by omega), if_neg (by omega), if_pos r]
  · rw [if_neg (by omega), if_neg (by omega), if_neg (by omega), if_pos r]
  · rw [if_neg (by omega), if_neg (by omega), if_neg (by omega), if_neg (by omega)]
def whD (m : Mem) : Int → Prop := fun s => (¬ m 19 s.toNat = -9) ∧ 0 < thD m 20 s
theorem whb_loop {m0 : Mem} (hh : hsD m0) (hm : moD m0 19 20) : ∀ (k : Nat) (a2 : Int), 0 ≤ a2 → a2 ≤ m0 7 2 → (m0 7 2 - a2).toNat ≤ k → w_X9_wholeBits_4 (Pv (bitF (whD m0) (m0 7 2).toNat : Nat) m0) (bitF (whD m0) a2.toNat : Nat) a2 m0 := by
  have h7 := hh.2.2.2.2.2.2.1
  intro k
  induction k with
  | zero => intro a2 h0 h1 hk; exact v_X9_wholeBits_4 ⟨fun _ => by rw [show a2 = m0 7 2 by omega]; exact ⟨rfl, rfl⟩, fun c => by omega⟩
  | succ k ih =>
    intro a2 h0 h1 hk
    refine v_X9_wholeBits_4 ⟨fun _ => by rw [show a2 = m0 7 2 by omega]; exact ⟨rfl, rfl⟩, fun c => ⟨fun q => ⟨by omega, ?_⟩, fun q => ⟨hh, hm, h0, c, fun r => ⟨by omega, ?_⟩, fun r => ⟨by omega, Int.natCast_nonneg _, Int.natCast_nonneg _, by omega, ?_⟩⟩⟩⟩
    · rw [← bitF_skip (p := whD m0) h0 (fun z => q ⟨⟨h0, by omega⟩, z.1⟩)]
      exact ih _ (by omega) (by omega) (by omega)
    · rw [← bitF_skip (p := whD m0) h0 (fun z => Int.not_lt.mpr r z.2)]
      exact ih _ (by omega) (by omega) (by omega)
    · rw [bitF_step (p := whD m0) h0 ⟨q.2, r⟩]
      exact ih _ (by omega) (by omega) (by omega)
theorem c_X9_wholeBits {m0 : Mem} (hh : hsD m0) (hm : moD m0 19 20) : Tot mX9_wholeBits 0 0 [vR 0] SH m0 (Pr SH (Pv (bitF (whD m0) (m0 7 2).toNat : Nat) m0)) := by
  have h7 := hh.2.2.2.2.2.2.1
  exact v_X9_wholeBits (whb_loop hh hm _ 0 (by omega) (by omega) (Nat.le_refl _))
