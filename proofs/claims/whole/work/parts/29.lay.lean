/-! THE CLASS: bits counted, lay -/
theorem i_back {z : Int32} : Int32.ofInt z.toInt = z := Int32.ofInt_toInt z
theorem i_inT {z : Int32} : inR z.toInt := by
  have h1 := Int32.toInt_lt z
  have h2 := Int32.le_toInt z
  unfold inR
  omega
section
variable {M : MD} {scr : Option (Nat × (Nat → Int32))} {mc ms : Nat} {Q : Po} {pc : Nat} {ls st : List Vl} {sh : Sh} {mem : Mem} {a b : Int}
theorem q_iandT (hd : decode M.2.1 pc = .ok (.iand, 1)) (k : WP M scr mc ms Q (pc + 1) ls (vI (Int32.ofInt a &&& Int32.ofInt b).toInt :: st) sh mem) : WP M scr mc ms Q pc ls (vI b :: vI a :: st) sh mem :=
  WP.step (fun hC _ _ hL hst kk => lv_iand hC.1 hC.2.1 hd (by
    rw [← i_back (z := Int32.ofInt a &&& Int32.ofInt b)]
    exact kk _ hL (okcI i_inT (okt (okt hst))))) k
theorem q_iushrT (hd : decode M.2.1 pc = .ok (.iushr, 1)) (k : WP M scr mc ms Q (pc + 1) ls (vI ((Int32.ofInt a).toUInt32 >>> ((Int32.ofInt b).toUInt32 &&& Int32.toUInt32 31)).toInt32.toInt :: st) sh mem) : WP M scr mc ms Q pc ls (vI b :: vI a :: st) sh mem :=
  WP.step (fun hC _ _ hL hst kk => lv_iushr hC.1 hC.2.1 hd (v := Int32.ofInt ((Int32.ofInt a).toUInt32 >>> ((Int32.ofInt b).toUInt32 &&& Int32.toUInt32 31)).toInt32.toInt) i_back.symm (kk _ hL (okcI i_inT (okt (okt hst))))) k
theorem q_iaddT (hd : decode M.2.1 pc = .ok (.iadd, 1)) (k : WP M scr mc ms Q (pc + 1) ls (vI (Int32.ofInt a + Int32.ofInt b).toInt :: st) sh mem) : WP M scr mc ms Q pc ls (vI b :: vI a :: st) sh mem :=
  WP.step (fun hC _ _ hL hst kk => lv_iadd hC.1 hC.2.1 hd (by
    rw [← i_back (z := Int32.ofInt a + Int32.ofInt b)]
    exact kk _ hL (okcI i_inT (okt (okt hst))))) k
theorem q_isubT (hd : decode M.2.1 pc = .ok (.isub, 1)) (k : WP M scr mc ms Q (pc + 1) ls (vI (Int32.ofInt a - Int32.ofInt b).toInt :: st) sh mem) : WP M scr mc ms Q pc ls (vI b :: vI a :: st) sh mem :=
  WP.step (fun hC _ _ hL hst kk => lv_isub hC.1 hC.2.1 hd (by
    rw [← i_back (z := Int32.ofInt a - Int32.ofInt b)]
    exact kk _ hL (okcI i_inT (okt (okt hst))))) k
theorem q_ldcw {n : Int} {idx : Nat} (hd : decode M.2.1 pc = .ok (.ldc_w idx, 3)) (hc : Cond.constant M.1.cls idx (Int32.ofInt n) ∈ gdW) (hn : inR n) (k : WP M scr mc ms Q (pc + 3) ls (vI n :: st) sh mem) : WP M scr mc ms Q pc ls st sh mem :=
  WP.step (fun hC _ _ hL hst kk => lv_ldcw hC.1 hC.2.1 hC.2.2.2.2.2.1 (hC.2.2.2.2.2.2.1 _ hc) hd (kk _ hL (okcI hn hst))) k
end
theorem lk_RJ6_265 : Cond.constant RJ6 265 (Int32.ofInt (1431655765)) ∈ gdW := gd_at 568 (by decide +kernel) rfl
theorem lk_RJ6_266 : Cond.constant RJ6 266 (Int32.ofInt (858993459)) ∈ gdW := gd_at 569 (by decide +kernel) rfl
theorem lk_RJ6_267 : Cond.constant RJ6 267 (Int32.ofInt (252645135)) ∈ gdW := gd_at 570 (by decide +kernel) rfl
def bcF (v : Int) : Int :=
  let x1 := (Int32.ofInt v - Int32.ofInt ((Int32.ofInt (((Int32.ofInt v).toUInt32 >>> ((Int32.ofInt 1).toUInt32 &&& Int32.toUInt32 31)).toInt32.toInt) &&& Int32.ofInt 1431655765).toInt)).toInt
  let x2 := (Int32.ofInt ((Int32.ofInt x1 &&& Int32.ofInt 858993459).toInt) + Int32.ofInt ((Int32.ofInt (((Int32.ofInt x1).toUInt32 >>> ((Int32.ofInt 2).toUInt32 &&& Int32.toUInt32 31)).toInt32.toInt) &&& Int32.ofInt 858993459).toInt)).toInt
  let x3 := (Int32.ofInt ((Int32.ofInt x2 + Int32.ofInt (((Int32.ofInt x2).toUInt32 >>> ((Int32.ofInt 4).toUInt32 &&& Int32.toUInt32 31)).toInt32.toInt)).toInt) &&& Int32.ofInt 252645135).toInt
  let x4 := (Int32.ofInt x3 + Int32.ofInt (((Int32.ofInt x3).toUInt32 >>> ((Int32.ofInt 8).toUInt32 &&& Int32.toUInt32 31)).toInt32.toInt)).toInt
  let x5 := (Int32.ofInt x4 + Int32.ofInt (((Int32.ofInt x4).toUInt32 >>> ((Int32.ofInt 16).toUInt32 &&& Int32.toUInt32 31)).toInt32.toInt)).toInt
  (Int32.ofInt x5 &&& Int32.ofInt 63).toInt
theorem c_bitCount {sh : Sh} {mem : Mem} {v : Int} : Tot mJ6_bitCount_0f7a4 0 0 [vI v] sh mem (Pr sh (Pv (bcF v) mem)) := by
  refine Tot.of rfl (Nat.le_of_ble_eq_true rfl) (by simp [isJ]) (ls := [vI v]) rfl ?_
  refine q_iload_n dJ6_bitCount_0f7a4_0 rfl ?_
  refine q_iload_n dJ6_bitCount_0f7a4_1 rfl ?_
  refine q_iconst dJ6_bitCount_0f7a4_2 (by decide) ?_
  refine q_iushrT dJ6_bitCount_0f7a4_3 ?_
  refine q_ldcw dJ6_bitCount_0f7a4_4 lk_RJ6_265 (by decide) ?_
  refine q_iandT dJ6_bitCount_0f7a4_7 ?_
  refine q_isubT dJ6_bitCount_0f7a4_8 ?_
  refine q_istore_n dJ6_bitCount_0f7a4_9 (by decide) rfl ?_
  refine q_iload_n dJ6_bitCount_0f7a4_10 rfl ?_
  refine q_ldcw dJ6_bitCount_0f7a4_11 lk_RJ6_266 (by decide) ?_
  refine q_iandT dJ6_bitCount_0f7a4_14 ?_
  refine q_iload_n dJ6_bitCount_0f7a4_15 rfl ?_
  refine q_iconst dJ6_bitCount_0f7a4_16 (by decide) ?_
  refine q_iushrT dJ6_bitCount_0f7a4_17 ?_
  refine q_ldcw dJ6_bitCount_0f7a4_18 lk_RJ6_266 (by decide) ?_
  refine q_iandT dJ6_bitCount_0f7a4_21 ?_
  refine q_iaddT dJ6_bitCount_0f7a4_22 ?_
  refine q_istore_n dJ6_bitCount_0f7a4_23 (by decide) rfl ?_
  refine q_iload_n dJ6_bitCount_0f7a4_24 rfl ?_
  refine q_iload_n dJ6_bitCount_0f7a4_25 rfl ?_
  refine q_iconst dJ6_bitCount_0f7a4_26 (by decide) ?_
  refine q_iushrT dJ6_bitCount_0f7a4_27 ?_
  refine q_iaddT dJ6_bitCount_0f7a4_28 ?_
  refine q_ldcw dJ6_bitCount_0f7a4_29 lk_RJ6_267 (by decide) ?_
  refine q_iandT dJ6_bitCount_0f7a4_32 ?_
  refine q_istore_n dJ6_bitCount_0f7a4_33 (by decide) rfl ?_
  refine q_iload_n dJ6_bitCount_0f7a4_34 rfl ?_
  refine q_iload_n dJ6_bitCount_0f7a4_35 rfl ?_
  refine q_bipush dJ6_bitCount_0f7a4_36 (by decide) (by decide) ?_
  refine q_iushrT dJ6_bitCount_0f7a4_38 ?_
  refine q_iaddT dJ6_bitCount_0f7a4_39 ?_
  refine q_istore_n dJ6_bitCount_0f7a4_40 (by decide) rfl ?_
  refine q_iload_n dJ6_bitCount_0f7a4_41 rfl ?_
  refine q_iload_n dJ6_bitCount_0f7a4_42 rfl ?_
  refine q_bipush dJ6_bitCount_0f7a4_43 (by decide) (by decide) ?_
  refine q_iushrT dJ6_bitCount_0f7a4_45 ?_
  refine q_iaddT dJ6_bitCount_0f7a4_46 ?_
  refine q_istore_n dJ6_bitCount_0f7a4_47 (by decide) rfl ?_
  refine q_iload_n dJ6_bitCount_0f7a4_48 rfl ?_
  refine q_bipush dJ6_bitCount_0f7a4_49 (by decide) (by decide) ?_
  refine q_iandT dJ6_bitCount_0f7a4_51 ?_
  exact q_iret dJ6_bitCount_0f7a4_52 rfl ⟨_, rfl, rfl, rfl, rfl⟩

theorem bcF_16 {v : Int} (h0 : 0 ≤ v) (h1 : v < 16) : bcF v = v % 2 + v / 2 % 2 + v / 4 % 2 + v / 8 := by
  have h : v = 0 ∨ v = 1 ∨ v = 2 ∨ v = 3 ∨ v = 4 ∨ v = 5 ∨ v = 6 ∨ v = 7 ∨ v = 8 ∨ v = 9 ∨ v = 10 ∨ v = 11 ∨ v = 12 ∨ v = 13 ∨ v = 14 ∨ v = 15 := by omega
  rcases h with h | h | h | h | h | h | h | h | h | h | h | h | h | h | h | h <;> subst h <;> decide +kernel
