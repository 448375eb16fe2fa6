/-! THE CLASS: bits counted, lay -/
theorem i_back {z : Int32} : Int32.ofInt z.toInt = z := Int32.ofInt_toInt z
theorem i_inT {z : Int32} : inR z.toInt := by
  have h1 := Int32.toInt_lt z
  have h2 := Int32.le_toInt z
  unfold inR
  omega
section
variable {M : MD} {scr : Option (Nat × (Nat → Int32))} {mc ms : Nat} {Q : Po} {pc : Nat} {ls st : List Vl} {sh : Sh} {mem : Mem} {a b : Int}
theorem q_iandT (hd : decode M.2.1 pc = .ok (.iand, 1)) (k : WP M scr mc ms Q (pc + 1) ls (vI (Int32.ofInt a &&& Int32.ofInt b).toInt :: st) sh mem) : WP M scr mc ms Q pc ls (vI b :: vI a :: st) sh mem :=
  WP.step (fun hC _ _ hL hst kk => lv_iand hC.1 hC.2.1 hd (by
    rw [← i_back (z := Int32.ofInt a &&& Int32.ofInt b)]
    exact kk _ hL (okcI i_inT (okt (okt hst))))) k
theorem q_iushrT (hd : decode M.2.1 pc = .ok (.iushr, 1)) (k : WP M scr mc ms Q (pc + 1) ls (vI ((Int32.ofInt a).toUInt32 >>> ((Int32.ofInt b).toUInt32 &&& Int32.toUInt32 31)).toInt32.toInt :: st) sh mem) : WP M scr mc ms Q pc ls (vI b :: vI a :: st) sh mem :=
  WP.step (fun hC _ _ hL hst kk => lv_iushr hC.1 hC.2.1 hd (v := Int32.ofInt ((Int32.ofInt a).toUInt32 >>> ((Int32.ofInt b).toUInt32 &&& Int32.toUInt32 31)).toInt32.toInt) i_back.symm (kk _ hL (okcI i_inT (okt (okt hst))))) k
end
