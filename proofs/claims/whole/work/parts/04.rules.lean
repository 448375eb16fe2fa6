/-! RULES: what an instruction does in the abstract machine -/
theorem tI {z : Int} (h : inR z) : (Int32.ofInt z).toInt = z := Int32.toInt_ofInt_of_le (by have := h.1; omega) (by have := h.2; omega)
theorem tJ {z : Int} (h : inL z) : (Int64.ofInt z).toInt = z := Int64.toInt_ofInt_of_le (by have := h.1; omega) (by have := h.2; omega)
theorem i_lt {a b : Int} (ha : inR a) (hb : inR b) : Int32.ofInt a < Int32.ofInt b ↔ a < b := by rw [Int32.lt_iff_toInt_lt, tI ha, tI hb]
theorem i_le {a b : Int} (ha : inR a) (hb : inR b) : Int32.ofInt a ≤ Int32.ofInt b ↔ a ≤ b := by rw [Int32.le_iff_toInt_le, tI ha, tI hb]
theorem i_eq {a b : Int} (ha : inR a) (hb : inR b) : Int32.ofInt a = Int32.ofInt b ↔ a = b := by rw [← Int32.toInt_inj, tI ha, tI hb]
theorem i_zero : (Int32.ofInt 0) = 0 := rfl
theorem i_ne0 {b : Int} (hb : inR b) (h : b ≠ 0) : ¬ Int32.ofInt b = 0 := by rw [← i_zero, i_eq hb (by omega)]; exact h
theorem i_cl {z : Int} (h : inR z) : (Int32.ofInt z).toNatClampNeg = z.toNat := by
  show (Int32.ofInt z).toInt.toNat = _
  rw [tI h]
theorem i_in {z : Int} {n : Nat} (h : inR z) (h0 : 0 ≤ z) (h1 : z < n) : vp_in (Int32.ofInt z) n := by
  rw [vp_in_iff, tI h]
  exact ⟨h0, h1⟩
theorem i_div {a b : Int} (ha : inR a) (hb : inR b) (h0 : 0 ≤ a) (h1 : 0 < b) : Int32.ofInt a / Int32.ofInt b = Int32.ofInt (a / b) := by
  rw [← Int.tdiv_eq_ediv_of_nonneg h0]
  exact (Int32.ofInt_tdiv (by rw [Int32.toInt_minValue]; omega) (by show a ≤ Int32.maxValue.toInt; rw [show Int32.maxValue.toInt = 2147483647 from rfl]; omega) (by rw [Int32.toInt_minValue]; omega) (by rw [show Int32.maxValue.toInt = 2147483647 from rfl]; omega)).symm
theorem i_rem {a b : Int} (ha : inR a) (hb : inR b) (h0 : 0 ≤ a) (h1 : 0 < b) : Int32.ofInt a - Int32.ofInt a / Int32.ofInt b * Int32.ofInt b = Int32.ofInt (a % b) := by
  rw [i_div ha hb h0 h1, ← Int32.ofInt_mul, ← Int32.ofInt_sub, Int.emod_def, Int.mul_comm b]
theorem inR0 : inR 0 := by omega
theorem i_and31 {a : Int} : Int32.ofInt a &&& Int32.ofInt 31 = Int32.ofInt (a % 32) := by
  apply Int32.toBitVec_inj.1
  apply BitVec.eq_of_toNat_eq
  have h31 : (31 : Nat) = 2 ^ 5 - 1 := rfl
  simp only [Int32.toBitVec_and, Int32.toBitVec_ofInt, BitVec.toNat_and, BitVec.toNat_ofInt]
  rw [show ((31 : Int) % ((2 ^ 32 : Nat) : Int)).toNat = 2 ^ 5 - 1 from rfl, Nat.and_two_pow_sub_one_eq_mod]
  omega
theorem i_and1 {a : Int} (_ : inR a) (_ : 0 ≤ a) : Int32.ofInt a &&& Int32.ofInt 1 = Int32.ofInt (a % 2) := by
  apply Int32.toBitVec_inj.1
  apply BitVec.eq_of_toNat_eq
  simp only [Int32.toBitVec_and, Int32.toBitVec_ofInt, BitVec.toNat_and, BitVec.toNat_ofInt]
  rw [show ((1 : Int) % ((2 ^ 32 : Nat) : Int)).toNat = 2 ^ 1 - 1 from rfl, Nat.and_two_pow_sub_one_eq_mod]
  omega
theorem i_or {a b : Int} (h0 : 0 ≤ a) (h1 : 0 ≤ b) : Int32.ofInt a ||| Int32.ofInt b = Int32.ofInt ((a.toNat ||| b.toNat : Nat) : Int) := by
  obtain ⟨n, rfl⟩ := Int.eq_ofNat_of_zero_le h0
  obtain ⟨k, rfl⟩ := Int.eq_ofNat_of_zero_le h1
  apply Int32.toBitVec_inj.1
  simp [BitVec.ofInt_natCast]
theorem i_shl1 {b : Int} (h0 : 0 ≤ b) (h1 : b < 31) : Int32.ofInt 1 <<< (Int32.ofInt b &&& 31) = Int32.ofInt ((2 ^ b.toNat : Nat) : Int) := by
  obtain ⟨n, rfl⟩ := Int.eq_ofNat_of_zero_le h0
  have hn : n < 31 := by omega
  have key : ∀ n : Fin 31, Int32.ofInt 1 <<< (Int32.ofInt ((n : Nat) : Int) &&& 31) = Int32.ofInt ((2 ^ ((n : Nat) : Int).toNat : Nat) : Int) := by decide +kernel
  exact key ⟨n, hn⟩
theorem i_shr {a b : Int} (hz : inR a) (ha : 0 ≤ a) (h0 : 0 ≤ b) (h1 : b < 31) : Int32.ofInt a >>> (Int32.ofInt b &&& 31) = Int32.ofInt (a / ((2 ^ b.toNat : Nat) : Int)) := by
  obtain ⟨n, rfl⟩ := Int.eq_ofNat_of_zero_le h0
  have hn : n < 31 := by omega
  have key : ∀ n : Fin 31, (Int32.ofInt ((n : Nat) : Int) &&& 31) = Int32.ofInt ((n : Nat) : Int) := by decide +kernel
  have hk := key ⟨n, hn⟩
  simp only at hk
  rw [hk]
  apply Int32.toInt_inj.1
  have h3 : a / ((2 ^ n : Nat) : Int) ≤ a := Int.ediv_le_self _ ha
  have h4 : 0 ≤ a / ((2 ^ n : Nat) : Int) := Int.ediv_nonneg ha (Int.natCast_nonneg _)
  rw [show (((n : Nat) : Int)).toNat = n from rfl, tI (z := a / _) ⟨by omega, by omega⟩]
  have key2 : ∀ n : Fin 31, (Int32.ofInt ((n : Nat) : Int)).toBitVec.smod 32#32 = BitVec.ofNat 32 n := by decide +kernel
  have hk2 := key2 ⟨n, hn⟩
  simp only at hk2
  show (BitVec.sshiftRight' _ ((Int32.ofInt (n : Int)).toBitVec.smod 32#32)).toInt = _
  rw [hk2, BitVec.toInt_sshiftRight']
  rw [show (BitVec.ofNat 32 n).toNat = n from by rw [BitVec.toNat_ofNat]; exact Nat.mod_eq_of_lt (by omega)]
  rw [show (Int32.ofInt a).toBitVec.toInt = a from tI hz, Int.shiftRight_eq_div_pow]
theorem i_nat (n : Nat) : Int32.ofInt (n : Int) = Int32.ofNat n := Int32.ofInt_eq_ofNat
theorem okv_mono {n n' : Nat} (h : n ≤ n') {v : Vl} (hv : okv n v) : okv n' v := by
  rcases v with z | k | z
  · exact hv
  · exact hv.elim (fun q => Or.inl (Nat.lt_of_lt_of_le q h)) Or.inr
  · exact hv
theorem cv_ag {ad ad' : Nat → Nat} {n : Nat} (h : ∀ k, (k < n ∨ k = 1000) → ad' k = ad k) {v : Vl} (hv : okv n v) : cv ad' v = cv ad v := by
  rcases v with z | k | z
  · rfl
  · show Value.ref (ad' k) = Value.ref (ad k)
    rw [h k hv]
  · rfl
theorem cv_cat {ad : Nat → Nat} {v : Vl} (h : isJ v = false) : (cv ad v).category = 1 := by
  rcases v with z | k | z
  · rfl
  · rfl
  · cases h
theorem cv_cat2 {ad : Nat → Nat} {v : Vl} : (cv ad v).category ≤ 2 := by
  rcases v with z | k | z
  · exact Nat.le_succ _
  · exact Nat.le_succ _
  · exact Nat.le_refl _
def lvl (ad : Nat → Nat) (ls : List Vl) : List (Nat × Value) := (ls.zipIdx.filter (fun q => !isJ q.1)).map (fun q => (q.2, cv ad q.1))
theorem lvl_mem {ad : Nat → Nat} {ls : List Vl} {q : Nat × Value} : q ∈ lvl ad ls ↔ ∃ v, ls[q.1]? = some v ∧ isJ v = false ∧ q.2 = cv ad v := by
  obtain ⟨i, x⟩ := q
  constructor
  · intro h
    obtain ⟨⟨v, j⟩, h1, h2⟩ := List.mem_map.mp h
    obtain ⟨h3, h4⟩ := List.mem_filter.mp h1
    cases h2
    refine ⟨v, ?_, by simpa using h4, rfl⟩
    exact List.mk_mem_zipIdx_iff_getElem?.mp h3
  · rintro ⟨v, h1, h2, h3⟩
    refine List.mem_map.mpr ⟨(v, i), List.mem_filter.mpr ⟨List.mk_mem_zipIdx_iff_getElem?.mpr h1, by simp [h2]⟩, ?_⟩
    simp only at h3
    rw [h3]
theorem Lv.has {ad : Nat → Nat} {nL n : Nat} {lsr : Array Slot} {ls : List Vl} (h : Lv ad nL n lsr ls) : lv_has lsr nL (lvl ad ls) := by
  refine ⟨h.1, h.2.1, fun q hq => ?_⟩
  obtain ⟨v, h1, h2, h3⟩ := lvl_mem.mp hq
  rw [h3]
  exact h.2.2.2.2 _ v h1 h2
theorem Lv.set {ad : Nat → Nat} {nL n : Nat} {lsr lsr' : Array Slot} {ls : List Vl} {i : Nat} {v : Vl} (h : Lv ad nL n lsr ls) (hv : okv n v) {l : List (Nat × Value)} (hl : ∀ q, q ∈ (i, cv ad v) :: (lvl ad ls).filter (fun q => !(q.1 == i) && !(q.1 + 1 == i && q.2.category == 2)) → q ∈ l) (h' : lv_has lsr' nL l) : Lv ad nL n lsr' (ls.set i v) := by
  refine ⟨h'.1, h'.2.1, by rw [List.length_set]; exact h.2.2.1, fun w hw => ?_, fun j w hj hJ => ?_⟩
  · rcases List.mem_or_eq_of_mem_set hw with h1 | h1
    · exact h.2.2.2.1 w h1
    · rw [h1]; exact hv
  · by_cases hij : j = i
    · subst hij
      have hlt : j < ls.length := by
        have := (List.getElem?_eq_some_iff.mp hj).1
        rwa [List.length_set] at this
      rw [List.getElem?_set_self hlt] at hj
      cases hj
      exact h'.2.2 _ (hl _ List.mem_cons_self)
    · rw [List.getElem?_set_ne (Ne.symm hij)] at hj
      refine h'.2.2 (j, cv ad w) (hl _ (List.mem_cons_of_mem _ (List.mem_filter.mpr ⟨lvl_mem.mpr ⟨w, hj, hJ, rfl⟩, ?_⟩)))
      have hc : (cv ad w).category = 1 := cv_cat hJ
      simp [hij, hc]
theorem Lv.get {ad : Nat → Nat} {nL n : Nat} {lsr : Array Slot} {ls : List Vl} (h : Lv ad nL n lsr ls) {i : Nat} {v : Vl} (hi : ls[i]? = some v) (hJ : isJ v = false) : lsr[i]? = some (.val (cv ad v)) := h.2.2.2.2 i v hi hJ
theorem Lv.ok {ad : Nat → Nat} {nL n : Nat} {lsr : Array Slot} {ls : List Vl} (h : Lv ad nL n lsr ls) {i : Nat} {v : Vl} (hi : ls[i]? = some v) : okv n v := h.2.2.2.1 v (List.mem_of_getElem? hi)
theorem Lv.lt {ad : Nat → Nat} {nL n : Nat} {lsr : Array Slot} {ls : List Vl} (h : Lv ad nL n lsr ls) {i : Nat} {v : Vl} (hi : ls[i]? = some v) : i < nL := by rw [← h.2.2.1]; exact (List.getElem?_eq_some_iff.mp hi).1
theorem ok1 {n : Nat} {v : Vl} {st : List Vl} (h : ∀ w ∈ v :: st, okv n w) : okv n v := h v List.mem_cons_self
theorem okt {n : Nat} {v : Vl} {st : List Vl} (h : ∀ w ∈ v :: st, okv n w) : ∀ w ∈ st, okv n w := fun w hw => h w (List.mem_cons_of_mem _ hw)
theorem okc {n : Nat} {v : Vl} {st : List Vl} (hv : okv n v) (h : ∀ w ∈ st, okv n w) : ∀ w ∈ v :: st, okv n w := List.forall_mem_cons.mpr ⟨hv, h⟩
theorem okI {n : Nat} {z : Int} {st : List Vl} (h : ∀ w ∈ vI z :: st, okv n w) : inR z := h (vI z) List.mem_cons_self
theorem okJ {n : Nat} {z : Int} {st : List Vl} (h : ∀ w ∈ vJ z :: st, okv n w) : inL z := h (vJ z) List.mem_cons_self
theorem okcI {n : Nat} {z : Int} {st : List Vl} (hv : inR z) (h : ∀ w ∈ st, okv n w) : ∀ w ∈ vI z :: st, okv n w := List.forall_mem_cons.mpr ⟨hv, h⟩
theorem okcJ {n : Nat} {z : Int} {st : List Vl} (hv : inL z) (h : ∀ w ∈ st, okv n w) : ∀ w ∈ vJ z :: st, okv n w := List.forall_mem_cons.mpr ⟨hv, h⟩
section RU
variable {M : MD} {scr : Option (Nat × (Nat → Int32))} {mc ms : Nat} {Q : Po} {pc tgt : Nat} {ls ls' st : List Vl} {sh : Sh} {mem : Mem} {a b x : Int} {i h : Nat} {off : Int}
theorem q_iconst {n : Int} (hd : decode M.2.1 pc = .ok (.iconst n, 1)) (hn : inR n) (k : WP M scr mc ms Q (pc + 1) ls (vI n :: st) sh mem) : WP M scr mc ms Q pc ls st sh mem :=
  WP.step (fun hC _ _ hL hst kk => lv_iconst hC.1 hC.2.1 hd rfl (kk _ hL (okcI hn hst))) k
theorem q_bipush {n : Int} (hd : decode M.2.1 pc = .ok (.bipush n, 2)) (hv : (Int8.ofInt n).toInt32 = Int32.ofInt n) (hn : inR n) (k : WP M scr mc ms Q (pc + 2) ls (vI n :: st) sh mem) : WP M scr mc ms Q pc ls st sh mem :=
  WP.step (fun hC _ _ hL hst kk => lv_bipush hC.1 hC.2.1 hd hv (kk _ hL (okcI hn hst))) k
theorem q_sipush {n : Int} (hd : decode M.2.1 pc = .ok (.sipush n, 3)) (hv : (Int16.ofInt n).toInt32 = Int32.ofInt n) (hn : inR n) (k : WP M scr mc ms Q (pc + 3) ls (vI n :: st) sh mem) : WP M scr mc ms Q pc ls st sh mem :=
  WP.step (fun hC _ _ hL hst kk => lv_sipush hC.1 hC.2.1 hd hv (kk _ hL (okcI hn hst))) k
theorem q_ldc {n : Int} {idx : Nat} (hd : decode M.2.1 pc = .ok (.ldc idx, 2)) (hc : Cond.constant M.1.cls idx (Int32.ofInt n) ∈ gdW) (hn : inR n) (k : WP M scr mc ms Q (pc + 2) ls (vI n :: st) sh mem) : WP M scr mc ms Q pc ls st sh mem :=
  WP.step (fun hC _ _ hL hst kk => lv_ldc hC.1 hC.2.1 hC.2.2.2.2.2.1 (hC.2.2.2.2.2.2.1 _ hc) hd (kk _ hL (okcI hn hst))) k
theorem q_ldc2 {n : Int} {idx : Nat} (hd : decode M.2.1 pc = .ok (.ldc2_w idx, 3)) (hc : Cond.constantLong M.1.cls idx (Int64.ofInt n) ∈ gdW) (hn : inL n) (k : WP M scr mc ms Q (pc + 3) ls (vJ n :: st) sh mem) : WP M scr mc ms Q pc ls st sh mem :=
  WP.step (fun hC _ _ hL hst kk => lv_ldc2 hC.1 hC.2.1 hC.2.2.2.2.2.1 (hC.2.2.2.2.2.2.1 _ hc) hd (kk _ hL (okcJ hn hst))) k
theorem q_lconst {n : Fin 2} (hd : decode M.2.1 pc = .ok (.lconst n, 1)) {z : Int} (hv : Int64.ofNat (n : Nat) = Int64.ofInt z) (hn : inL z) (k : WP M scr mc ms Q (pc + 1) ls (vJ z :: st) sh mem) : WP M scr mc ms Q pc ls st sh mem :=
  WP.step (fun hC _ _ hL hst kk => lv_lconst hC.1 hC.2.1 hd hv (kk _ hL (okcJ hn hst))) k
theorem q_iload_n {j : Fin 4} (hd : decode M.2.1 pc = .ok (.iload_n j, 1)) (hl : ls[(j : Nat)]? = some (vI x)) (k : WP M scr mc ms Q (pc + 1) ls (vI x :: st) sh mem) : WP M scr mc ms Q pc ls st sh mem :=
  WP.step (fun hC _ _ hL hst kk => lv_iload_n hC.1 hC.2.1 hd rfl (hL.get hl rfl) (kk _ hL (okc (hL.ok hl) hst))) k
theorem q_iload (hd : decode M.2.1 pc = .ok (.iload i, 2)) (hl : ls[i]? = some (vI x)) (k : WP M scr mc ms Q (pc + 2) ls (vI x :: st) sh mem) : WP M scr mc ms Q pc ls st sh mem :=
  WP.step (fun hC _ _ hL hst kk => lv_iload hC.1 hC.2.1 hd (hL.get hl rfl) (kk _ hL (okc (hL.ok hl) hst))) k
theorem q_aload_n {j : Fin 4} (hd : decode M.2.1 pc = .ok (.aload_n j, 1)) (hl : ls[(j : Nat)]? = some (vR h)) (k : WP M scr mc ms Q (pc + 1) ls (vR h :: st) sh mem) : WP M scr mc ms Q pc ls st sh mem :=
  WP.step (fun hC _ _ hL hst kk => lv_aload_n hC.1 hC.2.1 hd rfl (hL.get hl rfl) (kk _ hL (okc (hL.ok hl) hst))) k
theorem q_aload (hd : decode M.2.1 pc = .ok (.aload i, 2)) (hl : ls[i]? = some (vR h)) (k : WP M scr mc ms Q (pc + 2) ls (vR h :: st) sh mem) : WP M scr mc ms Q pc ls st sh mem :=
  WP.step (fun hC _ _ hL hst kk => lv_aload hC.1 hC.2.1 hd (hL.get hl rfl) (kk _ hL (okc (hL.ok hl) hst))) k
theorem q_istore_n {j : Fin 4} (hd : decode M.2.1 pc = .ok (.istore_n j, 1)) (hi : (j : Nat) < M.2.2.1) (hs : ls.set (j : Nat) (vI x) = ls') (k : WP M scr mc ms Q (pc + 1) ls' st sh mem) : WP M scr mc ms Q pc ls (vI x :: st) sh mem := by
  subst hs
  exact WP.step (fun hC _ _ hL hst kk => lv_istore_n hC.1 hC.2.1 hd rfl hL.has hi rfl (fun ls' hl' => kk _ (hL.set (v := vI x) (ok1 hst) (fun _ q => q) hl') (okt hst))) k
theorem q_istore (hd : decode M.2.1 pc = .ok (.istore i, 2)) (hi : i < M.2.2.1) (hs : ls.set i (vI x) = ls') (k : WP M scr mc ms Q (pc + 2) ls' st sh mem) : WP M scr mc ms Q pc ls (vI x :: st) sh mem := by
  subst hs
  exact WP.step (fun hC _ _ hL hst kk => lv_istore hC.1 hC.2.1 hd hL.has hi rfl (fun ls' hl' => kk _ (hL.set (v := vI x) (ok1 hst) (fun _ q => q) hl') (okt hst))) k
theorem q_astore_n {j : Fin 4} (hd : decode M.2.1 pc = .ok (.astore_n j, 1)) (hi : (j : Nat) < M.2.2.1) (hs : ls.set (j : Nat) (vR h) = ls') (k : WP M scr mc ms Q (pc + 1) ls' st sh mem) : WP M scr mc ms Q pc ls (vR h :: st) sh mem := by
  subst hs
  exact WP.step (fun hC _ _ hL hst kk => lv_astore_n hC.1 hC.2.1 hd rfl hL.has hi rfl (fun ls' hl' => kk _ (hL.set (v := vR h) (ok1 hst) (fun _ q => q) hl') (okt hst))) k
theorem q_astore (hd : decode M.2.1 pc = .ok (.astore i, 2)) (hi : i < M.2.2.1) (hs : ls.set i (vR h) = ls') (k : WP M scr mc ms Q (pc + 2) ls' st sh mem) : WP M scr mc ms Q pc ls (vR h :: st) sh mem := by
  subst hs
  exact WP.step (fun hC _ _ hL hst kk => lv_astore hC.1 hC.2.1 hd hL.has hi rfl (fun ls' hl' => kk _ (hL.set (v := vR h) (ok1 hst) (fun _ q => q) hl') (okt hst))) k
theorem q_iinc {n : Int} (hd : decode M.2.1 pc = .ok (.iinc i n, 3)) (hl : ls[i]? = some (vI x)) (hr : inR (x + n)) (hs : ls.set i (vI (x + n)) = ls') (k : WP M scr mc ms Q (pc + 3) ls' st sh mem) : WP M scr mc ms Q pc ls st sh mem := by
  subst hs
  refine WP.step (fun hC _ _ hL hst kk => ?_) k
  have h1 : lv_has _ _ ((i, Value.int (Int32.ofInt x)) :: lvl _ ls) := ⟨hL.1, hL.2.1, fun q hq => by
    rcases List.mem_cons.mp hq with h2 | h2
    · rw [h2]; exact hL.get hl rfl
    · exact hL.has.2.2 q h2⟩
  refine lv_iinc hC.1 hC.2.1 hd h1 (k := 0) rfl (v := Int32.ofInt (x + n)) (Int32.ofInt_add x n).symm (hL.lt hl) rfl (fun ls' hl' => kk _ (hL.set (v := vI (x + n)) hr (fun q hq => ?_) hl') hst)
  rcases List.mem_cons.mp hq with h2 | h2
  · rw [h2]; exact List.mem_cons_self
  · obtain ⟨h3, h4⟩ := List.mem_filter.mp h2
    exact List.mem_cons_of_mem _ (List.mem_filter.mpr ⟨List.mem_cons_of_mem _ h3, h4⟩)
theorem q_iadd (hd : decode M.2.1 pc = .ok (.iadd, 1)) (hr : inR (a + b)) (k : WP M scr mc ms Q (pc + 1) ls (vI (a + b) :: st) sh mem) : WP M scr mc ms Q pc ls (vI b :: vI a :: st) sh mem :=
  WP.step (fun hC _ _ hL hst kk => lv_iadd hC.1 hC.2.1 hd (by rw [← Int32.ofInt_add]; exact kk _ hL (okcI hr (okt (okt hst))))) k
theorem q_isub (hd : decode M.2.1 pc = .ok (.isub, 1)) (hr : inR (a - b)) (k : WP M scr mc ms Q (pc + 1) ls (vI (a - b) :: st) sh mem) : WP M scr mc ms Q pc ls (vI b :: vI a :: st) sh mem :=
  WP.step (fun hC _ _ hL hst kk => lv_isub hC.1 hC.2.1 hd (by rw [← Int32.ofInt_sub]; exact kk _ hL (okcI hr (okt (okt hst))))) k
theorem q_imul (hd : decode M.2.1 pc = .ok (.imul, 1)) (hr : inR (a * b)) (k : WP M scr mc ms Q (pc + 1) ls (vI (a * b) :: st) sh mem) : WP M scr mc ms Q pc ls (vI b :: vI a :: st) sh mem :=
  WP.step (fun hC _ _ hL hst kk => lv_imul hC.1 hC.2.1 hd (by rw [← Int32.ofInt_mul]; exact kk _ hL (okcI hr (okt (okt hst))))) k
theorem q_idiv (hd : decode M.2.1 pc = .ok (.idiv, 1)) (h0 : 0 ≤ a) (h1 : 0 < b) (k : WP M scr mc ms Q (pc + 1) ls (vI (a / b) :: st) sh mem) : WP M scr mc ms Q pc ls (vI b :: vI a :: st) sh mem :=
  WP.step (fun hC _ _ hL hst kk => by
    have hb : inR b := ok1 hst
    have ha : inR a := ok1 (okt hst)
    have h2 : a / b ≤ a := Int.ediv_le_self b h0
    have h3 : 0 ≤ a / b := Int.ediv_nonneg h0 (by omega)
    exact lv_idiv hC.1 hC.2.1 hd (i_ne0 hb (by omega)) (by rw [i_div ha hb h0 h1]; exact kk _ hL (okc (v := vI (a / b)) (show inR _ from ⟨by omega, by have := ha.2; omega⟩) (okt (okt hst))))) k
theorem q_irem (hd : decode M.2.1 pc = .ok (.irem, 1)) (h0 : 0 ≤ a) (h1 : 0 < b) (k : WP M scr mc ms Q (pc + 1) ls (vI (a % b) :: st) sh mem) : WP M scr mc ms Q pc ls (vI b :: vI a :: st) sh mem :=
  WP.step (fun hC _ _ hL hst kk => by
    have hb : inR b := ok1 hst
    have ha : inR a := ok1 (okt hst)
    have h2 : a % b < b := Int.emod_lt_of_pos a h1
    have h3 : 0 ≤ a % b := Int.emod_nonneg a (by omega)
    exact lv_irem hC.1 hC.2.1 hd (i_ne0 hb (by omega)) (by rw [i_rem ha hb h0 h1]; exact kk _ hL (okc (v := vI (a % b)) (show inR _ from ⟨by omega, by have := hb.2; omega⟩) (okt (okt hst))))) k
theorem q_ladd (hd : decode M.2.1 pc = .ok (.ladd, 1)) (hr : inL (a + b)) (k : WP M scr mc ms Q (pc + 1) ls (vJ (a + b) :: st) sh mem) : WP M scr mc ms Q pc ls (vJ b :: vJ a :: st) sh mem :=
  WP.step (fun hC _ _ hL hst kk => lv_ladd hC.1 hC.2.1 hd (by rw [← Int64.ofInt_add]; exact kk _ hL (okcJ hr (okt (okt hst))))) k
theorem q_pop {v : Vl} (hd : decode M.2.1 pc = .ok (.pop, 1)) (hv : isJ v = false) (k : WP M scr mc ms Q (pc + 1) ls st sh mem) : WP M scr mc ms Q pc ls (v :: st) sh mem :=
  WP.step (fun hC _ _ hL hst kk => lv_pop hC.1 hC.2.1 hd (cv_cat hv) (kk _ hL (okt hst))) k
theorem q_dup {v : Vl} (hd : decode M.2.1 pc = .ok (.dup, 1)) (hv : isJ v = false) (k : WP M scr mc ms Q (pc + 1) ls (v :: v :: st) sh mem) : WP M scr mc ms Q pc ls (v :: st) sh mem :=
  WP.step (fun hC _ _ hL hst kk => lv_dup hC.1 hC.2.1 hd (cv_cat hv) (kk _ hL (okc (ok1 hst) hst))) k
theorem q_dup2 {v w : Vl} (hd : decode M.2.1 pc = .ok (.dup2, 1)) (hv : isJ v = false) (hw : isJ w = false) (k : WP M scr mc ms Q (pc + 1) ls (v :: w :: v :: w :: st) sh mem) : WP M scr mc ms Q pc ls (v :: w :: st) sh mem :=
  WP.step (fun hC _ _ hL hst kk => lv_dup2_11 hC.1 hC.2.1 hd (cv_cat hv) (cv_cat hw) (kk _ hL (okc (ok1 hst) (okc (ok1 (okt hst)) hst)))) k
theorem q_goto (hd : decode M.2.1 pc = .ok (.goto off, 3)) (ht : (pc : Int) + off = (tgt : Int)) (k : WP M scr mc ms Q tgt ls st sh mem) : WP M scr mc ms Q pc ls st sh mem :=
  WP.step (fun hC _ _ hL hst kk => lv_goto hC.1 hC.2.1 hd ht (kk _ hL hst)) k
theorem WP.br {P : Prop} {pc1 pc2 : Nat} {st' : List Vl}
    (hh : ∀ {p : Program} {l : Launch} {e : Env} {R : Room} {s : State} {m : MethodId} {args : Array Value} {below : List Frame} {meth : Method} {c : Code} {D : va_G} {ad : Nat → Nat} {H : Heap} {locs : List Loc} {cells slots : Nat} {lsr : Array Slot} {Z : State → Prop},
      Cx M p R s m args meth c D → (∀ v ∈ st, okv sh.length v) →
      (P → W p l e R s m args below meth c H locs cells slots Z (F0 m pc1 lsr (st'.map (cv ad)))) → (¬ P → W p l e R s m args below meth c H locs cells slots Z (F0 m pc2 lsr (st'.map (cv ad)))) →
      W p l e R s m args below meth c H locs cells slots Z (F0 m pc lsr (st.map (cv ad))))
    (hs : ∀ v ∈ st', v ∈ st) (kt : P → WP M scr mc ms Q pc1 ls st' sh mem) (kf : ¬ P → WP M scr mc ms Q pc2 ls st' sh mem) : WP M scr mc ms Q pc ls st sh mem := by
  intro p l e R s m args below meth c D A ad H locs cells slots lsr Z hC hW hX hL hst h1 h2 hK
  exact hh hC hst (fun q => kt q hC hW hX hL (fun v hv => hst v (hs v hv)) h1 h2 hK) (fun q => kf q hC hW hX hL (fun v hv => hst v (hs v hv)) h1 h2 hK)
theorem sub2 {u v : Vl} : ∀ w ∈ st, w ∈ u :: v :: st := fun _ hw => List.mem_cons_of_mem _ (List.mem_cons_of_mem _ hw)
theorem sub1 {u : Vl} : ∀ w ∈ st, w ∈ u :: st := fun _ hw => List.mem_cons_of_mem _ hw
theorem q_icmp_eq (hd : decode M.2.1 pc = .ok (.if_icmp .eq off, 3)) (ht : (pc : Int) + off = (tgt : Int)) (kt : a = b → WP M scr mc ms Q tgt ls st sh mem) (kf : ¬ a = b → WP M scr mc ms Q (pc + 3) ls st sh mem) : WP M scr mc ms Q pc ls (vI b :: vI a :: st) sh mem :=
  WP.br (fun hC hst q1 q2 => lv_icmp_eq hC.1 hC.2.1 hd ht (fun q => q1 ((i_eq (okI (okt hst)) (okI hst)).mp q)) (fun q => q2 (fun z => q ((i_eq (okI (okt hst)) (okI hst)).mpr z)))) sub2 kt kf
theorem q_icmp_ne (hd : decode M.2.1 pc = .ok (.if_icmp .ne off, 3)) (ht : (pc : Int) + off = (tgt : Int)) (kt : ¬ a = b → WP M scr mc ms Q tgt ls st sh mem) (kf : a = b → WP M scr mc ms Q (pc + 3) ls st sh mem) : WP M scr mc ms Q pc ls (vI b :: vI a :: st) sh mem :=
  WP.br (P := ¬ a = b) (fun hC hst q1 q2 => lv_icmp_ne hC.1 hC.2.1 hd ht (fun q => q1 (fun z => q ((i_eq (okI (okt hst)) (okI hst)).mpr z))) (fun q => q2 (fun z => z ((i_eq (okI (okt hst)) (okI hst)).mp q)))) sub2 kt (fun q => kf (Classical.not_not.mp q))
theorem q_icmp_lt (hd : decode M.2.1 pc = .ok (.if_icmp .lt off, 3)) (ht : (pc : Int) + off = (tgt : Int)) (kt : a < b → WP M scr mc ms Q tgt ls st sh mem) (kf : b ≤ a → WP M scr mc ms Q (pc + 3) ls st sh mem) : WP M scr mc ms Q pc ls (vI b :: vI a :: st) sh mem :=
  WP.br (fun hC hst q1 q2 => lv_icmp_lt hC.1 hC.2.1 hd ht (fun q => q1 ((i_lt (okI (okt hst)) (okI hst)).mp q)) (fun q => q2 (fun z => q ((i_lt (okI (okt hst)) (okI hst)).mpr z)))) sub2 kt (fun q => kf (Int.not_lt.mp q))
theorem q_icmp_ge (hd : decode M.2.1 pc = .ok (.if_icmp .ge off, 3)) (ht : (pc : Int) + off = (tgt : Int)) (kt : b ≤ a → WP M scr mc ms Q tgt ls st sh mem) (kf : a < b → WP M scr mc ms Q (pc + 3) ls st sh mem) : WP M scr mc ms Q pc ls (vI b :: vI a :: st) sh mem :=
  WP.br (fun hC hst q1 q2 => lv_icmp_ge hC.1 hC.2.1 hd ht (fun q => q1 ((i_le (okI hst) (okI (okt hst))).mp q)) (fun q => q2 (fun z => q ((i_le (okI hst) (okI (okt hst))).mpr z)))) sub2 kt (fun q => kf (Int.not_le.mp q))
theorem q_icmp_gt (hd : decode M.2.1 pc = .ok (.if_icmp .gt off, 3)) (ht : (pc : Int) + off = (tgt : Int)) (kt : b < a → WP M scr mc ms Q tgt ls st sh mem) (kf : a ≤ b → WP M scr mc ms Q (pc + 3) ls st sh mem) : WP M scr mc ms Q pc ls (vI b :: vI a :: st) sh mem :=
  WP.br (fun hC hst q1 q2 => lv_icmp_gt hC.1 hC.2.1 hd ht (fun q => q1 ((i_lt (okI hst) (okI (okt hst))).mp q)) (fun q => q2 (fun z => q ((i_lt (okI hst) (okI (okt hst))).mpr z)))) sub2 kt (fun q => kf (Int.not_lt.mp q))
theorem q_icmp_le (hd : decode M.2.1 pc = .ok (.if_icmp .le off, 3)) (ht : (pc : Int) + off = (tgt : Int)) (kt : a ≤ b → WP M scr mc ms Q tgt ls st sh mem) (kf : b < a → WP M scr mc ms Q (pc + 3) ls st sh mem) : WP M scr mc ms Q pc ls (vI b :: vI a :: st) sh mem :=
  WP.br (fun hC hst q1 q2 => lv_icmp_le hC.1 hC.2.1 hd ht (fun q => q1 ((i_le (okI (okt hst)) (okI hst)).mp q)) (fun q => q2 (fun z => q ((i_le (okI (okt hst)) (okI hst)).mpr z)))) sub2 kt (fun q => kf (Int.not_le.mp q))
theorem q_if_eq (hd : decode M.2.1 pc = .ok (.ifCond .eq off, 3)) (ht : (pc : Int) + off = (tgt : Int)) (kt : a = 0 → WP M scr mc ms Q tgt ls st sh mem) (kf : ¬ a = 0 → WP M scr mc ms Q (pc + 3) ls st sh mem) : WP M scr mc ms Q pc ls (vI a :: st) sh mem :=
  WP.br (fun hC hst q1 q2 => lv_if_eq hC.1 hC.2.1 hd ht (fun q => q1 ((i_eq (okI hst) inR0).mp q)) (fun q => q2 (fun z => q ((i_eq (okI hst) inR0).mpr z)))) sub1 kt kf
theorem q_if_ne (hd : decode M.2.1 pc = .ok (.ifCond .ne off, 3)) (ht : (pc : Int) + off = (tgt : Int)) (kt : ¬ a = 0 → WP M scr mc ms Q tgt ls st sh mem) (kf : a = 0 → WP M scr mc ms Q (pc + 3) ls st sh mem) : WP M scr mc ms Q pc ls (vI a :: st) sh mem :=
  WP.br (P := ¬ a = 0) (fun hC hst q1 q2 => lv_if_ne hC.1 hC.2.1 hd ht (fun q => q1 (fun z => q ((i_eq (okI hst) inR0).mpr z))) (fun q => q2 (fun z => z ((i_eq (okI hst) inR0).mp q)))) sub1 kt (fun q => kf (Classical.not_not.mp q))
theorem q_if_lt (hd : decode M.2.1 pc = .ok (.ifCond .lt off, 3)) (ht : (pc : Int) + off = (tgt : Int)) (kt : a < 0 → WP M scr mc ms Q tgt ls st sh mem) (kf : 0 ≤ a → WP M scr mc ms Q (pc + 3) ls st sh mem) : WP M scr mc ms Q pc ls (vI a :: st) sh mem :=
  WP.br (fun hC hst q1 q2 => lv_if_lt hC.1 hC.2.1 hd ht (fun q => q1 ((i_lt (okI hst) inR0).mp q)) (fun q => q2 (fun z => q ((i_lt (okI hst) inR0).mpr z)))) sub1 kt (fun q => kf (Int.not_lt.mp q))
theorem q_if_ge (hd : decode M.2.1 pc = .ok (.ifCond .ge off, 3)) (ht : (pc : Int) + off = (tgt : Int)) (kt : 0 ≤ a → WP M scr mc ms Q tgt ls st sh mem) (kf : a < 0 → WP M scr mc ms Q (pc + 3) ls st sh mem) : WP M scr mc ms Q pc ls (vI a :: st) sh mem :=
  WP.br (fun hC hst q1 q2 => lv_if_ge hC.1 hC.2.1 hd ht (fun q => q1 ((i_le inR0 (okI hst)).mp q)) (fun q => q2 (fun z => q ((i_le inR0 (okI hst)).mpr z)))) sub1 kt (fun q => kf (Int.not_le.mp q))
theorem q_if_gt (hd : decode M.2.1 pc = .ok (.ifCond .gt off, 3)) (ht : (pc : Int) + off = (tgt : Int)) (kt : 0 < a → WP M scr mc ms Q tgt ls st sh mem) (kf : a ≤ 0 → WP M scr mc ms Q (pc + 3) ls st sh mem) : WP M scr mc ms Q pc ls (vI a :: st) sh mem :=
  WP.br (fun hC hst q1 q2 => lv_if_gt hC.1 hC.2.1 hd ht (fun q => q1 ((i_lt inR0 (okI hst)).mp q)) (fun q => q2 (fun z => q ((i_lt inR0 (okI hst)).mpr z)))) sub1 kt (fun q => kf (Int.not_lt.mp q))
theorem q_if_le (hd : decode M.2.1 pc = .ok (.ifCond .le off, 3)) (ht : (pc : Int) + off = (tgt : Int)) (kt : a ≤ 0 → WP M scr mc ms Q tgt ls st sh mem) (kf : 0 < a → WP M scr mc ms Q (pc + 3) ls st sh mem) : WP M scr mc ms Q pc ls (vI a :: st) sh mem :=
  WP.br (fun hC hst q1 q2 => lv_if_le hC.1 hC.2.1 hd ht (fun q => q1 ((i_le (okI hst) inR0).mp q)) (fun q => q2 (fun z => q ((i_le (okI hst) inR0).mpr z)))) sub1 kt (fun q => kf (Int.not_le.mp q))
theorem q_lcmp (hd : decode M.2.1 pc = .ok (.lcmp, 1)) (k : WP M scr mc ms Q (pc + 1) ls (vI (if b < a then 1 else if a = b then 0 else -1) :: st) sh mem) : WP M scr mc ms Q pc ls (vJ b :: vJ a :: st) sh mem :=
  WP.step (fun hC _ _ hL hst kk => W.lcmp hC.1 hC.2.1 hd (by
    have h1 : lg_cmp (Int64.ofInt a) (Int64.ofInt b) = Int32.ofInt (if b < a then 1 else if a = b then 0 else -1) := by
      have e1 : (Int64.ofInt a > Int64.ofInt b) ↔ b < a := by
        show Int64.ofInt b < Int64.ofInt a ↔ _
        rw [Int64.lt_iff_toInt_lt, tJ (okJ hst), tJ (okJ (okt hst))]
      have e2 : (Int64.ofInt a = Int64.ofInt b) ↔ a = b := by rw [← Int64.toInt_inj, tJ (okJ hst), tJ (okJ (okt hst))]
      unfold lg_cmp
      by_cases c1 : b < a
      · rw [if_pos (e1.mpr c1), if_pos c1]; rfl
      · rw [if_neg (fun z => c1 (e1.mp z)), if_neg c1]
        by_cases c2 : a = b
        · rw [if_pos (e2.mpr c2), if_pos c2]; rfl
        · rw [if_neg (fun z => c2 (e2.mp z)), if_neg c2]; rfl
    rw [h1]
    exact kk _ hL (okcI (by split <;> (try split) <;> omega) (okt (okt hst))))) k
theorem q_and1 (hd : decode M.2.1 pc = .ok (.iand, 1)) (h0 : 0 ≤ a) (k : WP M scr mc ms Q (pc + 1) ls (vI (a % 2) :: st) sh mem) : WP M scr mc ms Q pc ls (vI 1 :: vI a :: st) sh mem :=
  WP.step (fun hC _ _ hL hst kk => lv_iand hC.1 hC.2.1 hd (by rw [i_and1 (okI (okt hst)) h0]; exact kk _ hL (okcI (by omega) (okt (okt hst))))) k
theorem q_and31 (hd : decode M.2.1 pc = .ok (.iand, 1)) (k : WP M scr mc ms Q (pc + 1) ls (vI (a % 32) :: st) sh mem) : WP M scr mc ms Q pc ls (vI 31 :: vI a :: st) sh mem :=
  WP.step (fun hC _ _ hL hst kk => lv_iand hC.1 hC.2.1 hd (by rw [i_and31]; exact kk _ hL (okcI (by omega) (okt (okt hst))))) k
theorem q_ior (hd : decode M.2.1 pc = .ok (.ior, 1)) (h0 : 0 ≤ a) (h1 : 0 ≤ b) (k : WP M scr mc ms Q (pc + 1) ls (vI ((a.toNat ||| b.toNat : Nat) : Int) :: st) sh mem) : WP M scr mc ms Q pc ls (vI b :: vI a :: st) sh mem :=
  WP.step (fun hC _ _ hL hst kk => lv_ior hC.1 hC.2.1 hd (by
    have hb := okI hst
    have ha := okI (okt hst)
    rw [i_or h0 h1]
    have h2 : (a.toNat ||| b.toNat) < 2 ^ 31 := Nat.or_lt_two_pow (by omega) (by omega)
    exact kk _ hL (okcI (by omega) (okt (okt hst))))) k
theorem q_shl1 (hd : decode M.2.1 pc = .ok (.ishl, 1)) (h0 : 0 ≤ b) (h1 : b < 31) (k : WP M scr mc ms Q (pc + 1) ls (vI ((2 ^ b.toNat : Nat) : Int) :: st) sh mem) : WP M scr mc ms Q pc ls (vI b :: vI 1 :: st) sh mem :=
  WP.step (fun hC _ _ hL hst kk => lv_ishl hC.1 hC.2.1 hd (by
    rw [i_shl1 h0 h1]
    have h2 : (2 : Nat) ^ b.toNat ≤ 2 ^ 30 := Nat.pow_le_pow_right (by omega) (by omega)
    have hr : inR ((2 ^ b.toNat : Nat) : Int) := by
      generalize 2 ^ b.toNat = N at h2 ⊢
      omega
    exact kk _ hL (okcI hr (okt (okt hst))))) k
theorem q_shr (hd : decode M.2.1 pc = .ok (.ishr, 1)) (ha : 0 ≤ a) (h0 : 0 ≤ b) (h1 : b < 31) (k : WP M scr mc ms Q (pc + 1) ls (vI (a / ((2 ^ b.toNat : Nat) : Int)) :: st) sh mem) : WP M scr mc ms Q pc ls (vI b :: vI a :: st) sh mem :=
  WP.step (fun hC _ _ hL hst kk => lv_ishr hC.1 hC.2.1 hd (by
    have hz := okI (okt hst)
    rw [i_shr hz ha h0 h1]
    have h3 : a / ((2 ^ b.toNat : Nat) : Int) ≤ a := Int.ediv_le_self _ ha
    have h4 : 0 ≤ a / ((2 ^ b.toNat : Nat) : Int) := Int.ediv_nonneg ha (Int.natCast_nonneg _)
    exact kk _ hL (okcI (by omega) (okt (okt hst))))) k
end RU
