/-! RULES of the heap: fields, arrays, new cells -/
def LF (own : String) (idx ci k : Nat) : Prop := ci < 11 ∧ k < nA ci ∧ (Cond.fieldLink own idx (TA ci k).1 (TA ci k).2.1 (TA ci k).2.2.1 ∈ gdW ∨ ∃ host, Cond.fieldLinkNest own idx (TA ci k).1 (TA ci k).2.1 (TA ci k).2.2.1 host ∈ lw_tbl)
def mset (mem : Mem) (h k : Nat) (z : Int) : Mem := fun h' k' => if h' = h ∧ k' = k then z else mem h' k'
theorem mset_ne {mem : Mem} {h k : Nat} {z : Int} (j : Nat) (hj : j ≠ h) : mset mem h k z j = mem j := by
  funext i
  simp [mset, hj]
theorem mset_eq {mem : Mem} {h k : Nat} {z : Int} : mset mem h k z h k = z := by simp [mset]
theorem mset_at {mem : Mem} {h k : Nat} {z : Int} (h' k' : Nat) : mset mem h k z h' k' = if h' = h ∧ k' = k then z else mem h' k' := rfl
theorem wd_obj {ad : Nat → Nat} {ca : Nat → ClassId} {sh : Sh} {mem : Mem} {h ci n : Nat} {rs : List Nat} (hs : sh[h]? = some (ci, n, rs)) (hc : ci < 11) : (wd ad ca sh mem)[h]? = some (ad h, .inr (ci, (List.range (nA ci)).map (fun j => fv ad (tyA ci j) (rs.getD j 0) (mem h j)))) := by
  rw [wd_get, hs]
  simp [wc, hc]
theorem wd_arr {ad : Nat → Nat} {ca : Nat → ClassId} {sh : Sh} {mem : Mem} {h ci n : Nat} {rs : List Nat} (hs : sh[h]? = some (ci, n, rs)) (hc : ¬ ci < 11) : (wd ad ca sh mem)[h]? = some (ad h, .inl (ca h, n, .inl (fun j => Int32.ofInt (mem h j)))) := by
  rw [wd_get, hs]
  simp [wc, hc]
theorem okm_set {sh : Sh} {mem : Mem} {h k : Nat} {z : Int} (hm : okm sh mem) {q : Nat × Nat × List Nat} (hs : sh[h]? = some q) (hz : okz (sty q k) z) : okm sh (mset mem h k z) := by
  intro h' q' hq j
  by_cases e : h' = h ∧ j = k
  · obtain ⟨rfl, rfl⟩ := e
    rw [hs] at hq
    cases hq
    rw [mset_eq]
    exact hz
  · show okz _ (if _ then _ else _)
    rw [if_neg e]
    exact hm h' q' hq j
theorem it_fits {ty : FieldType} (h : isIt ty = true) (z : Int) : fits ty (.int (Int32.ofInt z)) = true ∨ ty = .boolean := by
  cases ty <;> first | exact Or.inr rfl | exact Or.inl rfl | cases h
/-- a whole number may stand in a slot of this type -/
def fit (ty : FieldType) (z : Int) : Prop := ty = .boolean → z = 0 ∨ z = 1
theorem fit_narrow {ty : FieldType} (h : isIt ty = true) {z : Int} (hf : fit ty z) : narrow ty (.int (Int32.ofInt z)) = .int (Int32.ofInt z) := by
  by_cases hb : ty = .boolean
  · subst hb
    rcases hf rfl with rfl | rfl <;> rfl
  · cases ty <;> first | rfl | exact absurd rfl hb | cases h
theorem fit_fits {ty : FieldType} (h : isIt ty = true) {z : Int} (hf : fit ty z) : fits ty (.int (Int32.ofInt z)) = true := by
  by_cases hb : ty = .boolean
  · subst hb
    rcases hf rfl with rfl | rfl <;> rfl
  · cases ty <;> first | rfl | exact absurd rfl hb | cases h
theorem fit_int {z : Int} : fit .int z := fun h => by cases h
section HE
variable {M : MD} {scr : Option (Nat × (Nat → Int32))} {mc ms : Nat} {Q : Po} {pc : Nat} {ls st : List Vl} {sh : Sh} {mem : Mem} {a b z : Int} {i h idx ci k n : Nat} {rs : List Nat}
theorem q_get (hd : decode M.2.1 pc = .ok (.getfield idx, 3)) (hl : LF M.1.cls idx ci k) (hs : sh[h]? = some (ci, n, rs)) {v : Vl} (hv : ∀ ad : Nat → Nat, fv ad (tyA ci k) (rs.getD k 0) (mem h k) = cv ad v) (hok : okS sh → okz (tyA ci k) (mem h k) → okv sh.length v) (kk : WP M scr mc ms Q (pc + 3) ls (v :: st) sh mem) : WP M scr mc ms Q pc ls (vR h :: st) sh mem := by
  intro p l e R s m args below meth c D A ad H locs cells slots lsr Z hC hW hX hL hst h1 h2 hK
  obtain ⟨hc, hk, hlk⟩ := hl
  obtain ⟨ca, tys, w1, w2, w3, w4, w5, w6, w7, w8⟩ := id hW
  have hfs : ((List.range (nA ci)).map (fun j => fv ad (tyA ci j) (rs.getD j 0) (mem h j)))[k]? = some (cv ad v) := by
    rw [List.getElem?_map, List.getElem?_range hk, Option.map_some, hv]
  have hz : okz (tyA ci k) (mem h k) := by
    have h3 := w8 h _ hs k
    rwa [show sty (ci, n, rs) k = tyA ci k from if_pos hc] at h3
  have kk' := kk hC hW hX hL (okc (hok w7 hz) (okt hst)) h1 h2 hK
  rcases hlk with hlk | ⟨host, hlk⟩
  · exact va_get (D := D) (ci := ci) hC.1 hC.2.1 hC.2.2.2.2.2.2.1 (inA hc) hC.2.2.2.2.2.1 w1 w3 h (wd_obj hs hc) (clA hc) k hk (hC.2.2.2.2.2.2.1 _ hlk) (fun _ h9 => h9) hfs hd kk'
  · exact va_getN (D := D) (ci := ci) hC.1 hC.2.1 hC.2.2.2.2.2.2.1 (inA hc) hC.2.2.2.2.2.1 w1 w3 h (wd_obj hs hc) (clA hc) k hk (va_Nw.use rfl (hC.2.2.2.2.2.2.2.1 _ hlk rfl)) (fun _ h9 => h9) hfs hd kk'
theorem q_geti (hd : decode M.2.1 pc = .ok (.getfield idx, 3)) (hl : LF M.1.cls idx ci k) (hs : sh[h]? = some (ci, n, rs)) (ht : isIt (tyA ci k) = true) (kk : WP M scr mc ms Q (pc + 3) ls (vI (mem h k) :: st) sh mem) : WP M scr mc ms Q pc ls (vR h :: st) sh mem :=
  q_get hd hl hs (v := vI (mem h k)) (fun ad => by simp [fv, ht, cv]) (fun _ hz => by rw [okz, if_pos ht] at hz; exact hz) kk
theorem q_getl (hd : decode M.2.1 pc = .ok (.getfield idx, 3)) (hl : LF M.1.cls idx ci k) (hs : sh[h]? = some (ci, n, rs)) (ht : tyA ci k = .long) (kk : WP M scr mc ms Q (pc + 3) ls (vJ (mem h k) :: st) sh mem) : WP M scr mc ms Q pc ls (vR h :: st) sh mem :=
  q_get hd hl hs (v := vJ (mem h k)) (fun ad => by rw [ht]; rfl) (fun _ hz => by rw [ht] at hz; exact hz) kk
theorem q_getr (hd : decode M.2.1 pc = .ok (.getfield idx, 3)) (hl : LF M.1.cls idx ci k) (hs : sh[h]? = some (ci, n, rs)) (ht : isRt (tyA ci k) = true) {r : Nat} (hr : rs[k]? = some (r + 1)) (kk : WP M scr mc ms Q (pc + 3) ls (vR r :: st) sh mem) : WP M scr mc ms Q pc ls (vR h :: st) sh mem :=
  q_get hd hl hs (v := vR r) (fun ad => by
    have h1 : isIt (tyA ci k) = false := by cases hq : tyA ci k <;> first | rfl | (rw [hq] at ht; cases ht)
    simp [fv, h1, ht, List.getD_eq_getElem?_getD, hr, cv]) (fun hS _ => Or.inl (by
      have := hS h _ hs (r + 1) (List.mem_of_getElem? hr)
      omega)) kk
/-- a field is written -/
theorem q_put (hd : decode M.2.1 pc = .ok (.putfield idx, 3)) (hl : LF M.1.cls idx ci k) (hs : sh[h]? = some (ci, n, rs)) {v : Vl} {sh' : Sh} {rs' : List Nat} {mem' : Mem} (hs' : sh'[h]? = some (ci, n, rs')) (hse : ∀ j, j ≠ h → sh'[j]? = sh[j]?) (hsl : sh'.length = sh.length) (hme : ∀ j, j ≠ h → mem' j = mem j)
    (hfs : ∀ ad : Nat → Nat, ((List.range (nA ci)).map (fun j => fv ad (tyA ci j) (rs.getD j 0) (mem h j))).set k (cv ad v) = (List.range (nA ci)).map (fun j => fv ad (tyA ci j) (rs'.getD j 0) (mem' h j)))
    (hn : ∀ ad : Nat → Nat, narrow (tyA ci k) (cv ad v) = cv ad v) (hf : ∀ ad : Nat → Nat, fits (tyA ci k) (cv ad v) = true) (hfin : (TA ci k).2.2.2 = false ∨ ((TA ci k).2.2.2 = true ∧ M.1.name = "<init>" ∧ (TA ci k).1 = M.1.cls ∧ Cond.fieldLink M.1.cls idx (TA ci k).1 (TA ci k).2.1 (TA ci k).2.2.1 ∈ gdW))
    (hok : okv sh.length v → okS sh → okS sh') (hom : okv sh.length v → okm sh mem → okm sh' mem') (kk : WP M scr mc ms Q (pc + 3) ls st sh' mem') : WP M scr mc ms Q pc ls (v :: vR h :: st) sh mem := by
  intro p l e R s m args below meth c D A ad H locs cells slots lsr Z hC hW hX hL hst h1 h2 hK
  obtain ⟨hc, hk, hlk⟩ := hl
  obtain ⟨ca, tys, w1, w2, w3, w4, w5, w6, w7, w8⟩ := id hW
  have hkl : k < ((List.range (nA ci)).map (fun j => fv ad (tyA ci j) (rs.getD j 0) (mem h j))).length := by simpa using hk
  have hwd : (wd ad ca sh mem).set h (ad h, .inr (ci, ((List.range (nA ci)).map (fun j => fv ad (tyA ci j) (rs.getD j 0) (mem h j))).set k (cv ad v))) = wd ad ca sh' mem' := by
    rw [hfs]
    have h3 := wd_set (ad := ad) (ca := ca) (mem := mem) (mem' := mem') hs' hse hsl hme
    simp only [wc, hc, if_true] at h3
    exact h3
  have kk' : ∀ (H1 : Heap) (locs1 : List Loc), va_P D vwCl ((wd ad ca sh mem).set h (ad h, .inr (ci, ((List.range (nA ci)).map (fun j => fv ad (tyA ci j) (rs.getD j 0) (mem h j))).set k (cv ad v)))) H1 → va_D A ((wd ad ca sh mem).set h (ad h, .inr (ci, ((List.range (nA ci)).map (fun j => fv ad (tyA ci j) (rs.getD j 0) (mem h j))).set k (cv ad v)))) → va_S A s.heap H1 locs1 → W p l e R s m args below meth c H1 locs1 cells slots Z (F0 m (pc + 3) lsr (st.map (cv ad))) := by
    intro H1 locs1 x1 x2 x3
    rw [hwd] at x1 x2
    refine kk hC ⟨ca, tys, w1, fun j q hj hq => ?_, x1, x2, x3, w6, hok (ok1 hst) w7, hom (ok1 hst) w8⟩ hX (by rw [hsl]; exact hL) (by rw [hsl]; exact okt (okt hst)) h1 h2 (by rw [hsl]; exact hK)
    by_cases hjh : j = h
    · subst hjh
      rw [hs'] at hj
      cases hj
      omega
    · exact w2 j q (by rw [← hse j hjh]; exact hj) hq
  rcases hfin with hfin | ⟨hfin, hin, hdecl, hlk⟩
  · rcases hlk with hlk | ⟨host, hlk⟩
    · exact va_put (D := D) (ci := ci) hC.1 hC.2.1 hC.2.2.2.2.2.2.1 (inA hc) (tyA ci) (tyA_ok hc) (nmA hc) hC.2.2.2.2.2.1 w1 w3 w4 w5 h (wd_obj hs hc) (clA hc) k hk (hC.2.2.2.2.2.2.1 _ hlk) (fun _ h9 => h9) hfin (tyA_ok hc k hk) (hn ad) (hf ad) hkl hd kk'
    · exact va_putN (D := D) (ci := ci) hC.1 hC.2.1 hC.2.2.2.2.2.2.1 (inA hc) (tyA ci) (tyA_ok hc) (nmA hc) hC.2.2.2.2.2.1 w1 w3 w4 w5 h (wd_obj hs hc) (clA hc) k hk (va_Nw.use rfl (hC.2.2.2.2.2.2.2.1 _ hlk rfl)) (fun _ h9 => h9) hfin (tyA_ok hc k hk) (hn ad) (hf ad) hkl hd kk'
  · exact va_putF (D := D) (ci := ci) hC.1 hC.2.1 hC.2.2.2.2.2.2.1 (inA hc) (tyA ci) (tyA_ok hc) (nmA hc) hC.2.2.2.2.2.1 w1 w3 w4 w5 h (wd_obj hs hc) (clA hc) k hk (hC.2.2.2.2.2.2.1 _ hlk) (fun _ h9 => h9) hfin (hC.2.2.2.2.2.2.2.2.1 hin) hdecl (tyA_ok hc k hk) (hn ad) (hf ad) hkl hd kk'
theorem fs_mset {ad : Nat → Nat} {v : Value} (hk : k < nA ci) (hv : fv ad (tyA ci k) (rs.getD k 0) z = v) : ((List.range (nA ci)).map (fun j => fv ad (tyA ci j) (rs.getD j 0) (mem h j))).set k v = (List.range (nA ci)).map (fun j => fv ad (tyA ci j) (rs.getD j 0) (mset mem h k z h j)) := by
  apply List.ext_getElem?
  intro j
  by_cases hj : j = k
  · subst hj
    rw [List.getElem?_set_self (by simpa using hk), List.getElem?_map, List.getElem?_range hk, Option.map_some, mset_eq, hv]
  · rw [List.getElem?_set_ne (Ne.symm hj), List.getElem?_map, List.getElem?_map]
    by_cases hjn : j < nA ci
    · rw [List.getElem?_range hjn, Option.map_some, Option.map_some, mset_at, if_neg (fun q => hj q.2)]
    · rw [List.getElem?_eq_none (by simpa using hjn)]
      rfl
theorem q_puti (hd : decode M.2.1 pc = .ok (.putfield idx, 3)) (hl : LF M.1.cls idx ci k) (hs : sh[h]? = some (ci, n, rs)) (ht : isIt (tyA ci k) = true) (hfin : (TA ci k).2.2.2 = false ∨ ((TA ci k).2.2.2 = true ∧ M.1.name = "<init>" ∧ (TA ci k).1 = M.1.cls ∧ Cond.fieldLink M.1.cls idx (TA ci k).1 (TA ci k).2.1 (TA ci k).2.2.1 ∈ gdW)) (hf : fit (tyA ci k) z)
    (kk : WP M scr mc ms Q (pc + 3) ls st sh (mset mem h k z)) : WP M scr mc ms Q pc ls (vI z :: vR h :: st) sh mem :=
  q_put hd hl hs (v := vI z) hs (fun _ _ => rfl) rfl (fun j hj => mset_ne j hj) (fun ad => fs_mset hl.2.1 (by simp [fv, ht, cv])) (fun _ => fit_narrow ht hf) (fun _ => fit_fits ht hf) hfin (fun _ q => q)
    (fun hz q => okm_set q hs (by rw [show sty (ci, n, rs) k = tyA ci k from if_pos hl.1, okz, if_pos ht]; exact hz)) kk
theorem q_putl (hd : decode M.2.1 pc = .ok (.putfield idx, 3)) (hl : LF M.1.cls idx ci k) (hs : sh[h]? = some (ci, n, rs)) (ht : tyA ci k = .long) (hfin : (TA ci k).2.2.2 = false)
    (kk : WP M scr mc ms Q (pc + 3) ls st sh (mset mem h k z)) : WP M scr mc ms Q pc ls (vJ z :: vR h :: st) sh mem :=
  q_put hd hl hs (v := vJ z) hs (fun _ _ => rfl) rfl (fun j hj => mset_ne j hj) (fun ad => fs_mset hl.2.1 (by rw [ht]; rfl)) (fun _ => by rw [ht]; rfl) (fun _ => by rw [ht]; rfl) (Or.inl hfin) (fun _ q => q)
    (fun hz q => okm_set q hs (by rw [show sty (ci, n, rs) k = tyA ci k from if_pos hl.1, ht]; exact hz)) kk
theorem rt_narrow {ty : FieldType} (h : isRt ty = true) (r : Nat) : narrow ty (.ref r) = .ref r := by
  cases ty <;> first | rfl | cases h
theorem rt_fits {ty : FieldType} (h : isRt ty = true) (r : Nat) : fits ty (.ref r) = true := by
  cases ty <;> first | rfl | cases h
theorem rt_it {ty : FieldType} (h : isRt ty = true) : isIt ty = false := by
  cases ty <;> first | rfl | cases h
theorem q_putr (hd : decode M.2.1 pc = .ok (.putfield idx, 3)) (hl : LF M.1.cls idx ci k) (hs : sh[h]? = some (ci, n, rs)) (ht : isRt (tyA ci k) = true) {r : Nat} (hr : r < sh.length) (hkr : k < rs.length) (hfin : (TA ci k).2.2.2 = false ∨ ((TA ci k).2.2.2 = true ∧ M.1.name = "<init>" ∧ (TA ci k).1 = M.1.cls ∧ Cond.fieldLink M.1.cls idx (TA ci k).1 (TA ci k).2.1 (TA ci k).2.2.1 ∈ gdW))
    {sh' : Sh} (he : sh.set h (ci, n, rs.set k (r + 1)) = sh') (kk : WP M scr mc ms Q (pc + 3) ls st sh' mem) : WP M scr mc ms Q pc ls (vR r :: vR h :: st) sh mem := by
  have hh : h < sh.length := (List.getElem?_eq_some_iff.mp hs).1
  subst he
  refine q_put hd hl hs (v := vR r) (rs' := rs.set k (r + 1)) (mem' := mem) (List.getElem?_set_self hh) (fun j hj => List.getElem?_set_ne (Ne.symm hj)) List.length_set (fun _ _ => rfl) (fun ad => ?_) (fun ad => rt_narrow ht _) (fun ad => rt_fits ht _) hfin (fun _ q => ?_) (fun _ q => ?_) kk
  · apply List.ext_getElem?
    intro j
    by_cases hj : j = k
    · subst hj
      rw [List.getElem?_set_self (by simpa using hl.2.1), List.getElem?_map, List.getElem?_range hl.2.1, Option.map_some]
      simp [fv, rt_it ht, ht, List.getD_eq_getElem?_getD, List.getElem?_set_self hkr, cv]
    · rw [List.getElem?_set_ne (Ne.symm hj), List.getElem?_map, List.getElem?_map]
      by_cases hjn : j < nA ci
      · rw [List.getElem?_range hjn, Option.map_some, Option.map_some, List.getD_eq_getElem?_getD, List.getD_eq_getElem?_getD, List.getElem?_set_ne (Ne.symm hj)]
      · rw [List.getElem?_eq_none (by simpa using hjn)]
        rfl
  · intro j q' hq x hx
    rw [List.length_set]
    by_cases hjh : j = h
    · subst hjh
      rw [List.getElem?_set_self hh] at hq
      cases hq
      rcases List.mem_or_eq_of_mem_set hx with h3 | h3
      · exact q j _ hs x h3
      · omega
    · rw [List.getElem?_set_ne (Ne.symm hjh)] at hq
      exact q j _ hq x hx
  · intro j q' hq i
    by_cases hjh : j = h
    · subst hjh
      rw [List.getElem?_set_self hh] at hq
      cases hq
      exact q j _ hs i
    · rw [List.getElem?_set_ne (Ne.symm hjh)] at hq
      exact q j _ hq i
theorem arr_ty {s : State} {ca : Nat → ClassId} {tys : List (ClassId × FieldType)} (w2 : ∀ (k : Nat) (q : Nat × Nat × List Nat), sh[k]? = some q → 11 ≤ q.1 → ∃ t : Nat, tys[t]? = some (ca k, aty q.1)) (hs : sh[h]? = some (ci, n, rs)) (hc : 11 ≤ ci) : ∃ t : Nat, tys[t]? = some (ca h, aty ci) := w2 h _ hs hc
theorem q_iald (hd : decode M.2.1 pc = .ok (.iaload, 1)) (hs : sh[h]? = some (11, n, rs)) (h0 : 0 ≤ a) (h1 : a < n) (kk : WP M scr mc ms Q (pc + 1) ls (vI (mem h a.toNat) :: st) sh mem) : WP M scr mc ms Q pc ls (vI a :: vR h :: st) sh mem := by
  refine WP.step (fun hC hW _ hL hst kk => ?_) kk
  obtain ⟨ca, tys, w1, w2, w3, w4, w5, w6, w7, w8⟩ := id hW
  obtain ⟨t, ht⟩ := w2 h _ hs (Nat.le_of_ble_eq_true rfl)
  have ha : inR a := okI hst
  refine va_iald hC.1 hC.2.1 w1 w3 h t (wd_arr hs (by decide)) ht (i_in ha h0 h1) hd ?_
  rw [i_cl ha]
  have hz : inR (mem h a.toNat) := w8 h _ hs a.toNat
  exact kk _ hL (okcI hz (okt (okt hst)))
theorem q_zald (hd : decode M.2.1 pc = .ok (.baload, 1)) (hs : sh[h]? = some (12, n, rs)) (h0 : 0 ≤ a) (h1 : a < n) (kk : WP M scr mc ms Q (pc + 1) ls (vI (mem h a.toNat) :: st) sh mem) : WP M scr mc ms Q pc ls (vI a :: vR h :: st) sh mem := by
  refine WP.step (fun hC hW _ hL hst kk => ?_) kk
  obtain ⟨ca, tys, w1, w2, w3, w4, w5, w6, w7, w8⟩ := id hW
  obtain ⟨t, ht⟩ := w2 h _ hs (Nat.le_of_ble_eq_true rfl)
  have ha : inR a := okI hst
  refine va_zald hC.1 hC.2.1 w1 w3 h t (wd_arr hs (by decide)) ht (i_in ha h0 h1) hd ?_
  rw [i_cl ha]
  have hz : inR (mem h a.toNat) := w8 h _ hs a.toNat
  exact kk _ hL (okcI hz (okt (okt hst)))
theorem wd_aset {ad : Nat → Nat} {ca : Nat → ClassId} {f : Nat → Int32} (hs : sh[h]? = some (ci, n, rs)) (hc : ¬ ci < 11) (hf : f = fun j => Int32.ofInt (mset mem h i z h j)) : (wd ad ca sh mem).set h (ad h, .inl (ca h, n, .inl f)) = wd ad ca sh (mset mem h i z) := by
  have h3 := wd_set (ad := ad) (ca := ca) (mem := mem) (mem' := mset mem h i z) hs (fun _ _ => rfl) rfl (fun j hj => mset_ne j hj)
  simp only [wc, hc, if_false] at h3
  rw [hf]
  exact h3
theorem upd_mset (ha : inR a) : upd (fun j => Int32.ofInt (mem h j)) (Int32.ofInt a).toNatClampNeg (Int32.ofInt z) = fun j => Int32.ofInt (mset mem h a.toNat z h j) := by
  rw [i_cl ha]
  funext j
  simp only [upd, mset_at, true_and]
  split <;> rfl
theorem q_iast (hd : decode M.2.1 pc = .ok (.iastore, 1)) (hs : sh[h]? = some (11, n, rs)) (h0 : 0 ≤ a) (h1 : a < n) (kk : WP M scr mc ms Q (pc + 1) ls st sh (mset mem h a.toNat z)) : WP M scr mc ms Q pc ls (vI z :: vI a :: vR h :: st) sh mem := by
  intro p l e R s m args below meth c D A ad H locs cells slots lsr Z hC hW hX hL hst hm1 hm2 hK
  obtain ⟨ca, tys, w1, w2, w3, w4, w5, w6, w7, w8⟩ := id hW
  obtain ⟨t, ht⟩ := w2 h _ hs (Nat.le_of_ble_eq_true rfl)
  have hz : inR z := okI hst
  have ha : inR a := okI (okt hst)
  refine va_iast hC.1 hC.2.1 w1 w3 w4 w5 h t (wd_arr hs (by decide)) ht (i_in ha h0 h1) hd (fun H1 locs1 x1 x2 x3 => ?_)
  rw [upd_mset ha, wd_aset hs (by decide) rfl] at x1 x2
  exact kk hC ⟨ca, tys, w1, w2, x1, x2, x3, w6, w7, okm_set w8 hs hz⟩ hX hL (okt (okt (okt hst))) hm1 hm2 hK
theorem q_zast (hd : decode M.2.1 pc = .ok (.bastore, 1)) (hs : sh[h]? = some (12, n, rs)) (h0 : 0 ≤ a) (h1 : a < n) (hb : z = 0 ∨ z = 1) (kk : WP M scr mc ms Q (pc + 1) ls st sh (mset mem h a.toNat z)) : WP M scr mc ms Q pc ls (vI z :: vI a :: vR h :: st) sh mem := by
  intro p l e R s m args below meth c D A ad H locs cells slots lsr Z hC hW hX hL hst hm1 hm2 hK
  obtain ⟨ca, tys, w1, w2, w3, w4, w5, w6, w7, w8⟩ := id hW
  obtain ⟨t, ht⟩ := w2 h _ hs (Nat.le_of_ble_eq_true rfl)
  have hz : inR z := okI hst
  have ha : inR a := okI (okt hst)
  refine va_zast hC.1 hC.2.1 w1 w3 w4 w5 h t (wd_arr hs (by decide)) ht (i_in ha h0 h1) hd (fun H1 locs1 x1 x2 x3 => ?_)
  rw [show vp_nar .boolean (Int32.ofInt z) = Int32.ofInt z from by rcases hb with rfl | rfl <;> rfl, upd_mset ha, wd_aset hs (by decide) rfl] at x1 x2
  exact kk hC ⟨ca, tys, w1, w2, x1, x2, x3, w6, w7, okm_set w8 hs hz⟩ hX hL (okt (okt (okt hst))) hm1 hm2 hK
end HE
