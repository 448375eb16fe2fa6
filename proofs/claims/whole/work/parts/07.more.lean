/-! RULES: returns, new cells, Math, the script, switches -/
section MO
variable {M M' : MD} {scr : Option (Nat × (Nat → Int32))} {mc ms mcT msT : Nat} {Q Q' : Po} {pc tgt : Nat} {ls st st0 as : List Vl} {sh : Sh} {mem : Mem} {a b z : Int} {i h idx ci k n n0 : Nat} {rs : List Nat}
theorem q_ret {r : Option Vl} (hst : st = r.toList) (hr : retOK M pc r) (hq : Q r sh mem) : WP M scr mc ms Q pc ls st sh mem := by
  subst hst
  intro p l e R s m args below meth c D A ad H locs cells slots lsr Z hC hW hX hL hst h1 h2 hK
  exact W.widen (k := cells + mc) (n := slots + ms) (Nat.le_add_right _ _) (Nat.le_add_right _ _) (hK r sh mem ad H locs pc lsr hq (Nat.le_refl _) (fun _ _ => rfl) hW hr hst)
theorem q_iret (hd : decode M.2.1 pc = .ok (.ireturn, 1)) (hr : M.2.2.2.1 = some .int) (hq : Q (some (vI a)) sh mem) : WP M scr mc ms Q pc ls [vI a] sh mem :=
  q_ret (r := some (vI a)) rfl (Or.inr (Or.inl ⟨hr, hd, a, rfl⟩)) hq
theorem q_zret (hd : decode M.2.1 pc = .ok (.ireturn, 1)) (hr : M.2.2.2.1 = some .boolean) (hb : a = 0 ∨ a = 1) (hq : Q (some (vI a)) sh mem) : WP M scr mc ms Q pc ls [vI a] sh mem :=
  q_ret (r := some (vI a)) rfl (Or.inr (Or.inr (Or.inl ⟨hr, hd, a, rfl, hb⟩))) hq
theorem q_lret (hd : decode M.2.1 pc = .ok (.lreturn, 1)) (hr : M.2.2.2.1 = some .long) (hq : Q (some (vJ a)) sh mem) : WP M scr mc ms Q pc ls [vJ a] sh mem :=
  q_ret (r := some (vJ a)) rfl (Or.inr (Or.inr (Or.inr ⟨hr, hd, a, rfl⟩))) hq
theorem q_vret (hd : decode M.2.1 pc = .ok (.return_, 1)) (hr : M.2.2.2.1 = none) (hq : Q none sh mem) : WP M scr mc ms Q pc ls [] sh mem :=
  q_ret (r := none) rfl (Or.inl ⟨hr, hd, rfl⟩) hq
theorem q_max (hd : decode M.2.1 pc = .ok (.invokestatic idx, 3)) (hl : Cond.methodLink M.1.cls idx Lib.Math.max.name ∈ gdW) (hw : Cond.static Lib.Math.max.name ∈ gdW ∧ Cond.initialized "java/lang/Math" ∈ gdW ∧ Cond.code Lib.Math.max.name Lib.Math.max.code 2 (some .int) ∈ gdW) (hR : 1 ≤ M.2.2.2.2.1 ∧ 21 ≤ M.2.2.2.2.2) (hlen : st.length ≤ 4)
    (kk : WP M scr mc ms Q (pc + 3) ls (vI (max a b) :: st) sh mem) : WP M scr mc ms Q pc ls (vI b :: vI a :: st) sh mem := by
  intro p l e R s m args below meth c D A ad H locs cells slots lsr Z hC hW hX hL hst h1 h2 hK
  have hts := hC.2.2.2.2.2.2.1
  have hb : inR b := okI hst
  have ha : inR a := okI (okt hst)
  have hsum := cat_sum (ad := ad) st
  have hF := hC.2.2.2.2.2.2.2.2.2.1
  have hLo := hC.2.2.2.2.2.2.2.2.2.2.1
  refine va_mmax hC.1 hC.2.1 (hC.2.2.1.trans hL.1.symm) hC.2.2.2.2.2.1 (hts _ hl) (hts _ hw.1) (hts _ hw.2.1) (hts _ hw.2.2) (by omega) (by omega) (by omega) (by omega) hd ?_
  have hm : (if Int32.ofInt a < Int32.ofInt b then Int32.ofInt b else Int32.ofInt a) = Int32.ofInt (max a b) := by
    by_cases c1 : a < b
    · rw [if_pos ((i_lt ha hb).mpr c1), show max a b = b by omega]
    · rw [if_neg (fun q => c1 ((i_lt ha hb).mp q)), show max a b = a by omega]
  rw [hm]
  exact kk hC hW hX hL (okcI (by omega) (okt (okt hst))) h1 h2 hK
theorem q_min (hd : decode M.2.1 pc = .ok (.invokestatic idx, 3)) (hl : Cond.methodLink M.1.cls idx Lib.Math.min.name ∈ gdW) (hw : Cond.static Lib.Math.min.name ∈ gdW ∧ Cond.initialized "java/lang/Math" ∈ gdW ∧ Cond.code Lib.Math.min.name Lib.Math.min.code 2 (some .int) ∈ gdW) (hR : 1 ≤ M.2.2.2.2.1 ∧ 21 ≤ M.2.2.2.2.2) (hlen : st.length ≤ 4)
    (kk : WP M scr mc ms Q (pc + 3) ls (vI (min a b) :: st) sh mem) : WP M scr mc ms Q pc ls (vI b :: vI a :: st) sh mem := by
  intro p l e R s m args below meth c D A ad H locs cells slots lsr Z hC hW hX hL hst h1 h2 hK
  have hts := hC.2.2.2.2.2.2.1
  have hb : inR b := okI hst
  have ha : inR a := okI (okt hst)
  have hsum := cat_sum (ad := ad) st
  have hF := hC.2.2.2.2.2.2.2.2.2.1
  have hLo := hC.2.2.2.2.2.2.2.2.2.2.1
  refine va_mmin hC.1 hC.2.1 (hC.2.2.1.trans hL.1.symm) hC.2.2.2.2.2.1 (hts _ hl) (hts _ hw.1) (hts _ hw.2.1) (hts _ hw.2.2) (by omega) (by omega) (by omega) (by omega) hd ?_
  have hm : (if Int32.ofInt b < Int32.ofInt a then Int32.ofInt b else Int32.ofInt a) = Int32.ofInt (min a b) := by
    by_cases c1 : b < a
    · rw [if_pos ((i_lt hb ha).mpr c1), show min a b = b by omega]
    · rw [if_neg (fun q => c1 ((i_lt hb ha).mp q)), show min a b = a by omega]
  rw [hm]
  exact kk hC hW hX hL (okcI (by omega) (okt (okt hst))) h1 h2 hK
theorem q_objinit (hd : decode M.2.1 pc = .ok (.invokespecial idx, 3)) (hl : Cond.methodLink M.1.cls idx Lib.objectInit ∈ gdW) (hw : Cond.instanceMethod Lib.objectInit ∈ gdW ∧ Cond.code Lib.objectInit ⟨#[0xb1]⟩ 1 none ∈ gdW) (hR : 1 ≤ M.2.2.2.2.1 ∧ 21 ≤ M.2.2.2.2.2) (hlen : st.length ≤ 4)
    (kk : WP M scr mc ms Q (pc + 3) ls st sh mem) : WP M scr mc ms Q pc ls (vR h :: st) sh mem := by
  intro p l e R s m args below meth c D A ad H locs cells slots lsr Z hC hW hX hL hst h1 h2 hK
  have hts := hC.2.2.2.2.2.2.1
  have hsum := cat_sum (ad := ad) st
  have hF := hC.2.2.2.2.2.2.2.2.2.1
  have hLo := hC.2.2.2.2.2.2.2.2.2.2.1
  exact W.objInit (g := F0 m pc lsr (Value.ref (ad h) :: st.map (cv ad))) hC.1 hC.2.1 hC.2.2.2.2.2.1 (hts _ hl) (hts _ hw.1) (hts _ hw.2) rfl (hL.1.trans hC.2.2.1.symm) rfl hd (by omega) (by show 2 * 0 + _ + 12 ≤ _; omega) (kk hC hW hX hL (okt hst) h1 h2 hK)
def mnew (mem : Mem) (k : Nat) : Mem := fun h j => if h = k then 0 else mem h j
theorem mnew_ne {k : Nat} (j : Nat) (hj : j ≠ k) : mnew mem k j = mem j := by
  funext i
  simp [mnew, hj]
theorem okz0 {ty : FieldType} : okz ty 0 := by
  unfold okz
  split <;> omega
theorem okm_push {q : Nat × Nat × List Nat} (hm : okm sh mem) : okm (sh ++ [q]) (mnew mem sh.length) := by
  intro k q' hq j
  by_cases hk : k = sh.length
  · subst hk
    show okz _ (if sh.length = sh.length then 0 else _)
    rw [if_pos rfl]
    exact okz0
  · rw [mnew_ne k hk]
    by_cases hl : k < sh.length
    · rw [List.getElem?_append_left hl] at hq
      exact hm k q' hq j
    · rw [List.getElem?_eq_none (by simp; omega)] at hq
      cases hq
theorem okS_push {q : Nat × Nat × List Nat} (ho : okS sh) (hr : ∀ r ∈ q.2.2, r ≤ sh.length) : okS (sh ++ [q]) := by
  intro k q' hq r hrr
  rw [List.length_append]
  by_cases hl : k < sh.length
  · rw [List.getElem?_append_left hl] at hq
    exact Nat.le_trans (ho k q' hq r hrr) (Nat.le_add_right _ _)
  · rw [List.getElem?_append_right (by omega)] at hq
    have hz : k - sh.length < 1 := (List.getElem?_eq_some_iff.mp hq).1
    rw [show k - sh.length = 0 by omega] at hq
    cases hq
    exact Nat.le_trans (hr r hrr) (Nat.le_add_right _ _)
theorem tyA_kinds {ci : Nat} (hc : ci < 11) : ∀ j, j < nA ci → defaultValue (tyA ci j) = fv (fun _ => 0) (tyA ci j) 0 0 := by
  rcases lt11 hc with rfl | rfl | rfl | rfl | rfl | rfl | rfl | rfl | rfl | rfl | rfl <;> decide +kernel
theorem fv00 {ad ad' : Nat → Nat} {ty : FieldType} : fv ad ty 0 0 = fv ad' ty 0 0 := by
  unfold fv
  rfl
/-- what follows a cell that comes -/
theorem q_came {p : Program} {l : Launch} {e : Env} {R : Room} {s : State} {m : MethodId} {args : Array Value} {below : List Frame} {meth : Method} {c : Code} {D : va_G} {A : Nat → Prop} {ad : Nat → Nat} {H1 : Heap} {locs : List Loc} {cells slots : Nat} {lsr : Array Slot} {Z : State → Prop} {ca : Nat → ClassId} {tys : List (ClassId × FieldType)} {q : Nat × Nat × List Nat} {x cA : Nat} {len N : Nat}
    (hC : Cx M p R s m args meth c D) (w1 : va_K D vwCl tys s) (w2 : ∀ (k : Nat) (q' : Nat × Nat × List Nat), (sh ++ [q])[k]? = some q' → 11 ≤ q'.1 → ∃ t : Nat, tys[t]? = some ((if k = sh.length then cA else ca k), aty q'.1)) (w3 : va_P D vwCl (wd ad ca sh mem ++ [wc (fun k => if k = sh.length then x else ad k) (fun k => if k = sh.length then cA else ca k) (mnew mem sh.length) sh.length q]) H1) (w4 : va_D A (wd ad ca sh mem ++ [wc (fun k => if k = sh.length then x else ad k) (fun k => if k = sh.length then cA else ca k) (mnew mem sh.length) sh.length q])) (w5 : va_S A s.heap H1 locs) (w6 : ∀ q : Nat, s.heap.size ≤ q → A q) (w7 : okS sh) (w8 : okm sh mem) (hrq : ∀ r ∈ q.2.2, r ≤ sh.length) (h1000 : sh.length < 1000)
    (hX : Sc scr s A (ad 1000)) (hL : Lv ad M.2.2.1 sh.length lsr ls) (hst : ∀ v ∈ st, okv sh.length v) (h1 : cells + (1 + mc) ≤ R.cells) (h2 : slots + (N + ms) ≤ R.slots)
    (hK : Kt M p l e R s m args below meth c D A (cells + (1 + mc)) (slots + (N + ms)) Z Q ad sh.length)
    (kk : WP M scr mc ms Q (pc + len) ls (vR sh.length :: st) (sh ++ [q]) (mnew mem sh.length)) : W p l e R s m args below meth c H1 locs (cells + 1) (slots + N) Z (F0 m (pc + len) lsr (.ref x :: st.map (cv ad))) := by
  have hag : ∀ k, (k < sh.length ∨ k = 1000) → (fun k => if k = sh.length then x else ad k) k = ad k := fun k hk => if_neg (by omega)
  have hle : sh.length ≤ (sh ++ [q]).length := by rw [List.length_append]; omega
  have hpush : wd (fun k => if k = sh.length then x else ad k) (fun k => if k = sh.length then cA else ca k) (sh ++ [q]) (mnew mem sh.length) = wd ad ca sh mem ++ [wc (fun k => if k = sh.length then x else ad k) (fun k => if k = sh.length then cA else ca k) (mnew mem sh.length) sh.length q] :=
    wd_push w7 (fun j hj => if_neg (by omega)) (fun j hj => if_neg (by omega)) (fun j hj => mnew_ne j (by omega))
  have hmap : (Value.ref x :: st.map (cv ad)) = (vR sh.length :: st).map (cv (fun k => if k = sh.length then x else ad k)) := by
    rw [List.map_cons, map_ag hag hst]
    show _ = Value.ref (if sh.length = sh.length then x else ad sh.length) :: _
    rw [if_pos rfl]
  rw [hmap]
  rw [← hpush] at w3 w4
  rw [← Nat.add_assoc] at h1 h2
  refine kk hC ⟨_, tys, w1, w2, w3, w4, w5, w6, okS_push w7 hrq, okm_push w8⟩ (by rw [if_neg (show ¬ 1000 = sh.length by omega)]; exact hX) (hL.ag hag hle) (okc (Or.inl (by rw [List.length_append]; exact Nat.lt_succ_self _)) (fun v hv => okv_mono hle (hst v hv))) h1 h2 ?_
  intro r2 sh2 mem2 ad2 H2 locs2 pc2 lsr2 g1 g2 g3 g4 g5 g6
  rw [Nat.add_assoc, Nat.add_assoc]
  exact hK r2 sh2 mem2 ad2 H2 locs2 pc2 lsr2 g1 (Nat.le_trans hle g2) (fun k hk => (g3 k (hk.elim (fun q => Or.inl (Nat.lt_of_lt_of_le q hle)) Or.inr)).trans (hag k hk)) g4 g5 g6
theorem w2_push {ca : Nat → ClassId} {tys : List (ClassId × FieldType)} {q : Nat × Nat × List Nat} {cA : Nat} (w2 : ∀ (k : Nat) (q : Nat × Nat × List Nat), sh[k]? = some q → 11 ≤ q.1 → ∃ t : Nat, tys[t]? = some (ca k, aty q.1)) (hq : 11 ≤ q.1 → ∃ t : Nat, tys[t]? = some (cA, aty q.1)) :
    ∀ (k : Nat) (q' : Nat × Nat × List Nat), (sh ++ [q])[k]? = some q' → 11 ≤ q'.1 → ∃ t : Nat, tys[t]? = some ((if k = sh.length then cA else ca k), aty q'.1) := by
  intro k q' hk h11
  by_cases hl : k < sh.length
  · rw [List.getElem?_append_left hl] at hk
    rw [if_neg (by omega)]
    exact w2 k q' hk h11
  · rw [List.getElem?_append_right (by omega)] at hk
    have hz : k - sh.length < 1 := (List.getElem?_eq_some_iff.mp hk).1
    rw [show k - sh.length = 0 by omega] at hk
    cases hk
    rw [if_pos (by omega)]
    exact hq h11
theorem q_new (hd : decode M.2.1 pc = .ok (.new idx, 3)) (hc : ci < 11) (hl : Cond.classLink M.1.cls idx (RA ci) ∈ gdW) (hw : Cond.instantiable (RA ci) (nA ci) ∈ gdW ∧ Cond.initialized (RA ci) ∈ gdW) (h1000 : sh.length < 1000) {sh' : Sh} (he : sh ++ [(ci, 0, List.replicate (nA ci) 0)] = sh') (hmc : 1 + mc = mcT) (hms : nA ci + ms = msT)
    (kk : WP M scr mc ms Q (pc + 3) ls (vR sh.length :: st) sh' (mnew mem sh.length)) : WP M scr mcT msT Q pc ls st sh mem := by
  subst hmc; subst hms; subst he
  intro p l e R s m args below meth c D A ad H locs cells slots lsr Z hC hW hX hL hst h1 h2 hK
  obtain ⟨ca, tys, w1, w2, w3, w4, w5, w6, w7, w8⟩ := id hW
  have hts := hC.2.2.2.2.2.2.1
  refine va_new (ci := ci) (fs := (List.range (nA ci)).map (fun j => fv (fun _ => 0) (tyA ci j) 0 0)) hC.1 hC.2.1 hts (inA hc) (tyA ci) (tyA_ok hc) hC.2.2.2.2.2.1 (hts _ hl) (hts _ hw.1) (hts _ hw.2) w1 w3 w4 w5 w6 (clA hc) (fun j hj => ?_) (by omega) (by omega) hd (fun x H1 hP hD hS => ?_)
  · rw [tyA_kinds hc j hj]
    simp [vp_V, List.getD_eq_getElem?_getD, List.getElem?_range hj]
  · have hwc : wc (fun k => if k = sh.length then x else ad k) (fun k => if k = sh.length then 0 else ca k) (mnew mem sh.length) sh.length (ci, 0, List.replicate (nA ci) 0) = (x, .inr (ci, (List.range (nA ci)).map (fun j => fv (fun _ => 0) (tyA ci j) 0 0))) := by
      simp only [wc, hc, if_true, Prod.mk.injEq, true_and]
      congr 2
      apply List.map_congr_left
      intro j hj
      have hj' : j < nA ci := List.mem_range.mp hj
      rw [List.getD_eq_getElem?_getD, List.getElem?_replicate, if_pos hj', Option.getD_some]
      show fv _ _ 0 (if sh.length = sh.length then 0 else _) = _
      rw [if_pos rfl]
      exact fv00
    rw [← hwc] at hP hD
    exact q_came (N := nA ci) (len := 3) hC w1 (w2_push w2 (fun h => absurd hc (by show ¬ ci < 11; exact Nat.not_lt.mpr h))) hP hD hS w6 w7 w8 (fun r hr => by rw [List.eq_of_mem_replicate hr]; exact Nat.zero_le _) h1000 hX hL hst h1 h2 hK kk
theorem q_newi (hd : decode M.2.1 pc = .ok (.newarray .int, 2)) (hw : Cond.arrayClass .int ∈ gdW) (h0 : 0 ≤ a) (ha : a ≤ 1000) (h1000 : sh.length < 1000) {sh' : Sh} (he : sh ++ [(11, a.toNat, [])] = sh') (hmc : 1 + mc = mcT) (hms : a.toNat + ms = msT)
    (kk : WP M scr mc ms Q (pc + 2) ls (vR sh.length :: st) sh' (mnew mem sh.length)) : WP M scr mcT msT Q pc ls (vI a :: st) sh mem := by
  subst hmc; subst hms; subst he
  intro p l e R s m args below meth c D A ad H locs cells slots lsr Z hC hW hX hL hst h1 h2 hK
  obtain ⟨ca, tys, w1, w2, w3, w4, w5, w6, w7, w8⟩ := id hW
  have hts := hC.2.2.2.2.2.2.1
  have hr : inR a := okI hst
  refine va_newa (ty := .int) (atype := .int) (N' := a.toNat) (a0 := (a.toNat, .inl (fun _ => Int32.ofInt 0))) hC.1 hC.2.1 (hts _ hw) rfl w1 w3 w4 w5 w6 (fun cA => rfl) (by rw [← i_zero, i_lt hr inR0]; omega) (i_cl hr) (by show a.toNat * 4 ≤ _; omega) (by omega) (by omega) hd (fun x cA H1 hK' hP hD hS => ?_)
  have hwc : wc (fun k => if k = sh.length then x else ad k) (fun k => if k = sh.length then cA else ca k) (mnew mem sh.length) sh.length (11, a.toNat, []) = (x, .inl (cA, a.toNat, .inl (fun _ => Int32.ofInt 0))) := by
    simp [wc, mnew]
  rw [← hwc] at hP hD
  have w2' : ∀ (k : Nat) (q : Nat × Nat × List Nat), sh[k]? = some q → 11 ≤ q.1 → ∃ t : Nat, (tys ++ [(cA, FieldType.int)])[t]? = some (ca k, aty q.1) := fun k q hk hq => by
    obtain ⟨t, ht⟩ := w2 k q hk hq
    exact ⟨t, by rw [List.getElem?_append_left (List.getElem?_eq_some_iff.mp ht).1]; exact ht⟩
  exact q_came (N := a.toNat) (len := 2) hC hK' (w2_push w2' (fun _ => ⟨tys.length, by rw [List.getElem?_append_right (Nat.le_refl _), Nat.sub_self]; rfl⟩)) hP hD hS w6 w7 w8 (fun r hr => by cases hr) h1000 hX hL (okt hst) h1 h2 hK kk
theorem q_newz (hd : decode M.2.1 pc = .ok (.newarray .boolean, 2)) (hw : Cond.arrayClass .boolean ∈ gdW) (h0 : 0 ≤ a) (ha : a ≤ 1000) (h1000 : sh.length < 1000) {sh' : Sh} (he : sh ++ [(12, a.toNat, [])] = sh') (hmc : 1 + mc = mcT) (hms : a.toNat + ms = msT)
    (kk : WP M scr mc ms Q (pc + 2) ls (vR sh.length :: st) sh' (mnew mem sh.length)) : WP M scr mcT msT Q pc ls (vI a :: st) sh mem := by
  subst hmc; subst hms; subst he
  intro p l e R s m args below meth c D A ad H locs cells slots lsr Z hC hW hX hL hst h1 h2 hK
  obtain ⟨ca, tys, w1, w2, w3, w4, w5, w6, w7, w8⟩ := id hW
  have hts := hC.2.2.2.2.2.2.1
  have hr : inR a := okI hst
  refine va_newa (ty := .boolean) (atype := .boolean) (N' := a.toNat) (a0 := (a.toNat, .inl (fun _ => Int32.ofInt 0))) hC.1 hC.2.1 (hts _ hw) rfl w1 w3 w4 w5 w6 (fun cA => rfl) (by rw [← i_zero, i_lt hr inR0]; omega) (i_cl hr) (by show a.toNat * 1 ≤ _; omega) (by omega) (by omega) hd (fun x cA H1 hK' hP hD hS => ?_)
  have hwc : wc (fun k => if k = sh.length then x else ad k) (fun k => if k = sh.length then cA else ca k) (mnew mem sh.length) sh.length (12, a.toNat, []) = (x, .inl (cA, a.toNat, .inl (fun _ => Int32.ofInt 0))) := by
    simp [wc, mnew]
  rw [← hwc] at hP hD
  have w2' : ∀ (k : Nat) (q : Nat × Nat × List Nat), sh[k]? = some q → 11 ≤ q.1 → ∃ t : Nat, (tys ++ [(cA, FieldType.boolean)])[t]? = some (ca k, aty q.1) := fun k q hk hq => by
    obtain ⟨t, ht⟩ := w2 k q hk hq
    exact ⟨t, by rw [List.getElem?_append_left (List.getElem?_eq_some_iff.mp ht).1]; exact ht⟩
  exact q_came (N := a.toNat) (len := 2) hC hK' (w2_push w2' (fun _ => ⟨tys.length, by rw [List.getElem?_append_right (Nat.le_refl _), Nat.sub_self]; rfl⟩)) hP hD hS w6 w7 w8 (fun r hr => by cases hr) h1000 hX hL (okt hst) h1 h2 hK kk
theorem q_slen {L : Nat} {xs : Nat → Int32} (hL : L ≤ 1000) (hd : decode M.2.1 pc = .ok (.arraylength, 1)) (kk : WP M (some (L, xs)) mc ms Q (pc + 1) ls (vI (L : Int) :: st) sh mem) : WP M (some (L, xs)) mc ms Q pc ls (vR 1000 :: st) sh mem := by
  intro p l e R s m args below meth c D A ad H locs cells slots lsr Z hC hW hX hLv hst h1 h2 hK
  obtain ⟨ca, tys, w1, w2, w3, w4, w5, w6, w7, w8⟩ := id hW
  refine va_slen hC.1 hC.2.1 hX.1 hX.2.1 hX.2.2 w5 hd ?_
  rw [← i_nat]
  exact kk hC hW hX hLv (okcI (by omega) (okt hst)) h1 h2 hK
theorem q_sld {L : Nat} {xs : Nat → Int32} (hd : decode M.2.1 pc = .ok (.iaload, 1)) (h0 : 0 ≤ a) (hL : a < L) (kk : WP M (some (L, xs)) mc ms Q (pc + 1) ls (vI (xs a.toNat).toInt :: st) sh mem) : WP M (some (L, xs)) mc ms Q pc ls (vI a :: vR 1000 :: st) sh mem := by
  intro p l e R s m args below meth c D A ad H locs cells slots lsr Z hC hW hX hLv hst h1 h2 hK
  obtain ⟨ca, tys, w1, w2, w3, w4, w5, w6, w7, w8⟩ := id hW
  have hr : inR a := okI hst
  refine va_sld hC.1 hC.2.1 hX.1 hX.2.1 hX.2.2 w5 (i_in hr h0 hL) hd ?_
  rw [i_cl hr]
  have e2 : (Value.int (xs a.toNat) :: st.map (cv ad)) = (vI (xs a.toNat).toInt :: st).map (cv ad) := by simp [cv]
  rw [e2]
  have h3 := (xs a.toNat).le_toInt
  have h4 := (xs a.toNat).toInt_lt
  exact kk hC hW hX hLv (okcI ⟨by omega, by omega⟩ (okt (okt hst))) h1 h2 hK
theorem q_tsw {dflt lo hi : Int} {offs : Array Int} {len dt : Nat} (tg : List Nat) (hd : decode M.2.1 pc = .ok (.tableswitch dflt lo hi offs, len)) (htg : offs.toList = tg.map (fun (t : Nat) => ((t : Int) - pc))) (hdt : (pc : Int) + dflt = (dt : Int)) (hlen : lo + tg.length = hi + 1)
    (kin : ∀ (j t : Nat), tg[j]? = some t → a = lo + j → WP M scr mc ms Q t ls st sh mem) (kout : (a < lo ∨ hi < a) → WP M scr mc ms Q dt ls st sh mem) : WP M scr mc ms Q pc ls (vI a :: st) sh mem := by
  intro p l e R s m args below meth c D A ad H locs cells slots lsr Z hC hW hX hLv hst h1 h2 hK
  have hr : inR a := okI hst
  by_cases hin : a < lo ∨ hi < a
  · exact lv_tableOut hC.1 hC.2.1 hd (by rw [tI hr]; exact hin) hdt (kout hin hC hW hX hLv (okt hst) h1 h2 hK)
  · have hj : (a - lo).toNat < tg.length := by omega
    obtain ⟨t, ht⟩ : ∃ t, tg[(a - lo).toNat]? = some t := ⟨_, List.getElem?_eq_getElem hj⟩
    have ho : offs[((Int32.ofInt a).toInt - lo).toNat]? = some ((t : Int) - pc) := by
      rw [tI hr, ← Array.getElem?_toList, htg, List.getElem?_map, ht]
      rfl
    exact lv_tableIn hC.1 hC.2.1 hd (by rw [tI hr]; omega) (by rw [tI hr]; omega) ho (by omega) (kin _ t ht (by omega) hC hW hX hLv (okt hst) h1 h2 hK)
theorem q_lsw {dflt : Int} {ps : Array (Int × Int)} {len dt : Nat} (ks : List (Int × Nat)) (hd : decode M.2.1 pc = .ok (.lookupswitch dflt ps, len)) (hks : ps.toList = ks.map (fun q => (q.1, (q.2 : Int) - pc))) (hord : (ps.toList.zip (ps.toList.drop 1)).all (fun (a, next) => a.1 < next.1) = true) (hdt : (pc : Int) + dflt = (dt : Int))
    (hoff : ∀ q ∈ ks, Op.lookupswitch.offset ps.toList dflt q.1 = (q.2 : Int) - pc) (hout : ∀ x : Int, (∀ q ∈ ks, x ≠ q.1) → Op.lookupswitch.offset ps.toList dflt x = dflt)
    (kin : ∀ q ∈ ks, a = q.1 → WP M scr mc ms Q q.2 ls st sh mem) (kout : (∀ q ∈ ks, a ≠ q.1) → WP M scr mc ms Q dt ls st sh mem) : WP M scr mc ms Q pc ls (vI a :: st) sh mem := by
  intro p l e R s m args below meth c D A ad H locs cells slots lsr Z hC hW hX hLv hst h1 h2 hK
  have hr : inR a := okI hst
  by_cases hin : ∃ q, q ∈ ks ∧ a = q.1
  · obtain ⟨q, hq, he⟩ := hin
    exact lv_lookup (off := (q.2 : Int) - pc) hC.1 hC.2.1 hd hord (by rw [tI hr, he]; exact hoff q hq) (by omega) (kin q hq he hC hW hX hLv (okt hst) h1 h2 hK)
  · have hn : ∀ q ∈ ks, a ≠ q.1 := fun q hq he => hin ⟨q, hq, he⟩
    exact lv_lookup hC.1 hC.2.1 hd hord (by rw [tI hr]; exact hout a hn) hdt (kout hn hC hW hX hLv (okt hst) h1 h2 hK)
end MO
