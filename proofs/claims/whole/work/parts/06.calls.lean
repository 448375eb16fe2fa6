/-! RULES: calls, returns, new cells, the script; contracts of methods (Tot) -/
abbrev wsM (M : MD) : List Cond := Cond.code M.1 M.2.1 M.2.2.1 M.2.2.2.1 :: gdW
abbrev rmM (M : MD) (mc ms : Nat) : Room := { frames := M.2.2.2.2.1, cells := mc, slots := ms, locals := M.2.2.2.2.2 }
def W0 (D : va_G) (A : Nat → Prop) (ad : Nat → Nat) (t : State) (sh : Sh) (mem : Mem) : Prop :=
  ∃ (ca : Nat → ClassId) (tys : List (ClassId × FieldType)), va_K D vwCl tys t ∧ (∀ (k : Nat) (q : Nat × Nat × List Nat), sh[k]? = some q → 11 ≤ q.1 → ∃ t : Nat, tys[t]? = some (ca k, aty q.1)) ∧ va_P D vwCl (wd ad ca sh mem) t.heap ∧ va_D A (wd ad ca sh mem) ∧ okS sh ∧ okm sh mem
def QG (Q : Po) (D : va_G) (A : Nat → Prop) (ad : Nat → Nat) (n : Nat) : Array Value → State → Outcome → State → Prop := fun _ st oc t =>
  (∃ (r : Option Vl) (sh' : Sh) (mem' : Mem) (ad' : Nat → Nat), oc = .returned (r.map (cv ad')) ∧ Q r sh' mem' ∧ n ≤ sh'.length ∧ (∀ k, (k < n ∨ k = 1000) → ad' k = ad k) ∧ okr sh'.length r ∧ W0 D A ad' t sh' mem') ∧ va_F A st t
abbrev PG (D : va_G) (ad : Nat → Nat) (ca : Nat → ClassId) (tys : List (ClassId × FieldType)) (sz : Nat) (as : List Vl) (sh : Sh) (mem : Mem) : Array Value → State → Prop :=
  va_Pc (as.map (cv ad)) (fun U => U.heap.size = sz ∧ Nk U ∧ va_K D vwCl tys U ∧ va_P D vwCl (wd ad ca sh mem) U.heap ∧ va_D (fun _ => True) (wd ad ca sh mem))
def Tot (M : MD) (mc ms : Nat) (as : List Vl) (sh : Sh) (mem : Mem) (Q : Po) : Prop :=
  ∀ (l : Launch) (D : va_G) (ad : Nat → Nat) (ca : Nat → ClassId) (tys : List (ClassId × FieldType)) (sz : Nat), (∀ (k : Nat) (q : Nat × Nat × List Nat), sh[k]? = some q → 11 ≤ q.1 → ∃ t : Nat, tys[t]? = some (ca k, aty q.1)) → okS sh → okm sh mem → (∀ v ∈ as, okv sh.length v) →
    Met l M.1 (wsM M) (rmM M mc ms) (PG D ad ca tys sz as sh mem) (QG Q D (va_A (wd ad ca sh mem) sz) ad sh.length) mc ms (va_A (wd ad ca sh mem) sz)
theorem lg_len : ∀ (vs : List Value), (∀ v ∈ vs, v.category = 1) → (lg_sl vs).length = vs.length
  | [], _ => rfl
  | v :: vs, h => by
    have h1 := h v List.mem_cons_self
    have h2 := lg_len vs (fun w hw => h w (List.mem_cons_of_mem _ hw))
    simp only [lg_sl, List.flatMap_cons, List.length_append, List.length_cons] at h2 ⊢
    rw [h2, if_neg (by omega)]
    simp; omega
theorem lv_args_at : ∀ (vs : List Value) (i j : Nat) (v : Value), (∀ v ∈ vs, v.category = 1) → vs[j]? = some v → (i + j, v) ∈ lv_args i vs
  | [], _, _, _, _, h => by simp at h
  | w :: vs, i, 0, v, _, h => by
    simp at h
    subst h
    exact List.mem_cons_self
  | w :: vs, i, j + 1, v, hc, h => by
    have h1 := hc w List.mem_cons_self
    simp only [List.getElem?_cons_succ] at h
    have h2 := lv_args_at vs (i + 1) j v (fun z hz => hc z (List.mem_cons_of_mem _ hz)) h
    simp only [lv_args]
    rw [if_neg (by omega)]
    refine List.mem_cons_of_mem _ ?_
    rw [show i + (j + 1) = i + 1 + j by omega]
    exact h2
theorem Lv.entry {ad : Nat → Nat} {nL n : Nat} {as : List Vl} (hlen : as.length ≤ nL) (hj : ∀ v ∈ as, isJ v = false) (hok : ∀ v ∈ as, okv n v) : Lv ad nL n ((lg_sl (as.map (cv ad)) ++ List.replicate (nL - (lg_sl (as.map (cv ad))).length) Slot.unset).toArray) (as ++ List.replicate (nL - as.length) (vJ 0)) := by
  have hc : ∀ v ∈ as.map (cv ad), v.category = 1 := by
    intro v hv
    obtain ⟨w, hw, rfl⟩ := List.mem_map.mp hv
    exact cv_cat (hj w hw)
  have hl := lg_len _ hc
  rw [List.length_map] at hl
  have h := lv_entry (as.map (cv ad)) (n := nL) (by omega)
  refine ⟨h.1, h.2.1, by rw [List.length_append, List.length_replicate]; omega, fun v hv => ?_, fun i v hi hJ => ?_⟩
  · rcases List.mem_append.mp hv with h1 | h1
    · exact hok v h1
    · rw [List.eq_of_mem_replicate h1]
      exact show inL 0 by omega
  · by_cases hi2 : i < as.length
    · rw [List.getElem?_append_left hi2] at hi
      have h1 := lv_args_at (as.map (cv ad)) 0 i (cv ad v) hc (by rw [List.getElem?_map, hi]; rfl)
      rw [Nat.zero_add] at h1
      exact h.2.2 _ h1
    · rw [List.getElem?_append_right (by omega)] at hi
      have h1 := List.eq_of_mem_replicate (List.mem_of_getElem? hi)
      rw [h1] at hJ
      cases hJ
theorem Lv.ag {ad ad' : Nat → Nat} {nL n n' : Nat} {lsr : Array Slot} {ls : List Vl} (h : Lv ad nL n lsr ls) (hag : ∀ k, (k < n ∨ k = 1000) → ad' k = ad k) (hn : n ≤ n') : Lv ad' nL n' lsr ls := by
  refine ⟨h.1, h.2.1, h.2.2.1, fun v hv => okv_mono hn (h.2.2.2.1 v hv), fun i v hi hJ => ?_⟩
  rw [cv_ag hag (h.ok hi)]
  exact h.get hi hJ
theorem map_ag {ad ad' : Nat → Nat} {n : Nat} {st : List Vl} (hag : ∀ k, (k < n ∨ k = 1000) → ad' k = ad k) (h : ∀ v ∈ st, okv n v) : st.map (cv ad') = st.map (cv ad) := List.map_congr_left (fun v hv => cv_ag hag (h v hv))
theorem Tot.of {M : MD} {mc ms : Nat} {as : List Vl} {sh : Sh} {mem : Mem} {Q : Po} (hy : plainName M.1.cls = true) (hlen : as.length ≤ M.2.2.1) (hj : ∀ v ∈ as, isJ v = false) {ls : List Vl} (hls : as ++ List.replicate (M.2.2.1 - as.length) (vJ 0) = ls)
    (h : WP M none mc ms Q 0 ls [] sh mem) : Tot M mc ms as sh mem Q := by
  subst hls
  intro l D ad ca tys sz w2 w7 w8 hok
  refine Met.ofW (cc := M.2.1) (maxL := M.2.2.1) (ret := M.2.2.2.1) hy rfl ?_
  intro p e s m args below meth c s₁ B hml hv
  obtain ⟨rfl, hsz, hN, hK, hP, hD0⟩ := hv
  have hts := atoms_spec (ws := wsM M) B.pre
  have hlocks := B.notSynchronized
  subst hsz
  have hD := hD0.self (sz := s.heap.size)
  have hS : va_S (va_A (wd ad ca sh mem) s.heap.size) s.heap s.heap [] := va_S.rf
  rw [lg_entry_eq]
  refine h ⟨B.exec, B.bytes, hml, B.returns, hlocks, findClass_of_methodNamed B.named, fun w hw => hts w (List.mem_cons_of_mem _ hw), hN, fun hi => ((name_of_methodNamed B.named B.method).1).trans hi, Nat.le_refl _, Nat.le_refl _, hK.1⟩ ⟨ca, tys, hK, w2, hP, hD, hS, fun q hq => Or.inr hq, w7, w8⟩ trivial (Lv.entry hlen hj hok) (fun v hv => by cases hv) (by show 0 + mc ≤ mc; omega) (by show 0 + ms ≤ ms; omega) ?_
  intro r sh' mem' ad' H' locs' pc' lsr' hQ hn hag hW hret hokr
  obtain ⟨ca', tys', x1, x2, x3, x4, x5, x6, x7, x8⟩ := hW
  rw [Nat.zero_add, Nat.zero_add]
  have hend : ∀ (t : State), t.heap = H' → s.WarmedH t.vm → QG Q D (va_A (wd ad ca sh mem) s.heap.size) ad sh.length (as.map (cv ad)).toArray s (.returned (r.map (cv ad'))) t := fun t ht hWm =>
    ⟨⟨r, sh', mem', ad', rfl, hQ, hn, hag, hokr, ca', tys', va_K.moved hWm.alike x1, x2, by rw [ht]; exact x3, x4, x7, x8⟩, x5.F ht⟩
  rcases hret with ⟨h1, h2, rfl⟩ | ⟨h1, h2, z, rfl⟩ | ⟨h1, h2, z, rfl, hz⟩ | ⟨h1, h2, z, rfl⟩
  · exact W.vret B.exec B.bytes (B.returns.trans h1) hend x5.2.2 h2 hlocks
  · exact W.iret B.exec B.bytes (B.returns.trans h1) hend x5.2.2 h2 hlocks
  · exact W.zret B.exec B.bytes (B.returns.trans h1) (by rcases hz with rfl | rfl <;> rfl) hend x5.2.2 h2 hlocks
  · exact W.lret B.exec B.bytes (B.returns.trans h1) hend x5.2.2 h2 hlocks
theorem WP.mono {M : MD} {scr : Option (Nat × (Nat → Int32))} {mc ms pc : Nat} {ls st : List Vl} {sh : Sh} {mem : Mem} {Q Q' : Po} (h : WP M scr mc ms Q pc ls st sh mem) (hq : ∀ r sh' mem', Q r sh' mem' → Q' r sh' mem') : WP M scr mc ms Q' pc ls st sh mem := by
  intro p l e R s m args below meth c D A ad H locs cells slots lsr Z hC hW hX hL hst h1 h2 hK
  exact h hC hW hX hL hst h1 h2 (fun r sh' mem' ad' H' locs' pc' lsr' hQ => hK r sh' mem' ad' H' locs' pc' lsr' (hq _ _ _ hQ))
section CA
variable {M M' : MD} {scr : Option (Nat × (Nat → Int32))} {mc ms mc' ms' mcT msT : Nat} {Q Q' : Po} {pc : Nat} {ls st st0 as : List Vl} {sh : Sh} {mem : Mem} {a b z : Int} {i h idx ci k n n0 : Nat} {rs : List Nat}
theorem av_call {p : Program} {l : Launch} {e : Env} {R : Room} {s : State} {m : MethodId} {args : Array Value} {below : List Frame} {meth : Method} {c : Code} {H : Heap} {locs : List Loc} {cells slots : Nat} {Z : State → Prop} {lsr : Array Slot} {rest st1 : List Value} {ar : Array Value} {A0 A1 : Nat → Prop} {H0 : Heap} {free : Addr → Prop} {D : va_G} {ad : Nat → Nat} {n : Nat}
    (hr : va_Run p l e R s m args below meth c H locs cells slots mc ms (F0 m pc lsr st1) rest (QG Q D A1 ad n ar) free) (hS : va_S A0 H0 H locs) (hA : ∀ q, q < H.size → A1 q → A0 q) (hA' : ∀ q, A1 q → A0 q) (hf : ∀ q, free q → A0 q)
    (kk : ∀ (r : Option Vl) (sh' : Sh) (mem' : Mem) (ad' : Nat → Nat) (H1 : Heap) (locs1 : List Loc), Q r sh' mem' → n ≤ sh'.length → (∀ k, (k < n ∨ k = 1000) → ad' k = ad k) → okr sh'.length r → (∃ (ca : Nat → ClassId) (tys : List (ClassId × FieldType)), va_K D vwCl tys s ∧ (∀ (k : Nat) (q : Nat × Nat × List Nat), sh'[k]? = some q → 11 ≤ q.1 → ∃ t : Nat, tys[t]? = some (ca k, aty q.1)) ∧ va_P D vwCl (wd ad' ca sh' mem') H1 ∧ va_D A0 (wd ad' ca sh' mem') ∧ okS sh' ∧ okm sh' mem') → va_S A0 H0 H1 locs1 →
      W p l e R s m args below meth c H1 locs1 (cells + mc) (slots + ms) Z (F0 m (pc + 3) lsr ((r.map (cv ad')).toList ++ rest))) : W p l e R s m args below meth c H locs cells slots Z (F0 m pc lsr st1) := by
  intro T hT X
  obtain ⟨v, st₀, t, T', L, h0, X', hL, e1, e2, ⟨⟨r, sh', mem', ad', hv, hq, hn, hag, hor, ca, tys, x1, x2, x3, x4, x7, x8⟩, hz, hk⟩, stp⟩ := hr T hT X
  cases hv
  rw [h0] at hz hk
  have hvm : s.vm.Alike t.vm := by rw [← e2]; exact X'.warmed.alike
  obtain ⟨t2, a1, b1⟩ := kk r sh' mem' ad' T'.heap (locs ++ L) hq hn hag hor ⟨ca, tys, va_K.moved hvm.symm x1, x2, by rw [e1]; exact x3, x4.weaken (fun _ q _ h => hA' q.1 h), x7, x8⟩
    ⟨Nat.le_trans hS.1 (by rw [e1]; exact hz), fun q h1 h2 => by rw [e1, hk q (Nat.lt_of_lt_of_le h1 hS.1) (fun z => h2 (hA q (Nat.lt_of_lt_of_le h1 hS.1) z))]; exact hS.2.1 q h1 h2, fun q hq => by
      rcases List.mem_append.mp hq with h | h
      · exact hS.2.2 q h
      · exact hf _ (hL q h)⟩ T' rfl X'
  exact ⟨t2, stp t2 a1, b1⟩
/-- a callee, and how much it may take -/
abbrev KM (M' : MD) (n : Nat) : Prop := Cond.code M'.1 M'.2.1 M'.2.2.1 M'.2.2.2.1 ∈ gdW ∧ Cond.initialized M'.1.cls ∈ gdW ∧ (M'.1.cls ≠ "java/lang/invoke/MethodHandle" ∧ M'.1.cls ≠ "java/lang/invoke/VarHandle" ∧ (parseMethodDescriptor M'.1.desc).map (fun d => d.parameters.length) = some n)
abbrev KR (M M' : MD) : Prop := M'.2.2.2.2.1 + 1 ≤ M.2.2.2.2.1 ∧ 8 + (M'.2.2.1 + 11) + M'.2.2.2.2.2 ≤ M.2.2.2.2.2
theorem wsM_good (hm : KM M' n) : GoodIn gdW (wsM M') := fun w hw => by
  rcases List.mem_cons.mp hw with h1 | h1
  · rw [h1]; exact gd_good _ hm.1
  · exact gd_good w h1
theorem cat_sum {ad : Nat → Nat} : ∀ (st : List Vl), ((st.map (cv ad)).map (fun v => v.category)).sum ≤ 2 * st.length
  | [] => Nat.le_refl _
  | v :: st => by
    have h1 := cat_sum (ad := ad) st
    have h2 : (cv ad v).category ≤ 2 := cv_cat2
    simp only [List.map_cons, List.sum_cons, List.length_cons]
    omega
/-- what follows a call -/
theorem q_back {p : Program} {l : Launch} {e : Env} {R : Room} {s : State} {m : MethodId} {args : Array Value} {below : List Frame} {meth : Method} {c : Code} {D : va_G} {A : Nat → Prop} {ad : Nat → Nat} {H : Heap} {locs : List Loc} {cells slots : Nat} {lsr : Array Slot} {Z : State → Prop} {st1 : List Value} {ar : Array Value} {ca : Nat → ClassId}
    (hr : va_Run p l e R s m args below meth c H locs cells slots mc' ms' (F0 m pc lsr st1) (st.map (cv ad)) (QG Q' D (va_A (wd ad ca sh mem) H.size) ad sh.length ar) (va_A (wd ad ca sh mem) H.size))
    (hC : Cx M p R s m args meth c D) (w4 : va_D A (wd ad ca sh mem)) (w5 : va_S A s.heap H locs) (w6 : ∀ q : Nat, s.heap.size ≤ q → A q) (hX : Sc scr s A (ad 1000)) (hL : Lv ad M.2.2.1 sh.length lsr ls) (hst : ∀ v ∈ st, okv sh.length v) (h1 : cells + (mc' + mc) ≤ R.cells) (h2 : slots + (ms' + ms) ≤ R.slots)
    (hK : Kt M p l e R s m args below meth c D A (cells + (mc' + mc)) (slots + (ms' + ms)) Z Q ad sh.length)
    (kk : ∀ (r : Option Vl) (sh' : Sh) (mem' : Mem), Q' r sh' mem' → sh.length ≤ sh'.length → WP M scr mc ms Q (pc + 3) ls (r.toList ++ st) sh' mem') : W p l e R s m args below meth c H locs cells slots Z (F0 m pc lsr st1) := by
  have hAA : ∀ q, va_A (wd ad ca sh mem) H.size q → A q := by
    intro q hq
    rcases hq with ⟨k, e, hk⟩ | hq
    · exact w4.2 k (q, e) hk
    · exact w6 q (Nat.le_trans w5.1 hq)
  refine av_call hr w5 (fun q _ h => hAA q h) hAA hAA (fun r sh' mem' ad' H1 locs1 hq hn hag hor hw hS1 => ?_)
  obtain ⟨ca', tys', x1, x2, x3, x4, x7, x8⟩ := hw
  have hmap : (r.map (cv ad')).toList ++ st.map (cv ad) = (r.toList ++ st).map (cv ad') := by
    rw [List.map_append, map_ag hag hst]
    cases r <;> rfl
  rw [hmap]
  rw [← Nat.add_assoc] at h1 h2
  refine kk r sh' mem' hq hn hC ⟨ca', tys', x1, x2, x3, x4, hS1, w6, x7, x8⟩ (by rw [hag 1000 (Or.inr rfl)]; exact hX) (hL.ag hag hn) (fun v hv => ?_) h1 h2 ?_
  · rcases List.mem_append.mp hv with h3 | h3
    · exact hor v h3
    · exact okv_mono hn (hst v h3)
  · intro r2 sh2 mem2 ad2 H2 locs2 pc2 lsr2 g1 g2 g3 g4 g5 g6
    rw [Nat.add_assoc, Nat.add_assoc]
    exact hK r2 sh2 mem2 ad2 H2 locs2 pc2 lsr2 g1 (Nat.le_trans hn g2) (fun k hk => (g3 k (hk.elim (fun q => Or.inl (Nat.lt_of_lt_of_le q hn)) Or.inr)).trans (hag k hk)) g4 g5 g6
theorem pre_blind {D : va_G} {ad : Nat → Nat} {ca : Nat → ClassId} {tys : List (ClassId × FieldType)} {sz : Nat} : FrameBlind (PG D ad ca tys sz as sh mem) := by
  intro a U g mk q
  obtain ⟨q1, q2, q3, q4, q5, q6⟩ := q
  exact ⟨q1, q2, Nk.same (u := U) (U := U.calling g mk a) rfl q3, va_K.moved (u := U) (U := U.calling g mk a) (Vm.Alike.refl U.vm) q4, q5, q6⟩
theorem pre_at {s : State} {H : Heap} {D : va_G} {A : Nat → Prop} {ad : Nat → Nat} {ca : Nat → ClassId} {tys : List (ClassId × FieldType)} (hN : Nk s) (w1 : va_K D vwCl tys s) (w3 : va_P D vwCl (wd ad ca sh mem) H) (w4 : va_D A (wd ad ca sh mem)) : ∀ U : State, U.heap = H → s.WarmedH U.vm → PG D ad ca tys H.size as sh mem (as.map (cv ad)).toArray U :=
  fun U hU hW => ⟨rfl, by rw [hU], hN.warm hW, va_K.moved hW.alike w1, by rw [hU]; exact w3, w4.weaken (fun _ _ _ _ => trivial)⟩
theorem q_callV (hd : decode M.2.1 pc = .ok (.invokevirtual idx, 3)) (hm : KM M' n) (hiv : Cond.instanceMethod M'.1 ∈ gdW ∧ Cond.selects M'.1.cls M'.1 M'.1 ∈ gdW) (hl : Cond.methodLink M.1.cls idx M'.1 ∈ gdW) (hR : KR M M') (hs : sh[h]? = some (ci, n0, rs)) (hci : ci < 11 ∧ RA ci = M'.1.cls) (hn : as.length = n) (hst : as.reverse ++ vR h :: st = st0) (hlen : st.length ≤ 4) (hT : Tot M' mc' ms' (vR h :: as) sh mem Q') (hmc : mc' + mc = mcT) (hms : ms' + ms = msT)
    (kk : ∀ (r : Option Vl) (sh' : Sh) (mem' : Mem), Q' r sh' mem' → sh.length ≤ sh'.length → WP M scr mc ms Q (pc + 3) ls (r.toList ++ st) sh' mem') : WP M scr mcT msT Q pc ls st0 sh mem := by
  subst hst; subst hmc; subst hms
  intro p l e R s m args below meth c D A ad H locs cells slots lsr Z hC hW hX hL hst h1 h2 hK
  obtain ⟨ca, tys, w1, w2, w3, w4, w5, w6, w7, w8⟩ := id hW
  have hst' : ∀ v ∈ st, okv sh.length v := fun v hv => hst v (List.mem_append_right _ (List.mem_cons_of_mem _ hv))
  have has : ∀ v ∈ vR h :: as, okv sh.length v := okc (hst _ (List.mem_append_right _ List.mem_cons_self)) (fun v hv => hst v (List.mem_append_left _ (List.mem_reverse.mpr hv)))
  have hM := hT l D ad ca tys H.size w2 w7 w8 has
  have hsum := cat_sum (ad := ad) st
  have hG : GoodIn gdW (wsV M.1.cls idx M'.1.cls M'.1 (wsM M')) := by
    intro w hw
    unfold wsV at hw
    rcases List.mem_append.mp hw with h3 | h3
    · simp only [List.mem_cons, List.not_mem_nil, or_false] at h3
      rcases h3 with h3 | h3 | h3 | h3
      · rw [h3]; exact gd_good _ hl
      · rw [h3]; exact gd_good _ hiv.1
      · rw [h3]; exact gd_good _ hiv.2
      · rw [h3]; exact gd_good _ hm.2.1
    · exact wsM_good hm w h3
  have hre := va_recv w1 w3 (clA hci.1) (wd_obj (ad := ad) (ca := ca) (mem := mem) hs hci.1)
  rw [hci.2] at hre
  refine q_back (mc' := mc') (ms' := ms') (st := st) (Q' := Q') (va_runV (As := as.map (cv ad)) (rest := st.map (cv ad)) (b := ad h) ⟨hC.1, hC.2.1, hC.2.2.1, hC.2.2.2.2.2.1, hC.2.2.2.2.2.2.1⟩ hM (cwV n hC.2.2.2.2.2.2.1 hG rfl rfl rfl ⟨rfl, hm.2.2⟩ ⟨Nat.le_trans hR.1 hC.2.2.2.2.2.2.2.2.2.1, Nat.le_trans hR.2 hC.2.2.2.2.2.2.2.2.2.2.1⟩) ⟨pre_blind, hre, pre_at (as := vR h :: as) hC.2.2.2.2.2.2.2.1 w1 w3 w4⟩ rfl (by rw [List.length_map]; exact hn) hL.1 (by simp [List.map_append, List.map_reverse]; rfl) (lv_room (by omega)) hd ⟨by show cells + mc' ≤ R.cells; omega, by show slots + ms' ≤ R.slots; omega⟩) hC w4 w5 w6 hX hL hst' h1 h2 hK kk
theorem q_callS (hd : decode M.2.1 pc = .ok (.invokestatic idx, 3)) (hm : KM M' n) (hiv : Cond.static M'.1 ∈ gdW) (hl : Cond.methodLink M.1.cls idx M'.1 ∈ gdW) (hR : KR M M') (hn : as.length = n) (hst : as.reverse ++ st = st0) (hlen : st.length ≤ 4) (hT : Tot M' mc' ms' as sh mem Q') (hmc : mc' + mc = mcT) (hms : ms' + ms = msT)
    (kk : ∀ (r : Option Vl) (sh' : Sh) (mem' : Mem), Q' r sh' mem' → sh.length ≤ sh'.length → WP M scr mc ms Q (pc + 3) ls (r.toList ++ st) sh' mem') : WP M scr mcT msT Q pc ls st0 sh mem := by
  subst hst; subst hmc; subst hms
  intro p l e R s m args below meth c D A ad H locs cells slots lsr Z hC hW hX hL hst h1 h2 hK
  obtain ⟨ca, tys, w1, w2, w3, w4, w5, w6, w7, w8⟩ := id hW
  have hst' : ∀ v ∈ st, okv sh.length v := fun v hv => hst v (List.mem_append_right _ hv)
  have has : ∀ v ∈ as, okv sh.length v := fun v hv => hst v (List.mem_append_left _ (List.mem_reverse.mpr hv))
  have hM := hT l D ad ca tys H.size w2 w7 w8 has
  have hsum := cat_sum (ad := ad) st
  have hts := hC.2.2.2.2.2.2.1
  refine q_back (mc' := mc') (ms' := ms') (st := st) (Q' := Q') (va_runS (As := as.map (cv ad)) (rest := st.map (cv ad)) ⟨hC.1, hC.2.1, hC.2.2.1, hC.2.2.2.2.2.1, hts⟩ hM ⟨callB_of n hts (wsM_good hm) rfl rfl rfl (hts _ hm.2.1) (hts _ hl) hm.2.2 ⟨Nat.le_trans hR.1 hC.2.2.2.2.2.2.2.2.2.1, Nat.le_trans hR.2 hC.2.2.2.2.2.2.2.2.2.2.1⟩, hts _ hiv⟩ ⟨pre_blind, pre_at (as := as) hC.2.2.2.2.2.2.2.1 w1 w3 w4⟩ rfl (by rw [List.length_map]; exact hn) hL.1 (by simp [List.map_append, List.map_reverse]) (lv_room (by omega)) hd ⟨by show cells + mc' ≤ R.cells; omega, by show slots + ms' ≤ R.slots; omega⟩) hC w4 w5 w6 hX hL hst' h1 h2 hK kk
theorem q_callI (hd : decode M.2.1 pc = .ok (.invokespecial idx, 3)) (hm : KM M' n) (hiv : M'.1.name = "<init>" ∧ M'.2.2.2.1 = none ∧ Cond.instanceMethod M'.1 ∈ gdW) (hl : Cond.methodLink M.1.cls idx M'.1 ∈ gdW ∨ ∃ host, Cond.methodLinkNest M.1.cls idx M'.1 host ∈ lw_tbl) (hR : KR M M') (hn : as.length = n) (hst : as.reverse ++ vR h :: st = st0) (hlen : st.length ≤ 4) (hT : Tot M' mc' ms' (vR h :: as) sh mem Q') (hmc : mc' + mc = mcT) (hms : ms' + ms = msT)
    (kk : ∀ (r : Option Vl) (sh' : Sh) (mem' : Mem), Q' r sh' mem' → sh.length ≤ sh'.length → WP M scr mc ms Q (pc + 3) ls (r.toList ++ st) sh' mem') : WP M scr mcT msT Q pc ls st0 sh mem := by
  subst hst; subst hmc; subst hms
  intro p l e R s m args below meth c D A ad H locs cells slots lsr Z hC hW hX hL hst h1 h2 hK
  obtain ⟨ca, tys, w1, w2, w3, w4, w5, w6, w7, w8⟩ := id hW
  have hst' : ∀ v ∈ st, okv sh.length v := fun v hv => hst v (List.mem_append_right _ (List.mem_cons_of_mem _ hv))
  have has : ∀ v ∈ vR h :: as, okv sh.length v := okc (hst _ (List.mem_append_right _ List.mem_cons_self)) (fun v hv => hst v (List.mem_append_left _ (List.mem_reverse.mpr hv)))
  have hM := hT l D ad ca tys H.size w2 w7 w8 has
  have hsum := cat_sum (ad := ad) st
  have hts := hC.2.2.2.2.2.2.1
  have hw : wsM M' = Cond.code M'.1 M'.2.1 M'.2.2.1 none :: gdW := by rw [← hiv.2.1]
  have hRR : (rmM M' mc' ms').frames + 1 ≤ R.frames ∧ 8 + (M'.2.2.1 + 11) + (rmM M' mc' ms').locals ≤ R.locals := ⟨Nat.le_trans hR.1 hC.2.2.2.2.2.2.2.2.2.1, Nat.le_trans hR.2 hC.2.2.2.2.2.2.2.2.2.2.1⟩
  rcases hl with hl | ⟨host, hl⟩
  · refine q_back (mc' := mc') (ms' := ms') (st := st) (Q' := Q') (va_runI (As := as.map (cv ad)) (rest := st.map (cv ad)) (b := ad h) ⟨hC.1, hC.2.1, hC.2.2.1, hC.2.2.2.2.2.1, hts⟩ hM (cwI n hts (wsM_good hm) hw rfl rfl (hts _ hm.2.1) (hts _ hl) (hts _ hiv.2.2) hiv.1 hm.2.2 hRR) ⟨pre_blind, pre_at (as := vR h :: as) hC.2.2.2.2.2.2.2.1 w1 w3 w4⟩ rfl (by rw [List.length_map]; exact hn) hL.1 (by simp [List.map_append, List.map_reverse]; rfl) (lv_room (by omega)) hd ⟨by show cells + mc' ≤ R.cells; omega, by show slots + ms' ≤ R.slots; omega⟩) hC w4 w5 w6 hX hL hst' h1 h2 hK kk
  · refine q_back (mc' := mc') (ms' := ms') (st := st) (Q' := Q') (va_runIN (As := as.map (cv ad)) (rest := st.map (cv ad)) (b := ad h) ⟨hC.1, hC.2.1, hC.2.2.1, hC.2.2.2.2.2.1, hts⟩ hM ⟨va_cnB n hts (wsM_good hm) hw rfl rfl (hC.2.2.2.2.2.2.2.1 _ hl rfl) (hts _ hm.2.1) hm.2.2 hRR, hiv.1, hts _ hiv.2.2⟩ ⟨pre_blind, pre_at (as := vR h :: as) hC.2.2.2.2.2.2.2.1 w1 w3 w4⟩ rfl (by rw [List.length_map]; exact hn) hL.1 (by simp [List.map_append, List.map_reverse]; rfl) (lv_room (by omega)) hd ⟨by show cells + mc' ≤ R.cells; omega, by show slots + ms' ≤ R.slots; omega⟩) hC w4 w5 w6 hX hL hst' h1 h2 hK kk
end CA
