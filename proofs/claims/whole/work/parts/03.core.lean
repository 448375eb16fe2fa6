/-! THE ABSTRACT MACHINE: cells by number, slots as whole numbers; one judgement WP over the kit's W, a rule an instruction. -/
abbrev Vl : Type := Int ⊕ (Nat ⊕ Int)
abbrev vI (z : Int) : Vl := .inl z
abbrev vR (k : Nat) : Vl := .inr (.inl k)
abbrev vJ (z : Int) : Vl := .inr (.inr z)
abbrev Mem : Type := Nat → Nat → Int
/-- a cell's kind (0 .. 10 the classes, 11 an array of ints, 12 of booleans), its length, its slots that are references (0: none, k + 1: cell k) -/
abbrev Sh : Type := List (Nat × Nat × List Nat)
abbrev inR (z : Int) : Prop := -2147483648 ≤ z ∧ z ≤ 2147483647
abbrev inL (z : Int) : Prop := -9223372036854775808 ≤ z ∧ z ≤ 9223372036854775807
def okv (n : Nat) : Vl → Prop
  | .inl z => inR z
  | .inr (.inl k) => k < n ∨ k = 1000
  | .inr (.inr z) => inL z
def cv (ad : Nat → Nat) : Vl → Value
  | .inl z => .int (Int32.ofInt z)
  | .inr (.inl k) => .ref (ad k)
  | .inr (.inr z) => .long (Int64.ofInt z)
def isJ : Vl → Bool
  | .inr (.inr _) => true
  | _ => false
def RA (c : Nat) : String := match c with
  | 0 => RX0 | 1 => RX1 | 2 => RX2 | 3 => RX3 | 4 => RX4 | 5 => RX5 | 6 => RX6 | 7 => RX7 | 8 => RX8 | 9 => RX9 | _ => RX10
def TA (c : Nat) : u_T := match c with
  | 0 => TX0 | 1 => TX1 | 2 => TX2 | 3 => TX3 | 4 => TX4 | 5 => TX5 | 6 => TX6 | 7 => TX7 | 8 => TX8 | 9 => TX9 | _ => TX10
def tyA (c : Nat) : Nat → FieldType := match c with
  | 0 => tyX0 | 1 => tyX1 | 2 => tyX2 | 3 => tyX3 | 4 => tyX4 | 5 => tyX5 | 6 => tyX6 | 7 => tyX7 | 8 => tyX8 | 9 => tyX9 | _ => tyX10
def nA (c : Nat) : Nat := match c with
  | 0 => 4 | 1 => 7 | 2 => 2 | 3 => 8 | 4 => 4 | 5 => 3 | 6 => 3 | 7 => 2 | 8 => 7 | 9 => 15 | _ => 43
theorem lt11 {c : Nat} (h : c < 11) : c = 0 ∨ c = 1 ∨ c = 2 ∨ c = 3 ∨ c = 4 ∨ c = 5 ∨ c = 6 ∨ c = 7 ∨ c = 8 ∨ c = 9 ∨ c = 10 := by omega
theorem clA {c : Nat} (h : c < 11) : vwCl[c]? = some (RA c, TA c, nA c) := by
  rcases lt11 h with rfl | rfl | rfl | rfl | rfl | rfl | rfl | rfl | rfl | rfl | rfl <;> rfl
def isNest : Cond → Bool
  | .fieldLinkNest .. => true
  | .methodLinkNest .. => true
  | _ => false
def gdW : List Cond := lw_tbl.filter goodWord
theorem gd_of {w : Cond} (h : w ∈ lw_tbl) (hg : goodWord w = true) : w ∈ gdW := List.mem_filter.mpr ⟨h, hg⟩
theorem gd_sub {ws : List Cond} (h : ∀ w ∈ ws, w ∈ lw_tbl) (hg : ws.all goodWord = true) : ∀ w ∈ ws, w ∈ gdW := fun w hw => gd_of (h w hw) (List.all_eq_true.mp hg w hw)
theorem gd_good : GoodIn gdW gdW := fun w h => ⟨h, good_of_word (List.mem_filter.mp h).2⟩
def Nk (s : State) : Prop := ∀ w ∈ lw_tbl, isNest w = true → va_Nw w s
theorem Nk.warm {s U : State} (hW : s.WarmedH U.vm) (h : Nk s) : Nk U := by
  intro w hw hn
  have h1 := h w hw hn
  cases w <;> first | exact va_Nw.warmF hW h1 | exact va_Nw.warmM hW h1 | simp [isNest] at hn
theorem Nk.same {u U : State} (hv : u.vm = U.vm) (h : Nk u) : Nk U := by
  intro w hw hn
  have h1 := h w hw hn
  have ho : w.onTables = true := by cases w <;> first | rfl | simp [isNest] at hn
  exact va_Nw.same ho hv h1
theorem inA0 : ∀ w ∈ wsX00, w ∈ gdW := gd_sub (by decide +kernel) (by decide +kernel)
theorem inA1 : ∀ w ∈ wsX10, w ∈ gdW := gd_sub (by decide +kernel) (by decide +kernel)
theorem inA2 : ∀ w ∈ wsX20, w ∈ gdW := gd_sub (by decide +kernel) (by decide +kernel)
theorem inA3 : ∀ w ∈ wsX30, w ∈ gdW := gd_sub (by decide +kernel) (by decide +kernel)
theorem inA4 : ∀ w ∈ wsX40, w ∈ gdW := gd_sub (by decide +kernel) (by decide +kernel)
theorem inA5 : ∀ w ∈ wsX50, w ∈ gdW := gd_sub (by decide +kernel) (by decide +kernel)
theorem inA6 : ∀ w ∈ wsX60, w ∈ gdW := gd_sub (by decide +kernel) (by decide +kernel)
theorem inA7 : ∀ w ∈ wsX70, w ∈ gdW := gd_sub (by decide +kernel) (by decide +kernel)
theorem inA8 : ∀ w ∈ wsX80, w ∈ gdW := gd_sub (by decide +kernel) (by decide +kernel)
theorem inA9 : ∀ w ∈ wsX90, w ∈ gdW := gd_sub (by decide +kernel) (by decide +kernel)
theorem inA10 : ∀ w ∈ wsX100, w ∈ gdW := gd_sub (by decide +kernel) (by decide +kernel)
theorem inA {c : Nat} (h : c < 11) : ∀ w ∈ u_ws (RA c) (TA c) (nA c), w ∈ gdW := by
  rcases lt11 h with rfl | rfl | rfl | rfl | rfl | rfl | rfl | rfl | rfl | rfl | rfl
  · exact inA0
  · exact inA1
  · exact inA2
  · exact inA3
  · exact inA4
  · exact inA5
  · exact inA6
  · exact inA7
  · exact inA8
  · exact inA9
  · exact inA10
theorem tyA_ok {c : Nat} (h : c < 11) : ∀ k, k < nA c → parseFieldDescriptor (TA c k).2.2.1 = some (tyA c k) := by
  rcases lt11 h with rfl | rfl | rfl | rfl | rfl | rfl | rfl | rfl | rfl | rfl | rfl
  · exact tyX0_ok
  · exact tyX1_ok
  · exact tyX2_ok
  · exact tyX3_ok
  · exact tyX4_ok
  · exact tyX5_ok
  · exact tyX6_ok
  · exact tyX7_ok
  · exact tyX8_ok
  · exact tyX9_ok
  · exact tyX10_ok
theorem nmA {c : Nat} (h : c < 11) : ∀ a, a < nA c → ∀ b, b < nA c → a ≠ b → (TA c a).2.1 ≠ (TA c b).2.1 := by
  rcases lt11 h with rfl | rfl | rfl | rfl | rfl | rfl | rfl | rfl | rfl | rfl | rfl
  · exact nmX0
  · exact nmX1
  · exact nmX2
  · exact nmX3
  · exact nmX4
  · exact nmX5
  · exact nmX6
  · exact nmX7
  · exact nmX8
  · exact nmX9
  · exact nmX10
def isIt : FieldType → Bool
  | .int => true
  | .boolean => true
  | _ => false
def isRt : FieldType → Bool
  | .object _ => true
  | .array _ => true
  | _ => false
def fv (ad : Nat → Nat) (ty : FieldType) (r : Nat) (z : Int) : Value :=
  if isIt ty then .int (Int32.ofInt z) else if isRt ty then (if r = 0 then .null else .ref (ad (r - 1))) else .long (Int64.ofInt z)
def okz (ty : FieldType) (z : Int) : Prop := if isIt ty then inR z else inL z
def sty (q : Nat × Nat × List Nat) (j : Nat) : FieldType := if q.1 < 11 then tyA q.1 j else .int
def okm (sh : Sh) (mem : Mem) : Prop := ∀ (k : Nat) (q : Nat × Nat × List Nat), sh[k]? = some q → ∀ j : Nat, okz (sty q j) (mem k j)
def okS (sh : Sh) : Prop := ∀ (k : Nat) (q : Nat × Nat × List Nat), sh[k]? = some q → ∀ r ∈ q.2.2, r ≤ sh.length
def wc (ad : Nat → Nat) (ca : Nat → ClassId) (mem : Mem) (k : Nat) (q : Nat × Nat × List Nat) : Nat × va_E :=
  (ad k, if q.1 < 11 then .inr (q.1, (List.range (nA q.1)).map (fun j => fv ad (tyA q.1 j) (q.2.2.getD j 0) (mem k j))) else .inl (ca k, q.2.1, .inl (fun j => Int32.ofInt (mem k j))))
def wd (ad : Nat → Nat) (ca : Nat → ClassId) (sh : Sh) (mem : Mem) : va_W := sh.mapIdx (fun k q => wc ad ca mem k q)
theorem wd_get {ad : Nat → Nat} {ca : Nat → ClassId} {sh : Sh} {mem : Mem} (k : Nat) : (wd ad ca sh mem)[k]? = (sh[k]?).map (wc ad ca mem k) := by
  simp [wd, List.getElem?_mapIdx]
theorem wd_len {ad : Nat → Nat} {ca : Nat → ClassId} {sh : Sh} {mem : Mem} : (wd ad ca sh mem).length = sh.length := by simp [wd]
/-- one cell changes -/
theorem wd_set {ad : Nat → Nat} {ca : Nat → ClassId} {sh sh' : Sh} {mem mem' : Mem} {k : Nat} {q : Nat × Nat × List Nat} (h : sh'[k]? = some q) (hs : ∀ j, j ≠ k → sh'[j]? = sh[j]?) (hl : sh'.length = sh.length) (hm : ∀ j, j ≠ k → mem' j = mem j) :
    (wd ad ca sh mem).set k (wc ad ca mem' k q) = wd ad ca sh' mem' := by
  apply List.ext_getElem?
  intro j
  have hk : k < sh.length := by rw [← hl]; exact (List.getElem?_eq_some_iff.mp h).1
  by_cases hj : j = k
  · subst hj
    rw [List.getElem?_set_self (by rw [wd_len]; exact hk), wd_get, h]; rfl
  · rw [List.getElem?_set_ne (Ne.symm hj), wd_get, wd_get, hs j hj]
    congr 1
    funext q'
    simp [wc, hm j hj]
/-- a cell comes -/
theorem wd_push {ad ad' : Nat → Nat} {ca ca' : Nat → ClassId} {sh : Sh} {mem mem' : Mem} {q : Nat × Nat × List Nat} (ho : okS sh) (ha : ∀ j, j < sh.length → ad' j = ad j) (hc : ∀ j, j < sh.length → ca' j = ca j) (hm : ∀ j, j < sh.length → mem' j = mem j) :
    wd ad' ca' (sh ++ [q]) mem' = wd ad ca sh mem ++ [wc ad' ca' mem' sh.length q] := by
  apply List.ext_getElem?
  intro j
  rw [wd_get]
  by_cases hj : j < sh.length
  · rw [List.getElem?_append_left hj, List.getElem?_append_left (by rw [wd_len]; exact hj), wd_get]
    cases hq : sh[j]? with
    | none => rfl
    | some q' =>
      have hr := ho j q' hq
      simp only [Option.map_some, Option.some.injEq, wc, ha j hj, hc j hj, hm j hj, Prod.mk.injEq, true_and]
      split
      · congr 2
        apply List.map_congr_left
        intro i _
        simp only [fv]
        split
        · rfl
        · split
          · split
            · rfl
            · rename_i h0
              have h1 : q'.2.2.getD i 0 ∈ q'.2.2 := by
                rw [List.getD_eq_getElem?_getD] at h0 ⊢
                cases hi : q'.2.2[i]? with
                | none => rw [hi] at h0; exact absurd rfl h0
                | some r => rw [Option.getD_some]; exact List.mem_of_getElem? hi
              have h2 := hr _ h1
              rw [ha _ (by omega)]
          · rfl
      · rfl
  · by_cases hj2 : j = sh.length
    · subst hj2
      rw [List.getElem?_append_right (Nat.le_refl _), List.getElem?_append_right (by rw [wd_len]; exact Nat.le_refl _), wd_len]
      simp
    · rw [List.getElem?_eq_none (by simp; omega), List.getElem?_eq_none (by simp [wd_len]; omega)]
      rfl
abbrev MD : Type := MethodName × ByteArray × Nat × Option FieldType × Nat × Nat
def aty (k : Nat) : FieldType := if k = 12 then .boolean else .int
def Cx (M : MD) (p : Program) (R : Room) (s : State) (m : MethodId) (args : Array Value) (meth : Method) (c : Code) (D : va_G) : Prop :=
  p.tables.exec = Jvm.exec ∧ c.code = M.2.1 ∧ c.maxLocals = M.2.2.1 ∧ meth.sig.returnType = M.2.2.2.1 ∧ meth.locks = false ∧ s.vm.findClass M.1.cls = some m.cls ∧ (∀ w ∈ gdW, w.before args s = true) ∧ Nk s ∧ (M.1.name = "<init>" → meth.name = "<init>") ∧ M.2.2.2.2.1 ≤ R.frames ∧ M.2.2.2.2.2 ≤ R.locals ∧ (∀ (k : Nat) (q : vw_C), vwCl[k]? = some q → u_Kn s q.1 q.2.1 q.2.2 (D.1 k) (D.2 k))
def Wl (D : va_G) (A : Nat → Prop) (H0 : Heap) (s : State) (ad : Nat → Nat) (H : Heap) (locs : List Loc) (sh : Sh) (mem : Mem) : Prop :=
  ∃ (ca : Nat → ClassId) (tys : List (ClassId × FieldType)), va_K D vwCl tys s ∧ (∀ (k : Nat) (q : Nat × Nat × List Nat), sh[k]? = some q → 11 ≤ q.1 → ∃ t : Nat, tys[t]? = some (ca k, aty q.1)) ∧ va_P D vwCl (wd ad ca sh mem) H ∧ va_D A (wd ad ca sh mem) ∧ va_S A H0 H locs ∧ (∀ q : Nat, H0.size ≤ q → A q) ∧ okS sh ∧ okm sh mem
def Sc (scr : Option (Nat × (Nat → Int32))) (s : State) (A : Nat → Prop) (b : Nat) : Prop := match scr with
  | none => True
  | some (L, xs) => va_X b L xs s s.heap ∧ b < s.heap.size ∧ ¬ A b
def Lv (ad : Nat → Nat) (nL n : Nat) (lsr : Array Slot) (ls : List Vl) : Prop :=
  lsr.size = nL ∧ lv_wf lsr ∧ ls.length = nL ∧ (∀ v ∈ ls, okv n v) ∧ ∀ (i : Nat) (v : Vl), ls[i]? = some v → isJ v = false → lsr[i]? = some (.val (cv ad v))
def retOK (M : MD) (pc : Nat) (r : Option Vl) : Prop :=
  (M.2.2.2.1 = none ∧ decode M.2.1 pc = .ok (.return_, 1) ∧ r = none) ∨
  (M.2.2.2.1 = some .int ∧ decode M.2.1 pc = .ok (.ireturn, 1) ∧ ∃ z, r = some (vI z)) ∨
  (M.2.2.2.1 = some .boolean ∧ decode M.2.1 pc = .ok (.ireturn, 1) ∧ ∃ z, r = some (vI z) ∧ (z = 0 ∨ z = 1)) ∨
  (M.2.2.2.1 = some .long ∧ decode M.2.1 pc = .ok (.lreturn, 1) ∧ ∃ z, r = some (vJ z))
def okr (n : Nat) (r : Option Vl) : Prop := ∀ v ∈ r.toList, okv n v
abbrev Po : Type := Option Vl → Sh → Mem → Prop
def Kt (M : MD) (p : Program) (l : Launch) (e : Env) (R : Room) (s : State) (m : MethodId) (args : Array Value) (below : List Frame) (meth : Method) (c : Code) (D : va_G) (A : Nat → Prop) (cells slots : Nat) (Z : State → Prop) (Q : Po) (ad : Nat → Nat) (n : Nat) : Prop :=
  ∀ (r : Option Vl) (sh' : Sh) (mem' : Mem) (ad' : Nat → Nat) (H' : Heap) (locs' : List Loc) (pc' : Nat) (lsr' : Array Slot), Q r sh' mem' → n ≤ sh'.length → (∀ k, (k < n ∨ k = 1000) → ad' k = ad k) → Wl D A s.heap s ad' H' locs' sh' mem' → retOK M pc' r → okr sh'.length r → W p l e R s m args below meth c H' locs' cells slots Z (F0 m pc' lsr' (r.toList.map (cv ad')))
def WP (M : MD) (scr : Option (Nat × (Nat → Int32))) (mc ms : Nat) (Q : Po) (pc : Nat) (ls st : List Vl) (sh : Sh) (mem : Mem) : Prop :=
  ∀ ⦃p : Program⦄ ⦃l : Launch⦄ ⦃e : Env⦄ ⦃R : Room⦄ ⦃s : State⦄ ⦃m : MethodId⦄ ⦃args : Array Value⦄ ⦃below : List Frame⦄ ⦃meth : Method⦄ ⦃c : Code⦄ ⦃D : va_G⦄ ⦃A : Nat → Prop⦄ ⦃ad : Nat → Nat⦄ ⦃H : Heap⦄ ⦃locs : List Loc⦄ ⦃cells slots : Nat⦄ ⦃lsr : Array Slot⦄ ⦃Z : State → Prop⦄,
    Cx M p R s m args meth c D → Wl D A s.heap s ad H locs sh mem → Sc scr s A (ad 1000) → Lv ad M.2.2.1 sh.length lsr ls → (∀ v ∈ st, okv sh.length v) → cells + mc ≤ R.cells → slots + ms ≤ R.slots →
    Kt M p l e R s m args below meth c D A (cells + mc) (slots + ms) Z Q ad sh.length →
    W p l e R s m args below meth c H locs cells slots Z (F0 m pc lsr (st.map (cv ad)))
/-- an instruction that leaves the heap -/
theorem WP.step {M : MD} {scr : Option (Nat × (Nat → Int32))} {mc ms : Nat} {Q : Po} {pc pc' : Nat} {ls ls' st st' : List Vl} {sh : Sh} {mem : Mem}
    (h : ∀ {p : Program} {l : Launch} {e : Env} {R : Room} {s : State} {m : MethodId} {args : Array Value} {below : List Frame} {meth : Method} {c : Code} {D : va_G} {A : Nat → Prop} {ad : Nat → Nat} {H : Heap} {locs : List Loc} {cells slots : Nat} {lsr : Array Slot} {Z : State → Prop},
      Cx M p R s m args meth c D → Wl D A s.heap s ad H locs sh mem → Sc scr s A (ad 1000) → Lv ad M.2.2.1 sh.length lsr ls → (∀ v ∈ st, okv sh.length v) →
      (∀ lsr', Lv ad M.2.2.1 sh.length lsr' ls' → (∀ v ∈ st', okv sh.length v) → W p l e R s m args below meth c H locs cells slots Z (F0 m pc' lsr' (st'.map (cv ad)))) →
      W p l e R s m args below meth c H locs cells slots Z (F0 m pc lsr (st.map (cv ad))))
    (k : WP M scr mc ms Q pc' ls' st' sh mem) : WP M scr mc ms Q pc ls st sh mem := by
  intro p l e R s m args below meth c D A ad H locs cells slots lsr Z hC hW hX hL hst h1 h2 hK
  exact h hC hW hX hL hst (fun lsr' hL' hst' => k hC hW hX hL' hst' h1 h2 hK)
