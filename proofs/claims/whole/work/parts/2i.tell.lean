/-! A TEXT TELLS A HOUSE: the class' tell -/
def fdN (c : Int) : Int := if c = 102 then 1 else if c = 103 then 2 else 4
def loF (f : Nat → Int) (c k : Int) : Int := if c = 110 then (if k = 3 then f 2 else if k = 1 then 1 else 0) else if c = 114 then (if k = 2 then f 1 else 0) else if c = 115 then (if k = 0 then 0 else 1) else 1
def hiF (c k n : Int) : Int := if c = 102 then 20 else if c = 103 then (if k = 0 then 4 else 3) else if c = 110 then (if k = 0 then n - 1 else if k = 1 then 99 else 23) else if c = 115 then (if k = 0 then 30 else if k = 3 then 9 else 3) else (if k = 0 then n - 1 else if k = 3 then 99 else 23)
def fset (f : Nat → Int) (k : Nat) (v : Int) : Nat → Int := fun j => if j = k then v else f j
/-- r numbers more and the end of an item, from a -/
def flP (L : Nat → Int) (n c cells : Int) : Nat → Nat → Int → (Nat → Int) → Int → Int → Int → (Nat → Int) → Prop
  | 0, _, a, f, ok, st, e, f' => ∃ K v : Int, tokP L n a K v st e ∧ f' = f ∧ ((K = 1 ∧ v = 59 ∧ ok = 1) ∨ (¬ (K = 1 ∧ v = 59) ∧ ok = 0))
  | r + 1, k, a, f, ok, st, e, f' => ∃ K v s e1 : Int, tokP L n a K v s e1 ∧ ((K = 2 ∧ (loF f c k ≤ v ∧ v ≤ hiF c k cells) ∧ flP L n c cells r (k + 1) e1 (fset f k v) ok st e f') ∨ (¬ (K = 2 ∧ loF f c k ≤ v ∧ v ≤ hiF c k cells) ∧ ok = 0 ∧ st = s))
theorem loF_lt {f f' : Nat → Int} {c : Int} {k : Nat} (h : ∀ j : Nat, j < k → f j = f' j) : loF f c k = loF f' c k := by
  unfold loF
  by_cases c1 : c = 110
  · rw [if_pos c1, if_pos c1]
    by_cases c2 : (k : Int) = 3
    · rw [if_pos c2, if_pos c2, h 2 (by omega)]
    · rw [if_neg c2, if_neg c2]
  · rw [if_neg c1, if_neg c1]
    by_cases c2 : c = 114
    · rw [if_pos c2, if_pos c2]
      by_cases c3 : (k : Int) = 2
      · rw [if_pos c3, if_pos c3, h 1 (by omega)]
      · rw [if_neg c3, if_neg c3]
    · rw [if_neg c2, if_neg c2]
theorem flP_one {L : Nat → Int} {n c cells : Int} : ∀ (r k : Nat) (a : Int) (f f2 : Nat → Int) (ok st e ok2 st2 e2 : Int) (g g2 : Nat → Int), (∀ j : Nat, j < k → f j = f2 j) → flP L n c cells r k a f ok st e g → flP L n c cells r k a f2 ok2 st2 e2 g2 → ok = ok2 ∧ st = st2 ∧ (ok = 1 → e = e2 ∧ ∀ j : Nat, j < k + r → g j = g2 j) := by
  intro r
  induction r with
  | zero =>
    intro k a f f2 ok st e ok2 st2 e2 g g2 hf h h2
    obtain ⟨K, v, ht, eg, hk⟩ := h
    obtain ⟨K2, v2, ht2, eg2, hk2⟩ := h2
    obtain ⟨eK, es, ee, ev⟩ := tok_one ht ht2
    subst eK
    refine ⟨?_, es, fun _ => ⟨ee, fun j hj => by rw [eg, eg2]; exact hf j hj⟩⟩
    rcases hk with ⟨a1, a2, a3⟩ | ⟨a1, a2⟩ <;> rcases hk2 with ⟨b1, b2, b3⟩ | ⟨b1, b2⟩
    · omega
    · exact absurd ⟨a1, by rw [← ev (Or.inl a1)]; exact a2⟩ b1
    · exact absurd ⟨b1, by rw [ev (Or.inl b1)]; exact b2⟩ a1
    · omega
  | succ r ih =>
    intro k a f f2 ok st e ok2 st2 e2 g g2 hf h h2
    obtain ⟨K, v, s, e1, ht, hk⟩ := h
    obtain ⟨K2, v2, s2, e12, ht2, hk2⟩ := h2
    obtain ⟨eK, es, ee, ev⟩ := tok_one ht ht2
    subst eK es ee
    have el := loF_lt (c := c) hf
    rcases hk with ⟨a1, a2, a3⟩ | ⟨a1, a2, a3⟩ <;> rcases hk2 with ⟨b1, b2, b3⟩ | ⟨b1, b2, b3⟩
    · have e := ev (Or.inr a1)
      subst e
      have := ih (k + 1) e1 (fset f k v) (fset f2 k v) _ _ _ _ _ _ _ _ (fun j hj => by
        unfold fset
        by_cases c : j = k
        · rw [if_pos c, if_pos c]
        · rw [if_neg c, if_neg c]
          exact hf j (by omega)) a3 b3
      refine ⟨this.1, this.2.1, fun z => ⟨(this.2.2 z).1, fun j hj => (this.2.2 z).2 j (by omega)⟩⟩
    · have e := ev (Or.inr a1)
      subst e
      rw [el] at a2
      exact absurd ⟨a1, a2⟩ b1
    · have e := ev (Or.inr b1)
      subst e
      rw [← el] at b2
      exact absurd ⟨b1, b2⟩ a1
    · exact ⟨by omega, by omega, fun z => by omega⟩
theorem flP_ok {L : Nat → Int} {n c cells : Int} : ∀ (r k : Nat) (a : Int) (f : Nat → Int) (ok st e : Int) (g : Nat → Int), (0 ≤ a ∧ a ≤ n) → flP L n c cells r k a f ok st e g → (ok = 0 ∨ ok = 1) ∧ (0 ≤ st ∧ st ≤ n) ∧ (ok = 1 → (0 ≤ e ∧ e ≤ n) ∧ (∀ j : Nat, j < k → g j = f j) ∧ ∀ j : Nat, k ≤ j → j < k + r → loF g c j ≤ g j ∧ g j ≤ hiF c j cells) := by
  intro r
  induction r with
  | zero =>
    intro k a f ok st e g ha h
    obtain ⟨K, v, ht, eg, hk⟩ := h
    have hb := tok_b ht ha.2
    refine ⟨by omega, by omega, fun z => ⟨by omega, fun j hj => by rw [eg], fun j j0 j1 => by omega⟩⟩
  | succ r ih =>
    intro k a f ok st e g ha h
    obtain ⟨K, v, s, e1, ht, hk⟩ := h
    have hb := tok_b ht ha.2
    rcases hk with ⟨a1, a2, a3⟩ | ⟨a1, a2, a3⟩
    · have h := ih (k + 1) e1 (fset f k v) ok st e g (by omega) a3
      refine ⟨h.1, h.2.1, fun z => ?_⟩
      obtain ⟨h1, h2, h3⟩ := h.2.2 z
      have hlow : ∀ j : Nat, j < k → g j = f j := fun j hj => by
        rw [h2 j (by omega)]
        unfold fset
        rw [if_neg (by omega)]
      refine ⟨h1, hlow, fun j j0 j1 => ?_⟩
      by_cases c1 : j = k
      · rw [c1, loF_lt (f' := f) hlow, h2 k (by omega)]
        unfold fset
        rw [if_pos rfl]
        exact a2
      · exact h3 j (by omega) (by omega)
    · exact ⟨by omega, by omega, fun z => by omega⟩
/-- a house as far as it is told -/
abbrev PS := Int × Int × Int × Int × Int × Int × Int × (Nat → Int) × (Nat → Int) × (Nat → Int)
def mkP (w h fa ft nn ns nr : Int) (N S R : Nat → Int) : PS := (w, h, fa, ft, nn, ns, nr, N, S, R)
def PS.w (P : PS) : Int := P.1
def PS.h (P : PS) : Int := P.2.1
def PS.fa (P : PS) : Int := P.2.2.1
def PS.ft (P : PS) : Int := P.2.2.2.1
def PS.nn (P : PS) : Int := P.2.2.2.2.1
def PS.ns (P : PS) : Int := P.2.2.2.2.2.1
def PS.nr (P : PS) : Int := P.2.2.2.2.2.2.1
def PS.N (P : PS) : Nat → Int := P.2.2.2.2.2.2.2.1
def PS.S (P : PS) : Nat → Int := P.2.2.2.2.2.2.2.2.1
def PS.R (P : PS) : Nat → Int := P.2.2.2.2.2.2.2.2.2
def addR (F : Nat → Int) (k : Int) (f : Nat → Int) : Nat → Int := fun e => if 4 * k ≤ e ∧ e < 4 * k + 4 then f (e - 4 * k).toNat else F e
def ent (c : Int) (f : Nat → Int) (P : PS) : PS := if c = 103 then mkP (f 0) (f 1) P.fa P.ft P.nn P.ns P.nr P.N P.S P.R else if c = 102 then mkP P.w P.h (f 0) 1 P.nn P.ns P.nr P.N P.S P.R else if c = 110 then mkP P.w P.h P.fa P.ft (P.nn + 1) P.ns P.nr (addR P.N P.nn f) P.S P.R else if c = 115 then mkP P.w P.h P.fa P.ft P.nn (P.ns + 1) P.nr P.N (addR P.S P.ns f) P.R else mkP P.w P.h P.fa P.ft P.nn P.ns (P.nr + 1) P.N P.S (addR P.R P.nr f)
def mayP (c i : Int) (P : PS) : Prop := (c = 103 ∧ i = 0) ∨ (c = 102 ∧ P.ft = 0) ∨ (c = 110 ∧ P.nn < 3) ∨ (c = 115 ∧ P.ns < 4) ∨ (c = 114 ∧ P.nr < 3)
def prP (L : Nat → Int) (n : Int) : Nat → Int → Int → PS → Int → PS → Prop
  | 0, _, _, _, _, _ => False
  | r + 1, i, a, P, ans, P' => ∃ K v s e : Int, tokP L n a K v s e ∧ ((K = 0 ∧ ans = i ∧ P' = P) ∨ ((K = 1 ∧ mayP v i P) ∧ ∃ (f : Nat → Int) (ok st e2 : Int) (g : Nat → Int), flP L n v (P.w * P.h) (fdN v).toNat 0 e f ok st e2 g ∧ ((ok = 1 ∧ prP L n r (i + 1) e2 (ent v g P) ans P') ∨ (ok = 0 ∧ ans = -10 - st))) ∨ ((K ≠ 0 ∧ ¬ (K = 1 ∧ mayP v i P)) ∧ ans = -10 - s))
def eqR (k : Int) (F G : Nat → Int) : Prop := ∀ e : Nat, (e : Int) < 4 * k → F e = G e
def eqP (P Q : PS) : Prop := P.w = Q.w ∧ P.h = Q.h ∧ P.fa = Q.fa ∧ P.ft = Q.ft ∧ P.nn = Q.nn ∧ P.ns = Q.ns ∧ P.nr = Q.nr ∧ eqR P.nn P.N Q.N ∧ eqR P.ns P.S Q.S ∧ eqR P.nr P.R Q.R
theorem eqR_add {k : Int} {F G f g : Nat → Int} (h : eqR k F G) (hf : ∀ j : Nat, j < 4 → f j = g j) : eqR (k + 1) (addR F k f) (addR G k g) := by
  intro e he
  unfold addR
  by_cases c : 4 * k ≤ e ∧ e < 4 * k + 4
  · rw [if_pos c, if_pos c]
    exact hf _ (by omega)
  · rw [if_neg c, if_neg c]
    exact h e (by omega)
theorem fdN_b {c : Int} : fdN c = (if c = 102 then 1 else if c = 103 then 2 else 4) ∧ 1 ≤ fdN c ∧ fdN c ≤ 4 := by
  unfold fdN
  refine ⟨rfl, ?_⟩
  split
  · omega
  · split <;> omega
theorem eqP_ent {c : Int} {f g : Nat → Int} {P Q : PS} (h : eqP P Q) (hf : ∀ j : Nat, j < (fdN c).toNat → f j = g j) : eqP (ent c f P) (ent c g Q) := by
  obtain ⟨h1, h2, h3, h4, h5, h6, h7, h8, h9, h10⟩ := h
  have hfd := (fdN_b (c := c)).1
  unfold ent
  by_cases c1 : c = 103
  · rw [if_pos c1, if_pos c1]
    rw [if_neg (by omega), if_pos c1] at hfd
    exact ⟨hf 0 (by omega), hf 1 (by omega), h3, h4, h5, h6, h7, h8, h9, h10⟩
  · rw [if_neg c1, if_neg c1]
    by_cases c2 : c = 102
    · rw [if_pos c2, if_pos c2]
      exact ⟨h1, h2, hf 0 (by rw [hfd, if_pos c2]; decide), rfl, h5, h6, h7, h8, h9, h10⟩
    · rw [if_neg c2, if_neg c2]
      rw [if_neg c2, if_neg c1] at hfd
      have hf4 : ∀ j : Nat, j < 4 → f j = g j := fun j hj => hf j (by omega)
      by_cases c3 : c = 110
      · rw [if_pos c3, if_pos c3]
        refine ⟨h1, h2, h3, h4, by show P.nn + 1 = Q.nn + 1; omega, h6, h7, ?_, h9, h10⟩
        show eqR (P.nn + 1) (addR P.N P.nn f) (addR Q.N Q.nn g)
        rw [← h5]
        exact eqR_add h8 hf4
      · rw [if_neg c3, if_neg c3]
        by_cases c4 : c = 115
        · rw [if_pos c4, if_pos c4]
          refine ⟨h1, h2, h3, h4, h5, by show P.ns + 1 = Q.ns + 1; omega, h7, h8, ?_, h10⟩
          show eqR (P.ns + 1) (addR P.S P.ns f) (addR Q.S Q.ns g)
          rw [← h6]
          exact eqR_add h9 hf4
        · rw [if_neg c4, if_neg c4]
          refine ⟨h1, h2, h3, h4, h5, h6, by show P.nr + 1 = Q.nr + 1; omega, h8, h9, ?_⟩
          show eqR (P.nr + 1) (addR P.R P.nr f) (addR Q.R Q.nr g)
          rw [← h7]
          exact eqR_add h10 hf4
theorem mayP_eq {c i : Int} {P Q : PS} (h : eqP P Q) : mayP c i P ↔ mayP c i Q := by
  obtain ⟨h1, h2, h3, h4, h5, h6, h7, -⟩ := h
  unfold mayP
  rw [h4, h5, h6, h7]
theorem prP_one {L : Nat → Int} {n : Int} : ∀ (r : Nat) (i a : Int) (P Q : PS) (x y : Int) (P' Q' : PS), 0 ≤ i → (0 ≤ a ∧ a ≤ n) → eqP P Q → prP L n r i a P x P' → prP L n r i a Q y Q' → x = y ∧ (0 ≤ x → eqP P' Q') := by
  intro r
  induction r with
  | zero => intro i a P Q x y P' Q' _ _ _ h; exact h.elim
  | succ r ih =>
    intro i a P Q x y P' Q' hi ha hq h h2
    obtain ⟨K, v, s, e, ht, hk⟩ := h
    obtain ⟨K2, v2, s2, e2, ht2, hk2⟩ := h2
    obtain ⟨eK, es, ee, ev⟩ := tok_one ht ht2
    subst eK es ee
    have hb := tok_b ht ha.2
    rcases hk with ⟨a1, a2, a3⟩ | ⟨⟨a1, a2⟩, f, ok, st, e3, g, a3, a4⟩ | ⟨⟨a1, a2⟩, a3⟩
    · rcases hk2 with ⟨b1, b2, b3⟩ | ⟨⟨b1, b2⟩, b3⟩ | ⟨⟨b1, b2⟩, b3⟩
      · exact ⟨by omega, fun _ => by rw [a3, b3]; exact hq⟩
      · omega
      · exact absurd a1 b1
    · have e := ev (Or.inl a1)
      subst e
      rcases hk2 with ⟨b1, b2, b3⟩ | ⟨⟨b1, b2⟩, f2, ok2, st2, e32, g2, b3, b4⟩ | ⟨⟨b1, b2⟩, b3⟩
      · omega
      · rw [← hq.1, ← hq.2.1] at b3
        obtain ⟨q1, q2, q3⟩ := flP_one _ 0 _ _ _ _ _ _ _ _ _ _ _ (fun j hj => by omega) a3 b3
        have ho := flP_ok _ 0 _ _ _ _ _ _ (by omega) a3
        rcases a4 with ⟨c1, c2⟩ | ⟨c1, c2⟩ <;> rcases b4 with ⟨d1, d2⟩ | ⟨d1, d2⟩
        · have q4 := q3 c1
          rw [← q4.1] at d2
          exact ih _ _ _ _ _ _ _ _ (by omega) (ho.2.2 c1).1 (eqP_ent hq (fun j hj => q4.2 j (by omega))) c2 d2
        · omega
        · omega
        · exact ⟨by omega, fun z => by have := ho.2.1; omega⟩
      · exact absurd ⟨a1, (mayP_eq hq).mp a2⟩ b2
    · rcases hk2 with ⟨b1, b2, b3⟩ | ⟨⟨b1, b2⟩, b3⟩ | ⟨⟨b1, b2⟩, b3⟩
      · exact absurd b1 a1
      · have e := ev (Or.inl b1)
        subst e
        exact absurd ⟨b1, (mayP_eq hq).mpr b2⟩ a2
      · exact ⟨by omega, fun z => by omega⟩
/-- what is told can be -/
def psOK (i : Int) (P : PS) : Prop := ((P.w = 1 ∨ P.w = 2 ∨ P.w = 3 ∨ P.w = 4) ∧ (P.h = 1 ∨ P.h = 2 ∨ P.h = 3) ∧ (1 ≤ P.fa ∧ P.fa ≤ 20) ∧ (P.ft = 0 ∨ P.ft = 1)) ∧ ((0 ≤ P.nn ∧ P.nn ≤ 3) ∧ (0 ≤ P.ns ∧ P.ns ≤ 4) ∧ (0 ≤ P.nr ∧ P.nr ≤ 3) ∧ P.ft + P.nn + P.ns + P.nr ≤ i ∧ i ≤ 1 + P.ft + P.nn + P.ns + P.nr) ∧
  (∀ k : Nat, (k : Int) < P.nn → (0 ≤ P.N (4 * k) ∧ P.N (4 * k) < P.w * P.h) ∧ (1 ≤ P.N (4 * k + 1) ∧ P.N (4 * k + 1) ≤ 99) ∧ 0 ≤ P.N (4 * k + 2) ∧ P.N (4 * k + 2) ≤ P.N (4 * k + 3) ∧ P.N (4 * k + 3) ≤ 23) ∧
  (∀ k : Nat, (k : Int) < P.ns → (0 ≤ P.S (4 * k) ∧ P.S (4 * k) ≤ 30) ∧ (1 ≤ P.S (4 * k + 1) ∧ P.S (4 * k + 1) ≤ 3) ∧ (1 ≤ P.S (4 * k + 2) ∧ P.S (4 * k + 2) ≤ 3) ∧ 1 ≤ P.S (4 * k + 3) ∧ P.S (4 * k + 3) ≤ 9) ∧
  (∀ k : Nat, (k : Int) < P.nr → (0 ≤ P.R (4 * k) ∧ P.R (4 * k) < P.w * P.h) ∧ (0 ≤ P.R (4 * k + 1) ∧ P.R (4 * k + 1) ≤ P.R (4 * k + 2) ∧ P.R (4 * k + 2) ≤ 23) ∧ 0 ≤ P.R (4 * k + 3) ∧ P.R (4 * k + 3) ≤ 99)
theorem addR_old {F : Nat → Int} {n : Int} {f : Nat → Int} {e : Nat} (h : (e : Int) < 4 * n) : addR F n f e = F e := by
  unfold addR
  rw [if_neg (by omega)]
theorem addR_new {F : Nat → Int} {n : Int} {f : Nat → Int} {k j : Nat} (h : (k : Int) = n) (hj : j < 4) : addR F n f (4 * k + j) = f j := by
  unfold addR
  rw [if_pos (by omega)]
  congr 1
  omega
theorem psOK_ent {i c : Int} {g : Nat → Int} {P : PS} (h : psOK i P) (hm : mayP c i P) (hg : ∀ j : Nat, j < (fdN c).toNat → loF g c j ≤ g j ∧ g j ≤ hiF c j (P.w * P.h)) : psOK (i + 1) (ent c g P) := by
  obtain ⟨⟨h1, h2, h3, h4⟩, ⟨h5, h6, h7, h8, h8'⟩, h9, h10, h11⟩ := h
  rcases hm with ⟨e, m⟩ | ⟨e, m⟩ | ⟨e, m⟩ | ⟨e, m⟩ | ⟨e, m⟩
  · subst e
    have g0 := hg 0 (by decide)
    have g1 := hg 1 (by decide)
    simp [loF, hiF] at g0 g1
    have : ent 103 g P = mkP (g 0) (g 1) P.fa P.ft P.nn P.ns P.nr P.N P.S P.R := by unfold ent; rw [if_pos rfl]
    rw [this]
    refine ⟨⟨by show g 0 = 1 ∨ g 0 = 2 ∨ g 0 = 3 ∨ g 0 = 4; omega, by show g 1 = 1 ∨ g 1 = 2 ∨ g 1 = 3; omega, h3, h4⟩, ⟨h5, h6, h7, by show P.ft + P.nn + P.ns + P.nr ≤ i + 1; omega, by show i + 1 ≤ 1 + P.ft + P.nn + P.ns + P.nr; omega⟩, fun k hk => ?_, h10, fun k hk => ?_⟩
    · exact absurd hk (by show ¬ (k : Int) < P.nn; omega)
    · exact absurd hk (by show ¬ (k : Int) < P.nr; omega)
  · subst e
    have g0 := hg 0 (by decide)
    simp [loF, hiF] at g0
    have : ent 102 g P = mkP P.w P.h (g 0) 1 P.nn P.ns P.nr P.N P.S P.R := by unfold ent; rw [if_neg (by decide), if_pos rfl]
    rw [this]
    exact ⟨⟨h1, h2, g0, Or.inr rfl⟩, ⟨h5, h6, h7, by show 1 + P.nn + P.ns + P.nr ≤ i + 1; omega, by show i + 1 ≤ 1 + 1 + P.nn + P.ns + P.nr; omega⟩, h9, h10, h11⟩
  · subst e
    have g0 := hg 0 (by decide)
    have g1 := hg 1 (by decide)
    have g2 := hg 2 (by decide)
    have g3 := hg 3 (by decide)
    simp [loF, hiF] at g0 g1 g2 g3
    have : ent 110 g P = mkP P.w P.h P.fa P.ft (P.nn + 1) P.ns P.nr (addR P.N P.nn g) P.S P.R := by unfold ent; rw [if_neg (by decide), if_neg (by decide), if_pos rfl]
    rw [this]
    refine ⟨⟨h1, h2, h3, h4⟩, ⟨by show 0 ≤ P.nn + 1 ∧ P.nn + 1 ≤ 3; omega, h6, h7, by show P.ft + (P.nn + 1) + P.ns + P.nr ≤ i + 1; omega, by show i + 1 ≤ 1 + P.ft + (P.nn + 1) + P.ns + P.nr; omega⟩, fun k hk => ?_, h10, h11⟩
    have hk' : (k : Int) < P.nn + 1 := hk
    show (0 ≤ addR P.N P.nn g (4 * k) ∧ addR P.N P.nn g (4 * k) < P.w * P.h) ∧ (1 ≤ addR P.N P.nn g (4 * k + 1) ∧ addR P.N P.nn g (4 * k + 1) ≤ 99) ∧ 0 ≤ addR P.N P.nn g (4 * k + 2) ∧ addR P.N P.nn g (4 * k + 2) ≤ addR P.N P.nn g (4 * k + 3) ∧ addR P.N P.nn g (4 * k + 3) ≤ 23
    by_cases c : (k : Int) = P.nn
    · have e0 : addR P.N P.nn g (4 * k) = g 0 := addR_new (j := 0) c (by decide)
      rw [e0, addR_new (j := 1) c (by decide), addR_new (j := 2) c (by decide), addR_new (j := 3) c (by decide)]
      omega
    · rw [addR_old (by omega), addR_old (by omega), addR_old (by omega), addR_old (by omega)]
      exact h9 k (by omega)
  · subst e
    have g0 := hg 0 (by decide)
    have g1 := hg 1 (by decide)
    have g2 := hg 2 (by decide)
    have g3 := hg 3 (by decide)
    simp [loF, hiF] at g0 g1 g2 g3
    have : ent 115 g P = mkP P.w P.h P.fa P.ft P.nn (P.ns + 1) P.nr P.N (addR P.S P.ns g) P.R := by unfold ent; rw [if_neg (by decide), if_neg (by decide), if_neg (by decide), if_pos rfl]
    rw [this]
    refine ⟨⟨h1, h2, h3, h4⟩, ⟨h5, by show 0 ≤ P.ns + 1 ∧ P.ns + 1 ≤ 4; omega, h7, by show P.ft + P.nn + (P.ns + 1) + P.nr ≤ i + 1; omega, by show i + 1 ≤ 1 + P.ft + P.nn + (P.ns + 1) + P.nr; omega⟩, h9, fun k hk => ?_, h11⟩
    have hk' : (k : Int) < P.ns + 1 := hk
    show (0 ≤ addR P.S P.ns g (4 * k) ∧ addR P.S P.ns g (4 * k) ≤ 30) ∧ (1 ≤ addR P.S P.ns g (4 * k + 1) ∧ addR P.S P.ns g (4 * k + 1) ≤ 3) ∧ (1 ≤ addR P.S P.ns g (4 * k + 2) ∧ addR P.S P.ns g (4 * k + 2) ≤ 3) ∧ 1 ≤ addR P.S P.ns g (4 * k + 3) ∧ addR P.S P.ns g (4 * k + 3) ≤ 9
    by_cases c : (k : Int) = P.ns
    · have e0 : addR P.S P.ns g (4 * k) = g 0 := addR_new (j := 0) c (by decide)
      rw [e0, addR_new (j := 1) c (by decide), addR_new (j := 2) c (by decide), addR_new (j := 3) c (by decide)]
      omega
    · rw [addR_old (by omega), addR_old (by omega), addR_old (by omega), addR_old (by omega)]
      exact h10 k (by omega)
  · subst e
    have g0 := hg 0 (by decide)
    have g1 := hg 1 (by decide)
    have g2 := hg 2 (by decide)
    have g3 := hg 3 (by decide)
    simp [loF, hiF] at g0 g1 g2 g3
    have : ent 114 g P = mkP P.w P.h P.fa P.ft P.nn P.ns (P.nr + 1) P.N P.S (addR P.R P.nr g) := by unfold ent; rw [if_neg (by decide), if_neg (by decide), if_neg (by decide), if_neg (by decide)]
    rw [this]
    refine ⟨⟨h1, h2, h3, h4⟩, ⟨h5, h6, by show 0 ≤ P.nr + 1 ∧ P.nr + 1 ≤ 3; omega, by show P.ft + P.nn + P.ns + (P.nr + 1) ≤ i + 1; omega, by show i + 1 ≤ 1 + P.ft + P.nn + P.ns + (P.nr + 1); omega⟩, h9, h10, fun k hk => ?_⟩
    have hk' : (k : Int) < P.nr + 1 := hk
    show (0 ≤ addR P.R P.nr g (4 * k) ∧ addR P.R P.nr g (4 * k) < P.w * P.h) ∧ (0 ≤ addR P.R P.nr g (4 * k + 1) ∧ addR P.R P.nr g (4 * k + 1) ≤ addR P.R P.nr g (4 * k + 2) ∧ addR P.R P.nr g (4 * k + 2) ≤ 23) ∧ 0 ≤ addR P.R P.nr g (4 * k + 3) ∧ addR P.R P.nr g (4 * k + 3) ≤ 99
    by_cases c : (k : Int) = P.nr
    · have e0 : addR P.R P.nr g (4 * k) = g 0 := addR_new (j := 0) c (by decide)
      rw [e0, addR_new (j := 1) c (by decide), addR_new (j := 2) c (by decide), addR_new (j := 3) c (by decide)]
      omega
    · rw [addR_old (by omega), addR_old (by omega), addR_old (by omega), addR_old (by omega)]
      exact h11 k (by omega)
