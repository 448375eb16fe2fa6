/-! HOW MUCH IS LOST ON THE BEST WAY: told by its two properties; there is one, and just one -/
/-- side by side, or one under another (cells row by row, w to a row) -/
def nbr (w a b : Int) : Prop := (a % w = b % w ∧ (a / w + 1 = b / w ∨ b / w + 1 = a / w)) ∨ (a / w = b / w ∧ (a % w + 1 = b % w ∨ b % w + 1 = a % w))
def stable (n w : Int) (ct : Int → Int → Int) (d : Int → Int) : Prop := ∀ a b : Int, 0 ≤ a → a < n → 0 ≤ b → b < n → nbr w a b → d b ≤ d a + ct a b
def tight (n w far : Int) (ct : Int → Int → Int) (f : Int) (d : Int → Int) : Prop := d f = 0 ∧ (∀ b : Int, 0 ≤ b → b < n → 0 ≤ d b ∧ d b ≤ far) ∧ ∀ b : Int, 0 ≤ b → b < n → b ≠ f → d b = far ∨ ∃ a : Int, 0 ≤ a ∧ a < n ∧ nbr w a b ∧ d a + ct a b ≤ d b
def isD (n w : Int) (ct : Int → Int → Int) (f : Int) (d : Int → Int) : Prop := d f = 0 ∧ (∀ b : Int, 0 ≤ b → b < n → 0 ≤ d b ∧ d b ≤ 1100) ∧ stable n w ct d ∧ ∀ b : Int, 0 ≤ b → b < n → b ≠ f → ∃ a : Int, 0 ≤ a ∧ a < n ∧ nbr w a b ∧ d a + ct a b ≤ d b
/-- what a step costs: between 1 and 50 -/
def costs (n : Int) (ct : Int → Int → Int) : Prop := ∀ a b : Int, 0 ≤ a → a < n → 0 ≤ b → b < n → 1 ≤ ct a b ∧ ct a b ≤ 50
def grid (n w : Int) : Prop := (w = 1 ∨ w = 2 ∨ w = 3 ∨ w = 4) ∧ (n = w ∨ n = 2 * w ∨ n = 3 * w)
theorem isD_le {n w : Int} {ct : Int → Int → Int} {f : Int} {d d' : Int → Int} (hc : costs n ct) (h : isD n w ct f d) (h' : isD n w ct f d') : ∀ (k : Nat) (b : Int), 0 ≤ b → b < n → (d' b).toNat ≤ k → d b ≤ d' b := by
  intro k
  induction k with
  | zero =>
    intro b b0 bn hk
    by_cases hb : b = f
    · rw [hb, h.1, h'.1]; exact Int.le_refl _
    · obtain ⟨a, a0, an, hn, ha⟩ := h'.2.2.2 b b0 bn hb
      have h1 := (hc a b a0 an b0 bn).1
      have h2 := (h'.2.1 a a0 an).1
      omega
  | succ k ih =>
    intro b b0 bn hk
    by_cases hb : b = f
    · rw [hb, h.1, h'.1]; exact Int.le_refl _
    · obtain ⟨a, a0, an, hn, ha⟩ := h'.2.2.2 b b0 bn hb
      have h1 := (hc a b a0 an b0 bn).1
      have h2 := (h'.2.1 a a0 an).1
      have h3 := ih a a0 an (by omega)
      have h4 := h.2.2.1 a b a0 an b0 bn hn
      omega
theorem isD_one {n w : Int} {ct : Int → Int → Int} {f : Int} {d d' : Int → Int} (hc : costs n ct) (h : isD n w ct f d) (h' : isD n w ct f d') (b : Int) (b0 : 0 ≤ b) (bn : b < n) : d b = d' b :=
  Int.le_antisymm (isD_le hc h h' _ b b0 bn (Nat.le_refl _)) (isD_le hc h' h _ b b0 bn (Nat.le_refl _))
/-- each cell but the first has one before it beside it -/
theorem nbr_back {n w a : Int} (hg : grid n w) (h0 : 0 < a) (hn : a < n) : ∃ a' : Int, 0 ≤ a' ∧ a' < a ∧ nbr w a' a ∧ nbr w a a' := by
  obtain ⟨hw, hh⟩ := hg
  by_cases h : a % w = 0
  · refine ⟨a - w, ?_, ?_, ?_, ?_⟩ <;> (rcases hw with rfl | rfl | rfl | rfl <;> (try unfold nbr) <;> omega)
  · refine ⟨a - 1, ?_, ?_, ?_, ?_⟩ <;> (rcases hw with rfl | rfl | rfl | rfl <;> (try unfold nbr) <;> omega)
theorem near0 {n w : Int} {ct : Int → Int → Int} {d : Int → Int} (hg : grid n w) (hc : costs n ct) (hs : stable n w ct d) : ∀ (k : Nat) (a : Int), 0 ≤ a → a < n → a.toNat ≤ k → d a ≤ d 0 + 50 * a ∧ d 0 ≤ d a + 50 * a := by
  intro k
  induction k with
  | zero =>
    intro a a0 an hk
    rw [show a = 0 by omega]
    omega
  | succ k ih =>
    intro a a0 an hk
    by_cases h : a = 0
    · rw [h]; omega
    · obtain ⟨a', h1, h2, h3, h4⟩ := nbr_back hg (by omega) an
      have i1 := ih a' h1 (by omega) (by omega)
      have i2 := hs a' a h1 (by omega) a0 an h3
      have i3 := hs a a' a0 an h1 (by omega) h4
      have i4 := (hc a' a h1 (by omega) a0 an).2
      have i5 := (hc a a' a0 an h1 (by omega)).2
      omega
theorem grid_n {n w : Int} (hg : grid n w) : 1 ≤ n ∧ n ≤ 12 := by
  obtain ⟨hw, hh⟩ := hg
  omega
theorem isD_of {n w far : Int} {ct : Int → Int → Int} {f : Int} {d : Int → Int} (hg : grid n w) (hc : costs n ct) (hf : 1100 < far) (f0 : 0 ≤ f) (fn : f < n) (ht : tight n w far ct f d) (hs : stable n w ct d) : isD n w ct f d := by
  have hn := grid_n hg
  have hle : ∀ b : Int, 0 ≤ b → b < n → d b ≤ 1100 := by
    intro b b0 bn
    have h1 := near0 hg hc hs _ b b0 bn (Nat.le_refl _)
    have h2 := near0 hg hc hs _ f f0 fn (Nat.le_refl _)
    have h3 := ht.1
    omega
  refine ⟨ht.1, fun b b0 bn => ⟨(ht.2.1 b b0 bn).1, hle b b0 bn⟩, hs, fun b b0 bn hb => ?_⟩
  rcases ht.2.2 b b0 bn hb with h | h
  · have := hle b b0 bn
    omega
  · exact h
/-- one cell is set lower -/
def dset (d : Int → Int) (b v : Int) : Int → Int := fun c => if c = b then v else d c
theorem tight_set {n w far : Int} {ct : Int → Int → Int} {f : Int} {d : Int → Int} (hc : costs n ct) (ht : tight n w far ct f d) {a b : Int} (a0 : 0 ≤ a) (an : a < n) (b0 : 0 ≤ b) (bn : b < n) (hn : nbr w a b) (hl : d a + ct a b < d b) : tight n w far ct f (dset d b (d a + ct a b)) := by
  have hab := hc a b a0 an b0 bn
  have ha := ht.2.1 a a0 an
  have hb := ht.2.1 b b0 bn
  have hbf : b ≠ f := by
    intro q
    have := ht.1
    rw [← q] at this
    omega
  refine ⟨?_, fun c c0 cn => ?_, fun c c0 cn hcf => ?_⟩
  · simp only [dset]
    rw [if_neg (Ne.symm hbf)]
    exact ht.1
  · simp only [dset]
    have := ht.2.1 c c0 cn
    split <;> omega
  · by_cases hcb : c = b
    · right
      refine ⟨a, a0, an, by rw [hcb]; exact hn, ?_⟩
      simp only [dset]
      have hne : a ≠ b := by
        intro q
        rw [q] at hn
        unfold nbr at hn
        omega
      rw [if_pos hcb, if_neg hne, hcb]
      omega
    · rcases ht.2.2 c c0 cn hcf with h | ⟨x, x0, xn, hx, hxc⟩
      · left
        simp only [dset]
        rw [if_neg hcb]
        exact h
      · right
        refine ⟨x, x0, xn, hx, ?_⟩
        simp only [dset]
        rw [if_neg hcb]
        split
        · rename_i q
          rw [q] at hxc
          rw [q]
          omega
        · exact hxc
def sumD (d : Int → Int) : Nat → Int
  | 0 => 0
  | k + 1 => sumD d k + d k
theorem sumD_set {d : Int → Int} {b v : Int} : ∀ (k : Nat), sumD (dset d b v) k = sumD d k + (if 0 ≤ b ∧ b < k then v - d b else 0)
  | 0 => by
    simp only [sumD]
    split <;> omega
  | k + 1 => by
    simp only [sumD]
    rw [sumD_set k]
    simp only [dset]
    by_cases h : (k : Int) = b
    · rw [if_pos h, ← h]
      have h1 : ¬ (0 ≤ (k : Int) ∧ (k : Int) < k) := by omega
      have h2 : 0 ≤ (k : Int) ∧ (k : Int) < ((k + 1 : Nat) : Int) := by omega
      rw [if_neg h1, if_pos h2]
      omega
    · rw [if_neg h]
      by_cases h2 : 0 ≤ b ∧ b < k
      · rw [if_pos h2, if_pos (by omega)]
        omega
      · rw [if_neg h2, if_neg (by omega)]
        omega
theorem sumD_nn {d : Int → Int} : ∀ (k : Nat), (∀ c : Int, 0 ≤ c → c < k → 0 ≤ d c) → 0 ≤ sumD d k
  | 0, _ => Int.le_refl _
  | k + 1, h => by
    have h1 := sumD_nn k (fun c c0 ck => h c c0 (by omega))
    have h2 := h k (by omega) (by omega)
    simp only [sumD]
    omega
theorem isD_ex {n w far : Int} {ct : Int → Int → Int} {f : Int} (hg : grid n w) (hc : costs n ct) (hf : 1100 < far) (f0 : 0 ≤ f) (fn : f < n) : ∀ (k : Nat) (d : Int → Int), tight n w far ct f d → (sumD d n.toNat).toNat ≤ k → ∃ d', isD n w ct f d' := by
  intro k
  have hn := grid_n hg
  induction k with
  | zero =>
    intro d ht hk
    by_cases hs : stable n w ct d
    · exact ⟨d, isD_of hg hc hf f0 fn ht hs⟩
    · simp only [stable, Classical.not_forall, not_imp] at hs
      obtain ⟨a, b, a0, an, b0, bn, hab, hl⟩ := hs
      have ht' := tight_set hc ht a0 an b0 bn hab (by omega)
      have h1 := sumD_nn n.toNat (fun c c0 cn => (ht'.2.1 c c0 (by omega)).1)
      rw [sumD_set, if_pos (by omega)] at h1
      omega
  | succ k ih =>
    intro d ht hk
    by_cases hs : stable n w ct d
    · exact ⟨d, isD_of hg hc hf f0 fn ht hs⟩
    · simp only [stable, Classical.not_forall, not_imp] at hs
      obtain ⟨a, b, a0, an, b0, bn, hab, hl⟩ := hs
      have ht' := tight_set hc ht a0 an b0 bn hab (by omega)
      refine ih _ ht' ?_
      rw [sumD_set, if_pos (by omega)]
      omega
theorem tight_0 {n w far : Int} {ct : Int → Int → Int} {f : Int} (hf : 0 ≤ far) : tight n w far ct f (fun c => if c = f then 0 else far) := by
  refine ⟨if_pos rfl, fun b _ _ => ?_, fun b _ _ hb => Or.inl (if_neg hb)⟩
  show 0 ≤ (if b = f then 0 else far) ∧ (if b = f then 0 else far) ≤ far
  split <;> omega
theorem dist_ex {n w : Int} {ct : Int → Int → Int} {f : Int} (hg : grid n w) (hc : costs n ct) (f0 : 0 ≤ f) (fn : f < n) : ∃ d, isD n w ct f d :=
  isD_ex hg hc (far := 10000) (by omega) f0 fn _ _ (tight_0 (by omega)) (Nat.le_refl _)
/-- THE LOSS from a cell to a cell -/
noncomputable def dist (n w : Int) (ct : Int → Int → Int) (f c : Int) : Int := (Classical.epsilon (fun d => isD n w ct f d)) c
theorem dist_isD {n w : Int} {ct : Int → Int → Int} {f : Int} (hg : grid n w) (hc : costs n ct) (f0 : 0 ≤ f) (fn : f < n) : isD n w ct f (dist n w ct f) := Classical.epsilon_spec (dist_ex hg hc f0 fn)
theorem dist_eq {n w : Int} {ct : Int → Int → Int} {f : Int} {d : Int → Int} (hg : grid n w) (hc : costs n ct) (f0 : 0 ≤ f) (fn : f < n) (h : isD n w ct f d) {c : Int} (c0 : 0 ≤ c) (cn : c < n) : d c = dist n w ct f c := isD_one hc h (dist_isD hg hc f0 fn) c c0 cn
theorem isD_congr {n w : Int} {ct ct' : Int → Int → Int} {f : Int} {d d' : Int → Int} (f0 : 0 ≤ f) (fn : f < n) (h : ∀ a b : Int, 0 ≤ a → a < n → 0 ≤ b → b < n → ct a b = ct' a b) (hd : ∀ c : Int, 0 ≤ c → c < n → d c = d' c) (hD : isD n w ct f d) : isD n w ct' f d' := by
  refine ⟨by rw [← hd f f0 fn]; exact hD.1, fun b b0 bn => by rw [← hd b b0 bn]; exact hD.2.1 b b0 bn, fun a b a0 an b0 bn hn => ?_, fun b b0 bn hb => ?_⟩
  · rw [← hd b b0 bn, ← hd a a0 an, ← h a b a0 an b0 bn]
    exact hD.2.2.1 a b a0 an b0 bn hn
  · obtain ⟨a, a0, an, hn, hl⟩ := hD.2.2.2 b b0 bn hb
    exact ⟨a, a0, an, hn, by rw [← hd b b0 bn, ← hd a a0 an, ← h a b a0 an b0 bn]; exact hl⟩
theorem dist_congr {n w : Int} {ct ct' : Int → Int → Int} {f : Int} (hg : grid n w) (hc : costs n ct) (f0 : 0 ≤ f) (fn : f < n) (h : ∀ a b : Int, 0 ≤ a → a < n → 0 ≤ b → b < n → ct a b = ct' a b) {c : Int} (c0 : 0 ≤ c) (cn : c < n) : dist n w ct f c = dist n w ct' f c := by
  have hc' : costs n ct' := fun a b a0 an b0 bn => by rw [← h a b a0 an b0 bn]; exact hc a b a0 an b0 bn
  exact dist_eq hg hc' f0 fn (isD_congr f0 fn h (fun _ _ _ => rfl) (dist_isD hg hc f0 fn)) c0 cn
/-! settling: a round of all steps settles one rank more -/
noncomputable def rk (d : Int → Int) (v : Int) : Nat → Nat
  | 0 => 0
  | k + 1 => rk d v k + (if d k < v then 1 else 0)
theorem rk_le {d : Int → Int} {v : Int} : ∀ (k : Nat), rk d v k ≤ k
  | 0 => Nat.le_refl _
  | k + 1 => by
    have := rk_le (d := d) (v := v) k
    simp only [rk]
    split <;> omega
theorem rk_mono {d : Int → Int} {u v : Int} (h : u ≤ v) : ∀ (k : Nat), rk d u k ≤ rk d v k
  | 0 => Nat.le_refl _
  | k + 1 => by
    have := rk_mono (d := d) h k
    simp only [rk]
    split <;> split <;> omega
theorem rk_lt {d : Int → Int} {u v : Int} (h : u ≤ v) {a : Int} (a0 : 0 ≤ a) (hu : u ≤ d a) (hv : d a < v) : ∀ (k : Nat), a < k → rk d u k < rk d v k
  | 0, hk => by omega
  | k + 1, hk => by
    simp only [rk]
    by_cases hak : a = k
    · have h1 := rk_mono (d := d) h k
      rw [← hak, if_neg (by omega), if_pos hv]
      omega
    · have h1 := rk_lt h a0 hu hv k (by omega)
      split <;> split <;> omega
