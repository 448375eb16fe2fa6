/-! THE RELATION of the class' cells (in a) and the model's (in b) -/
abbrev CK : List Nat := [0, 1, 2, 3, 4, 5, 6, 7, 8, 9, 10, 11, 12, 13, 14, 15, 16, 17, 18, 19, 20, 21, 22, 23, 24, 25, 26, 27, 28, 29, 30, 31, 32, 33, 34, 35, 36, 37, 38, 39, 40, 41, 42, 43]
abbrev MK : List Nat := [44, 45, 46, 47, 48, 49, 50, 51, 52, 53, 54, 55, 56, 57, 58, 59, 60, 61, 62, 63, 64, 65, 66]
def hsX (a b : Mem) : Prop := (a 4 3 = b 44 0 ∧ a 4 4 = b 44 1 ∧ a 4 6 = b 44 2) ∧ (a 5 2 = b 44 3 ∧ a 7 2 = b 44 5 ∧ a 9 2 = b 44 7) ∧ eqR (a 5 2) (a 6) (b 45) ∧ eqR (a 7 2) (a 8) (b 46) ∧ eqR (a 9 2) (a 10) (b 47)
def moX (a b : Mem) : Prop := ∀ j : Int, 0 ≤ j → j < 10 → momV a j = b 48 j.toNat
def paX (a b : Mem) : Prop := a 24 2 = b 44 11 ∧ ∀ r j : Int, 1 ≤ r → r ≤ a 24 2 → 0 ≤ j → j < 10 → a 26 (10 * ((a 24 1 + 10 - r) % 10) + j).toNat = b 49 (10 * (a 24 2 - r) + j).toNat
def imX (a b : Mem) : Prop := (∀ i : Int, 0 ≤ i → i < 2 → a 29 i.toNat = b 51 i.toNat) ∧ ∀ i j : Int, 0 ≤ i → i < 2 → a 29 i.toNat ≠ 0 → 0 ≤ j → j < 10 → a 28 (10 * i + j).toNat = b 50 (10 * i + j).toNat
def heX (a b : Mem) : Prop := a 30 2 = b 44 14 ∧ ∀ i : Int, 0 ≤ i → i < a 30 2 → hdC a i = mdC b i ∧ hdV a i = mdV b i
def tpX (a b : Mem) : Prop := a 32 2 = b 44 16 ∧ ∀ i : Int, 0 ≤ i → i < a 32 2 → tpC a i = mtC b i ∧ tpN a i = mtN b i ∧ tpT a i = mtT b i ∧ tpV a i = mtV b i
def txX (a b : Mem) : Prop := a 1 2 = b 44 20 ∧ a 2 = b 54
def trX (K : Int) (a b : Mem) : Prop := a 0 14 = b 44 18 ∧ 0 ≤ a 0 14 ∧ a 0 14 ≤ 1000000 * K
/-- a moment (by its ten numbers) that can be -/
def mvK (a : Mem) (V : Int → Int) : Prop := (∀ s : Int, 0 ≤ s → s < 4 → (V (2 + s) = -9 ∨ (s < a 7 2 ∧ fitsAt (a 4 3) (a 4 4) (shW a s) (shL a s) (V (2 + s)))) ∧ 0 ≤ V (6 + s) ∧ V (6 + s) ≤ 10 * (24 * V 0 + V 1)) ∧
  (∀ s t x : Int, 0 ≤ s → s < 4 → 0 ≤ t → t < 4 → s ≠ t → V (2 + s) ≠ -9 → V (2 + t) ≠ -9 → cov (a 4 3) (shW a s) (shL a s) (V (2 + s)) x → cov (a 4 3) (shW a t) (shL a t) (V (2 + t)) x → False) ∧
  (0 ≤ V 0 ∧ V 0 ≤ 99) ∧ (0 ≤ V 1 ∧ V 1 ≤ 23)
theorem mvK_fr {ks : List Nat} {m m' : Mem} {V : Int → Int} (h : Fr ks m m') (h4 : 4 ∉ ks := by decide) (h7 : 7 ∉ ks := by decide) (h8 : 8 ∉ ks := by decide) : mvK m' V ↔ mvK m V := by
  unfold mvK shW shL
  rw [h 4 h4, h 7 h7, h 8 h8]
theorem mvK_cg {a : Mem} {V W : Int → Int} (h : ∀ j : Int, 0 ≤ j → j < 10 → V j = W j) : mvK a V ↔ mvK a W := by
  have key : ∀ {V W : Int → Int}, (∀ j : Int, 0 ≤ j → j < 10 → V j = W j) → mvK a V → mvK a W := by
    intro V W h ⟨h1, h2, h3, h4⟩
    refine ⟨fun s s0 s1 => ?_, fun s t x s0 s1 t0 t1 => ?_, ?_, ?_⟩
    · rw [← h (2 + s) (by omega) (by omega), ← h (6 + s) (by omega) (by omega), ← h 0 (by decide) (by decide), ← h 1 (by decide) (by decide)]
      exact h1 s s0 s1
    · rw [← h (2 + s) (by omega) (by omega), ← h (2 + t) (by omega) (by omega)]
      exact h2 s t x s0 s1 t0 t1
    · rw [← h 0 (by decide) (by decide)]; exact h3
    · rw [← h 1 (by decide) (by decide)]; exact h4
  exact ⟨key h, key (fun j j0 j1 => (h j j0 j1).symm)⟩
def clK (a : Mem) : Prop := (hsD a ∧ nextOK (a 4 5) (a 4 3) (a 37) ∧ thOK a ∧ paOK a) ∧ heOK a ∧ tpOK a ∧ txOK a ∧ cpK a ∧ (a 12 0 = 3 ∧ a 14 0 = 4 ∧ a 16 0 = 3) ∧ a 27 0 = 2
def vaX (a b : Mem) : Prop := mvK a (momV a) ∧ (∀ r : Int, 1 ≤ r → r ≤ a 24 2 → mvK a (fun j => b 49 (10 * (a 24 2 - r) + j).toNat)) ∧ ∀ i : Int, 0 ≤ i → i < 2 → a 29 i.toNat ≠ 0 → mvK a (fun j => b 50 (10 * i + j).toNat)
def RelX (K : Int) (a b : Mem) : Prop := clK a ∧ hsX a b ∧ moX a b ∧ paX a b ∧ imX a b ∧ heX a b ∧ tpX a b ∧ txX a b ∧ trX K a b ∧ vaX a b
theorem momV_fr {ks : List Nat} {m m' : Mem} (h : Fr ks m m') (h18 : 18 ∉ ks := by decide) (h19 : 19 ∉ ks := by decide) (h20 : 20 ∉ ks := by decide) : momV m' = momV m := by
  funext j
  unfold momV
  rw [h 18 h18, h 19 h19, h 20 h20]
theorem clK_fr {a a' : Mem} (h : Fr MK a a') (hc : clK a) : clK a' := by
  obtain ⟨⟨c1, c2, c3, c4⟩, h2, h3, h4, h5, h6, h7⟩ := hc
  refine ⟨⟨(hsD_fr h).mpr c1, by rw [h.at 4, h.at 37]; exact c2, by unfold thOK; rw [h.at 36]; exact c3, by unfold paOK; rw [h.at 24, h.at 25]; exact c4⟩, heOK_fr h h2, tpOK_fr h h3, ?_, ?_, by rw [h.at 12, h.at 14, h.at 16]; exact h6, by rw [h.at 27]; exact h7⟩
  · unfold txOK at *
    rw [h.at 1, h.at 2]
    exact h4
  · unfold cpK at *
    rw [h.at 5, h.at 7, h.at 9]
    exact h5
theorem RelX_a {K : Int} {a a' b : Mem} (h : Fr MK a a') (hR : RelX K a b) : RelX K a' b := by
  obtain ⟨r1, r2, r3, r4, r5, r6, r7, r8, r9, r10⟩ := hR
  refine ⟨clK_fr h r1, ?_, ?_, ?_, ?_, ?_, ?_, ?_, ?_, ?_⟩
  · unfold hsX at *
    rw [h.at 4, h.at 5, h.at 6, h.at 7, h.at 8, h.at 9, h.at 10]
    exact r2
  · unfold moX at *
    rw [momV_fr h]
    exact r3
  · unfold paX at *
    rw [h.at 24, h.at 26]
    exact r4
  · unfold imX at *
    rw [h.at 28, h.at 29]
    exact r5
  · unfold heX hdC hdV at *
    rw [h.at 30, h.at 31]
    exact r6
  · unfold tpX tpC tpN tpT tpV at *
    rw [h.at 32, h.at 33]
    exact r7
  · unfold txX at *
    rw [h.at 1, h.at 2]
    exact r8
  · unfold trX at *
    rw [h.at 0]
    exact r9
  · obtain ⟨v1, v2, v3⟩ := r10
    refine ⟨?_, fun q q1 q2 => ?_, fun i i0 i1 hi => ?_⟩
    · rw [mvK_fr h, momV_fr h]; exact v1
    · rw [h.at 24] at q2 ⊢
      rw [mvK_fr h]
      exact v2 q q1 q2
    · rw [h.at 29] at hi
      rw [mvK_fr h]
      exact v3 i i0 i1 hi
theorem RelX_b {K : Int} {a b b' : Mem} (h : Fr CK b b') (hR : RelX K a b) : RelX K a b' := by
  obtain ⟨r1, r2, r3, r4, r5, r6, r7, r8, r9, r10⟩ := hR
  refine ⟨r1, ?_, ?_, ?_, ?_, ?_, ?_, ?_, ?_, ?_⟩
  · unfold hsX at *
    rw [h.at 44, h.at 45, h.at 46, h.at 47]
    exact r2
  · unfold moX at *
    rw [h.at 48]
    exact r3
  · unfold paX at *
    rw [h.at 44, h.at 49]
    exact r4
  · unfold imX at *
    rw [h.at 50, h.at 51]
    exact r5
  · unfold heX mdC mdV at *
    rw [h.at 44, h.at 52]
    exact r6
  · unfold tpX mtC mtN mtT mtV at *
    rw [h.at 44, h.at 53]
    exact r7
  · unfold txX at *
    rw [h.at 44, h.at 54]
    exact r8
  · unfold trX at *
    rw [h.at 44]
    exact r9
  · unfold vaX at *
    rw [h.at 49, h.at 50]
    exact r10
theorem RelX_up {K : Int} {a b : Mem} (hR : RelX K a b) : RelX (K + 1) a b := by
  obtain ⟨r1, r2, r3, r4, r5, r6, r7, r8, r9, r10⟩ := hR
  refine ⟨r1, r2, r3, r4, r5, r6, r7, r8, ?_, r10⟩
  unfold trX at *
  omega
/-! what the relation gives -/
theorem mom_2 {m : Mem} {s : Int} (s0 : 0 ≤ s) (s1 : s < 4) : momV m (2 + s) = m 19 s.toNat ∧ momV m (6 + s) = m 20 s.toNat ∧ momV m 0 = m 18 2 ∧ momV m 1 = m 18 3 := by
  unfold momV
  rw [if_neg (by omega), if_neg (by omega), if_pos (by omega), if_neg (by omega), if_neg (by omega), if_neg (by omega), if_pos rfl, if_neg (by decide), if_pos rfl]
  refine ⟨?_, ?_, rfl, rfl⟩
  · congr 1; omega
  · congr 1; omega
theorem mv_mo {a : Mem} (hv : mvK a (momV a)) : moD a 19 20 ∧ thrOK a := by
  obtain ⟨h1, h2, h3, h4⟩ := hv
  have e := fun (s : Int) (s0 : 0 ≤ s) (s1 : s < 4) => mom_2 (m := a) s0 s1
  have e0 := e 0 (by decide) (by decide)
  rw [e0.2.2.1] at h3
  rw [e0.2.2.2] at h4
  refine ⟨⟨fun s s0 s1 => ?_, fun s t x s0 s1 t0 t1 => ?_⟩, fun s s0 s1 => ?_, h4, h3⟩
  · have q := h1 s s0 s1
    rw [(e s s0 s1).1, (e s s0 s1).2.1, e0.2.2.1, e0.2.2.2] at q
    exact ⟨q.1, q.2.1, by omega⟩
  · have q := h2 s t x s0 s1 t0 t1
    rw [(e s s0 s1).1, (e t t0 t1).1] at q
    exact q
  · have q := (h1 s s0 s1).2
    rw [(e s s0 s1).2.1, e0.2.2.1, e0.2.2.2] at q
    omega
theorem rel_ok {K : Int} {a b : Mem} (h : RelX K a b) : okD a ∧ thrOK a := by
  have hm := mv_mo h.2.2.2.2.2.2.2.2.2.1
  exact ⟨⟨h.1.1.1, hm.1, h.1.1.2.1, h.1.1.2.2.1, h.1.1.2.2.2⟩, hm.2⟩
theorem getF_at {f : Nat → Int} {n i j : Int} (i0 : 0 ≤ i) (i1 : i < n) (j0 : 0 ≤ j) (j1 : j < 4) : getF f n i j = f (4 * i + j).toNat := if_pos ⟨i0, i1, j0, j1⟩
theorem sh_eq {a b : Mem} (h : hsX a b) {s : Int} (s0 : 0 ≤ s) (sn : s < a 7 2) : shT a s = mT b s ∧ shW a s = mW b s ∧ shL a s = mL b s ∧ shP a s = mP b s := by
  have e := h.2.2.2.1
  unfold shT shW shL shP mT mW mL mP
  rw [getF_at s0 sn (by decide) (by decide), getF_at s0 sn (by decide) (by decide), getF_at s0 sn (by decide) (by decide), getF_at s0 sn (by decide) (by decide), Int.add_zero]
  exact ⟨e _ (by omega), e _ (by omega), e _ (by omega), e _ (by omega)⟩
theorem no_eq {a b : Mem} (h : hsX a b) {s : Int} (s0 : 0 ≤ s) (sn : s < a 5 2) : noC a s = mnC b s ∧ noS a s = mnS b s ∧ noA a s = mnA b s ∧ noB a s = mnB b s := by
  have e := h.2.2.1
  unfold noC noS noA noB mnC mnS mnA mnB
  rw [getF_at s0 sn (by decide) (by decide), getF_at s0 sn (by decide) (by decide), getF_at s0 sn (by decide) (by decide), getF_at s0 sn (by decide) (by decide), Int.add_zero]
  exact ⟨e _ (by omega), e _ (by omega), e _ (by omega), e _ (by omega)⟩
theorem ro_eq {a b : Mem} (h : hsX a b) {s : Int} (s0 : 0 ≤ s) (sn : s < a 9 2) : roC a s = mrC b s ∧ roA a s = mrA b s ∧ roB a s = mrB b s ∧ roM a s = mrM b s := by
  have e := h.2.2.2.2
  unfold roC roA roB roM mrC mrA mrB mrM
  rw [getF_at s0 sn (by decide) (by decide), getF_at s0 sn (by decide) (by decide), getF_at s0 sn (by decide) (by decide), getF_at s0 sn (by decide) (by decide), Int.add_zero]
  exact ⟨e _ (by omega), e _ (by omega), e _ (by omega), e _ (by omega)⟩
theorem n_eq {a b : Mem} (hh : hsD a) (h : hsX a b) : a 4 5 = nM b := by
  show a 4 5 = b 44 0 * b 44 1
  rw [hh.2.2.1, h.1.1, h.1.2.1]
theorem rel_hsM {a b : Mem} (hh : hsD a) (h : hsX a b) : hsM b := by
  have hn := n_eq hh h
  obtain ⟨h1, h2, -, h3, h4, h5, h6, h7, h8, h9, h10⟩ := hh
  have hx := h
  obtain ⟨⟨x1, x2, x3⟩, ⟨x4, x5, x6⟩, -⟩ := hx
  have hn' : a 4 5 = b 44 0 * b 44 1 := hn
  unfold hsM
  rw [← x1, ← x2, ← x3, ← x4, ← x5, ← x6]
  refine ⟨h1, h2, h3, h4, h5, h6, h7, fun i i0 i1 => ?_, fun i i0 i1 => ?_, fun i i0 i1 => ?_⟩
  · have e := no_eq h i0 i1
    rw [← e.1, ← e.2.1, ← e.2.2.1, ← e.2.2.2, x1, x2, ← hn']
    exact h8 i i0 i1
  · have e := sh_eq h i0 i1
    rw [← e.1, ← e.2.1, ← e.2.2.1, ← e.2.2.2]
    exact h9 i i0 i1
  · have e := ro_eq h i0 i1
    rw [← e.1, ← e.2.1, ← e.2.2.1, ← e.2.2.2, x1, x2, ← hn']
    exact h10 i i0 i1
theorem rel_m {K : Int} {a b : Mem} (h : RelX K a b) : hsM b ∧ moM b ∧ hmOK b ∧ tmOK b ∧ txM b ∧ (0 ≤ b 44 11 ∧ b 44 11 ≤ 10) ∧ (0 ≤ b 48 0 ∧ b 48 0 ≤ 99) ∧ (0 ≤ b 48 1 ∧ b 48 1 ≤ 23) ∧ ∀ s : Int, 0 ≤ s → s < b 44 5 → 0 ≤ b 48 (6 + s).toNat ∧ b 48 (6 + s).toNat ≤ 50000 := by
  obtain ⟨r1, r2, r3, r4, r5, r6, r7, r8, r9, r10⟩ := h
  have hh := r1.1.1
  have hm := rel_hsM hh r2
  have hn := n_eq hh r2
  have h5 := hm.2.2.2.2.2.1
  have hv := r10.1
  have v0 := r3 0 (by decide) (by decide)
  have v1 := r3 1 (by decide) (by decide)
  have hs : ∀ s : Int, 0 ≤ s → s < 4 → momV a (2 + s) = b 48 (2 + s).toNat ∧ momV a (6 + s) = b 48 (6 + s).toNat := fun s s0 s1 => ⟨r3 _ (by omega) (by omega), r3 _ (by omega) (by omega)⟩
  have hd : 0 ≤ b 48 0 ∧ b 48 0 ≤ 99 := by
    have := hv.2.2.1
    rw [v0] at this
    exact this
  have ho : 0 ≤ b 48 1 ∧ b 48 1 ≤ 23 := by
    have := hv.2.2.2
    rw [v1] at this
    exact this
  have hw : ∀ s : Int, 0 ≤ s → s < b 44 5 → 0 ≤ b 48 (6 + s).toNat ∧ b 48 (6 + s).toNat ≤ 50000 := by
    intro s s0 sn
    have q := (hv.1 s s0 (by omega)).2
    rw [(hs s s0 (by omega)).2, v0, v1] at q
    have e0 : b 48 (Int.toNat 0) = b 48 0 := rfl
    have e1 : b 48 (Int.toNat 1) = b 48 1 := rfl
    rw [e0, e1] at q
    omega
  refine ⟨hm, fun s s0 sn => ?_, ?_, ?_, ?_, ?_, hd, ho, hw⟩
  · have q := hv.1 s s0 (by omega)
    have x5 := r2.2.1.2.1
    have e := sh_eq r2 s0 (by omega)
    rw [(hs s s0 (by omega)).1, r2.1.1, r2.1.2.1, e.2.1, e.2.2.1] at q
    have q2 := hw s s0 sn
    refine ⟨?_, q2.1, by omega⟩
    rcases q.1 with w | w
    · exact Or.inl w
    · exact Or.inr w.2
  · obtain ⟨c1, c2⟩ := r6
    have c3 : a 30 0 = 4 ∧ 0 ≤ a 30 2 ∧ a 30 2 ≤ 4 := r1.2.1.1
    have c4 := r1.2.1.2
    refine ⟨by omega, fun i i0 i1 => ?_⟩
    rw [← c1] at i1
    rw [← (c2 i i0 i1).1, ← (c2 i i0 i1).2, ← hn]
    exact c4 i i0 i1
  · obtain ⟨c1, c2⟩ := r7
    have c3 : a 32 0 = 4 ∧ 0 ≤ a 32 2 ∧ a 32 2 ≤ 4 := r1.2.2.1.1
    have c4 := r1.2.2.1.2
    refine ⟨by omega, fun i i0 i1 => ?_⟩
    rw [← c1] at i1
    have e := c2 i i0 i1
    rw [← e.1, ← e.2.1, ← e.2.2.1, ← e.2.2.2, ← hn]
    exact c4 i i0 i1
  · have c := r1.2.2.2.1
    refine ⟨by have := c.1; have := r8.1; omega, fun i i0 i1 => ?_⟩
    rw [← r8.1] at i1
    rw [← r8.2]
    exact c.2 i i0 i1
  · have := r1.1.2.2.2.2.1
    have := r4.1
    omega
