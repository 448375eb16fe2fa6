/-! THE RELATION, made anew -/
abbrev CH : List Nat := [0, 1, 2, 18, 19, 20, 21, 22, 23, 24, 26, 28, 29, 30, 31, 32, 33, 35, 36, 38, 39, 40, 42, 43]
abbrev MH : List Nat := [44, 48, 49, 50, 51, 52, 53, 54, 59, 60, 61, 62, 63, 64, 65, 66]
theorem moX_fr {a a' b b' : Mem} {ks ls : List Nat} (h : moX a b) (ha : Fr ks a a') (hb : Fr ls b b') (h18 : 18 ∉ ks := by decide) (h19 : 19 ∉ ks := by decide) (h20 : 20 ∉ ks := by decide) (h48 : 48 ∉ ls := by decide) : moX a' b' := by
  unfold moX at *
  rw [momV_fr ha h18 h19 h20, hb 48 h48]
  exact h
theorem paX_fr {a a' b b' : Mem} {ks ls : List Nat} (h : paX a b) (ha : Fr ks a a') (hb : Fr ls b b') (e : b' 44 11 = b 44 11) (h24 : 24 ∉ ks := by decide) (h26 : 26 ∉ ks := by decide) (h49 : 49 ∉ ls := by decide) : paX a' b' := by
  unfold paX at *
  rw [ha 24 h24, ha 26 h26, hb 49 h49, e]
  exact h
theorem imX_fr {a a' b b' : Mem} {ks ls : List Nat} (h : imX a b) (ha : Fr ks a a') (hb : Fr ls b b') (h24 : 28 ∉ ks := by decide) (h26 : 29 ∉ ks := by decide) (h49 : 50 ∉ ls := by decide) (h51 : 51 ∉ ls := by decide) : imX a' b' := by
  unfold imX at *
  rw [ha 28 h24, ha 29 h26, hb 50 h49, hb 51 h51]
  exact h
theorem heX_fr {a a' b b' : Mem} {ks ls : List Nat} (h : heX a b) (ha : Fr ks a a') (hb : Fr ls b b') (e : b' 44 14 = b 44 14) (h24 : 30 ∉ ks := by decide) (h26 : 31 ∉ ks := by decide) (h49 : 52 ∉ ls := by decide) : heX a' b' := by
  unfold heX hdC hdV mdC mdV at *
  rw [ha 30 h24, ha 31 h26, hb 52 h49, e]
  exact h
theorem tpX_fr {a a' b b' : Mem} {ks ls : List Nat} (h : tpX a b) (ha : Fr ks a a') (hb : Fr ls b b') (e : b' 44 16 = b 44 16) (h24 : 32 ∉ ks := by decide) (h26 : 33 ∉ ks := by decide) (h49 : 53 ∉ ls := by decide) : tpX a' b' := by
  unfold tpX tpC tpN tpT tpV mtC mtN mtT mtV at *
  rw [ha 32 h24, ha 33 h26, hb 53 h49, e]
  exact h
theorem txX_fr {a a' b b' : Mem} {ks ls : List Nat} (h : txX a b) (ha : Fr ks a a') (hb : Fr ls b b') (e : b' 44 20 = b 44 20) (h24 : 1 ∉ ks := by decide) (h26 : 2 ∉ ks := by decide) (h49 : 54 ∉ ls := by decide) : txX a' b' := by
  unfold txX at *
  rw [ha 1 h24, ha 2 h26, hb 54 h49, e]
  exact h
theorem trX_fr {K : Int} {a a' b b' : Mem} {ks : List Nat} (h : trX K a b) (ha : Fr ks a a') (e : b' 44 18 = b 44 18) (h0 : 0 ∉ ks := by decide) : trX (K + 1) a' b' := by
  unfold trX at *
  rw [ha 0 h0, e]
  omega
theorem vaX_fr {a a' b b' : Mem} {ks ls : List Nat} (h : vaX a b) (ha : Fr ks a a') (hb : Fr ls b b') (h4 : 4 ∉ ks := by decide) (h7 : 7 ∉ ks := by decide) (h8 : 8 ∉ ks := by decide) (h18 : 18 ∉ ks := by decide) (h19 : 19 ∉ ks := by decide) (h20 : 20 ∉ ks := by decide) (h24 : 24 ∉ ks := by decide) (h29 : 29 ∉ ks := by decide) (h49 : 49 ∉ ls := by decide) (h50 : 50 ∉ ls := by decide) : vaX a' b' := by
  obtain ⟨v1, v2, v3⟩ := h
  refine ⟨?_, fun q q1 q2 => ?_, fun i i0 i1 hi => ?_⟩
  · rw [mvK_fr ha h4 h7 h8, momV_fr ha h18 h19 h20]; exact v1
  · rw [ha 24 h24] at q2 ⊢
    rw [mvK_fr ha h4 h7 h8, hb 49 h49]
    exact v2 q q1 q2
  · rw [ha 29 h29] at hi
    rw [mvK_fr ha h4 h7 h8, hb 50 h50]
    exact v3 i i0 i1 hi
theorem txOK_fr {m m' : Mem} {ks : List Nat} (h : txOK m) (ha : Fr ks m m') (h1 : 1 ∉ ks := by decide) (h2 : 2 ∉ ks := by decide) : txOK m' := by
  unfold txOK at *
  rw [ha 1 h1, ha 2 h2]
  exact h
theorem thOK_fr {m m' : Mem} {ks : List Nat} (h : thOK m) (ha : Fr ks m m') (h1 : 36 ∉ ks := by decide) : thOK m' := by
  unfold thOK at *
  rw [ha 36 h1]
  exact h
theorem paOK_fr {m m' : Mem} {ks : List Nat} (h : paOK m) (ha : Fr ks m m') (h1 : 24 ∉ ks := by decide) (h2 : 25 ∉ ks := by decide) : paOK m' := by
  unfold paOK at *
  rw [ha 24 h1, ha 25 h2]
  exact h
theorem rel_mk {K K' : Int} {a b a' b' : Mem} (hR : RelX K a b) (hA : Fr CH a a') (hB : Fr MH b b') (h44 : ∀ k : Nat, k < 8 → b' 44 k = b 44 k) (t1 : thOK a') (t2 : paOK a') (t3 : heOK a') (t4 : tpOK a') (t5 : txOK a') (s3 : moX a' b') (s4 : paX a' b') (s5 : imX a' b') (s6 : heX a' b') (s7 : tpX a' b') (s8 : txX a' b') (s9 : trX K' a' b') (s10 : vaX a' b') : RelX K' a' b' ∧ Fr CK a a' ∧ Fr MK b b' := by
  obtain ⟨⟨⟨c1, c1', -, -⟩, c2, c3, c4, c5, c6, c7⟩, r2, -⟩ := hR
  refine ⟨⟨⟨⟨(hsD_fr hA).mpr c1, by rw [hA.at 4, hA.at 37]; exact c1', t1, t2⟩, t3, t4, t5, ?_, by rw [hA.at 12, hA.at 14, hA.at 16]; exact c6, by rw [hA.at 27]; exact c7⟩, ?_, s3, s4, s5, s6, s7, s8, s9, s10⟩, hA.mono (by decide), hB.mono (by decide)⟩
  · unfold cpK at *
    rw [hA.at 5, hA.at 7, hA.at 9]
    exact c5
  · unfold hsX at *
    rw [hA.at 4, hA.at 5, hA.at 6, hA.at 7, hA.at 8, hA.at 9, hA.at 10, h44 0 (by decide), h44 1 (by decide), h44 2 (by decide), h44 3 (by decide), h44 5 (by decide), h44 7 (by decide), hB.at 45, hB.at 46, hB.at 47]
    exact r2
theorem z_toBuy {s : Int} : cas (fun a v a' => tbQ a s v a') (fun b v b' => tbM b s v b') := by
  intro K a b a' b' v w hR hc hm
  have hR0 := hR
  have hok := (rel_ok hR).1
  obtain ⟨⟨⟨hh, -⟩, c2, c3, c4, -⟩, r2, r3, r4, r5, r6, r7, r8, r9, r10⟩ := hR0
  have h7 := hh.2.2.2.2.2.2.1
  have x5 := r2.2.1.2.1
  have hcond : (s = -9 ∨ ((0 ≤ s ∧ s < a 7 2) ∧ a 19 s.toNat = -9)) ↔ tbC b s := by
    unfold tbC
    rw [← x5]
    by_cases q : 0 ≤ s ∧ s < a 7 2
    · rw [(li_eq r3 q.1 (show s < 4 by omega)).1]
    · exact ⟨fun z => z.elim Or.inl (fun y => absurd y.1 q), fun z => z.elim Or.inl (fun y => absurd y.1 q)⟩
  have hset : ∀ r : Int, cdO a (12 * a 7 2) r ↔ cdE b r := by
    have hl0 : ∀ t : Int, 0 ≤ t → t < a 7 2 → liD a 19 t = li0M b t := by
      intro t t0 tn
      rw [li0_at, if_pos (by omega)]
      exact (li_eq r3 t0 (by omega)).1
    have hl1 : ∀ s c t : Int, 0 ≤ t → t < a 7 2 → fupd (liD a 19) s c t = fupd (li0M b) s c t := by
      intro s c t t0 tn
      unfold fupd
      by_cases e : t = s
      · rw [if_pos e, if_pos e]
      · rw [if_neg e, if_neg e, hl0 t t0 tn]
    have hl2 : ∀ s c u d t : Int, 0 ≤ t → t < a 7 2 → fupd (fupd (liD a 19) s c) u d t = fupd (fupd (li0M b) s c) u d t := by
      intro s c u d t t0 tn
      unfold fupd
      by_cases e : t = u
      · rw [if_pos e, if_pos e]
      · rw [if_neg e, if_neg e]
        exact hl1 s c t t0 tn
    have hr1 : ∀ s c : Int, 0 ≤ s → s < a 7 2 → r1F (shP a) s c = r1F (mP b) s c := by
      intro s c s0 sn
      unfold r1F
      rw [(sh_eq r2 s0 sn).2.2.2]
    have hc1 : ∀ s c : Int, c1P a s c ↔ c1M b s c := by
      intro s c
      unfold c1P c1M
      rw [← x5]
      constructor
      · rintro ⟨z1, z2, z3, z4⟩
        exact ⟨z1, z2, by rw [← (li_eq r3 z1.1 (show s < 4 by omega)).1]; exact z3, (leg_eq hh r2 hl0 z1.1 z1.2).mp z4⟩
      · rintro ⟨z1, z2, z3, z4⟩
        exact ⟨z1, z2, by rw [(li_eq r3 z1.1 (show s < 4 by omega)).1]; exact z3, (leg_eq hh r2 hl0 z1.1 z1.2).mpr z4⟩
    have hq1 : ∀ s c : Int, q1P a s c ↔ q1M b s c := by
      intro s c
      unfold q1P q1M
      rw [hc1, qz_eq hh r2 r3 hok.2.1 (hl1 s c)]
    have hq2 : ∀ s c t d : Int, q2P a s c t d ↔ q2M b s c t d := by
      intro s c t d
      unfold q2P q2M
      rw [hc1, ← x5]
      constructor
      · rintro ⟨z1, z2, z3, z4, z5, z6⟩
        have t0 : 0 ≤ t := by have := z1.1.1; omega
        exact ⟨z1, z2, z3, by rw [← (li_eq r3 t0 (show t < 4 by omega)).1]; exact z4, (leg_eq hh r2 (hl1 s c) t0 z2.2).mp z5, (qz_eq hh r2 r3 hok.2.1 (hl2 s c t d)).mp z6⟩
      · rintro ⟨z1, z2, z3, z4, z5, z6⟩
        have t0 : 0 ≤ t := by have := z1.1.1; omega
        exact ⟨z1, z2, z3, by rw [(li_eq r3 t0 (show t < 4 by omega)).1]; exact z4, (leg_eq hh r2 (hl1 s c) t0 z2.2).mpr z5, (qz_eq hh r2 r3 hok.2.1 (hl2 s c t d)).mpr z6⟩
    intro r
    unfold cdO cdE
    rw [qz_eq hh r2 r3 hok.2.1 hl0]
    constructor
    · rintro (z | ⟨s, c, z1, z2, z3⟩ | ⟨s, c, t, d, z1, z2, z3⟩)
      · exact Or.inl z
      · have y := z2.1.1
        exact Or.inr (Or.inl ⟨s, c, (hq1 s c).mp z2, by rw [z3, hr1 s c y.1 y.2]⟩)
      · have y := z2.1.1
        have y2 := z2.2.1
        exact Or.inr (Or.inr ⟨s, c, t, d, (hq2 s c t d).mp z2, by rw [z3, hr1 s c y.1 y.2, hr1 t d (by omega) y2.2]⟩)
    · rintro (z | ⟨s, c, z2, z3⟩ | ⟨s, c, t, d, z2, z3⟩)
      · exact Or.inl z
      · have z2' := (hq1 s c).mpr z2
        have y := z2'.1.1
        have y1 := z2'.1.2.1
        exact Or.inr (Or.inl ⟨s, c, by omega, z2', by rw [z3, hr1 s c y.1 y.2]⟩)
      · have z2' := (hq2 s c t d).mpr z2
        have y := z2'.1.1
        have y1 := z2'.1.2.1
        have y2 := z2'.2.1
        exact Or.inr (Or.inr ⟨s, c, t, d, by omega, z2', by rw [z3, hr1 s c y.1 y.2, hr1 t d (by omega) y2.2]⟩)
  have hrel : ∀ a' b' : Mem, Fr [35, 36, 38, 39, 40, 42] a a' → okD a' → bmF b b' → RelX (K + 1) a' b' ∧ Fr CK a a' ∧ Fr MK b b' := by
    intro a' b' hA ho hB
    exact rel_mk hR (hA.mono (by decide)) (hB.1.mono (by decide)) (fun k hk => hB.2 k (by omega)) ho.2.2.2.1 ho.2.2.2.2 (heOK_fr hA c2) (tpOK_fr hA c3) (txOK_fr c4 hA) (moX_fr r3 hA hB.1) (paX_fr r4 hA hB.1 (hB.2 11 (by decide))) (imX_fr r5 hA hB.1) (heX_fr r6 hA hB.1 (hB.2 14 (by decide))) (tpX_fr r7 hA hB.1 (hB.2 16 (by decide))) (txX_fr r8 hA hB.1 (hB.2 20 (by decide))) (trX_fr r9 hA (hB.2 18 (by decide))) (vaX_fr r10 hA hB.1)
  rcases hc with ⟨q, ⟨u, hu, e1⟩, hFa, hoa⟩ | ⟨q, e1, ea⟩ <;> rcases hm with ⟨p, ⟨u2, hu2, e2⟩, hFb⟩ | ⟨p, e2, eb⟩
  · refine ⟨?_, hrel a' b' hFa hoa hFb⟩
    rw [e1, e2, bsP_one hset hu hu2]
  · exact absurd (hcond.mp q) p
  · exact absurd (hcond.mpr p) q
  · rw [ea, eb]
    exact ⟨by rw [e1, e2], hrel a b Fr.rf hok bm_rf⟩
