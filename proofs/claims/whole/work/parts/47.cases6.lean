/-! THE LAW'S CASES: images, what is taken back -/
theorem z_keep {i : Int} : cas (fun a v a' => kpQ a i v a') (fun b v b' => kpM b i v b') := by
  intro K a b a' b' v w hR hc hm
  have hR0 := hR
  have hok := (rel_ok hR).1
  obtain ⟨⟨⟨hh, -⟩, c2, c3, c4, -⟩, r2, r3, r4, r5, r6, r7, r8, r9, r10⟩ := hR0
  rcases hc with ⟨q, e1, a3, h3, ea⟩ | ⟨q, e1, ea⟩ <;> rcases hm with ⟨p, e2, b3, ⟨hF3, hx3⟩, eb⟩ | ⟨p, e2, eb⟩
  · have hA : Fr [28, 29] a a' := by rw [ea]; exact (h3.1.mono (by decide)).set (by decide)
    have hB : Fr [50, 51] b b' := by rw [eb]; exact (hF3.mono (by decide)).set (by decide)
    have e44 : b' 44 = b 44 := hB.at 44
    have k29 : ∀ x : Int, 0 ≤ x → x < 2 → a' 29 x.toNat = if x = i then 1 else a 29 x.toNat := by
      intro x x0 x1
      rw [ea, mset_at]
      by_cases z : x = i
      · rw [if_pos ⟨rfl, by omega⟩, if_pos z]
      · rw [if_neg (by omega), if_neg z, h3.1.at 29]
    have k51 : ∀ x : Int, 0 ≤ x → x < 2 → b' 51 x.toNat = if x = i then 1 else b 51 x.toNat := by
      intro x x0 x1
      rw [eb, mset_at]
      by_cases z : x = i
      · rw [if_pos ⟨rfl, by omega⟩, if_pos z]
      · rw [if_neg (by omega), if_neg z, hF3.at 51]
    have k28 : ∀ x j : Int, 0 ≤ x → x < 2 → 0 ≤ j → j < 10 → a' 28 (10 * x + j).toNat = if x = i then momV a j else a 28 (10 * x + j).toNat := by
      intro x j x0 x1 j0 j1
      rw [ea, mset_ne 28 (by decide), h3.2 (10 * x + j) (by omega)]
      by_cases z : x = i
      · rw [if_pos (by omega), if_pos z, show 10 * x + j - 10 * i = j by omega]
      · rw [if_neg (by omega), if_neg z]
    have k50 : ∀ x j : Int, 0 ≤ x → x < 2 → 0 ≤ j → j < 10 → b' 50 (10 * x + j).toNat = if x = i then b 48 j.toNat else b 50 (10 * x + j).toNat := by
      intro x j x0 x1 j0 j1
      rw [eb, mset_ne 50 (by decide), hx3 (10 * x + j) (by omega)]
      by_cases z : x = i
      · rw [if_pos (by omega), if_pos z, show 10 * x + j - 10 * i = j by omega]
      · rw [if_neg (by omega), if_neg z]
    have hva : vaX a' b' := by
      obtain ⟨v1, v2, v3⟩ := r10
      refine ⟨by rw [mvK_fr hA, momV_fr hA]; exact v1, fun x q1 q2 => ?_, fun x x0 x1 hx => ?_⟩
      · rw [hA.at 24] at q2 ⊢
        rw [mvK_fr hA, hB.at 49]
        exact v2 x q1 q2
      · rw [mvK_fr hA]
        by_cases z : x = i
        · refine (mvK_cg (fun j j0 j1 => ?_)).mp v1
          rw [k50 x j x0 x1 j0 j1, if_pos z]
          exact r3 j j0 j1
        · rw [k29 x x0 x1, if_neg z] at hx
          refine (mvK_cg (fun j j0 j1 => ?_)).mp (v3 x x0 x1 hx)
          rw [k50 x j x0 x1 j0 j1, if_neg z]
    refine ⟨by rw [e1, e2]; exact (dh_eq r3).1, rel_mk hR (hA.mono (by decide)) (hB.mono (by decide)) (fun k hk => by rw [e44]) (thOK_fr hok.2.2.2.1 hA) (paOK_fr hok.2.2.2.2 hA) (heOK_fr hA c2) (tpOK_fr hA c3) (txOK_fr c4 hA) (moX_fr r3 hA hB) (paX_fr r4 hA hB (by rw [e44])) ⟨fun x x0 x1 => ?_, fun x j x0 x1 hx j0 j1 => ?_⟩ (heX_fr r6 hA hB (by rw [e44])) (tpX_fr r7 hA hB (by rw [e44])) (txX_fr r8 hA hB (by rw [e44])) (trX_fr r9 hA (by rw [e44])) hva⟩
    · rw [k29 x x0 x1, k51 x x0 x1, r5.1 x x0 x1]
    · rw [k28 x j x0 x1 j0 j1, k50 x j x0 x1 j0 j1]
      by_cases z : x = i
      · rw [if_pos z, if_pos z]; exact r3 j j0 j1
      · rw [if_neg z, if_neg z]
        rw [k29 x x0 x1, if_neg z] at hx
        exact r5.2 x j x0 x1 hx j0 j1
  · exact absurd q p
  · exact absurd p q
  · rw [ea, eb]
    exact ⟨by rw [e1, e2], rel_same hR hok (ks := []) (ls := []) Fr.rf Fr.rf⟩
theorem z_back {i : Int} : cas (fun a v a' => bkQ a i v a') (fun b v b' => bkM b i v b') := by
  intro K a b a' b' v w hR hc hm
  have hR0 := hR
  have hok := (rel_ok hR).1
  obtain ⟨⟨⟨hh, -⟩, c2, c3, c4, -⟩, r2, r3, r4, r5, r6, r7, r8, r9, r10⟩ := hR0
  rcases hc with ⟨q, hc⟩ | ⟨q, e1, ea⟩ <;> rcases hm with ⟨p, hm⟩ | ⟨p, e2, eb⟩
  · have e29 := r5.1 i q.1 (by omega)
    rcases hc with ⟨h0, e1, ea⟩ | ⟨h0, e1, a4, h4, ea⟩ <;> rcases hm with ⟨g0, e2, eb⟩ | ⟨g0, e2, hB, h44, h11, hx⟩
    · rw [ea, eb]
      exact ⟨by rw [e1, e2], rel_same hR hok (ks := []) (ls := []) Fr.rf Fr.rf⟩
    · omega
    · omega
    · have hA : Fr [18, 19, 20, 24] a a' := by rw [ea]; exact (h4.1.mono (by decide)).set (by decide)
      have hFm : Fr [24] a4 a' := by rw [ea]; exact Fr.rf.set (by decide)
      have km : ∀ j : Int, 0 ≤ j → j < 10 → momV a' j = a 28 (10 * i + j).toNat := fun j j0 j1 => by rw [momV_fr hFm]; exact h4.2 j j0 j1
      have kk : ∀ j : Int, 0 ≤ j → j < 10 → momV a' j = b' 48 j.toNat := fun j j0 j1 => by rw [km j j0 j1, hx j j0 j1]; exact r5.2 i j q.1 (by omega) h0 j0 j1
      have e242 : a' 24 2 = 0 := by rw [ea, mset_eq]
      have e241 : a' 24 1 = a 24 1 := by rw [ea, mset_at, if_neg (by omega), h4.1.at 24]
      have hx0 : a' 18 2 = momV a' 0 := rfl
      obtain ⟨v1, v2, v3⟩ := r10
      have hpa := hok.2.2.2.2
      refine ⟨?_, rel_mk hR (hA.mono (by decide)) (hB.mono (by decide)) (fun k hk => h44 k (by omega)) (thOK_fr hok.2.2.2.1 hA) ⟨by rw [e241]; exact hpa.1, by omega, by rw [hA.at 25]; exact hpa.2.2⟩ (heOK_fr hA c2) (tpOK_fr hA c3) (txOK_fr c4 hA) kk ⟨by omega, fun r j h1 h2 => by omega⟩ (imX_fr r5 hA hB) (heX_fr r6 hA hB (h44 14 (by decide))) (tpX_fr r7 hA hB (h44 16 (by decide))) (txX_fr r8 hA hB (h44 20 (by decide))) (trX_fr r9 hA (h44 18 (by decide))) ⟨?_, fun r h1 h2 => by omega, fun x x0 x1 hx' => ?_⟩⟩
      · rw [e1, e2, hx0]
        exact kk 0 (by decide) (by decide)
      · rw [mvK_fr hA]
        refine (mvK_cg (fun j j0 j1 => ?_)).mp (v3 i q.1 (by omega) h0)
        rw [kk j j0 j1, hx j j0 j1]
      · rw [hA.at 29] at hx'
        rw [mvK_fr hA, hB.at 50]
        exact v3 x x0 x1 hx'
  · exact absurd q p
  · exact absurd p q
  · rw [ea, eb]
    exact ⟨by rw [e1, e2], rel_same hR hok (ks := []) (ls := []) Fr.rf Fr.rf⟩
theorem z_undo : cas (fun a v a' => unQ a v a') (fun b v b' => unM b v b') := by
  intro K a b a' b' v w hR hc hm
  have hR0 := hR
  have hok := (rel_ok hR).1
  obtain ⟨⟨⟨hh, -⟩, c2, c3, c4, -⟩, r2, r3, r4, r5, r6, r7, r8, r9, r10⟩ := hR0
  have hpa := hok.2.2.2.2
  have hp1 := hpa.1
  have hp2 := hpa.2.1
  have hk := r4.1
  unfold unQ at hc
  unfold unM at hm
  by_cases q : a 24 2 = 0
  · rw [if_pos q] at hc
    rw [if_pos (by omega)] at hm
    rw [hc.2, hm.2]
    exact ⟨by rw [hc.1, hm.1], rel_same hR hok (ks := []) (ls := []) Fr.rf Fr.rf⟩
  · rw [if_neg q] at hc
    rw [if_neg (by omega)] at hm
    obtain ⟨e1, hA, f1, f2, fx⟩ := hc
    obtain ⟨e2, hB, h44, g11, gx⟩ := hm
    obtain ⟨v1, v2, v3⟩ := r10
    have hone : ∀ j : Int, 0 ≤ j → j < 10 → momV a' j = b' 48 j.toNat := by
      intro j j0 j1
      have := r4.2 1 j (by decide) (by omega) j0 j1
      rw [show a 24 1 + 10 - 1 = a 24 1 + 9 by omega] at this
      rw [fx j j0 j1, gx j j0 j1, this, hk]
    refine ⟨by omega, rel_mk hR (hA.mono (by decide)) (hB.mono (by decide)) (fun k hk => h44 k (by omega)) (thOK_fr hok.2.2.2.1 hA) ⟨by omega, by omega, by rw [hA.at 25]; exact hpa.2.2⟩ (heOK_fr hA c2) (tpOK_fr hA c3) (txOK_fr c4 hA) hone ⟨by omega, fun r j h1 h2 j0 j1 => ?_⟩ (imX_fr r5 hA hB) (heX_fr r6 hA hB (h44 14 (by decide))) (tpX_fr r7 hA hB (h44 16 (by decide))) (txX_fr r8 hA hB (h44 20 (by decide))) (trX_fr r9 hA (h44 18 (by decide))) ⟨?_, fun r h1 h2 => ?_, fun x x0 x1 hx' => ?_⟩⟩
    · have h := r4.2 (r + 1) j (by omega) (by omega) j0 j1
      rw [hA.at 26, hB.at 49, f1, f2, show ((a 24 1 + 9) % 10 + 10 - r) % 10 = (a 24 1 + 10 - (r + 1)) % 10 by omega, show a 24 2 - 1 - r = a 24 2 - (r + 1) by omega]
      exact h
    · rw [mvK_fr hA]
      refine (mvK_cg (fun j j0 j1 => ?_)).mp (v2 1 (by decide) (by omega))
      rw [hone j j0 j1, gx j j0 j1, hk]
    · rw [mvK_fr hA, hB.at 49, f2, show a 24 2 - 1 - r = a 24 2 - (r + 1) by omega]
      exact v2 (r + 1) (by omega) (by omega)
    · rw [hA.at 29] at hx'
      rw [mvK_fr hA, hB.at 50]
      exact v3 x x0 x1 hx'
/-! deeds -/
/-- behind remembering -/
theorem rem_st {K : Int} {a b a2 b2 : Mem} (hR : RelX K a b) (ha : remP a a2) (hb : reP b b2) : paOK a2 ∧ paX a2 b2 ∧ (∀ r : Int, 1 ≤ r → r ≤ a2 24 2 → mvK a (fun j => b2 49 (10 * (a2 24 2 - r) + j).toNat)) := by
  have hok := (rel_ok hR).1
  obtain ⟨-, r2, r3, r4, r5, r6, r7, r8, r9, r10⟩ := hR
  have hpa := hok.2.2.2.2
  have hp1 := hpa.1
  have hp2 := hpa.2.1
  have hk := r4.1
  obtain ⟨hA, f1, f2, fx⟩ := ha
  obtain ⟨hB, h44, g11, gx⟩ := hb
  have hk2 : a2 24 2 = b2 44 11 := by omega
  have hb49 : ∀ r j : Int, 1 ≤ r → r ≤ a2 24 2 → 0 ≤ j → j < 10 → b2 49 (10 * (a2 24 2 - r) + j).toNat = if r = 1 then b 48 j.toNat else b 49 (10 * (a 24 2 - (r - 1)) + j).toNat := by
    intro r j h1 h2 j0 j1
    rw [gx _ (by omega) (by omega)]
    by_cases z : r = 1
    · rw [if_neg (by omega), if_pos z]
      congr 1
      omega
    · rw [if_pos (by omega), if_neg z]
      congr 1
      split <;> omega
  refine ⟨⟨by omega, by omega, by rw [hA.at 25]; exact hpa.2.2⟩, ⟨hk2, fun r j h1 h2 j0 j1 => ?_⟩, fun r h1 h2 => ?_⟩
  · rw [hb49 r j h1 h2 j0 j1, fx _ (by omega), f1]
    by_cases z : r = 1
    · rw [if_pos (by omega), if_pos z, show 10 * (((a 24 1 + 1) % 10 + 10 - r) % 10) + j - 10 * a 24 1 = j by omega]
      exact r3 j j0 j1
    · rw [if_neg (by omega), if_neg z, show ((a 24 1 + 1) % 10 + 10 - r) % 10 = (a 24 1 + 10 - (r - 1)) % 10 by omega]
      exact r4.2 (r - 1) j (by omega) (by omega) j0 j1
  · by_cases z : r = 1
    · refine (mvK_cg (fun j j0 j1 => ?_)).mp r10.1
      rw [hb49 r j h1 h2 j0 j1, if_pos z]
      exact r3 j j0 j1
    · refine (mvK_cg (fun j j0 j1 => ?_)).mp (r10.2.1 (r - 1) (by omega) (by omega))
      rw [hb49 r j h1 h2 j0 j1, if_neg z]
/-- a deed: the present is remembered, then another -/
theorem deed_mk {K : Int} {a b a2 b2 a' b' : Mem} (hR : RelX K a b) (ha : remP a a2) (hb : reP b b2) (hA : Fr [18, 19, 20, 24, 26, 35, 36, 38, 39, 40] a a') (hB : Fr [44, 48, 49, 59, 60, 61, 62, 63] b b') (e24 : a' 24 = a2 24) (e26 : a' 26 = a2 26) (e44 : b' 44 = b2 44) (e49 : b' 49 = b2 49) (t1 : thOK a') (hm : moX a' b') (hv : mvK a (momV a')) : RelX (K + 1) a' b' ∧ Fr CK a a' ∧ Fr MK b b' := by
  obtain ⟨h1, h2, h3⟩ := rem_st hR ha hb
  have hR0 := hR
  have hok := (rel_ok hR).1
  obtain ⟨⟨⟨hh, -⟩, c2, c3, c4, -⟩, r2, r3, r4, r5, r6, r7, r8, r9, r10⟩ := hR0
  have h44 : ∀ k : Nat, k ≠ 11 → b' 44 k = b 44 k := fun k hk => by rw [e44]; exact hb.2.1 k hk
  refine rel_mk hR (hA.mono (by decide)) (hB.mono (by decide)) (fun k hk => h44 k (by omega)) t1 ⟨by rw [e24]; exact h1.1, by rw [e24]; exact h1.2.1, by rw [hA.at 25]; exact hok.2.2.2.2.2.2⟩ (heOK_fr hA c2) (tpOK_fr hA c3) (txOK_fr c4 hA) hm ?_ (imX_fr r5 hA hB) (heX_fr r6 hA hB (h44 14 (by decide))) (tpX_fr r7 hA hB (h44 16 (by decide))) (txX_fr r8 hA hB (h44 20 (by decide))) (trX_fr r9 hA (h44 18 (by decide))) ⟨(mvK_fr hA).mpr hv, fun r q1 q2 => ?_, fun x x0 x1 hx' => ?_⟩
  · unfold paX at *
    rw [e24, e26, e44, e49]
    exact h2
  · rw [e24] at q2 ⊢
    rw [mvK_fr hA, e49]
    exact h3 r q1 q2
  · rw [hA.at 29] at hx'
    rw [mvK_fr hA, hB.at 50]
    exact r10.2.2 x x0 x1 hx'
theorem mom_19 {m : Mem} {s z : Int} (s0 : 0 ≤ s) (s1 : s < 4) {j : Int} (j0 : 0 ≤ j) (j1 : j < 10) : momV (mset m 19 s.toNat z) j = if j = 2 + s then z else momV m j := by
  unfold momV
  rw [mset_ne 18 (by decide), mset_ne 20 (by decide), mset_at]
  by_cases c : j = 2 + s
  · rw [if_pos c, if_neg (by omega), if_neg (by omega), if_pos (by omega), if_pos ⟨rfl, by omega⟩]
  · rw [if_neg c]
    by_cases h0 : j = 0
    · rw [if_pos h0, if_pos h0]
    · rw [if_neg h0, if_neg h0]
      by_cases h1 : j = 1
      · rw [if_pos h1, if_pos h1]
      · rw [if_neg h1, if_neg h1]
        by_cases h6 : j < 6
        · rw [if_pos h6, if_pos h6, if_neg (by omega)]
        · rw [if_neg h6, if_neg h6]
theorem mom_20 {m : Mem} {s z : Int} (s0 : 0 ≤ s) (s1 : s < 4) {j : Int} (j0 : 0 ≤ j) (j1 : j < 10) : momV (mset m 20 s.toNat z) j = if j = 6 + s then z else momV m j := by
  unfold momV
  rw [mset_ne 18 (by decide), mset_ne 19 (by decide), mset_at]
  by_cases c : j = 6 + s
  · rw [if_pos c, if_neg (by omega), if_neg (by omega), if_neg (by omega), if_pos ⟨rfl, by omega⟩]
  · rw [if_neg c]
    by_cases h0 : j = 0
    · rw [if_pos h0, if_pos h0]
    · rw [if_neg h0, if_neg h0]
      by_cases h1 : j = 1
      · rw [if_pos h1, if_pos h1]
      · rw [if_neg h1, if_neg h1]
        by_cases h6 : j < 6
        · rw [if_pos h6, if_pos h6]
        · rw [if_neg h6, if_neg h6, if_neg (by omega)]
theorem z_lift {s : Int} : cas (fun a v a' => liQ a s v a') (fun b v b' => lfM2 b s v b') := by
  intro K a b a' b' v w hR hc hm
  have hR0 := hR
  have hok := (rel_ok hR).1
  obtain ⟨⟨⟨hh, -⟩, -⟩, r2, r3, -, -, -, -, -, -, r10⟩ := hR0
  have h7 := hh.2.2.2.2.2.2.1
  have x5 := r2.2.1.2.1
  unfold liQ at hc
  by_cases q : 0 ≤ s ∧ s < a 7 2
  · rw [if_pos q] at hc
    have s4 : s < 4 := by omega
    have hl := (li_eq r3 q.1 s4).1
    rcases hm with ⟨p, hm⟩ | ⟨p, -⟩
    · by_cases z : a 19 s.toNat = -9
      · rw [if_pos z] at hc
        rcases hm with ⟨-, e2, eb⟩ | ⟨y, -⟩
        · rw [hc.2, eb]
          exact ⟨by rw [hc.1, e2], rel_same hR hok (ks := []) (ls := []) Fr.rf Fr.rf⟩
        · exact absurd (by rw [← hl]; exact z) y
      · rw [if_neg z] at hc
        rcases hm with ⟨y, -⟩ | ⟨-, e2, b2, hb2, eb⟩
        · exact absurd (by rw [hl]; exact y) z
        · obtain ⟨e1, a2, ha2, ea⟩ := hc
          have hmm : ∀ j : Int, 0 ≤ j → j < 10 → momV a' j = if j = 2 + s then -9 else momV a j := by
            intro j j0 j1
            rw [ea, mom_19 q.1 s4 j0 j1, momV_fr ha2.1]
          have hFm : Fr [19] a2 a' := by rw [ea]; exact Fr.rf.set (by decide)
          have hA : Fr [18, 19, 20, 24, 26, 35, 36, 38, 39, 40] a a' := (ha2.1.mono (by decide)).tr (hFm.mono (by decide))
          have hFb : Fr [48] b2 b' := by rw [eb]; exact Fr.rf.set (by decide)
          refine ⟨by rw [e1, e2, hl], deed_mk hR ha2 hb2 hA ((hb2.1.mono (by decide)).tr (hFb.mono (by decide))) (hFm.at 24) (hFm.at 26) (hFb.at 44) (hFb.at 49) ?_ (fun j j0 j1 => ?_) ?_⟩
          · unfold thOK
            rw [hFm.at 36, ha2.1.at 36]
            exact hok.2.2.2.1
          · rw [hmm j j0 j1, eb, mset_at, hb2.1.at 48]
            by_cases c : j = 2 + s
            · rw [if_pos c, if_pos ⟨rfl, by omega⟩]
            · rw [if_neg c, if_neg (by omega)]
              exact r3 j j0 j1
          · obtain ⟨m1, m2, m3, m4⟩ := r10.1
            refine ⟨fun t t0 t1 => ?_, fun t u x t0 t1 u0 u1 htu ht hu => ?_, ?_, ?_⟩
            · rw [hmm (2 + t) (by omega) (by omega), hmm (6 + t) (by omega) (by omega), hmm 0 (by decide) (by decide), hmm 1 (by decide) (by decide), if_neg (show ¬ 6 + t = 2 + s by omega), if_neg (show ¬ (0 : Int) = 2 + s by omega), if_neg (show ¬ (1 : Int) = 2 + s by omega)]
              refine ⟨?_, (m1 t t0 t1).2⟩
              by_cases c : 2 + t = 2 + s
              · rw [if_pos c]; exact Or.inl rfl
              · rw [if_neg c]; exact (m1 t t0 t1).1
            · rw [hmm (2 + t) (by omega) (by omega)] at ht ⊢
              rw [hmm (2 + u) (by omega) (by omega)] at hu ⊢
              by_cases c : 2 + t = 2 + s
              · rw [if_pos c] at ht; exact absurd rfl ht
              · by_cases d : 2 + u = 2 + s
                · rw [if_pos d] at hu; exact absurd rfl hu
                · rw [if_neg c] at ht ⊢
                  rw [if_neg d] at hu ⊢
                  exact m2 t u x t0 t1 u0 u1 htu ht hu
            · rw [hmm 0 (by decide) (by decide), if_neg (by omega)]; exact m3
            · rw [hmm 1 (by decide) (by decide), if_neg (by omega)]; exact m4
    · exact absurd ⟨q.1, by omega⟩ p
  · rw [if_neg q] at hc
    rcases hm with ⟨p, -⟩ | ⟨-, e2, eb⟩
    · exact absurd ⟨p.1, by omega⟩ q
    · rw [hc.2, eb]
      exact ⟨by rw [hc.1, e2], rel_same hR hok (ks := []) (ls := []) Fr.rf Fr.rf⟩
theorem z_turn {s : Int} : cas (fun a v a' => tuQ a s v a') (fun b v b' => tuM b s v b') := by
  intro K a b a' b' v w hR hc hm
  have hR0 := hR
  have hok := (rel_ok hR).1
  obtain ⟨⟨⟨hh, -⟩, -⟩, r2, r3, -, -, -, -, -, -, r10⟩ := hR0
  have h7 := hh.2.2.2.2.2.2.1
  have x5 := r2.2.1.2.1
  unfold tuQ at hc
  by_cases q : 0 ≤ s ∧ s < a 7 2
  · rw [if_pos q] at hc
    have s4 : s < 4 := by omega
    have hl := (li_eq r3 q.1 s4).2
    rcases hm with ⟨p, e2, b2, hb2, eb⟩ | ⟨p, -⟩
    · obtain ⟨e1, a2, ha2, ea⟩ := hc
      have hmm : ∀ j : Int, 0 ≤ j → j < 10 → momV a' j = if j = 6 + s then a 20 s.toNat / 2 else momV a j := by
        intro j j0 j1
        rw [ea, mom_20 q.1 s4 j0 j1, momV_fr ha2.1]
      have hFm : Fr [20] a2 a' := by rw [ea]; exact Fr.rf.set (by decide)
      have hA : Fr [18, 19, 20, 24, 26, 35, 36, 38, 39, 40] a a' := (ha2.1.mono (by decide)).tr (hFm.mono (by decide))
      have hFb : Fr [48] b2 b' := by rw [eb]; exact Fr.rf.set (by decide)
      have h6 := (mom_2 (m := a) q.1 s4).2.1
      refine ⟨by rw [e1, e2, hl], deed_mk hR ha2 hb2 hA ((hb2.1.mono (by decide)).tr (hFb.mono (by decide))) (hFm.at 24) (hFm.at 26) (hFb.at 44) (hFb.at 49) ?_ (fun j j0 j1 => ?_) ?_⟩
      · unfold thOK
        rw [hFm.at 36, ha2.1.at 36]
        exact hok.2.2.2.1
      · rw [hmm j j0 j1, eb, mset_at, hb2.1.at 48]
        by_cases c : j = 6 + s
        · rw [if_pos c, if_pos ⟨rfl, by omega⟩, hl]
        · rw [if_neg c, if_neg (by omega)]
          exact r3 j j0 j1
      · obtain ⟨m1, m2, m3, m4⟩ := r10.1
        refine ⟨fun t t0 t1 => ?_, fun t u x t0 t1 u0 u1 htu ht hu => ?_, ?_, ?_⟩
        · have h := m1 t t0 t1
          rw [hmm (2 + t) (by omega) (by omega), hmm (6 + t) (by omega) (by omega), hmm 0 (by decide) (by decide), hmm 1 (by decide) (by decide), if_neg (show ¬ 2 + t = 6 + s by omega), if_neg (show ¬ (0 : Int) = 6 + s by omega), if_neg (show ¬ (1 : Int) = 6 + s by omega)]
          refine ⟨h.1, ?_⟩
          by_cases c : 6 + t = 6 + s
          · have ets : t = s := by omega
            have h2 := h.2
            rw [ets, h6] at h2
            rw [if_pos c]
            omega
          · rw [if_neg c]; exact h.2
        · rw [hmm (2 + t) (by omega) (by omega), if_neg (by omega)] at ht ⊢
          rw [hmm (2 + u) (by omega) (by omega), if_neg (by omega)] at hu ⊢
          exact m2 t u x t0 t1 u0 u1 htu ht hu
        · rw [hmm 0 (by decide) (by decide), if_neg (by omega)]; exact m3
        · rw [hmm 1 (by decide) (by decide), if_neg (by omega)]; exact m4
    · exact absurd ⟨q.1, by omega⟩ p
  · rw [if_neg q] at hc
    rcases hm with ⟨p, -⟩ | ⟨-, e2, eb⟩
    · exact absurd ⟨p.1, by omega⟩ q
    · rw [hc.2, eb]
      exact ⟨by rw [hc.1, e2], rel_same hR hok (ks := []) (ls := []) Fr.rf Fr.rf⟩
