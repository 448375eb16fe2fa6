/-! THE LAW'S CASES: text, reports, kinds, images -/
theorem z_type {c : Int} : cas (fun a v a' => tyQ a c v a') (fun b v b' => tyM b c v b') := by
  intro K a b a' b' v w hR hc hm
  have hR0 := hR
  have hok := (rel_ok hR).1
  obtain ⟨⟨-, c2, c3, c4, -⟩, r2, r3, r4, r5, r6, r7, r8, r9, r10⟩ := hR0
  obtain ⟨t1, t2⟩ := c4
  have hrel : ∀ a' b' : Mem, Fr [1, 2] a a' → Fr [44, 54] b b' → (∀ k : Nat, k ≠ 20 → b' 44 k = b 44 k) → txOK a' → txX a' b' → RelX (K + 1) a' b' ∧ Fr CK a a' ∧ Fr MK b b' := by
    intro a' b' hA hB h44 ho hx
    exact rel_mk hR (hA.mono (by decide)) (hB.mono (by decide)) (fun k hk => h44 k (by omega)) (thOK_fr hok.2.2.2.1 hA) (paOK_fr hok.2.2.2.2 hA) (heOK_fr hA c2) (tpOK_fr hA c3) ho (moX_fr r3 hA hB) (paX_fr r4 hA hB (h44 11 (by decide))) (imX_fr r5 hA hB) (heX_fr r6 hA hB (h44 14 (by decide))) (tpX_fr r7 hA hB (h44 16 (by decide))) hx (trX_fr r9 hA (h44 18 (by decide))) (vaX_fr r10 hA hB)
  unfold tyQ at hc
  unfold tyM at hm
  by_cases q : 0 ≤ c ∧ c ≤ 255
  · rw [if_pos q] at hc hm
    by_cases f : 200 ≤ a 1 2
    · rw [if_pos f] at hc
      rw [if_pos (by have := r8.1; omega)] at hm
      rw [hc.2, hm.2]
      exact ⟨by rw [hc.1, hm.1], hrel a b Fr.rf Fr.rf (fun _ _ => rfl) ⟨t1, t2⟩ r8⟩
    · rw [if_neg f] at hc
      rw [if_neg (by have := r8.1; omega)] at hm
      refine ⟨by rw [hc.1, hm.1, r8.1], hrel a' b' (by rw [hc.2]; exact (Fr.rf.set (by decide)).set (by decide)) (by rw [hm.2]; exact (Fr.rf.set (by decide)).set (by decide)) (fun k hk => by rw [hm.2, mset_at, if_neg (by omega), mset_ne 44 (by decide)]) ?_ ?_⟩
      · have e1 : a' 1 2 = a 1 2 + 1 := by rw [hc.2, mset_eq]
        refine ⟨by omega, fun i i0 i1 => ?_⟩
        rw [hc.2, mset_ne 2 (by decide), mset_at]
        by_cases z : i.toNat = (a 1 2).toNat
        · rw [if_pos ⟨rfl, z⟩]; exact q
        · rw [if_neg (fun y => z y.2)]; exact t2 i i0 (by omega)
      · refine ⟨by rw [hc.2, hm.2, mset_eq, mset_eq, r8.1], ?_⟩
        rw [hc.2, hm.2, mset_ne 2 (by decide), mset_ne 54 (by decide)]
        funext e
        rw [mset_at, mset_at, r8.1, r8.2]
        by_cases z : e = (b 44 20).toNat
        · rw [if_pos ⟨rfl, z⟩, if_pos ⟨rfl, z⟩]
        · rw [if_neg (fun y => z y.2), if_neg (fun y => z y.2)]
  · rw [if_neg q] at hc hm
    rw [hc.2, hm.2]
    exact ⟨by rw [hc.1, hm.1], hrel a b Fr.rf Fr.rf (fun _ _ => rfl) ⟨t1, t2⟩ r8⟩
theorem z_clear : cas (fun a v a' => v = a 1 2 ∧ a' = mset a 1 2 0) (fun b v b' => v = b 44 20 ∧ b' = mset b 44 20 0) := by
  intro K a b a' b' v w hR hc hm
  have hR0 := hR
  have hok := (rel_ok hR).1
  obtain ⟨⟨-, c2, c3, c4, -⟩, r2, r3, r4, r5, r6, r7, r8, r9, r10⟩ := hR0
  have hA : Fr [1] a a' := by rw [hc.2]; exact Fr.rf.set (by decide)
  have hB : Fr [44] b b' := by rw [hm.2]; exact Fr.rf.set (by decide)
  have h44 : ∀ k : Nat, k ≠ 20 → b' 44 k = b 44 k := fun k hk => by rw [hm.2, mset_at, if_neg (by omega)]
  have e1 : a' 1 2 = 0 := by rw [hc.2, mset_eq]
  have e2 : b' 44 20 = 0 := by rw [hm.2, mset_eq]
  refine ⟨by rw [hc.1, hm.1, r8.1], rel_mk hR (hA.mono (by decide)) (hB.mono (by decide)) (fun k hk => h44 k (by omega)) (thOK_fr hok.2.2.2.1 hA) (paOK_fr hok.2.2.2.2 hA) (heOK_fr hA c2) (tpOK_fr hA c3) ⟨by omega, fun i i0 i1 => by omega⟩ (moX_fr r3 hA hB) (paX_fr r4 hA hB (h44 11 (by decide))) (imX_fr r5 hA hB) (heX_fr r6 hA hB (h44 14 (by decide))) (tpX_fr r7 hA hB (h44 16 (by decide))) ⟨by omega, by rw [hA.at 2, hB.at 54]; exact r8.2⟩ (trX_fr r9 hA (h44 18 (by decide))) (vaX_fr r10 hA hB)⟩
theorem z_forget {x : Int} : cas (fun a v a' => fgQ a x v a') (fun b v b' => fgM b x v b') := by
  intro K a b a' b' v w hR hc hm
  have hR0 := hR
  have hok := (rel_ok hR).1
  obtain ⟨⟨-, c2, c3, c4, -⟩, r2, r3, r4, r5, r6, r7, r8, r9, r10⟩ := hR0
  unfold fgQ at hc
  unfold fgM at hm
  by_cases q : x = 0
  · rw [if_pos q] at hc hm
    have hA : Fr [30] a a' := by rw [hc.2]; exact Fr.rf.set (by decide)
    have hB : Fr [44] b b' := by rw [hm.2]; exact Fr.rf.set (by decide)
    have h44 : ∀ k : Nat, k ≠ 14 → b' 44 k = b 44 k := fun k hk => by rw [hm.2, mset_at, if_neg (by omega)]
    have e1 : a' 30 2 = 0 := by rw [hc.2, mset_eq]
    have e0 : a' 30 0 = a 30 0 := by rw [hc.2, mset_at, if_neg (by omega)]
    have e2 : b' 44 14 = 0 := by rw [hm.2, mset_eq]
    have h30 : a 30 0 = 4 := c2.1.1
    exact ⟨by rw [hc.1, hm.1, r6.1], rel_mk hR (hA.mono (by decide)) (hB.mono (by decide)) (fun k hk => h44 k (by omega)) (thOK_fr hok.2.2.2.1 hA) (paOK_fr hok.2.2.2.2 hA) ⟨⟨by omega, by omega, by omega⟩, fun i i0 i1 => by omega⟩ (tpOK_fr hA c3) (txOK_fr c4 hA) (moX_fr r3 hA hB) (paX_fr r4 hA hB (h44 11 (by decide))) (imX_fr r5 hA hB) ⟨by omega, fun i i0 i1 => by omega⟩ (tpX_fr r7 hA hB (h44 16 (by decide))) (txX_fr r8 hA hB (h44 20 (by decide))) (trX_fr r9 hA (h44 18 (by decide))) (vaX_fr r10 hA hB)⟩
  · rw [if_neg q] at hc hm
    by_cases q1 : x = 1
    · rw [if_pos q1] at hc hm
      have hA : Fr [32] a a' := by rw [hc.2]; exact Fr.rf.set (by decide)
      have hB : Fr [44] b b' := by rw [hm.2]; exact Fr.rf.set (by decide)
      have h44 : ∀ k : Nat, k ≠ 16 → b' 44 k = b 44 k := fun k hk => by rw [hm.2, mset_at, if_neg (by omega)]
      have e1 : a' 32 2 = 0 := by rw [hc.2, mset_eq]
      have e0 : a' 32 0 = a 32 0 := by rw [hc.2, mset_at, if_neg (by omega)]
      have e2 : b' 44 16 = 0 := by rw [hm.2, mset_eq]
      have h30 : a 32 0 = 4 := c3.1.1
      exact ⟨by rw [hc.1, hm.1, r7.1], rel_mk hR (hA.mono (by decide)) (hB.mono (by decide)) (fun k hk => h44 k (by omega)) (thOK_fr hok.2.2.2.1 hA) (paOK_fr hok.2.2.2.2 hA) (heOK_fr hA c2) ⟨⟨by omega, by omega, by omega⟩, fun i i0 i1 => by omega⟩ (txOK_fr c4 hA) (moX_fr r3 hA hB) (paX_fr r4 hA hB (h44 11 (by decide))) (imX_fr r5 hA hB) (heX_fr r6 hA hB (h44 14 (by decide))) ⟨by omega, fun i i0 i1 => by omega⟩ (txX_fr r8 hA hB (h44 20 (by decide))) (trX_fr r9 hA (h44 18 (by decide))) (vaX_fr r10 hA hB)⟩
    · rw [if_neg q1] at hc hm
      rw [hc.2, hm.2]
      exact ⟨by rw [hc.1, hm.1], rel_same hR hok (ks := []) (ls := []) Fr.rf Fr.rf⟩
theorem z_hear {c y : Int} : cas (fun a v a' => heQ a c y v a') (fun b v b' => heM b c y v b') := by
  intro K a b a' b' v w hR hc hm
  have hR0 := hR
  have hok := (rel_ok hR).1
  obtain ⟨⟨⟨hh, -⟩, c2, c3, c4, -⟩, r2, r3, r4, r5, r6, r7, r8, r9, r10⟩ := hR0
  have hn := n_eq hh r2
  have h30 : a 30 0 = 4 ∧ 0 ≤ a 30 2 ∧ a 30 2 ≤ 4 := c2.1
  unfold heQ at hc
  unfold heM at hm
  rw [← hn] at hm
  by_cases q : (0 ≤ c ∧ c < a 4 5) ∧ (0 ≤ y ∧ y ≤ 99)
  · rw [if_pos q] at hc hm
    by_cases f : a 30 2 < 4
    · rw [if_pos f] at hc
      rw [if_neg (by have := r6.1; omega)] at hm
      have hap := app_ok (m := a) (h := 30) (nb := 31) (a := c) (b := y) (c := 0) (d := 0) (by decide) (by omega) (by omega)
      rw [← hc.2] at hap
      have hA : Fr [30, 31] a a' := by rw [hc.2]; exact app_fr
      have hB : Fr [44, 52] b b' := by rw [hm.2]; exact ((Fr.rf.set (by decide)).set (by decide)).set (by decide)
      have h44 : ∀ k : Nat, k ≠ 14 → b' 44 k = b 44 k := fun k hk => by rw [hm.2, mset_at, if_neg (by omega), mset_ne 44 (by decide), mset_ne 44 (by decide)]
      have e2 : b' 44 14 = b 44 14 + 1 := by rw [hm.2, mset_eq]
      have hk := r6.1
      have hcv : ∀ i : Int, 0 ≤ i → i < a' 30 2 → hdC a' i = (if i = a 30 2 then c else hdC a i) ∧ hdV a' i = if i = a 30 2 then y else hdV a i := by
        intro i i0 i1
        unfold hdC hdV
        rw [getF_at i0 i1 (by decide) (by decide), getF_at i0 i1 (by decide) (by decide), Int.add_zero]
        rw [hap.2.2 (4 * i) (by omega), hap.2.2 (4 * i + 1) (by omega)]
        by_cases z : i = a 30 2
        · rw [if_pos (by omega), if_pos z, if_neg (by omega), if_pos (by omega), if_pos z]
          exact ⟨rfl, rfl⟩
        · have i2 : i < a 30 2 := by have := hap.2.1; omega
          rw [if_neg (by omega), if_neg (by omega), if_neg (by omega), if_neg (by omega), if_neg z, if_neg (by omega), if_neg (by omega), if_neg (by omega), if_neg (by omega), if_neg z, getF_at i0 i2 (by decide) (by decide), getF_at i0 i2 (by decide) (by decide), Int.add_zero]
          exact ⟨rfl, rfl⟩
      have hmv : ∀ i : Int, 0 ≤ i → i < b' 44 14 → mdC b' i = (if i = b 44 14 then c else mdC b i) ∧ mdV b' i = if i = b 44 14 then y else mdV b i := by
        intro i i0 i1
        unfold mdC mdV
        rw [hm.2, mset_ne 52 (by decide), mset_at, mset_at, mset_at, mset_at]
        by_cases z : i = b 44 14
        · rw [if_neg (by omega), if_pos ⟨rfl, by omega⟩, if_pos z, if_pos ⟨rfl, by omega⟩, if_pos z]
          exact ⟨rfl, rfl⟩
        · rw [if_neg (by omega), if_neg (by omega), if_neg z, if_neg (by omega), if_neg (by omega), if_neg z]
          exact ⟨rfl, rfl⟩
      refine ⟨by rw [hc.1, hm.1, r6.1], rel_mk hR (hA.mono (by decide)) (hB.mono (by decide)) (fun k hk => h44 k (by omega)) (thOK_fr hok.2.2.2.1 hA) (paOK_fr hok.2.2.2.2 hA) ⟨⟨by rw [hap.1]; exact h30.1, by have := hap.2.1; omega, by have := hap.2.1; omega⟩, fun i i0 i1 => ?_⟩ (tpOK_fr hA c3) (txOK_fr c4 hA) (moX_fr r3 hA hB) (paX_fr r4 hA hB (h44 11 (by decide))) (imX_fr r5 hA hB) ⟨by rw [hap.2.1, e2, hk], fun i i0 i1 => ?_⟩ (tpX_fr r7 hA hB (h44 16 (by decide))) (txX_fr r8 hA hB (h44 20 (by decide))) (trX_fr r9 hA (h44 18 (by decide))) (vaX_fr r10 hA hB)⟩
      · have e := hcv i i0 i1
        rw [e.1, e.2, hA.at 4]
        by_cases z : i = a 30 2
        · rw [if_pos z, if_pos z]; exact q
        · rw [if_neg z, if_neg z]; exact c2.2 i i0 (by have := hap.2.1; omega)
      · have e := hcv i i0 i1
        have e3 := hmv i i0 (by have := hap.2.1; omega)
        rw [e.1, e.2, e3.1, e3.2, ← hk]
        by_cases z : i = a 30 2
        · rw [if_pos z, if_pos z, if_pos z, if_pos z]; exact ⟨rfl, rfl⟩
        · rw [if_neg z, if_neg z, if_neg z, if_neg z]; exact r6.2 i i0 (by have := hap.2.1; omega)
    · rw [if_neg f] at hc
      rw [if_pos (by have := r6.1; omega)] at hm
      rw [hc.2, hm.2]
      exact ⟨by rw [hc.1, hm.1], rel_same hR hok (ks := []) (ls := []) Fr.rf Fr.rf⟩
  · rw [if_neg q] at hc hm
    rw [hc.2, hm.2]
    exact ⟨by rw [hc.1, hm.1], rel_same hR hok (ks := []) (ls := []) Fr.rf Fr.rf⟩
theorem z_tap {f n t y : Int} : cas (fun a v a' => taQ a f n t y v a') (fun b v b' => taM b f n t y v b') := by
  intro K a b a' b' v w hR hc hm
  have hR0 := hR
  have hok := (rel_ok hR).1
  obtain ⟨⟨⟨hh, -⟩, c2, c3, c4, -⟩, r2, r3, r4, r5, r6, r7, r8, r9, r10⟩ := hR0
  have hn := n_eq hh r2
  have h32 : a 32 0 = 4 ∧ 0 ≤ a 32 2 ∧ a 32 2 ≤ 4 := c3.1
  unfold taQ at hc
  unfold taM taC at hm
  rw [← hn] at hm
  by_cases q : ((0 ≤ f ∧ f < a 4 5) ∧ (1 ≤ n ∧ n ≤ 99)) ∧ (0 ≤ t ∧ t < a 4 5) ∧ (0 ≤ y ∧ y ≤ 99)
  · rw [if_pos q] at hc
    have q' : (0 ≤ f ∧ f < a 4 5) ∧ (1 ≤ n ∧ n ≤ 99) ∧ (0 ≤ t ∧ t < a 4 5) ∧ (0 ≤ y ∧ y ≤ 99) := ⟨q.1.1, q.1.2, q.2.1, q.2.2⟩
    rcases hm with ⟨z, -⟩ | ⟨-, hm⟩
    · exact absurd q' z
    by_cases g : a 32 2 < 4
    · rw [if_pos g] at hc
      rcases hm with ⟨z, -⟩ | ⟨-, hm⟩
      · have := r7.1; omega
      have hap := app_ok (m := a) (h := 32) (nb := 33) (a := f) (b := n) (c := t) (d := y) (by decide) (by omega) (by omega)
      rw [← hc.2] at hap
      have hA : Fr [32, 33] a a' := by rw [hc.2]; exact app_fr
      have hB : Fr [44, 53] b b' := by rw [hm.2]; exact ((((Fr.rf.set (by decide)).set (by decide)).set (by decide)).set (by decide)).set (by decide)
      have h44 : ∀ k : Nat, k ≠ 16 → b' 44 k = b 44 k := fun k hk => by rw [hm.2, mset_at, if_neg (by omega), mset_ne 44 (by decide), mset_ne 44 (by decide), mset_ne 44 (by decide), mset_ne 44 (by decide)]
      have e2 : b' 44 16 = b 44 16 + 1 := by rw [hm.2, mset_eq]
      have hk := r7.1
      have hcv : ∀ i : Int, 0 ≤ i → i < a' 32 2 → (i = a 32 2 → tpC a' i = f ∧ tpN a' i = n ∧ tpT a' i = t ∧ tpV a' i = y) ∧ (i ≠ a 32 2 → tpC a' i = tpC a i ∧ tpN a' i = tpN a i ∧ tpT a' i = tpT a i ∧ tpV a' i = tpV a i) := by
        intro i i0 i1
        unfold tpC tpN tpT tpV
        rw [getF_at i0 i1 (by decide) (by decide), getF_at i0 i1 (by decide) (by decide), getF_at i0 i1 (by decide) (by decide), getF_at i0 i1 (by decide) (by decide), Int.add_zero]
        rw [hap.2.2 (4 * i) (by omega), hap.2.2 (4 * i + 1) (by omega), hap.2.2 (4 * i + 2) (by omega), hap.2.2 (4 * i + 3) (by omega)]
        refine ⟨fun z => ?_, fun z => ?_⟩
        · rw [if_pos (by omega), if_neg (by omega), if_pos (by omega), if_neg (by omega), if_neg (by omega), if_pos (by omega), if_neg (by omega), if_neg (by omega), if_neg (by omega), if_pos (by omega)]
          exact ⟨rfl, rfl, rfl, rfl⟩
        · have i2 : i < a 32 2 := by have := hap.2.1; omega
          rw [if_neg (by omega), if_neg (by omega), if_neg (by omega), if_neg (by omega), if_neg (by omega), if_neg (by omega), if_neg (by omega), if_neg (by omega), if_neg (by omega), if_neg (by omega), if_neg (by omega), if_neg (by omega), if_neg (by omega), if_neg (by omega), if_neg (by omega), if_neg (by omega), getF_at i0 i2 (by decide) (by decide), getF_at i0 i2 (by decide) (by decide), getF_at i0 i2 (by decide) (by decide), getF_at i0 i2 (by decide) (by decide), Int.add_zero]
          exact ⟨rfl, rfl, rfl, rfl⟩
      have hmv : ∀ i : Int, 0 ≤ i → i < b' 44 16 → (i = b 44 16 → mtC b' i = f ∧ mtN b' i = n ∧ mtT b' i = t ∧ mtV b' i = y) ∧ (i ≠ b 44 16 → mtC b' i = mtC b i ∧ mtN b' i = mtN b i ∧ mtT b' i = mtT b i ∧ mtV b' i = mtV b i) := by
        intro i i0 i1
        have key : ∀ e : Nat, b' 53 e = if e = (4 * b 44 16 + 3).toNat then y else if e = (4 * b 44 16 + 2).toNat then t else if e = (4 * b 44 16 + 1).toNat then n else if e = (4 * b 44 16).toNat then f else b 53 e := by
          intro e
          rw [hm.2, mset_ne 53 (by decide), mset_at, mset_at, mset_at, mset_at]
          simp only [true_and]
        unfold mtC mtN mtT mtV
        refine ⟨fun z => ?_, fun z => ?_⟩
        · rw [key, key, key, key, if_neg (by omega), if_neg (by omega), if_neg (by omega), if_pos (by omega), if_neg (by omega), if_neg (by omega), if_pos (by omega), if_neg (by omega), if_pos (by omega), if_pos (by omega)]
          exact ⟨rfl, rfl, rfl, rfl⟩
        · rw [key, key, key, key, if_neg (by omega), if_neg (by omega), if_neg (by omega), if_neg (by omega), if_neg (by omega), if_neg (by omega), if_neg (by omega), if_neg (by omega), if_neg (by omega), if_neg (by omega), if_neg (by omega), if_neg (by omega), if_neg (by omega), if_neg (by omega), if_neg (by omega), if_neg (by omega)]
          exact ⟨rfl, rfl, rfl, rfl⟩
      refine ⟨by rw [hc.1, hm.1, r7.1], rel_mk hR (hA.mono (by decide)) (hB.mono (by decide)) (fun k hk => h44 k (by omega)) (thOK_fr hok.2.2.2.1 hA) (paOK_fr hok.2.2.2.2 hA) (heOK_fr hA c2) ⟨⟨by rw [hap.1]; exact h32.1, by have := hap.2.1; omega, by have := hap.2.1; omega⟩, fun i i0 i1 => ?_⟩ (txOK_fr c4 hA) (moX_fr r3 hA hB) (paX_fr r4 hA hB (h44 11 (by decide))) (imX_fr r5 hA hB) (heX_fr r6 hA hB (h44 14 (by decide))) ⟨by rw [hap.2.1, e2, hk], fun i i0 i1 => ?_⟩ (txX_fr r8 hA hB (h44 20 (by decide))) (trX_fr r9 hA (h44 18 (by decide))) (vaX_fr r10 hA hB)⟩
      · have e := hcv i i0 i1
        rw [hA.at 4]
        by_cases z : i = a 32 2
        · have := e.1 z
          rw [this.1, this.2.1, this.2.2.1, this.2.2.2]
          exact ⟨q.1.1, q.1.2, q.2.1, q.2.2⟩
        · have := e.2 z
          rw [this.1, this.2.1, this.2.2.1, this.2.2.2]
          exact c3.2 i i0 (by have := hap.2.1; omega)
      · have e := hcv i i0 i1
        have e3 := hmv i i0 (by have := hap.2.1; omega)
        by_cases z : i = a 32 2
        · have h1 := e.1 z
          have h2 := e3.1 (by omega)
          rw [h1.1, h1.2.1, h1.2.2.1, h1.2.2.2, h2.1, h2.2.1, h2.2.2.1, h2.2.2.2]
          exact ⟨rfl, rfl, rfl, rfl⟩
        · have h1 := e.2 z
          have h2 := e3.2 (by omega)
          rw [h1.1, h1.2.1, h1.2.2.1, h1.2.2.2, h2.1, h2.2.1, h2.2.2.1, h2.2.2.2]
          exact r7.2 i i0 (by have := hap.2.1; omega)
    · rw [if_neg g] at hc
      rcases hm with ⟨-, hm⟩ | ⟨z, -⟩
      · rw [hc.2, hm.2]
        exact ⟨by rw [hc.1, hm.1], rel_same hR hok (ks := []) (ls := []) Fr.rf Fr.rf⟩
      · have := r7.1; omega
  · rw [if_neg q] at hc
    rcases hm with ⟨-, hm⟩ | ⟨z, -⟩
    · rw [hc.2, hm.2]
      exact ⟨by rw [hc.1, hm.1], rel_same hR hok (ks := []) (ls := []) Fr.rf Fr.rf⟩
    · exact absurd ⟨⟨z.1, z.2.1⟩, z.2.2.1, z.2.2.2⟩ q
theorem z_rate {k s : Int} : cas (fun a v a' => raQ a k s v a') (fun b v b' => raM b k s v b') := by
  intro K a b a' b' v w hR hc hm
  have hR0 := hR
  have hok := (rel_ok hR).1
  obtain ⟨⟨⟨hh, -⟩, c2, c3, c4, -⟩, r2, r3, r4, r5, r6, r7, r8, r9, r10⟩ := hR0
  have h7 := hh.2.2.2.2.2.2.1
  have x5 := r2.2.1.2.1
  have hT : 0 ≤ raT k ∧ raT k ≤ 1000000 := by unfold raT; omega
  rcases hc with ⟨q1, q2, e1, ea⟩ | ⟨q, e1, ea⟩ <;> rcases hm with ⟨p1, p2, e2, eb⟩ | ⟨p, e2, eb⟩
  · have hA : Fr [0] a a' := by rw [ea]; exact Fr.rf.set (by decide)
    have hB : Fr [44] b b' := by rw [eb]; exact Fr.rf.set (by decide)
    have h44 : ∀ k : Nat, k ≠ 18 → b' 44 k = b 44 k := fun k hk => by rw [eb, mset_at, if_neg (by omega)]
    have ea1 : a' 0 14 = a 0 14 + raT k := by rw [ea, mset_eq]
    have eb1 : b' 44 18 = b 44 18 + raT k := by rw [eb, mset_eq]
    have hth := th_eq hh r2 r3 q2.1 q2.2
    have hp := (sh_eq r2 q2.1 q2.2).2.2.2
    have hl := li_eq r3 q2.1 (show s < 4 by omega)
    have hd := dh_eq r3
    refine ⟨?_, rel_mk hR (hA.mono (by decide)) (hB.mono (by decide)) (fun k hk => h44 k (by omega)) (thOK_fr hok.2.2.2.1 hA) (paOK_fr hok.2.2.2.2 hA) (heOK_fr hA c2) (tpOK_fr hA c3) (txOK_fr c4 hA) (moX_fr r3 hA hB) (paX_fr r4 hA hB (h44 11 (by decide))) (imX_fr r5 hA hB) (heX_fr r6 hA hB (h44 14 (by decide))) (tpX_fr r7 hA hB (h44 16 (by decide))) (txX_fr r8 hA hB (h44 20 (by decide))) ?_ (vaX_fr r10 hA hB)⟩
    · rw [e1, e2]
      unfold raV raV2
      rw [hth, hp, hl.2, hd.2]
    · unfold trX at *
      rw [ea1, eb1]
      omega
  · exact absurd ⟨q1, by omega⟩ p
  · exact absurd ⟨p1, by omega⟩ q
  · rw [ea, eb]
    exact ⟨by rw [e1, e2], rel_same hR hok (ks := []) (ls := []) Fr.rf Fr.rf⟩
