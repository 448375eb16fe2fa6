/-! THE LAW'S CASES: lay, hour, house -/
theorem cov_b {w h wi lo c x : Int} (hw : w = 1 ∨ w = 2 ∨ w = 3 ∨ w = 4) (hh : h = 1 ∨ h = 2 ∨ h = 3) (hf : fitsAt w h wi lo c) (hc : cov w wi lo c x) : 0 ≤ x ∧ x < 12 := by
  obtain ⟨f1, f2, f3, f4⟩ := hf
  obtain ⟨c1, c2, c3, c4⟩ := hc
  rcases hw with rfl | rfl | rfl | rfl <;> rcases hh with rfl | rfl | rfl <;> omega
theorem onF_no {w : Int} {wi lo li : Int → Int} {x t : Int} (t0 : 0 ≤ t) (ht : li t ≠ -9) (hc : cov w (wi t) (lo t) (li t) x) : ∀ k : Nat, t < k → onF w wi lo li k x ≠ -9
  | 0, h => by omega
  | k + 1, h => by
    simp only [onF]
    split
    · omega
    · next q =>
      by_cases e : t = k
      · rw [← e] at q
        exact absurd ⟨ht, hc⟩ q
      · exact onF_no t0 ht hc k (by omega)
theorem numF_more {p : Int → Prop} (n : Nat) : ∀ k : Nat, n ≤ k → (∀ i : Int, n ≤ i → i < k → ¬ p i) → numF p k = numF p n
  | 0, h, _ => by rw [show n = 0 by omega]
  | k + 1, h, hx => by
    by_cases e : n = k + 1
    · rw [e]
    · rw [← numF_more n k (by omega) (fun i h0 h1 => hx i h0 (by omega)), numF_f (hx k (by omega) (by omega))]
theorem numF_congr {p q : Int → Prop} : ∀ k : Nat, (∀ i : Int, 0 ≤ i → i < k → (p i ↔ q i)) → numF p k = numF q k
  | 0, _ => rfl
  | k + 1, h => by
    have ih := numF_congr (p := p) (q := q) k (fun i h0 h1 => h i h0 (by omega))
    have hk := h k (by omega) (by omega)
    by_cases c : p k
    · rw [numF_t c, numF_t (hk.mp c), ih]
    · rw [numF_f c, numF_f (fun z => c (hk.mpr z)), ih]
theorem bc_num {p : Int → Prop} : bcF (bitF p 4 : Nat) = numF p 4 := by
  have e : bitF p 4 = (((0 ||| bit1 (p ((0 : Nat) : Int)) 0) ||| bit1 (p ((1 : Nat) : Int)) 1) ||| bit1 (p ((2 : Nat) : Int)) 2) ||| bit1 (p ((3 : Nat) : Int)) 3 := rfl
  have n0 : numF p 0 = 0 := rfl
  rw [e]
  rcases Classical.em (p ((0 : Nat) : Int)) with c0 | c0 <;> rcases Classical.em (p ((1 : Nat) : Int)) with c1 | c1 <;> rcases Classical.em (p ((2 : Nat) : Int)) with c2 | c2 <;> rcases Classical.em (p ((3 : Nat) : Int)) with c3 | c3
  · rw [bit1_t c0, bit1_t c1, bit1_t c2, bit1_t c3, numF_t (k := 3) c3, numF_t (k := 2) c2, numF_t (k := 1) c1, numF_t (k := 0) c0, n0]; decide +kernel
  · rw [bit1_t c0, bit1_t c1, bit1_t c2, bit1_f c3, numF_f (k := 3) c3, numF_t (k := 2) c2, numF_t (k := 1) c1, numF_t (k := 0) c0, n0]; decide +kernel
  · rw [bit1_t c0, bit1_t c1, bit1_f c2, bit1_t c3, numF_t (k := 3) c3, numF_f (k := 2) c2, numF_t (k := 1) c1, numF_t (k := 0) c0, n0]; decide +kernel
  · rw [bit1_t c0, bit1_t c1, bit1_f c2, bit1_f c3, numF_f (k := 3) c3, numF_f (k := 2) c2, numF_t (k := 1) c1, numF_t (k := 0) c0, n0]; decide +kernel
  · rw [bit1_t c0, bit1_f c1, bit1_t c2, bit1_t c3, numF_t (k := 3) c3, numF_t (k := 2) c2, numF_f (k := 1) c1, numF_t (k := 0) c0, n0]; decide +kernel
  · rw [bit1_t c0, bit1_f c1, bit1_t c2, bit1_f c3, numF_f (k := 3) c3, numF_t (k := 2) c2, numF_f (k := 1) c1, numF_t (k := 0) c0, n0]; decide +kernel
  · rw [bit1_t c0, bit1_f c1, bit1_f c2, bit1_t c3, numF_t (k := 3) c3, numF_f (k := 2) c2, numF_f (k := 1) c1, numF_t (k := 0) c0, n0]; decide +kernel
  · rw [bit1_t c0, bit1_f c1, bit1_f c2, bit1_f c3, numF_f (k := 3) c3, numF_f (k := 2) c2, numF_f (k := 1) c1, numF_t (k := 0) c0, n0]; decide +kernel
  · rw [bit1_f c0, bit1_t c1, bit1_t c2, bit1_t c3, numF_t (k := 3) c3, numF_t (k := 2) c2, numF_t (k := 1) c1, numF_f (k := 0) c0, n0]; decide +kernel
  · rw [bit1_f c0, bit1_t c1, bit1_t c2, bit1_f c3, numF_f (k := 3) c3, numF_t (k := 2) c2, numF_t (k := 1) c1, numF_f (k := 0) c0, n0]; decide +kernel
  · rw [bit1_f c0, bit1_t c1, bit1_f c2, bit1_t c3, numF_t (k := 3) c3, numF_f (k := 2) c2, numF_t (k := 1) c1, numF_f (k := 0) c0, n0]; decide +kernel
  · rw [bit1_f c0, bit1_t c1, bit1_f c2, bit1_f c3, numF_f (k := 3) c3, numF_f (k := 2) c2, numF_t (k := 1) c1, numF_f (k := 0) c0, n0]; decide +kernel
  · rw [bit1_f c0, bit1_f c1, bit1_t c2, bit1_t c3, numF_t (k := 3) c3, numF_t (k := 2) c2, numF_f (k := 1) c1, numF_f (k := 0) c0, n0]; decide +kernel
  · rw [bit1_f c0, bit1_f c1, bit1_t c2, bit1_f c3, numF_f (k := 3) c3, numF_t (k := 2) c2, numF_f (k := 1) c1, numF_f (k := 0) c0, n0]; decide +kernel
  · rw [bit1_f c0, bit1_f c1, bit1_f c2, bit1_t c3, numF_t (k := 3) c3, numF_f (k := 2) c2, numF_f (k := 1) c1, numF_f (k := 0) c0, n0]; decide +kernel
  · rw [bit1_f c0, bit1_f c1, bit1_f c2, bit1_f c3, numF_f (k := 3) c3, numF_f (k := 2) c2, numF_f (k := 1) c1, numF_f (k := 0) c0, n0]; decide +kernel
theorem z_lay {s c : Int} : cas (fun a v a' => laQ a s c v a') (fun b v b' => lyM b s c v b') := by
  intro K a b a' b' v w hR hc hm
  have hR0 := hR
  have hok := (rel_ok hR).1
  obtain ⟨⟨⟨hh, -⟩, -⟩, r2, r3, -, -, -, -, -, -, r10⟩ := hR0
  have h7 := hh.2.2.2.2.2.2.1
  have x5 := r2.2.1.2.1
  have hn := n_eq hh r2
  rcases hc with ⟨⟨q1, q2⟩, a5, h5, hc⟩ | ⟨q, e1, ea⟩ <;> rcases hm with ⟨⟨p1, p2⟩, b3, h3, hm⟩ | ⟨p, e2, eb⟩
  · have s4 : s < 4 := by omega
    have hl := (li_eq r3 q1.1 s4).1
    have hse := sh_eq r2 q1.1 q1.2
    have hon : ∀ x : Int, 0 ≤ x → x < 12 → a5 35 x.toNat = b3 61 x.toNat := fun x x0 x1 => by rw [h5.2.2.2.1 x x0 x1, h3.2.2.2.2 x x0 x1, on_eq hh r2 r3]
    have hcan : canP (a 4 3) (a 4 4) (shW a s) (shL a s) c (a5 35) ↔ canP (b 44 0) (b 44 1) (mW b s) (mL b s) c (b3 61) := by
      unfold canP
      rw [hse.2.1, hse.2.2.1, r2.1.1, r2.1.2.1]
      exact ⟨fun z => ⟨z.1, fun x x0 x1 y => by rw [← hon x x0 x1]; exact z.2 x x0 x1 y⟩, fun z => ⟨z.1, fun x x0 x1 y => by rw [hon x x0 x1]; exact z.2 x x0 x1 y⟩⟩
    have hok5 := (sho_ok hok h5).1
    have hk5 := rel_keep hR hok5 h5.1 h3.1
    rcases hc with ⟨⟨z1, z2⟩, a11, ha11, ea, e1⟩ | ⟨z, e1, ea⟩ <;> rcases hm with ⟨⟨y1, y2⟩, b13, hb13, eb, e2⟩ | ⟨y, e2, eb⟩
    · have hmm : ∀ j : Int, 0 ≤ j → j < 10 → momV a' j = if j = 2 + s then c else momV a j := by
        intro j j0 j1
        rw [ea, mom_19 q1.1 s4 j0 j1, momV_fr ha11.1, momV_fr h5.1]
      have hFm : Fr [19] a11 a' := by rw [ea]; exact Fr.rf.set (by decide)
      have hA : Fr [18, 19, 20, 24, 26, 35, 36, 38, 39, 40] a5 a' := (ha11.1.mono (by decide)).tr (hFm.mono (by decide))
      have hFb : Fr [48] b13 b' := by rw [eb]; exact Fr.rf.set (by decide)
      have hmo : moX a' b' := by
        intro j j0 j1
        rw [hmm j j0 j1, eb, mset_at, hb13.1.at 48, h3.1.at 48]
        by_cases d : j = 2 + s
        · rw [if_pos d, if_pos ⟨rfl, by omega⟩]
        · rw [if_neg d, if_neg (by omega)]
          exact r3 j j0 j1
      obtain ⟨m1, m2, m3, m4⟩ := r10.1
      have hnew : ∀ t x : Int, 0 ≤ t → t < 4 → t ≠ s → momV a (2 + t) ≠ -9 → cov (a 4 3) (shW a t) (shL a t) (momV a (2 + t)) x → cov (a 4 3) (shW a s) (shL a s) c x → False := by
        intro t x t0 t1 hts ht h1 h2
        have hx := cov_b hh.1 hh.2.1 z2.1 h2
        have h9 := z2.2 x hx.1 hx.2 h2
        rw [h5.2.2.2.1 x hx.1 hx.2] at h9
        have e := (mom_2 (m := a) t0 t1).1
        rw [e] at ht h1
        have q := (m1 t t0 t1).1
        rw [e] at q
        rcases q with q | q
        · exact ht q
        · exact onF_no (li := liD a 19) t0 ht h1 _ (show t < (((a 7 2).toNat : Nat) : Int) by omega) h9
      have hmv : mvK a (momV a') := by
        refine ⟨fun t t0 t1 => ?_, fun t u x t0 t1 u0 u1 htu ht hu => ?_, ?_, ?_⟩
        · rw [hmm (2 + t) (by omega) (by omega), hmm (6 + t) (by omega) (by omega), hmm 0 (by decide) (by decide), hmm 1 (by decide) (by decide), if_neg (show ¬ 6 + t = 2 + s by omega), if_neg (show ¬ (0 : Int) = 2 + s by omega), if_neg (show ¬ (1 : Int) = 2 + s by omega)]
          refine ⟨?_, (m1 t t0 t1).2⟩
          by_cases d : 2 + t = 2 + s
          · have ets : t = s := by omega
            rw [if_pos d, ets]
            exact Or.inr ⟨q1.2, z2.1⟩
          · rw [if_neg d]; exact (m1 t t0 t1).1
        · rw [hmm (2 + t) (by omega) (by omega)] at ht ⊢
          rw [hmm (2 + u) (by omega) (by omega)] at hu ⊢
          by_cases d : 2 + t = 2 + s
          · have ets : t = s := by omega
            rw [if_pos d, if_neg (by omega), ets]
            rw [if_neg (by omega)] at hu
            exact fun h1 h2 => hnew u x u0 u1 (by omega) hu h2 h1
          · by_cases d2 : 2 + u = 2 + s
            · have ets : u = s := by omega
              rw [if_neg d, if_pos d2, ets]
              rw [if_neg d] at ht
              exact fun h1 h2 => hnew t x t0 t1 (by omega) ht h1 h2
            · rw [if_neg d] at ht ⊢
              rw [if_neg d2] at hu ⊢
              exact m2 t u x t0 t1 u0 u1 htu ht hu
        · rw [hmm 0 (by decide) (by decide), if_neg (by omega)]; exact m3
        · rw [hmm 1 (by decide) (by decide), if_neg (by omega)]; exact m4
      have hth : thOK a' := by
        unfold thOK
        rw [hFm.at 36, ha11.1.at 36]
        exact hok5.2.2.2.1
      have hD := deed_mk hk5.1 ha11 hb13 hA ((hb13.1.mono (by decide)).tr (hFb.mono (by decide))) (hFm.at 24) (hFm.at 26) (hFb.at 44) (hFb.at 49) hth hmo ((mvK_fr h5.1).mpr hmv)
      · have x5' : a' 7 2 = b' 44 5 := hD.1.2.1.2.1.2.1
        have e7 : a' 7 = a 7 := by rw [hA.at 7, h5.1.at 7]
        refine ⟨?_, hD.1, hk5.2.1.tr hD.2.1, hk5.2.2.tr hD.2.2⟩
        rw [e1, e2, bc_num, numF_more (a 7 2).toNat 4 (by omega) (fun i i0 i1 z => ?_), ← x5', e7]
        · refine numF_congr _ (fun i i0 i1 => ?_)
          unfold laD laM
          rw [(li_eq hmo i0 (by omega)).1]
        · have q := (hmv.1 i (by omega) (by omega)).1
          rw [(mom_2 (m := a') (s := i) (by omega) (by omega)).1] at q
          rcases q with q | q
          · exact z q
          · omega
    · exact absurd ⟨by rw [← hl]; exact z1, hcan.mp z2⟩ y
    · exact absurd ⟨by rw [hl]; exact y1, hcan.mpr y2⟩ z
    · rw [ea, eb]
      exact ⟨by rw [e1, e2], rel_same hR hok5 h5.1 h3.1⟩
  · exact absurd ⟨⟨q1.1, by omega⟩, q2.1, by omega⟩ p
  · exact absurd ⟨⟨p1.1, by omega⟩, p2.1, by omega⟩ q
  · rw [ea, eb]
    exact ⟨by rw [e1, e2], rel_same hR hok (ks := []) (ls := []) Fr.rf Fr.rf⟩
