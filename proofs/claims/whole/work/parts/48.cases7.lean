/-! THE LAW'S CASES: lay, hour, house -/
theorem cov_b {w h wi lo c x : Int} (hw : w = 1 ∨ w = 2 ∨ w = 3 ∨ w = 4) (hh : h = 1 ∨ h = 2 ∨ h = 3) (hf : fitsAt w h wi lo c) (hc : cov w wi lo c x) : 0 ≤ x ∧ x < 12 := by
  obtain ⟨f1, f2, f3, f4⟩ := hf
  obtain ⟨c1, c2, c3, c4⟩ := hc
  rcases hw with rfl | rfl | rfl | rfl <;> rcases hh with rfl | rfl | rfl <;> omega
theorem onF_no {w : Int} {wi lo li : Int → Int} {x t : Int} (t0 : 0 ≤ t) (ht : li t ≠ -9) (hc : cov w (wi t) (lo t) (li t) x) : ∀ k : Nat, t < k → onF w wi lo li k x ≠ -9
  | 0, h => by omega
  | k + 1, h => by
    simp only [onF]
    split
    · omega
    · next q =>
      by_cases e : t = k
      · rw [← e] at q
        exact absurd ⟨ht, hc⟩ q
      · exact onF_no t0 ht hc k (by omega)
theorem numF_more {p : Int → Prop} (n : Nat) : ∀ k : Nat, n ≤ k → (∀ i : Int, n ≤ i → i < k → ¬ p i) → numF p k = numF p n
  | 0, h, _ => by rw [show n = 0 by omega]
  | k + 1, h, hx => by
    by_cases e : n = k + 1
    · rw [e]
    · rw [← numF_more n k (by omega) (fun i h0 h1 => hx i h0 (by omega)), numF_f (hx k (by omega) (by omega))]
theorem numF_congr {p q : Int → Prop} : ∀ k : Nat, (∀ i : Int, 0 ≤ i → i < k → (p i ↔ q i)) → numF p k = numF q k
  | 0, _ => rfl
  | k + 1, h => by
    have ih := numF_congr (p := p) (q := q) k (fun i h0 h1 => h i h0 (by omega))
    have hk := h k (by omega) (by omega)
    by_cases c : p k
    · rw [numF_t c, numF_t (hk.mp c), ih]
    · rw [numF_f c, numF_f (fun z => c (hk.mpr z)), ih]
theorem bc_num {p : Int → Prop} : bcF (bitF p 4 : Nat) = numF p 4 := by
  have e : bitF p 4 = (((0 ||| bit1 (p ((0 : Nat) : Int)) 0) ||| bit1 (p ((1 : Nat) : Int)) 1) ||| bit1 (p ((2 : Nat) : Int)) 2) ||| bit1 (p ((3 : Nat) : Int)) 3 := rfl
  have n0 : numF p 0 = 0 := rfl
  rw [e]
  rcases Classical.em (p ((0 : Nat) : Int)) with c0 | c0 <;> rcases Classical.em (p ((1 : Nat) : Int)) with c1 | c1 <;> rcases Classical.em (p ((2 : Nat) : Int)) with c2 | c2 <;> rcases Classical.em (p ((3 : Nat) : Int)) with c3 | c3
  · rw [bit1_t c0, bit1_t c1, bit1_t c2, bit1_t c3, numF_t (k := 3) c3, numF_t (k := 2) c2, numF_t (k := 1) c1, numF_t (k := 0) c0, n0]; decide +kernel
  · rw [bit1_t c0, bit1_t c1, bit1_t c2, bit1_f c3, numF_f (k := 3) c3, numF_t (k := 2) c2, numF_t (k := 1) c1, numF_t (k := 0) c0, n0]; decide +kernel
  · rw [bit1_t c0, bit1_t c1, bit1_f c2, bit1_t c3, numF_t (k := 3) c3, numF_f (k := 2) c2, numF_t (k := 1) c1, numF_t (k := 0) c0, n0]; decide +kernel
  · rw [bit1_t c0, bit1_t c1, bit1_f c2, bit1_f c3, numF_f (k := 3) c3, numF_f (k := 2) c2, numF_t (k := 1) c1, numF_t (k := 0) c0, n0]; decide +kernel
  · rw [bit1_t c0, bit1_f c1, bit1_t c2, bit1_t c3, numF_t (k := 3) c3, numF_t (k := 2) c2, numF_f (k := 1) c1, numF_t (k := 0) c0, n0]; decide +kernel
  · rw [bit1_t c0, bit1_f c1, bit1_t c2, bit1_f c3, numF_f (k := 3) c3, numF_t (k := 2) c2, numF_f (k := 1) c1, numF_t (k := 0) c0, n0]; decide +kernel
  · rw [bit1_t c0, bit1_f c1, bit1_f c2, bit1_t c3, numF_t (k := 3) c3, numF_f (k := 2) c2, numF_f (k := 1) c1, numF_t (k := 0) c0, n0]; decide +kernel
  · rw [bit1_t c0, bit1_f c1, bit1_f c2, bit1_f c3, numF_f (k := 3) c3, numF_f (k := 2) c2, numF_f (k := 1) c1, numF_t (k := 0) c0, n0]; decide +kernel
  · rw [bit1_f c0, bit1_t c1, bit1_t c2, bit1_t c3, numF_t (k := 3) c3, numF_t (k := 2) c2, numF_t (k := 1) c1, numF_f (k := 0) c0, n0]; decide +kernel
  · rw [bit1_f c0, bit1_t c1, bit1_t c2, bit1_f c3, numF_f (k := 3) c3, numF_t (k := 2) c2, numF_t (k := 1) c1, numF_f (k := 0) c0, n0]; decide +kernel
  · rw [bit1_f c0, bit1_t c1, bit1_f c2, bit1_t c3, numF_t (k := 3) c3, numF_f (k := 2) c2, numF_t (k := 1) c1, numF_f (k := 0) c0, n0]; decide +kernel
  · rw [bit1_f c0, bit1_t c1, bit1_f c2, bit1_f c3, numF_f (k := 3) c3, numF_f (k := 2) c2, numF_t (k := 1) c1, numF_f (k := 0) c0, n0]; decide +kernel
  · rw [bit1_f c0, bit1_f c1, bit1_t c2, bit1_t c3, numF_t (k := 3) c3, numF_t (k := 2) c2, numF_f (k := 1) c1, numF_f (k := 0) c0, n0]; decide +kernel
  · rw [bit1_f c0, bit1_f c1, bit1_t c2, bit1_f c3, numF_f (k := 3) c3, numF_t (k := 2) c2, numF_f (k := 1) c1, numF_f (k := 0) c0, n0]; decide +kernel
  · rw [bit1_f c0, bit1_f c1, bit1_f c2, bit1_t c3, numF_t (k := 3) c3, numF_f (k := 2) c2, numF_f (k := 1) c1, numF_f (k := 0) c0, n0]; decide +kernel
  · rw [bit1_f c0, bit1_f c1, bit1_f c2, bit1_f c3, numF_f (k := 3) c3, numF_f (k := 2) c2, numF_f (k := 1) c1, numF_f (k := 0) c0, n0]; decide +kernel
theorem z_lay {s c : Int} : cas (fun a v a' => laQ a s c v a') (fun b v b' => lyM b s c v b') := by
  intro K a b a' b' v w hR hc hm
  have hR0 := hR
  have hok := (rel_ok hR).1
  obtain ⟨⟨⟨hh, -⟩, -⟩, r2, r3, -, -, -, -, -, -, r10⟩ := hR0
  have h7 := hh.2.2.2.2.2.2.1
  have x5 := r2.2.1.2.1
  have hn := n_eq hh r2
  rcases hc with ⟨⟨q1, q2⟩, a5, h5, hc⟩ | ⟨q, e1, ea⟩ <;> rcases hm with ⟨⟨p1, p2⟩, b3, h3, hm⟩ | ⟨p, e2, eb⟩
  · have s4 : s < 4 := by omega
    have hl := (li_eq r3 q1.1 s4).1
    have hse := sh_eq r2 q1.1 q1.2
    have hon : ∀ x : Int, 0 ≤ x → x < 12 → a5 35 x.toNat = b3 61 x.toNat := fun x x0 x1 => by rw [h5.2.2.2.1 x x0 x1, h3.2.2.2.2 x x0 x1, on_eq hh r2 r3]
    have hcan : canP (a 4 3) (a 4 4) (shW a s) (shL a s) c (a5 35) ↔ canP (b 44 0) (b 44 1) (mW b s) (mL b s) c (b3 61) := by
      unfold canP
      rw [hse.2.1, hse.2.2.1, r2.1.1, r2.1.2.1]
      exact ⟨fun z => ⟨z.1, fun x x0 x1 y => by rw [← hon x x0 x1]; exact z.2 x x0 x1 y⟩, fun z => ⟨z.1, fun x x0 x1 y => by rw [hon x x0 x1]; exact z.2 x x0 x1 y⟩⟩
    have hok5 := (sho_ok hok h5).1
    have hk5 := rel_keep hR hok5 h5.1 h3.1
    rcases hc with ⟨⟨z1, z2⟩, a11, ha11, ea, e1⟩ | ⟨z, e1, ea⟩ <;> rcases hm with ⟨⟨y1, y2⟩, b13, hb13, eb, e2⟩ | ⟨y, e2, eb⟩
    · have hmm : ∀ j : Int, 0 ≤ j → j < 10 → momV a' j = if j = 2 + s then c else momV a j := by
        intro j j0 j1
        rw [ea, mom_19 q1.1 s4 j0 j1, momV_fr ha11.1, momV_fr h5.1]
      have hFm : Fr [19] a11 a' := by rw [ea]; exact Fr.rf.set (by decide)
      have hA : Fr [18, 19, 20, 24, 26, 35, 36, 38, 39, 40] a5 a' := (ha11.1.mono (by decide)).tr (hFm.mono (by decide))
      have hFb : Fr [48] b13 b' := by rw [eb]; exact Fr.rf.set (by decide)
      have hmo : moX a' b' := by
        intro j j0 j1
        rw [hmm j j0 j1, eb, mset_at, hb13.1.at 48, h3.1.at 48]
        by_cases d : j = 2 + s
        · rw [if_pos d, if_pos ⟨rfl, by omega⟩]
        · rw [if_neg d, if_neg (by omega)]
          exact r3 j j0 j1
      obtain ⟨m1, m2, m3, m4⟩ := r10.1
      have hnew : ∀ t x : Int, 0 ≤ t → t < 4 → t ≠ s → momV a (2 + t) ≠ -9 → cov (a 4 3) (shW a t) (shL a t) (momV a (2 + t)) x → cov (a 4 3) (shW a s) (shL a s) c x → False := by
        intro t x t0 t1 hts ht h1 h2
        have hx := cov_b hh.1 hh.2.1 z2.1 h2
        have h9 := z2.2 x hx.1 hx.2 h2
        rw [h5.2.2.2.1 x hx.1 hx.2] at h9
        have e := (mom_2 (m := a) t0 t1).1
        rw [e] at ht h1
        have q := (m1 t t0 t1).1
        rw [e] at q
        rcases q with q | q
        · exact ht q
        · exact onF_no (li := liD a 19) t0 ht h1 _ (show t < (((a 7 2).toNat : Nat) : Int) by omega) h9
      have hmv : mvK a (momV a') := by
        refine ⟨fun t t0 t1 => ?_, fun t u x t0 t1 u0 u1 htu ht hu => ?_, ?_, ?_⟩
        · rw [hmm (2 + t) (by omega) (by omega), hmm (6 + t) (by omega) (by omega), hmm 0 (by decide) (by decide), hmm 1 (by decide) (by decide), if_neg (show ¬ 6 + t = 2 + s by omega), if_neg (show ¬ (0 : Int) = 2 + s by omega), if_neg (show ¬ (1 : Int) = 2 + s by omega)]
          refine ⟨?_, (m1 t t0 t1).2⟩
          by_cases d : 2 + t = 2 + s
          · have ets : t = s := by omega
            rw [if_pos d, ets]
            exact Or.inr ⟨q1.2, z2.1⟩
          · rw [if_neg d]; exact (m1 t t0 t1).1
        · rw [hmm (2 + t) (by omega) (by omega)] at ht ⊢
          rw [hmm (2 + u) (by omega) (by omega)] at hu ⊢
          by_cases d : 2 + t = 2 + s
          · have ets : t = s := by omega
            rw [if_pos d, if_neg (by omega), ets]
            rw [if_neg (by omega)] at hu
            exact fun h1 h2 => hnew u x u0 u1 (by omega) hu h2 h1
          · by_cases d2 : 2 + u = 2 + s
            · have ets : u = s := by omega
              rw [if_neg d, if_pos d2, ets]
              rw [if_neg d] at ht
              exact fun h1 h2 => hnew t x t0 t1 (by omega) ht h1 h2
            · rw [if_neg d] at ht ⊢
              rw [if_neg d2] at hu ⊢
              exact m2 t u x t0 t1 u0 u1 htu ht hu
        · rw [hmm 0 (by decide) (by decide), if_neg (by omega)]; exact m3
        · rw [hmm 1 (by decide) (by decide), if_neg (by omega)]; exact m4
      have hth : thOK a' := by
        unfold thOK
        rw [hFm.at 36, ha11.1.at 36]
        exact hok5.2.2.2.1
      have hD := deed_mk hk5.1 ha11 hb13 hA ((hb13.1.mono (by decide)).tr (hFb.mono (by decide))) (hFm.at 24) (hFm.at 26) (hFb.at 44) (hFb.at 49) hth hmo ((mvK_fr h5.1).mpr hmv)
      · have x5' : a' 7 2 = b' 44 5 := hD.1.2.1.2.1.2.1
        have e7 : a' 7 = a 7 := by rw [hA.at 7, h5.1.at 7]
        refine ⟨?_, hD.1, hk5.2.1.tr hD.2.1, hk5.2.2.tr hD.2.2⟩
        rw [e1, e2, bc_num, numF_more (a 7 2).toNat 4 (by omega) (fun i i0 i1 z => ?_), ← x5', e7]
        · refine numF_congr _ (fun i i0 i1 => ?_)
          unfold laD laM
          rw [(li_eq hmo i0 (by omega)).1]
        · have q := (hmv.1 i (by omega) (by omega)).1
          rw [(mom_2 (m := a') (s := i) (by omega) (by omega)).1] at q
          rcases q with q | q
          · exact z q
          · omega
    · exact absurd ⟨by rw [← hl]; exact z1, hcan.mp z2⟩ y
    · exact absurd ⟨by rw [hl]; exact y1, hcan.mpr y2⟩ z
    · rw [ea, eb]
      exact ⟨by rw [e1, e2], rel_same hR hok5 h5.1 h3.1⟩
  · exact absurd ⟨⟨q1.1, by omega⟩, q2.1, by omega⟩ p
  · exact absurd ⟨⟨p1.1, by omega⟩, p2.1, by omega⟩ q
  · rw [ea, eb]
    exact ⟨by rw [e1, e2], rel_same hR hok (ks := []) (ls := []) Fr.rf Fr.rf⟩
theorem mom_c {m : Mem} {j : Int} (j0 : 0 ≤ j) (j1 : j < 10) : (j = 0 ∧ momV m j = m 18 2) ∨ (j = 1 ∧ momV m j = m 18 3) ∨ (∃ s : Int, (0 ≤ s ∧ s < 4) ∧ j = 2 + s ∧ momV m j = m 19 s.toNat) ∨ (∃ s : Int, (0 ≤ s ∧ s < 4) ∧ j = 6 + s ∧ momV m j = m 20 s.toNat) := by
  by_cases c0 : j = 0
  · exact Or.inl ⟨c0, by unfold momV; rw [if_pos c0]⟩
  · by_cases c1 : j = 1
    · exact Or.inr (Or.inl ⟨c1, by unfold momV; rw [if_neg c0, if_pos c1]⟩)
    · by_cases c6 : j < 6
      · have e := mom_2 (m := m) (s := j - 2) (by omega) (by omega)
        refine Or.inr (Or.inr (Or.inl ⟨j - 2, by omega, by omega, ?_⟩))
        rw [← e.1]
        congr 1
        omega
      · have e := mom_2 (m := m) (s := j - 6) (by omega) (by omega)
        refine Or.inr (Or.inr (Or.inr ⟨j - 6, by omega, by omega, ?_⟩))
        rw [← e.2.1]
        congr 1
        omega
theorem z_hour : cas (fun a v a' => hoQ a v a') (fun b v b' => hoM b v b') := by
  intro K a b a' b' v w hR hc hm
  have hR0 := hR
  have hok := (rel_ok hR).1
  have hthr := (rel_ok hR).2
  obtain ⟨⟨⟨hh, -⟩, -⟩, r2, r3, -, -, -, -, -, -, r10⟩ := hR0
  have h7 := hh.2.2.2.2.2.2.1
  have x5 := r2.2.1.2.1
  have hn := n_eq hh r2
  have hd := dh_eq r3
  have h99 := hthr.2.2.2
  have h23 := hthr.2.1
  have hnb := nD_b hh
  unfold hoQ at hc
  by_cases q : a 18 2 < 99
  · rw [if_pos q] at hc
    obtain ⟨e1, a2, a7, ha2, hs7, hy, a8, ea, hF8, hfl8, -, x8, -⟩ := hc
    rcases hm with ⟨p, -⟩ | ⟨-, e2, b2, b5, hb2, hs5, hF5, g1, g2, g3, g4⟩
    · omega
    have hok2 := rem_ok hok ha2
    have hm2 : moX a2 b2 := by
      intro j j0 j1
      rw [momV_fr ha2.1, hb2.1.at 48]
      exact r3 j j0 j1
    have hR2 := (deed_mk hR ha2 hb2 (ha2.1.mono (by decide)) (hb2.1.mono (by decide)) rfl rfl rfl rfl hok2.2.2.2.1 hm2 (by rw [momV_fr ha2.1]; exact r10.1)).1
    have hh2 := hok2.1
    have r22 := hR2.2.1
    have e7 : a7 7 = a 7 := by rw [hs7.1.at 7, ha2.1.at 7]
    have e4 : a7 4 = a 4 := by rw [hs7.1.at 4, ha2.1.at 4]
    have hnM : nM b5 = a 4 5 := by
      rw [hn]
      unfold nM
      rw [hs5.1.at 44, hb2.2.1 0 (by decide), hb2.2.1 1 (by decide)]
    have hon : ∀ x : Int, 0 ≤ x → x < 12 → a7 35 x.toNat = b5 61 x.toNat := fun x x0 x1 => by rw [hs7.2.2.2.1 x x0 x1, hs5.2.2.2.2 x x0 x1, on_eq hh2 r22 hm2]
    have hmor : ∀ s : Int, 0 ≤ s → s < a 7 2 → morD a7 (a 18 3) s / 10 = morM b5 (b 48 1) s := by
      intro s s0 sn
      show losF (fun c => a7 35 c.toNat) (fun c => ldD a7 c (a 18 3) (a 18 3)) s (a7 4 5).toNat / 10 = losF (ocM b5) (fun c => ldM b5 c (b 48 1) (b 48 1)) s (nM b5).toNat / 10
      rw [e4, hnM, ← hd.2]
      rw [losF_congr (on' := ocM b5) (ld' := fun c => ldM b5 c (a 18 3) (a 18 3)) (a 4 5).toNat (fun c c0 cn => ⟨hon c c0 (by omega), ld_eq hh2 r22 hm2 hs7 hs5 c0 (by rw [ha2.1.at 4]; omega)⟩)]
    have hno : ∀ s : Int, 0 ≤ s → s < a 7 2 → a 19 s.toNat = -9 → morD a7 (a 18 3) s / 10 = 0 := by
      intro s s0 sn z
      have h : morD a7 (a 18 3) s = 0 := by
        refine losF_no _ (fun c c0 cn e => ?_)
        rw [e4] at cn
        have e' : a7 35 c.toNat = s := e
        rw [hs7.2.2.2.1 c c0 (by omega)] at e'
        have h := (onF_li s0 _ e').1
        rw [show liD a2 19 s = a 19 s.toNat by show a2 19 s.toNat = _; rw [ha2.1.at 19]] at h
        exact h z
      rw [h]; rfl
    have hb9 : ∀ s : Int, 0 ≤ morD a7 (a 18 3) s / 10 ∧ morD a7 (a 18 3) s / 10 ≤ 9 := by
      intro s
      have h := morD_b hy (hr := a 18 3) (s := s)
      generalize morD a7 (a 18 3) s = z at h ⊢
      omega
    have e18 : a8 18 = a 18 := by rw [hF8.at 18, hs7.1.at 18, ha2.1.at 18]
    have ht := tk_v (m := a8) (h := 18) (by rw [e18]; exact h23)
    have hFt := tk_fr (m := a8) (h := 18)
    rw [← ea, e18] at ht
    rw [← ea] at hFt
    have k19 : ∀ s : Int, 0 ≤ s → s < 4 → a' 19 s.toNat = a 19 s.toNat := fun s s0 s1 => by rw [hFt.at 19, hF8.at 19, hs7.1.at 19, ha2.1.at 19]
    have k20 : ∀ s : Int, 0 ≤ s → s < 4 → a' 20 s.toNat = a 20 s.toNat + (if s < a 7 2 then morD a7 (a 18 3) s / 10 else 0) := by
      intro s s0 s1
      have h := x8 s s0 s1
      rw [e7, hs7.1.at 19, ha2.1.at 19, hs7.1.at 20, ha2.1.at 20, hs7.1.at 18, ha2.1.at 18] at h
      rw [hFt.at 20, h]
      by_cases c : s < a 7 2
      · rw [if_pos c]
        by_cases z : a 19 s.toNat = -9
        · rw [if_neg (fun y => y.2 z), hno s s0 c z, Int.add_zero]
        · rw [if_pos ⟨c, z⟩]
      · rw [if_neg c, if_neg (fun y => c y.1), Int.add_zero]
    have hmo : moX a' b' := by
      intro j j0 j1
      rcases mom_c (m := a') j0 j1 with ⟨ej, ev⟩ | ⟨ej, ev⟩ | ⟨s, hs, ej, ev⟩ | ⟨s, hs, ej, ev⟩
      · rw [ev, ej, ht.2, hd.1, hd.2]
        exact g4.symm
      · rw [ev, ej, ht.1, hd.2]
        exact g3.symm
      · rw [ev, k19 s hs.1 hs.2, ej, g2 (2 + s) (by omega) (by omega)]
        exact (li_eq r3 hs.1 hs.2).1
      · rw [ev, k20 s hs.1 hs.2, ej]
        by_cases c : s < a 7 2
        · rw [if_pos c, g1 s hs.1 (by omega), hmor s hs.1 c, (li_eq r3 hs.1 hs.2).2]
        · rw [if_neg c, g2 (6 + s) (by omega) (by omega), Int.add_zero]
          exact (li_eq r3 hs.1 hs.2).2
    have hmv : mvK a (momV a') := by
      obtain ⟨m1, m2, m3, m4⟩ := r10.1
      have f0 : momV a' 0 = a' 18 2 := rfl
      have f1 : momV a' 1 = a' 18 3 := rfl
      have o0 : momV a 0 = a 18 2 := rfl
      have o1 : momV a 1 = a 18 3 := rfl
      refine ⟨fun t t0 t1 => ?_, fun t u x t0 t1 u0 u1 htu htt huu => ?_, ?_, ?_⟩
      · have e := mom_2 (m := a') t0 t1
        have o := mom_2 (m := a) t0 t1
        have h := m1 t t0 t1
        rw [o.1, o.2.1, o0, o1] at h
        rw [e.1, e.2.1, f0, f1, k19 t t0 t1, k20 t t0 t1, ht.1, ht.2]
        refine ⟨h.1, ?_⟩
        have h9 := hb9 t
        generalize morD a7 (a 18 3) t / 10 = z at h9 ⊢
        split <;> split <;> omega
      · have e := mom_2 (m := a') t0 t1
        have o := mom_2 (m := a) t0 t1
        have e' := mom_2 (m := a') u0 u1
        have o' := mom_2 (m := a) u0 u1
        have h := m2 t u x t0 t1 u0 u1 htu
        rw [e.1, k19 t t0 t1, ← o.1] at htt ⊢
        rw [e'.1, k19 u u0 u1, ← o'.1] at huu ⊢
        exact h htt huu
      · rw [f0, ht.2]
        split <;> omega
      · rw [f1, ht.1]
        omega
    have hFa : Fr [18, 19, 20, 24, 26, 35, 36, 38, 39, 40] a a' := (((ha2.1.mono (by decide)).tr (hs7.1.mono (by decide))).tr (hF8.mono (by decide))).tr (hFt.mono (by decide))
    have hFb : Fr [44, 48, 49, 59, 60, 61, 62, 63] b b' := ((hb2.1.mono (by decide)).tr (hs5.1.mono (by decide))).tr (hF5.mono (by decide))
    have hth : thOK a' := by
      unfold thOK
      rw [hFt.at 36]
      exact hfl8.1.1.2.2.2.2.2
    have hdd := dh_eq hmo
    refine ⟨by rw [e1, e2]; exact hdd.2, deed_mk hR ha2 hb2 hFa hFb ?_ ?_ ?_ ?_ hth hmo hmv⟩
    · rw [hFt.at 24, hF8.at 24, hs7.1.at 24]
    · rw [hFt.at 26, hF8.at 26, hs7.1.at 26]
    · rw [hF5.at 44, hs5.1.at 44]
    · rw [hF5.at 49, hs5.1.at 49]
  · rw [if_neg q] at hc
    rcases hm with ⟨p, e2, eb⟩ | ⟨p, -⟩
    · rw [hc.2, eb]
      exact ⟨by rw [hc.1, e2], rel_same hR hok (ks := []) (ls := []) Fr.rf Fr.rf⟩
    · omega
theorem eqP_rf (P : PS) : eqP P P := ⟨rfl, rfl, rfl, rfl, rfl, rfl, rfl, fun _ _ => rfl, fun _ _ => rfl, fun _ _ => rfl⟩
theorem z_house : cas (fun a v a' => haQ a v a') (fun b v b' => haM b v b') := by
  intro K a b a' b' v w hR hc hm
  have hR0 := hR
  have hok := (rel_ok hR).1
  obtain ⟨⟨⟨hh, c1', -, -⟩, c2, c3, c4, c5, c6, c7⟩, r2, r3, r4, r5, r6, r7, r8, r9, r10⟩ := hR0
  obtain ⟨P, hp, hcap, hc⟩ := hc
  obtain ⟨Q, hq, hm⟩ := hm
  rw [← r8.2, ← r8.1] at hq
  obtain ⟨evw, hPQ⟩ := prP_one 13 0 0 begP begP v w P Q (by decide) ⟨by decide, c4.1.1⟩ (eqP_rf _) hp hq
  refine ⟨evw, ?_⟩
  rcases hc with ⟨v0, hA, e12⟩ | ⟨v0, hok', hf, hcp, hnx, hnew, ⟨e24, e30, e32⟩, hA⟩ <;> rcases hm with ⟨w0, hB, h44⟩ | ⟨w0, hok2, hf2, hnew2, e18, hB⟩
  · have h44' : ∀ k : Nat, k < 21 → b' 44 k = b 44 k := fun k hk => h44 k (Or.inl hk)
    refine ⟨⟨⟨⟨(hsD_fr hA).mpr hh, by rw [hA.at 4, hA.at 37]; exact c1', thOK_fr hok.2.2.2.1 hA, paOK_fr hok.2.2.2.2 hA⟩, heOK_fr hA c2, tpOK_fr hA c3, ?_, ?_, hcap, by rw [hA.at 27]; exact c7⟩, ?_, moX_fr r3 hA hB, paX_fr r4 hA hB (h44' 11 (by decide)), imX_fr r5 hA hB, heX_fr r6 hA hB (h44' 14 (by decide)), tpX_fr r7 hA hB (h44' 16 (by decide)), ?_, trX_fr r9 hA (h44' 18 (by decide)), vaX_fr r10 hA hB⟩, hA.mono (by decide), hB.mono (by decide)⟩
    · unfold txOK at *
      rw [e12, hA.at 2]
      exact c4
    · unfold cpK at *
      rw [hA.at 5, hA.at 7, hA.at 9]
      exact c5
    · unfold hsX at *
      rw [hA.at 4, hA.at 5, hA.at 6, hA.at 7, hA.at 8, hA.at 9, hA.at 10, h44' 0 (by decide), h44' 1 (by decide), h44' 2 (by decide), h44' 3 (by decide), h44' 5 (by decide), h44' 7 (by decide), hB.at 45, hB.at 46, hB.at 47]
      exact r2
    · exact ⟨by rw [e12, h44' 20 (by decide)]; exact r8.1, by rw [hA.at 2, hB.at 54]; exact r8.2⟩
  · omega
  · omega
  · have hE := hPQ v0
    obtain ⟨n1, n24, n30, n32, n29⟩ := hnew
    obtain ⟨⟨g20, g48⟩, g11, g14, g16, g51⟩ := hnew2
    have hdd := hf_ok hf hok'
    have hmv : ∀ j : Int, 0 ≤ j → j < 10 → momV a' j = b' 48 j.toNat := by
      intro j j0 j1
      rw [g48 j j0 j1]
      rcases mom_c (m := a') j0 j1 with ⟨ej, ev⟩ | ⟨ej, ev⟩ | ⟨s, hs, ej, ev⟩ | ⟨s, hs, ej, ev⟩
      · rw [ev, n1.2.1, if_neg (by omega)]
      · rw [ev, n1.2.2.1, if_neg (by omega)]
      · rw [ev, (n1.2.2.2 s hs.1 hs.2).1, if_pos (by omega)]
      · rw [ev, (n1.2.2.2 s hs.1 hs.2).2, if_neg (by omega)]
    have hpa := hok.2.2.2.2
    have hc30 : a 30 0 = 4 := c2.1.1
    have hc32 : a 32 0 = 4 := c3.1.1
    refine ⟨⟨⟨⟨hdd, hnx, thOK_fr hok.2.2.2.1 hA, ⟨by rw [e24]; exact hpa.1, by omega, by rw [hA.at 25]; exact hpa.2.2⟩⟩, ⟨⟨by omega, by omega, by omega⟩, fun i i0 i1 => by omega⟩, ⟨⟨by omega, by omega, by omega⟩, fun i i0 i1 => by omega⟩, ⟨by have := n1.1; omega, fun i i0 i1 => by have := n1.1; omega⟩, hcp, hcap, by rw [hA.at 27]; exact c7⟩, ?_, hmv, ⟨by omega, fun r j q1 q2 => by omega⟩, ⟨fun i i0 i1 => by rw [n29 i i0 i1, g51 i i0 i1], fun i j i0 i1 hi => absurd (n29 i i0 i1) hi⟩, ⟨by omega, fun i i0 i1 => by omega⟩, ⟨by omega, fun i i0 i1 => by omega⟩, ⟨by rw [n1.1, g20], by rw [hA.at 2, hB.at 54]; exact r8.2⟩, trX_fr r9 hA e18, ⟨?_, fun r q1 q2 => by omega, fun i i0 i1 hi => absurd (n29 i i0 i1) hi⟩⟩, hA.mono (by decide), hB.mono (by decide)⟩
    · obtain ⟨⟨f1, f2, -, f3⟩, ⟨f4, f5, f6⟩, f7, f8, f9⟩ := hf
      obtain ⟨⟨y1, y2, y3⟩, ⟨y4, y5, y6⟩, y7, y8, y9⟩ := hf2
      obtain ⟨x1, x2, x3, -, x4, x5, x6, x7, x8, x9⟩ := hE
      refine ⟨⟨by rw [f1, y1, x1], by rw [f2, y2, x2], by rw [f3, y3, x3]⟩, ⟨by rw [f4, y4, x4], by rw [f5, y5, x5], by rw [f6, y6, x6]⟩, fun e he => ?_, fun e he => ?_, fun e he => ?_⟩
      · rw [f7 e (by omega), x7 e (by omega), y7 e (by omega)]
      · rw [f8 e (by omega), x8 e (by omega), y8 e (by omega)]
      · rw [f9 e (by omega), x9 e (by omega), y9 e (by omega)]
    · have o0 : momV a' 0 = a' 18 2 := rfl
      have o1 : momV a' 1 = a' 18 3 := rfl
      refine ⟨fun t t0 t1 => ?_, fun t u x t0 t1 u0 u1 htu ht => ?_, ?_, ?_⟩
      · have e := mom_2 (m := a') t0 t1
        rw [e.1, e.2.1, o0, o1, (n1.2.2.2 t t0 t1).1, (n1.2.2.2 t t0 t1).2, n1.2.1, n1.2.2.1]
        exact ⟨Or.inl rfl, by decide, by decide⟩
      · rw [(mom_2 (m := a') t0 t1).1, (n1.2.2.2 t t0 t1).1] at ht
        exact absurd rfl ht
      · rw [o0, n1.2.1]; decide
      · rw [o1, n1.2.2.1]; decide
