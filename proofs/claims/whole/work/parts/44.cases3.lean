/-! THE LAW'S CASES: through, toBuy -/
theorem loudF_nn {A B S C : Int → Int} {D : Int → Int → Int} {c p q : Int} : ∀ k : Nat, 0 ≤ loudF A B S C D c p q k
  | 0 => Int.le_refl _
  | k + 1 => by
    have h := loudF_nn (A := A) (B := B) (S := S) (C := C) (D := D) (c := c) (p := p) (q := q) k
    simp only [loudF]
    split <;> omega
theorem losF_nn {on ld : Int → Int} {s : Int} (h : ∀ c : Int, 0 ≤ ld c) : ∀ k : Nat, 0 ≤ losF on ld s k
  | 0 => Int.le_refl _
  | k + 1 => by
    have h1 := losF_nn (on := on) (s := s) h k
    simp only [losF]
    split <;> omega
theorem hrW_nn {n w fall : Int} {on : Nat → Int} {A B S C : Int → Int} {kn : Nat} {T W : Int → Int} {hr s : Int} : 0 ≤ hrW n w fall on A B S C kn T W hr s := losF_nn (fun c => loudF_nn _) _
theorem wsF_nn {n w fall : Int} {on : Nat → Int} {A B S C : Int → Int} {kn : Nat} {T W : Int → Int} {h s : Int} (hW : 0 ≤ W s) : ∀ j : Nat, 0 ≤ wsF n w fall on A B S C kn T W h j s
  | 0 => hW
  | j + 1 => by
    have h1 := wsF_nn (n := n) (w := w) (fall := fall) (on := on) (A := A) (B := B) (S := S) (C := C) (kn := kn) (T := T) (h := h) hW j
    show 0 ≤ wsF n w fall on A B S C kn T W h j s + hrW n w fall on A B S C kn T (wsF n w fall on A B S C kn T W h j) ((h + j) % 24) s / 10
    have h2 := hrW_nn (n := n) (w := w) (fall := fall) (on := on) (A := A) (B := B) (S := S) (C := C) (kn := kn) (T := T) (W := wsF n w fall on A B S C kn T W h j) (hr := (h + j) % 24) (s := s)
    omega
theorem ws_eq {a b : Mem} {on on' : Nat → Int} (hh : hsD a) (h : hsX a b) (hm : moX a b) (hv : moD a 19 20) (hon : ∀ x : Int, 0 ≤ x → x < 12 → on x.toNat = onD a 19 (a 7 2).toNat x) (hon' : ∀ x : Int, 0 ≤ x → x < 12 → on' x.toNat = onS b x) : ∀ (j : Nat) (s : Int), 0 ≤ s → s < a 7 2 → wsD a on j s = wsN b on' j s := by
  have hn := n_eq hh h
  have hnb := nD_b hh
  have h7 := hh.2.2.2.2.2.2.1
  have h5 := hh.2.2.2.2.2.1
  have hd := dh_eq hm
  have hoo : ∀ x : Int, 0 ≤ x → x < 12 → on x.toNat = on' x.toNat := fun x x0 x1 => by rw [hon x x0 x1, hon' x x0 x1, on_eq hh h hm]
  have hrg : ∀ x : Int, 0 ≤ x → x < 12 → on x.toNat = -9 ∨ (0 ≤ on x.toNat ∧ on x.toNat < a 7 2) := by
    intro x x0 x1
    rw [hon x x0 x1]
    have hb := onF_b (w := a 4 3) (wi := shW a) (lo := shL a) (li := liD a 19) (a 7 2).toNat x
    have e : (((a 7 2).toNat : Nat) : Int) = a 7 2 := by omega
    rw [e] at hb
    exact hb
  intro j
  induction j with
  | zero =>
    intro s s0 sn
    exact (li_eq hm s0 (by omega)).2
  | succ j ih =>
    intro s s0 sn
    have hnn : ∀ t : Int, 0 ≤ t → t < a 7 2 → 0 ≤ wsD a on j t := fun t t0 tn => wsF_nn (mo_wb hv t0 (by omega)).1 j
    have hhr : hrW (a 4 5) (a 4 3) (a 4 6) on (noA a) (noB a) (noS a) (noC a) (a 5 2).toNat (shT a) (wsD a on j) ((a 18 3 + j) % 24) s = hrW (nM b) (b 44 0) (b 44 2) on' (mnA b) (mnB b) (mnS b) (mnC b) (b 44 3).toNat (mT b) (wsN b on' j) ((b 48 1 + j) % 24) s := by
      unfold hrW
      rw [← hn, ← h.1.1, ← h.1.2.2, ← h.2.1.1, ← hd.2]
      refine losF_congr _ (fun c c0 cn => ⟨hoo c c0 (by omega), ?_⟩)
      refine loudF_congr _ (fun i i0 ik => ?_)
      have e := no_eq h i0 (show i < a 5 2 by omega)
      have q := hh.2.2.2.2.2.2.2.2.1 i i0 (by omega)
      rw [← e.1, ← e.2.1, ← e.2.2.1, ← e.2.2.2]
      refine ⟨rfl, rfl, rfl, ?_⟩
      refine dist_congr (hs_grid hh) (hs_costs hh hrg (fun t t0 tn => ?_)) q.1.1 q.1.2 (fun x y x0 xn y0 yn => tk_cg (ns := a 7 2) (hoo x x0 (by omega)) (hoo y y0 (by omega)) (hrg y y0 (by omega)) (fun t t0 tn => ?_)) c0 (by omega)
      · have e : ((t.toNat : Nat) : Int) = t := by omega
        have hT : 0 ≤ shT a t ∧ shT a t ≤ 30 := (hh.2.2.2.2.2.2.2.2.2.1 t t0 tn).1
        have hW := hnn t t0 tn
        show 0 ≤ max 0 (shT a ((t.toNat : Nat) : Int) - wsD a on j ((t.toNat : Nat) : Int) / 10) ∧ max 0 (shT a ((t.toNat : Nat) : Int) - wsD a on j ((t.toNat : Nat) : Int) / 10) ≤ 30
        rw [e]
        generalize shT a t = z at hT ⊢
        generalize wsD a on j t = y at hW ⊢
        omega
      · have e : ((t.toNat : Nat) : Int) = t := by omega
        show max 0 (shT a ((t.toNat : Nat) : Int) - wsD a on j ((t.toNat : Nat) : Int) / 10) = max 0 (mT b ((t.toNat : Nat) : Int) - wsN b on' j ((t.toNat : Nat) : Int) / 10)
        rw [e, (sh_eq h t0 tn).1, ih t t0 tn]
    show wsD a on j s + hrW (a 4 5) (a 4 3) (a 4 6) on (noA a) (noB a) (noS a) (noC a) (a 5 2).toNat (shT a) (wsD a on j) ((a 18 3 + j) % 24) s / 10 = wsN b on' j s + hrW (nM b) (b 44 0) (b 44 2) on' (mnA b) (mnB b) (mnS b) (mnC b) (b 44 3).toNat (mT b) (wsN b on' j) ((b 48 1 + j) % 24) s / 10
    rw [ih s s0 sn, hhr]
theorem thrP_one {wh wh' : Int → Prop} {Z Z' : Int → Int → Prop} {ns u v : Int} (hw : ∀ s : Int, 0 ≤ s → s < ns → (wh s ↔ wh' s)) (hz : ∀ k s : Int, 1 ≤ k → k ≤ 240 → 0 ≤ s → s < ns → (Z k s ↔ Z' k s)) (hu : thrP wh Z ns u) (hv : thrP wh' Z' ns v) : u = v := by
  rcases hu with ⟨e, h⟩ | ⟨k, s, hk, hs, w1, z1, e, h1, h2⟩ <;> rcases hv with ⟨f, g⟩ | ⟨l, t, hl, ht, w2, z2, f, g1, g2⟩
  · rw [e, f]
  · exact absurd ((hz l t hl.1 hl.2 ht.1 ht.2).mpr z2) (h l t hl.1 hl.2 ht.1 ht.2 ((hw t ht.1 ht.2).mpr w2))
  · exact absurd ((hz k s hk.1 hk.2 hs.1 hs.2).mp z1) (g k s hk.1 hk.2 hs.1 hs.2 ((hw s hs.1 hs.2).mp w1))
  · by_cases c : k < l
    · exact absurd ((hz k s hk.1 hk.2 hs.1 hs.2).mp z1) (g1 k s hk.1 c hs.1 hs.2 ((hw s hs.1 hs.2).mp w1))
    · by_cases d : l < k
      · exact absurd ((hz l t hl.1 hl.2 ht.1 ht.2).mpr z2) (h1 l t hl.1 d ht.1 ht.2 ((hw t ht.1 ht.2).mpr w2))
      · have ekl : k = l := by omega
        subst ekl
        by_cases c2 : s < t
        · exact absurd ((hz k s hk.1 hk.2 hs.1 hs.2).mp z1) (g2 s hs.1 c2 ((hw s hs.1 hs.2).mp w1))
        · by_cases d2 : t < s
          · exact absurd ((hz k t hk.1 hk.2 ht.1 ht.2).mpr z2) (h2 t ht.1 d2 ((hw t ht.1 ht.2).mpr w2))
          · omega
theorem z_through {x : Int} : cas (fun a v a' => thQ a x v a') (fun b v b' => thM2 b x v b') := by
  intro K a b a' b' v w hR hc hm
  have hh := hR.1.1.1
  have h7 := hh.2.2.2.2.2.2.1
  have x5 := hR.2.1.2.1.2.1
  have hok := (rel_ok hR).1
  rcases hc with ⟨q, e1, ea⟩ | ⟨q, f, ⟨⟨on, hon, hf⟩, hFa, hoa⟩, e1⟩ <;> rcases hm with ⟨p, e2, eb⟩ | ⟨p, g, ⟨⟨on', hon', hg⟩, hFb⟩, e2⟩
  · rw [ea, eb]
    exact ⟨by rw [e1, e2], rel_same hR (rel_ok hR).1 (ks := []) (ls := []) Fr.rf Fr.rf⟩
  · exact absurd p q
  · exact absurd q p
  · refine ⟨?_, rel_same hR hoa hFa hFb⟩
    rw [← x5] at hg
    have efg : f = g := by
      refine thrP_one (fun s s0 sn => ?_) (fun k s k1 k2 s0 sn => ?_) hf hg
      · unfold whD whM
        rw [(li_eq hR.2.2.1 s0 (show s < 4 by omega)).1, th_eq hh hR.2.1 hR.2.2.1 s0 sn]
      · unfold zeD zeM
        rw [(sh_eq hR.2.1 s0 sn).1, ws_eq hh hR.2.1 hR.2.2.1 hok.2.1 hon hon' k.toNat s s0 sn]
    rw [e1, e2, efg]
theorem bsP_one {C D : Int → Prop} {u v : Int} (h : ∀ r : Int, C r ↔ D r) (hu : bsP C u) (hv : bsP D v) : u = v := by
  obtain ⟨a1, a2, a3⟩ := hu
  obtain ⟨b1, b2, b3⟩ := hv
  have h1 : v ≤ u := by
    rcases a1 with e | e
    · omega
    · exact b3 u ((h u).mp e)
  have h2 : u ≤ v := by
    rcases b1 with e | e
    · omega
    · exact a3 v ((h v).mpr e)
  omega
theorem onQ_eq {a b : Mem} {li li' : Int → Int} (hh : hsD a) (h : hsX a b) (hl : ∀ s : Int, 0 ≤ s → s < a 7 2 → li s = li' s) (x : Int) : onQ a li x = onQm b li' x := by
  have h7 := hh.2.2.2.2.2.2.1
  unfold onQ onQm
  rw [h.1.1, ← h.2.1.2.1]
  exact onF_congr _ x (fun s s0 sk => ⟨(sh_eq h s0 (by omega)).2.1, (sh_eq h s0 (by omega)).2.2.1, hl s s0 (by omega)⟩)
theorem leg_eq {a b : Mem} {li li' : Int → Int} {s c : Int} (hh : hsD a) (h : hsX a b) (hl : ∀ s : Int, 0 ≤ s → s < a 7 2 → li s = li' s) (s0 : 0 ≤ s) (sn : s < a 7 2) : legQ a li s c ↔ legM b li' s c := by
  have e := sh_eq h s0 sn
  unfold legQ legM
  rw [e.2.1, e.2.2.1, h.1.1, h.1.2.1]
  refine ⟨fun z => ⟨z.1, fun x x0 x1 q => ?_⟩, fun z => ⟨z.1, fun x x0 x1 q => ?_⟩⟩
  · rw [← onQ_eq hh h hl]; exact z.2 x x0 x1 q
  · rw [onQ_eq hh h hl]; exact z.2 x x0 x1 q
theorem qz_eq {a b : Mem} {li li' : Int → Int} (hh : hsD a) (h : hsX a b) (hm : moX a b) (hv : moD a 19 20) (hl : ∀ s : Int, 0 ≤ s → s < a 7 2 → li s = li' s) : qzQ a li ↔ qzM b li' := by
  have hn := n_eq hh h
  have hnb := nD_b hh
  have h7 := hh.2.2.2.2.2.2.1
  have h5 := hh.2.2.2.2.2.1
  have hrg : ∀ x : Int, 0 ≤ x → x < 12 → (fun x : Nat => onQ a li (x : Int)) x.toNat = -9 ∨ (0 ≤ (fun x : Nat => onQ a li (x : Int)) x.toNat ∧ (fun x : Nat => onQ a li (x : Int)) x.toNat < a 7 2) := by
    intro x x0 x1
    have hb := onF_b (w := a 4 3) (wi := shW a) (lo := shL a) (li := li) (a 7 2).toNat ((x.toNat : Nat) : Int)
    have e : (((a 7 2).toNat : Nat) : Int) = a 7 2 := by omega
    rw [e] at hb
    exact hb
  have key : ∀ r : Int, 0 ≤ r → r < a 9 2 → (roM a r < lwQ a li (fun i => thD a 20 i) (roC a r) (roA a r) (roB a r) ↔ mrM b r < lwM b li' (mrC b r) (mrA b r) (mrB b r)) := by
    intro r r0 rn
    have er := ro_eq h r0 rn
    have hro := hh.2.2.2.2.2.2.2.2.2.2 r r0 rn
    rw [← er.1, ← er.2.1, ← er.2.2.1, ← er.2.2.2]
    have e : lwQ a li (fun i => thD a 20 i) (roC a r) (roA a r) (roB a r) = lwM b li' (roC a r) (roA a r) (roB a r) := by
      unfold lwQ lwM
      rw [← h.2.1.1]
      refine loudF_congr _ (fun i i0 ik => ?_)
      have e := no_eq h i0 (show i < a 5 2 by omega)
      have q := hh.2.2.2.2.2.2.2.2.1 i i0 (by omega)
      rw [← e.1, ← e.2.1, ← e.2.2.1, ← e.2.2.2]
      refine ⟨rfl, rfl, rfl, ?_⟩
      unfold DQ DQm
      rw [← hn, ← h.1.1, ← h.1.2.2]
      refine dist_congr (hs_grid hh) (hs_costs hh hrg (fun t t0 tn => ?_)) q.1.1 q.1.2 (fun x y x0 xn y0 yn => tk_cg (ns := a 7 2) (onQ_eq hh h hl _) (onQ_eq hh h hl _) (hrg y y0 (by omega)) (fun t t0 tn => ?_)) hro.1.1 hro.1.2
      · have e : ((t.toNat : Nat) : Int) = t := by omega
        show 0 ≤ thD a 20 ((t.toNat : Nat) : Int) ∧ thD a 20 ((t.toNat : Nat) : Int) ≤ 30
        rw [e]
        exact thD_b hh hv t0 tn
      · have e : ((t.toNat : Nat) : Int) = t := by omega
        show thD a 20 ((t.toNat : Nat) : Int) = trV b ((t.toNat : Nat) : Int)
        rw [e]
        exact th_eq hh h hm t0 tn
    rw [e]
  unfold qzQ qzM
  rw [← h.2.1.2.2]
  exact ⟨fun z r r0 rn w => z r r0 rn ((key r r0 rn).mpr w), fun z r r0 rn w => z r r0 rn ((key r r0 rn).mp w)⟩
