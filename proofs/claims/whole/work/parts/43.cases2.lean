/-! THE LAW'S CASES: gain, mayBe, through, toBuy -/
theorem hs_grid {a : Mem} (hh : hsD a) : grid (a 4 5) (a 4 3) := by
  obtain ⟨h1, h2, h3, -⟩ := hh
  refine ⟨h1, ?_⟩
  rw [h3]
  rcases h2 with e | e | e <;> rw [e] <;> omega
theorem hs_costs {a : Mem} {on th : Nat → Int} (hh : hsD a) (hon : ∀ x : Int, 0 ≤ x → x < 12 → on x.toNat = -9 ∨ (0 ≤ on x.toNat ∧ on x.toNat < a 7 2)) (hth : ∀ s : Int, 0 ≤ s → s < a 7 2 → 0 ≤ th s.toNat ∧ th s.toNat ≤ 30) : costs (a 4 5) (takeF (a 4 6) on th) := by
  intro x y x0 xn y0 yn
  have hn := nD_b hh
  have hf := hh.2.2.2
  have hy := hon y y0 (by omega)
  unfold takeF
  by_cases e : on y.toNat = -9
  · rw [if_pos e]; omega
  · have h := hth (on y.toNat) (by omega) (by omega)
    rw [if_neg e]
    split <;> omega
theorem tk_cg {on on' th th' : Nat → Int} {fall ns : Int} {p q : Int} (hp : on p.toNat = on' p.toNat) (hq : on q.toNat = on' q.toNat) (hb : on q.toNat = -9 ∨ (0 ≤ on q.toNat ∧ on q.toNat < ns)) (ht : ∀ s : Int, 0 ≤ s → s < ns → th s.toNat = th' s.toNat) : takeF fall on th p q = takeF fall on' th' p q := by
  unfold takeF
  rw [← hp, ← hq]
  by_cases e : on q.toNat = -9
  · rw [if_pos e, if_pos e]
  · rw [if_neg e, if_neg e, ht _ (by omega) (by omega)]
theorem onF_cov {w : Int} {wi lo li : Int → Int} {s x : Int} (hs : 0 ≤ s) : ∀ (k : Nat), onF w wi lo li k x = s → li s ≠ -9 ∧ cov w (wi s) (lo s) (li s) x ∧ s < k
  | 0, h => by
    simp only [onF] at h
    omega
  | k + 1, h => by
    simp only [onF] at h
    split at h
    · next q => rw [← h]; exact ⟨q.1, q.2, by omega⟩
    · have := onF_cov hs k h
      exact ⟨this.1, this.2.1, by omega⟩
theorem onF_s {w : Int} {wi lo li : Int → Int} {k : Nat} {x : Int} : (li k ≠ -9 ∧ cov w (wi k) (lo k) (li k) x → onF w wi lo li (k + 1) x = k) ∧ (¬ (li k ≠ -9 ∧ cov w (wi k) (lo k) (li k) x) → onF w wi lo li (k + 1) x = onF w wi lo li k x) := by
  simp only [onF]
  exact ⟨fun c => if_pos c, fun c => if_neg c⟩
theorem onF_rm {w : Int} {wi lo li li' : Int → Int} {s x M : Int} (s0 : 0 ≤ s) (hs : li' s = -9) (hli : ∀ t : Int, t ≠ s → li' t = li t) (hd : ∀ t : Int, 0 ≤ t → t < M → t ≠ s → li t ≠ -9 → li s ≠ -9 → cov w (wi t) (lo t) (li t) x → cov w (wi s) (lo s) (li s) x → False) : ∀ (k : Nat), (k : Int) ≤ M → (onF w wi lo li k x = s → onF w wi lo li' k x = -9) ∧ (onF w wi lo li k x ≠ s → onF w wi lo li' k x = onF w wi lo li k x)
  | 0, _ => ⟨fun _ => rfl, fun _ => rfl⟩
  | k + 1, hk => by
    have ih := onF_rm s0 hs hli hd k (by omega)
    have h1 := onF_s (w := w) (wi := wi) (lo := lo) (li := li) (k := k) (x := x)
    have h2 := onF_s (w := w) (wi := wi) (lo := lo) (li := li') (k := k) (x := x)
    by_cases e : (k : Int) = s
    · have n2 : onF w wi lo li' (k + 1) x = onF w wi lo li' k x := h2.2 (fun z => z.1 (by rw [e]; exact hs))
      rw [n2]
      by_cases c : li k ≠ -9 ∧ cov w (wi k) (lo k) (li k) x
      · have h9 : onF w wi lo li k x = -9 := by
          rcases onF_b (w := w) (wi := wi) (lo := lo) (li := li) k x with q | q
          · exact q
          · have := onF_cov q.1 k rfl
            rw [e] at c
            exact (hd _ q.1 (by omega) (by omega) this.1 c.1 this.2.1 c.2).elim
        rw [h1.1 c]
        have hz := ih.2 (by rw [h9]; omega)
        exact ⟨fun _ => by rw [hz, h9], fun z => absurd e z⟩
      · rw [h1.2 c]
        exact ih
    · have hk2 := hli k e
      by_cases c : li k ≠ -9 ∧ cov w (wi k) (lo k) (li k) x
      · rw [h1.1 c, h2.1 (by rw [hk2]; exact c)]
        exact ⟨fun z => absurd z e, fun _ => rfl⟩
      · rw [h1.2 c, h2.2 (by rw [hk2]; exact c)]
        exact ih
theorem lr_two {a b mu mm : Mem} {ks ls : List Nat} (hh : hsD a) (h : hsX a b) (hA : Fr ks a mu) (hB : Fr ls b mm) (hfl : flOK mu) (hon : ∀ x : Int, 0 ≤ x → x < 12 → mu 35 x.toNat = mm 61 x.toNat) (hrg : ∀ x : Int, 0 ≤ x → x < 12 → mu 35 x.toNat = -9 ∨ (0 ≤ mu 35 x.toNat ∧ mu 35 x.toNat < a 7 2)) (hth : ∀ s : Int, 0 ≤ s → s < a 7 2 → mu 36 s.toNat = mm 60 s.toNat) (k4 : 4 ∉ ks := by decide) (k5 : 5 ∉ ks := by decide) (k6 : 6 ∉ ks := by decide) (k9 : 9 ∉ ks := by decide) (k10 : 10 ∉ ks := by decide) (l44 : 44 ∉ ls := by decide) (l45 : 45 ∉ ls := by decide) (l47 : 47 ∉ ls := by decide) {r : Int} (r0 : 0 ≤ r) (rn : r < a 9 2) : lrD mu r = lrM mm r := by
  have hn := n_eq hh h
  have hnb := nD_b hh
  have h5 := hh.2.2.2.2.2.1
  have hro := hh.2.2.2.2.2.2.2.2.2.2 r r0 rn
  have er := ro_eq h r0 rn
  have x5 := ro_fr hA k9 k10
  have x3 := mro_f hB l47
  have w5 := no_fr hA k5 k6
  have w3 := mno_fr hB l45
  obtain ⟨hg, hcs⟩ := okGD_g hfl.1
  unfold lrD lrM
  rw [x5.1, x5.2.1, x5.2.2.2, x3.1, x3.2.1, x3.2.2.2, ← er.1, ← er.2.1, ← er.2.2.1]
  unfold ldD ldM
  rw [hA 5 k5, hB 44 l44, ← h.2.1.1]
  refine loudF_congr _ (fun i i0 ik => ?_)
  have e := no_eq h i0 (show i < a 5 2 by omega)
  have q := hh.2.2.2.2.2.2.2.2.1 i i0 (by omega)
  rw [w5.1, w5.2.1, w5.2.2.1, w5.2.2.2, w3.1, w3.2.1, w3.2.2.1, w3.2.2.2, ← e.1, ← e.2.1, ← e.2.2.1, ← e.2.2.2]
  refine ⟨rfl, rfl, rfl, ?_⟩
  have enM : nM mm = a 4 5 := by rw [hn]; unfold nM; rw [hB 44 l44]
  unfold DD DM ctM
  rw [enM, hB 44 l44, ← h.1.1, ← h.1.2.2]
  unfold ctD at *
  rw [hA 4 k4] at hg hcs ⊢
  refine dist_congr hg hcs q.1.1 q.1.2 (fun x y x0 xn y0 yn => ?_) hro.1.1 hro.1.2
  exact tk_cg (ns := a 7 2) (hon x x0 (by omega)) (hon y y0 (by omega)) (hrg y y0 (by omega)) hth
theorem z_gain {s : Int} : cas (fun a v a' => gaQ a s v a') (fun b v b' => gaM b s v b') := by
  intro K a b a' b' v w hR hc hm
  have hh := hR.1.1.1
  have hn := n_eq hh hR.2.1
  have hnb := nD_b hh
  have h7 := hh.2.2.2.2.2.2.1
  have x5 := hR.2.1.2.1.2.1
  have x9 := hR.2.1.2.1.2.2
  have hok := (rel_ok hR).1
  unfold gaQ at hc
  by_cases q : (0 ≤ s ∧ s < a 7 2) ∧ ¬ a 19 s.toNat = -9
  · rw [if_pos q] at hc
    have el := (li_eq hR.2.2.1 q.1.1 (show s < 4 by omega)).1
    rcases hm with ⟨-, ⟨m6, m11, m14, h6, ⟨hF11, hx11⟩, h14, hy14, e⟩, hF⟩ | ⟨e, -⟩
    · obtain ⟨⟨m5, mu, h5, ⟨hFu, hxu⟩, hy5, hyu, e5⟩, hs⟩ := hc
      refine ⟨?_, rel_same hR hs.2 hs.1 hF⟩
      have e1 : sumF (lrD m5) (m5 9 2).toNat = sumF (lrM m6) (m6 44 7).toNat := by
        rw [h5.1.at 9, h6.1.at 44, ← x9]
        exact sumF_cg _ (fun r r0 r1 => (lr_eq hh hR.2.1 hR.2.2.1 h5 h6 r0 (by omega)).1)
      have hLu : Fr [35, 36, 38, 39, 40] a mu := (h5.1.mono (by decide)).tr (hFu.mono (by decide))
      have hL11 : Fr [59, 60, 61, 62] b m11 := (h6.1.mono (by decide)).tr (hF11.mono (by decide))
      have hL14 : Fr [59, 60, 61, 62] b m14 := hL11.tr (h14.1.mono (by decide))
      have hrg5 : ∀ x : Int, 0 ≤ x → x < 12 → m5 35 x.toNat = -9 ∨ (0 ≤ m5 35 x.toNat ∧ m5 35 x.toNat < a 7 2) := by
        intro x x0 x1
        rw [h5.2.2.2.1 x x0 x1]
        have hb := onF_b (w := a 4 3) (wi := shW a) (lo := shL a) (li := liD a 19) (a 7 2).toNat x
        have e : (((a 7 2).toNat : Nat) : Int) = a 7 2 := by omega
        rw [e] at hb
        exact hb
      have hon : ∀ x : Int, 0 ≤ x → x < 12 → mu 35 x.toNat = m14 61 x.toNat := by
        intro x x0 x1
        rw [hxu x x0 x1, h5.2.2.2.1 x x0 x1, h14.2 x x0 x1]
        have hrm := onF_rm (w := a 4 3) (wi := shW a) (lo := shL a) (li := liD a 19) (li' := fupd (liD a 19) s (-9)) (s := s) (x := x) (M := 4) q.1.1 (by unfold fupd; rw [if_pos rfl]) (fun t ht => by unfold fupd; rw [if_neg ht]) (fun t t0 t4 hts ht hs' hc1 hc2 => hok.2.1.2 t s x t0 t4 q.1.1 (by omega) hts ht hs' hc1 hc2) (a 7 2).toNat (by omega)
        have hrm2 : (if onD a 19 (a 7 2).toNat x = s then -9 else onD a 19 (a 7 2).toNat x) = onF (a 4 3) (shW a) (shL a) (fupd (liD a 19) s (-9)) (a 7 2).toNat x := by
          by_cases c : onD a 19 (a 7 2).toNat x = s
          · rw [if_pos c]; exact (hrm.1 c).symm
          · rw [if_neg c]; exact (hrm.2 c).symm
        refine hrm2.trans ?_
        unfold onM
        have ms := msh_fr hL11
        rw [ms.1, ms.2.1, hL11.at 44, ← x5, ← hR.2.1.1.1]
        refine onF_congr _ x (fun t t0 tk => ⟨(sh_eq hR.2.1 t0 (by omega)).2.1, (sh_eq hR.2.1 t0 (by omega)).2.2.1, ?_⟩)
        rw [hx11 t t0 (by omega)]
        unfold fupd
        by_cases c : t = s
        · rw [if_pos c, if_pos c]
        · rw [if_neg c, if_neg c, h6.2.2.1 t t0 (by omega), if_pos (by omega)]
          exact (li_eq hR.2.2.1 t0 (by omega)).1
      have e2 : sumF (lrD mu) (mu 9 2).toNat = sumF (lrM m14) (m14 44 7).toNat := by
        rw [hLu.at 9, hL14.at 44, ← x9]
        refine sumF_cg _ (fun r r0 r1 => lr_two hh hR.2.1 hLu hL14 hyu.2.1 hon (fun x x0 x1 => ?_) (fun t t0 tn => ?_) (by decide) (by decide) (by decide) (by decide) (by decide) (by decide) (by decide) (by decide) r0 (by omega))
        · rw [hxu x x0 x1]
          by_cases c : m5 35 x.toNat = s
          · rw [if_pos c]; exact Or.inl rfl
          · rw [if_neg c]; exact hrg5 x x0 x1
        · rw [hFu.at 36, h14.1.at 60, hF11.at 60, h5.2.2.2.2 t t0 tn, h6.2.2.2.1 t t0 (by omega), if_pos (by omega)]
          exact th_eq hh hR.2.1 hR.2.2.1 t0 tn
      rw [e5, e, e1, e2]
    · exact absurd ⟨by omega, by rw [← el]; exact q.2⟩ e
  · rw [if_neg q] at hc
    rcases hm with ⟨e, -⟩ | ⟨-, e, f⟩
    · have el := (li_eq hR.2.2.1 e.1.1 (show s < 4 by omega)).1
      exact absurd ⟨by omega, by rw [el]; exact e.2⟩ q
    · rw [hc.2, f]
      exact ⟨by rw [hc.1, e], rel_same hR (rel_ok hR).1 (ks := []) (ls := []) Fr.rf Fr.rf⟩
theorem DP_eq {a b : Mem} {th th' : Nat → Int} (hh : hsD a) (h : hsX a b) (hm : moX a b) (hb30 : ∀ s : Int, 0 ≤ s → s < a 7 2 → 0 ≤ th s.toNat ∧ th s.toNat ≤ 30) (hth : ∀ s : Int, 0 ≤ s → s < a 7 2 → th s.toNat = th' s.toNat) {f c : Int} (f0 : 0 ≤ f) (fn : f < a 4 5) (c0 : 0 ≤ c) (cn : c < a 4 5) : DP a th f c = DPm b th' f c := by
  have hn := n_eq hh h
  have hnb := nD_b hh
  have h7 := hh.2.2.2.2.2.2.1
  have hrg : ∀ x : Int, 0 ≤ x → x < 12 → (fun x : Nat => onD a 19 (a 7 2).toNat (x : Int)) x.toNat = -9 ∨ (0 ≤ (fun x : Nat => onD a 19 (a 7 2).toNat (x : Int)) x.toNat ∧ (fun x : Nat => onD a 19 (a 7 2).toNat (x : Int)) x.toNat < a 7 2) := by
    intro x x0 x1
    have hb := onF_b (w := a 4 3) (wi := shW a) (lo := shL a) (li := liD a 19) (a 7 2).toNat ((x.toNat : Nat) : Int)
    have e : (((a 7 2).toNat : Nat) : Int) = a 7 2 := by omega
    rw [e] at hb
    exact hb
  unfold DP DPm
  rw [← hn, ← h.1.1, ← h.1.2.2]
  refine dist_congr (hs_grid hh) (hs_costs hh hrg hb30) f0 fn (fun x y x0 xn y0 yn => ?_) c0 cn
  refine tk_cg (ns := a 7 2) ?_ ?_ (hrg y y0 (by omega)) hth
  · exact on_eq hh h hm _
  · exact on_eq hh h hm _
theorem z_mayBe : cas (fun a v a' => myQ a v a') (fun b v b' => myM b v b') := by
  intro K a b a' b' v w hR hc hm
  have hh := hR.1.1.1
  have hn := n_eq hh hR.2.1
  have h7 := hh.2.2.2.2.2.2.1
  have x5 := hR.2.1.2.1.2.1
  have hok := (rel_ok hR).1
  obtain ⟨e1, hs⟩ := hc
  obtain ⟨e2, hF⟩ := hm
  refine ⟨?_, rel_same hR hs.2 hs.1 hF⟩
  have hbit : bitF (mbP a) (a 7 2).toNat = bitF (mbM b) (a 7 2).toNat := by
    refine bitF_congr _ (fun s s0 s1 => ?_)
    have hD : ∀ f c : Int, 0 ≤ f → f < a 4 5 → 0 ≤ c → c < a 4 5 → DP a (shamT a s) f c = DPm b (shaT b s) f c := by
      intro f c f0 fn c0 cn
      refine DP_eq hh hR.2.1 hR.2.2.1 (fun t t0 tn => ?_) (fun t t0 tn => ?_) f0 fn c0 cn
      · have := thD_b hh hok.2.1 t0 tn
        unfold shamT
        have e : ((t.toNat : Nat) : Int) = t := by omega
        rw [e]
        split
        · decide
        · exact this
      · unfold shamT shaT
        have e : ((t.toNat : Nat) : Int) = t := by omega
        rw [e]
        by_cases c : t = s
        · rw [if_pos c, if_pos c]
        · rw [if_neg c, if_neg c]
          exact th_eq hh hR.2.1 hR.2.2.1 t0 tn
    unfold mbP mbM
    rw [(li_eq hR.2.2.1 s0 (show s < 4 by omega)).1]
    have htp := hR.2.2.2.2.2.2.1
    have hto := hR.1.2.2.1
    have key : ∀ i : Int, 0 ≤ i → i < a 32 2 → (max 0 (tpN a i - DP a (shamT a s) (tpC a i) (tpT a i)) = tpV a i ↔ max 0 (mtN b i - DPm b (shaT b s) (mtC b i) (mtT b i)) = mtV b i) := by
      intro i i0 i1
      have e := htp.2 i i0 i1
      have r := hto.2 i i0 i1
      rw [← e.1, ← e.2.1, ← e.2.2.1, ← e.2.2.2, hD _ _ r.1.1 r.1.2 r.2.2.1.1 r.2.2.1.2]
    have hsh : shaP a s ↔ shaM b s := by
      unfold shaP shaM
      rw [← htp.1]
      exact ⟨fun z i i0 i1 => (key i i0 i1).mp (z i i0 i1), fun z i i0 i1 => (key i i0 i1).mpr (z i i0 i1)⟩
    rw [hsh]
  rw [e1, e2, ← x5, hbit]
