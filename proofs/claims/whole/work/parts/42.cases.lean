/-! THE LAW'S CASES: what is only asked -/
theorem z_noise {n w : Int} : cas (fun a v a' => Pv (if (0 ≤ n ∧ n < a 5 2) ∧ (0 ≤ w ∧ w ≤ 3) then getF (a 6) (a 5 2) n w else -1) a v a') (fun b v b' => Pv (if (0 ≤ n ∧ n < b 44 3) ∧ (0 ≤ w ∧ w ≤ 3) then b 45 (4 * n + w).toNat else -1) b v b') := by
  rintro K a b a' b' v v2 hR ⟨e1, e2⟩ ⟨f1, f2⟩
  have e2' : a' = a := e2
  have f2' : b' = b := f2
  subst e2' f2'
  refine ⟨?_, rel_same hR (rel_ok hR).1 (ks := []) (ls := []) Fr.rf Fr.rf⟩
  rw [e1, f1, ← hR.2.1.2.1.1]
  by_cases c : (0 ≤ n ∧ n < a' 5 2) ∧ (0 ≤ w ∧ w ≤ 3)
  · rw [if_pos c, if_pos c, getF_at c.1.1 c.1.2 c.2.1 (by omega)]
    exact hR.2.1.2.2.1 _ (by omega)
  · rw [if_neg c, if_neg c]
theorem z_room {n w : Int} : cas (fun a v a' => Pv (if (0 ≤ n ∧ n < a 9 2) ∧ (0 ≤ w ∧ w ≤ 3) then getF (a 10) (a 9 2) n w else -1) a v a') (fun b v b' => Pv (if (0 ≤ n ∧ n < b 44 7) ∧ (0 ≤ w ∧ w ≤ 3) then b 47 (4 * n + w).toNat else -1) b v b') := by
  rintro K a b a' b' v v2 hR ⟨e1, e2⟩ ⟨f1, f2⟩
  have e2' : a' = a := e2
  have f2' : b' = b := f2
  subst e2' f2'
  refine ⟨?_, rel_same hR (rel_ok hR).1 (ks := []) (ls := []) Fr.rf Fr.rf⟩
  rw [e1, f1, ← hR.2.1.2.1.2.2]
  by_cases c : (0 ≤ n ∧ n < a' 9 2) ∧ (0 ≤ w ∧ w ≤ 3)
  · rw [if_pos c, if_pos c, getF_at c.1.1 c.1.2 c.2.1 (by omega)]
    exact hR.2.1.2.2.2.2 _ (by omega)
  · rw [if_neg c, if_neg c]
theorem z_sheet {s w : Int} : cas (fun a v a' => Pv (shQ a s w) a v a') (fun b v b' => Pv (smM b s w) b v b') := by
  rintro K a b a' b' v v2 hR ⟨e1, e2⟩ ⟨f1, f2⟩
  have e2' : a' = a := e2
  have f2' : b' = b := f2
  subst e2' f2'
  refine ⟨?_, rel_same hR (rel_ok hR).1 (ks := []) (ls := []) Fr.rf Fr.rf⟩
  have hh := hR.1.1.1
  have h7 := hh.2.2.2.2.2.2.1
  rw [e1, f1]
  unfold shQ smM
  rw [← hR.2.1.2.1.2.1]
  by_cases c : 0 ≤ s ∧ s < a' 7 2
  · have el := li_eq hR.2.2.1 c.1 (show s < 4 by omega)
    rw [if_pos c]
    by_cases c1 : 0 ≤ w ∧ w < 4
    · rw [if_pos c1, if_pos ⟨c, by omega⟩, if_pos c1.2, getF_at c.1 c.2 c1.1 c1.2]
      exact hR.2.1.2.2.2.1 _ (by omega)
    · rw [if_neg c1]
      by_cases c2 : w = 4
      · rw [if_pos c2, if_pos ⟨c, by omega⟩, if_neg (by omega), if_pos c2]
        exact el.1
      · rw [if_neg c2]
        by_cases c3 : w = 5
        · rw [if_pos c3, if_pos ⟨c, by omega⟩, if_neg (by omega), if_neg c2, if_pos c3]
          exact el.2
        · rw [if_neg c3]
          by_cases c4 : w = 6
          · rw [if_pos c4, if_pos ⟨c, by omega⟩, if_neg (by omega), if_neg c2, if_neg c3]
            exact th_eq hh hR.2.1 hR.2.2.1 c.1 c.2
          · rw [if_neg c4, if_neg (fun z => by have := z.2; omega)]
  · rw [if_neg c, if_neg (fun z => c z.1)]
theorem z_count {w : Int} : cas (fun a v a' => Pv (coQ a w) a v a') (fun b v b' => Pv (coM b w) b v b') := by
  rintro K a b a' b' v v2 hR ⟨e1, e2⟩ ⟨f1, f2⟩
  have e2' : a' = a := e2
  have f2' : b' = b := f2
  subst e2' f2'
  refine ⟨?_, rel_same hR (rel_ok hR).1 (ks := []) (ls := []) Fr.rf Fr.rf⟩
  obtain ⟨r1, r2, r3, r4, r5, r6, r7, r8, r9, r10⟩ := hR
  rw [e1, f1]
  unfold coQ coM
  rw [r2.1.1, r2.1.2.1, r2.1.2.2, r2.2.1.1, r2.2.1.2.1, r2.2.1.2.2, r6.1, r7.1, r8.1]
theorem z_trace : cas (fun a v a' => Pv (a 0 14) a v a') (fun b v b' => Pv (b 44 18) b v b') := by
  rintro K a b a' b' v v2 hR ⟨e1, e2⟩ ⟨f1, f2⟩
  have e2' : a' = a := e2
  have f2' : b' = b := f2
  subst e2' f2'
  refine ⟨?_, rel_same hR (rel_ok hR).1 (ks := []) (ls := []) Fr.rf Fr.rf⟩
  rw [e1, f1]
  exact hR.2.2.2.2.2.2.2.2.1.1
theorem la_out {a : Mem} (hm : moD a 19 20) {s : Int} (s0 : 0 ≤ s) (s1 : s < 4) (sn : a 7 2 ≤ s) : a 19 s.toNat = -9 := by
  rcases (hm.1 s s0 s1).1 with h | h
  · exact h
  · omega
theorem la_bits {a b : Mem} (hh : hsD a) (h : hsX a b) (hm : moX a b) (hmo : moD a 19 20) : bitF (laD a) 4 = bitF (laM b) (b 44 5).toNat := by
  have h7 := hh.2.2.2.2.2.2.1
  have x5 := h.2.1.2.1
  rw [bitF_more (p := laD a) (a 7 2).toNat 4 (by omega) (fun i i0 i1 => fun z => z (la_out hmo (by omega) (by omega) (by omega))), ← x5]
  refine bitF_congr _ (fun i i0 i1 => ?_)
  unfold laD laM
  rw [(li_eq hm i0 (by omega)).1]
theorem z_now {w : Int} : cas (fun a v a' => Pv (noQ a w) a v a') (fun b v b' => Pv (noM b w) b v b') := by
  rintro K a b a' b' v v2 hR ⟨e1, e2⟩ ⟨f1, f2⟩
  have e2' : a' = a := e2
  have f2' : b' = b := f2
  subst e2' f2'
  refine ⟨?_, rel_same hR (rel_ok hR).1 (ks := []) (ls := []) Fr.rf Fr.rf⟩
  have hd := dh_eq hR.2.2.1
  have hl := la_bits hR.1.1.1 hR.2.1 hR.2.2.1 (rel_ok hR).1.2.1
  rw [e1, f1]
  unfold noQ noM
  rw [hd.1, hd.2, hl, hR.2.2.2.1.1]
theorem z_onCell {c : Int} : cas (fun a v a' => ocQ a c v a') (fun b v b' => ocV b c v b') := by
  intro K a b a' b' v w hR hc hm
  have hh := hR.1.1.1
  have hn := n_eq hh hR.2.1
  unfold ocQ at hc
  by_cases q : 0 ≤ c ∧ c < a 4 5
  · rw [if_pos q] at hc
    rcases hm with ⟨-, e, hF⟩ | ⟨e, -⟩
    · refine ⟨?_, rel_same hR hc.2.2 hc.2.1 hF⟩
      rw [hc.1, e, on_eq hh hR.2.1 hR.2.2.1]
    · exact absurd (by rw [← hn]; exact q) e
  · rw [if_neg q] at hc
    rcases hm with ⟨e, -⟩ | ⟨-, e, f⟩
    · exact absurd (by rw [hn]; exact e) q
    · rw [hc.2, f]
      exact ⟨by rw [hc.1, e], rel_same hR (rel_ok hR).1 (ks := []) (ls := []) Fr.rf Fr.rf⟩
theorem z_loud {c h : Int} : cas (fun a v a' => ldQ a c h v a') (fun b v b' => louM b c h v b') := by
  intro K a b a' b' v w hR hc hm
  have hh := hR.1.1.1
  have hn := n_eq hh hR.2.1
  unfold ldQ at hc
  by_cases q : (0 ≤ c ∧ c < a 4 5) ∧ (0 ≤ h ∧ h ≤ 23)
  · rw [if_pos q] at hc
    rcases hm with ⟨-, ⟨m3, h3, e⟩, hF⟩ | ⟨e, -⟩
    · obtain ⟨⟨m5, h5, e5⟩, hs⟩ := hc
      refine ⟨?_, rel_same hR hs.2 hs.1 hF⟩
      rw [e5, e, ld_eq hh hR.2.1 hR.2.2.1 h5 h3 q.1.1 q.1.2]
    · exact absurd (by rw [← hn]; exact q) e
  · rw [if_neg q] at hc
    rcases hm with ⟨e, -⟩ | ⟨-, e, f⟩
    · exact absurd (by rw [hn]; exact e) q
    · rw [hc.2, f]
      exact ⟨by rw [hc.1, e], rel_same hR (rel_ok hR).1 (ks := []) (ls := []) Fr.rf Fr.rf⟩
theorem z_waked {x : Int} : cas (fun a v a' => wdQ a x v a') (fun b v b' => wdM b x v b') := by
  intro K a b a' b' v w hR hc hm
  have hh := hR.1.1.1
  have h9 := hh.2.2.2.2.2.2.2.1
  unfold wdQ at hc
  by_cases q : 0 ≤ x ∧ x ≤ 1
  · rw [if_pos q] at hc
    rcases hm with ⟨-, ⟨m3, f3, h3, hf3, hv3⟩, hF⟩ | ⟨e, -⟩
    · obtain ⟨⟨m5, f5, h5, hf5, hv5⟩, hs⟩ := hc
      refine ⟨?_, rel_same hR hs.2 hs.1 hF⟩
      have hlr := fun r (r0 : (0 : Int) ≤ r) (rn : r < a 9 2) => lr_eq hh hR.2.1 hR.2.2.1 h5 h3 r0 rn
      rw [h5.1.at 9] at hf5
      rw [h3.1.at 44, ← hR.2.1.2.1.2.2] at hf3
      have ef : f5 = f3 := isFirst_one (by decide) (fun r r0 r1 => by
        have := hlr r r0 r1
        show roM m5 r < lrD m5 r ↔ mrM m3 r < lrM m3 r
        rw [this.1, this.2]) hf5 hf3
      subst ef
      rcases hv5 with ⟨c5, e5⟩ | ⟨c5, e5⟩ <;> rcases hv3 with ⟨c3, e3⟩ | ⟨c3, e3⟩
      · rw [e5, e3]
      · exact absurd c5 (fun z => z.elim c3.1 c3.2)
      · exact absurd c3 (fun z => z.elim c5.1 c5.2)
      · have hr : 0 ≤ f5 ∧ f5 < a 9 2 := by
          rcases hf5 with ⟨z, -⟩ | ⟨z1, z2, -⟩
          · exact absurd z c5.2
          · exact ⟨z1, z2⟩
        have hro := hh.2.2.2.2.2.2.2.2.2.2 f5 hr.1 hr.2
        have er := ro_eq hR.2.1 hr.1 hr.2
        have x5 := ro_fr h5.1
        have x3 := mro_f h3.1
        rw [x3.1, ← er.2.1] at e3
        have e5' : isFirst (lhP m5 f5) (roA a f5) 24 v := by rw [← x5.1]; exact e5
        refine isFirst_one hro.2.1.1 (fun h h0 h1 => ?_) e5' e3
        show roM m5 f5 < ldD m5 (roC m5 f5) h h ↔ mrM m3 f5 < ldM m3 (mrC m3 f5) h h
        rw [x5.2.2.1, x5.2.2.2, x3.2.2.1, x3.2.2.2, ← er.1, ← er.2.2.2, ld_eq hh hR.2.1 hR.2.2.1 h5 h3 hro.1.1 hro.1.2]
    · exact absurd q e
  · rw [if_neg q] at hc
    rcases hm with ⟨e, -⟩ | ⟨-, e, f⟩
    · exact absurd e q
    · rw [hc.2, f]
      exact ⟨by rw [hc.1, e], rel_same hR (rel_ok hR).1 (ks := []) (ls := []) Fr.rf Fr.rf⟩
theorem st_eq {a b m5 m3 : Mem} (hh : hsD a) (h : hsX a b) (hm : moX a b) (he : heX a b) (ho : heOK a) (h5 : shoP a 19 20 m5) (h3 : asnP b m3) {c : Int} (c0 : 0 ≤ c) (cn : c < a 4 5) : stnF m5 c = stnM m3 c := by
  have e5 := hd_fr h5.1
  unfold stnF stnM
  refine cntF_congr _ (fun n n0 n1 => ?_)
  unfold agrF
  rw [e5.1, e5.2, h5.1.at 30, h3.1.at 44, ← he.1]
  have key : ∀ i : Int, 0 ≤ i → i < a 30 2 → (max 0 (n - DD m5 c (hdC a i)) = hdV a i ↔ max 0 (n - DM m3 c (mdC m3 i)) = mdV m3 i) := by
    intro i i0 i1
    have q := he.2 i i0 i1
    have r := ho.2 i i0 i1
    have x : mdC m3 i = hdC a i ∧ mdV m3 i = hdV a i := by
      unfold mdC mdV
      rw [h3.1.at 52]
      exact ⟨q.1.symm, q.2.symm⟩
    rw [x.1, x.2, D_eq hh h hm h5 h3 c0 cn r.1.1 r.1.2]
  exact ⟨fun z i i0 i1 => (key i i0 i1).mp (z i i0 i1), fun z i i0 i1 => (key i i0 i1).mpr (z i i0 i1)⟩
theorem z_strengths {c : Int} : cas (fun a v a' => ssQ a c v a') (fun b v b' => ssM b c v b') := by
  intro K a b a' b' v w hR hc hm
  have hh := hR.1.1.1
  have hn := n_eq hh hR.2.1
  unfold ssQ at hc
  by_cases q : 0 ≤ c ∧ c < a 4 5
  · rw [if_pos q] at hc
    rcases hm with ⟨-, ⟨m3, h3, e⟩, hF⟩ | ⟨e, -⟩
    · obtain ⟨⟨m5, h5, e5⟩, hs⟩ := hc
      refine ⟨?_, rel_same hR hs.2 hs.1 hF⟩
      rw [e5, e, st_eq hh hR.2.1 hR.2.2.1 hR.2.2.2.2.2.1 hR.1.2.1 h5 h3 q.1 q.2]
    · exact absurd (by rw [← hn]; exact q) e
  · rw [if_neg q] at hc
    rcases hm with ⟨e, -⟩ | ⟨-, e, f⟩
    · exact absurd (by rw [hn]; exact e) q
    · rw [hc.2, f]
      exact ⟨by rw [hc.1, e], rel_same hR (rel_ok hR).1 (ks := []) (ls := []) Fr.rf Fr.rf⟩
theorem z_sources : cas (fun a v a' => soQ a v a') (fun b v b' => soM b v b') := by
  intro K a b a' b' v w hR hc hm
  have hh := hR.1.1.1
  have hn := n_eq hh hR.2.1
  obtain ⟨⟨m5, h5, e5⟩, hs⟩ := hc
  obtain ⟨⟨m3, h3, e⟩, hF⟩ := hm
  refine ⟨?_, rel_same hR hs.2 hs.1 hF⟩
  have hnb := nD_b hh
  have e8 : bitF (fun c => 0 < stnF m5 c) (a 4 5).toNat = bitF (fun c => 0 < stnM m3 c) (a 4 5).toNat := by
    refine bitF_congr _ (fun c c0 c1 => ?_)
    show 0 < stnF m5 c ↔ 0 < stnM m3 c
    rw [st_eq hh hR.2.1 hR.2.2.1 hR.2.2.2.2.2.1 hR.1.2.1 h5 h3 c0 (by omega)]
  rw [e5, e, ← hn, e8]
theorem z_hired {f t n : Int} : cas (fun a v a' => hiQ a f t n v a') (fun b v b' => hiM b f t n v b') := by
  intro K a b a' b' v w hR hc hm
  have hh := hR.1.1.1
  have hn := n_eq hh hR.2.1
  rcases hc with ⟨q, ⟨m5, h5, e5⟩, hs⟩ | ⟨q, e5, ea⟩ <;> rcases hm with ⟨p, ⟨m3, h3, e3⟩, hF⟩ | ⟨p, e3, eb⟩
  · refine ⟨?_, rel_same hR hs.2 hs.1 hF⟩
    rw [e5, e3, D_eq hh hR.2.1 hR.2.2.1 h5 h3 q.1.1 q.1.2 q.2.1.1 q.2.1.2]
  · exact absurd (by unfold hiC; rw [← hn]; exact q) p
  · exact absurd (by unfold hiC at p; rw [← hn] at p; exact p) q
  · rw [ea, eb]
    exact ⟨by rw [e5, e3], rel_same hR (rel_ok hR).1 (ks := []) (ls := []) Fr.rf Fr.rf⟩
theorem qu_eq {a b m5 m3 : Mem} (hh : hsD a) (h : hsX a b) (hm : moX a b) (h5 : shoP a 19 20 m5) (h3 : asnP b m3) {c n : Int} (c0 : 0 ≤ c) (cn : c < a 4 5) : unhP m5 c n ↔ quM m3 c n := by
  have x5 := ro_fr h5.1
  have x3 := mro_f h3.1
  unfold unhP quM
  rw [x5.2.2.1, x5.2.2.2, x3.2.2.1, x3.2.2.2, h5.1.at 9, h3.1.at 44, ← h.2.1.2.2]
  have key : ∀ r : Int, 0 ≤ r → r < a 9 2 → (max 0 (n - DD m5 c (roC a r)) ≤ roM a r ↔ max 0 (n - DM m3 c (mrC b r)) ≤ mrM b r) := by
    intro r r0 rn
    have er := ro_eq h r0 rn
    have hro := hh.2.2.2.2.2.2.2.2.2.2 r r0 rn
    rw [← er.1, ← er.2.2.2, D_eq hh h hm h5 h3 c0 cn hro.1.1 hro.1.2]
  exact ⟨fun z r r0 rn => (key r r0 rn).mp (z r r0 rn), fun z r r0 rn => (key r r0 rn).mpr (z r r0 rn)⟩
theorem z_way {f t n : Int} : cas (fun a v a' => wyQ a f t n v a') (fun b v b' => wyM b f t n v b') := by
  intro K a b a' b' v w hR hc hm
  have hh := hR.1.1.1
  have hn := n_eq hh hR.2.1
  rcases hc with ⟨q, ⟨m5, h5, e5⟩, hF5, hok⟩ | ⟨q, e5, ea⟩ <;> rcases hm with ⟨p, ⟨m3, h3, e3⟩, hF⟩ | ⟨p, e3, eb⟩
  · refine ⟨?_, rel_same hR hok hF5 hF⟩
    rw [← hn, ← hR.2.1.1.1] at e3
    obtain ⟨hg, -⟩ := okGD_g h5.2.1.1
    rw [h5.1.at 4] at hg
    have hnb := nD_b hh
    have hqq := fun c (c0 : (0 : Int) ≤ c) (cn : c < a 4 5) => qu_eq (n := n) hh hR.2.1 hR.2.2.1 h5 h3 c0 cn
    have hd : dist (a 4 5) (a 4 3) (qct (fun c => unhP m5 c n)) f t = dist (a 4 5) (a 4 3) (qct (fun c => quM m3 c n)) f t := by
      refine dist_congr hg qct_c q.1.1 q.1.2 (fun x y x0 xn y0 yn => ?_) q.2.1.1 q.2.1.2
      have := hqq y y0 yn
      by_cases c : unhP m5 y n
      · rw [qct_t (q := fun c => unhP m5 c n) c, qct_t (q := fun c => quM m3 c n) (this.mp c)]
      · rw [qct_f (q := fun c => unhP m5 c n) c, qct_f (q := fun c => quM m3 c n) (fun z => c (this.mpr z))]
    have hf := hqq f q.1.1 q.1.2
    unfold wayV at e5 e3
    rw [hd] at e5
    rcases e5 with ⟨x1, x2, x3⟩ | ⟨x1, x2⟩ <;> rcases e3 with ⟨y1, y2, y3⟩ | ⟨y1, y2⟩
    · rw [x3, y3]
    · exact absurd ⟨hf.mp x1, x2⟩ y1
    · exact absurd ⟨hf.mpr y1, y2⟩ x1
    · rw [x2, y2]
  · exact absurd (by unfold hiC; rw [← hn]; exact q) p
  · exact absurd (by unfold hiC at p; rw [← hn] at p; exact p) q
  · rw [ea, eb]
    exact ⟨by rw [e5, e3], rel_same hR (rel_ok hR).1 (ks := []) (ls := []) Fr.rf Fr.rf⟩
theorem z_odds {r p x : Int} : cas (fun a v a' => odQ a r p x v a') (fun b v b' => odQM b r p x v b') := by
  intro K a b a' b' v w hR hc hm
  have hh := hR.1.1.1
  have h5' := hh.2.2.2.2.2.1
  have x9 := hR.2.1.2.1.2.2
  have x3' := hR.2.1.2.1.1
  have hC : odC a r p x ↔ ocC b r p x := by unfold odC ocC; rw [x9]
  rcases hc with ⟨q, ⟨m5, h5, e5⟩, hs⟩ | ⟨q, e5, ea⟩ <;> rcases hm with ⟨p', ⟨m3, h3, e3⟩, hF⟩ | ⟨p', e3, eb⟩
  · refine ⟨?_, rel_same hR hs.2 hs.1 hF⟩
    have er := ro_eq hR.2.1 q.1.1 q.1.2
    have hro := hh.2.2.2.2.2.2.2.2.2.2 r q.1.1 q.1.2
    have key : ∀ i : Int, 0 ≤ i → i < ((a 5 2).toNat : Nat) → (odP m5 r i ↔ odM m3 r i) := by
      intro i i0 i1
      have hno := hh.2.2.2.2.2.2.2.2.1 i i0 (by omega)
      have en := no_eq hR.2.1 i0 (show i < a 5 2 by omega)
      unfold odP odM
      have y5 := ro_fr h5.1
      have y3 := mro_f h3.1
      have w5 := no_fr h5.1
      have w3 := mno_fr h3.1
      rw [y5.2.2.1, y5.2.2.2, y3.2.2.1, y3.2.2.2, w5.2.2.1, w5.2.2.2, w3.2.2.1, w3.2.2.2, ← er.1, ← er.2.2.2, ← en.1, ← en.2.1, D_eq hh hR.2.1 hR.2.2.1 h5 h3 hno.1.1 hno.1.2 hro.1.1 hro.1.2]
    rw [e5, e3, ← x3']
    unfold odV
    rw [oddF_congr _ key, oddF_congr (x := 10) _ key]
  · exact absurd (hC.mp q) p'
  · exact absurd (hC.mpr p') q
  · rw [ea, eb]
    exact ⟨by rw [e5, e3], rel_same hR (rel_ok hR).1 (ks := []) (ls := []) Fr.rf Fr.rf⟩
