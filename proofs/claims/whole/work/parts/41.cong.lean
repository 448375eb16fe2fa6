/-! THE SAME WORDS ON BOTH SIDES -/
theorem li_eq {a b : Mem} (hm : moX a b) {s : Int} (s0 : 0 ≤ s) (s1 : s < 4) : a 19 s.toNat = b 48 (2 + s).toNat ∧ a 20 s.toNat = b 48 (6 + s).toNat := by
  have e := mom_2 (m := a) s0 s1
  rw [← e.1, ← e.2.1]
  exact ⟨hm _ (by omega) (by omega), hm _ (by omega) (by omega)⟩
theorem dh_eq {a b : Mem} (hm : moX a b) : a 18 2 = b 48 0 ∧ a 18 3 = b 48 1 := by
  have e := mom_2 (m := a) (s := 0) (by decide) (by decide)
  rw [← e.2.2.1, ← e.2.2.2]
  exact ⟨hm 0 (by decide) (by decide), hm 1 (by decide) (by decide)⟩
theorem on_eq {a b : Mem} (hh : hsD a) (h : hsX a b) (hm : moX a b) (x : Int) : onD a 19 (a 7 2).toNat x = onS b x := by
  have h7 := hh.2.2.2.2.2.2.1
  unfold onD onS
  rw [h.1.1, ← h.2.1.2.1]
  exact onF_congr _ x (fun s s0 sk => ⟨(sh_eq h s0 (by omega)).2.1, (sh_eq h s0 (by omega)).2.2.1, (li_eq hm s0 (by omega)).1⟩)
theorem th_eq {a b : Mem} (hh : hsD a) (h : hsX a b) (hm : moX a b) {s : Int} (s0 : 0 ≤ s) (sn : s < a 7 2) : thD a 20 s = trV b s := by
  have h7 := hh.2.2.2.2.2.2.1
  show max 0 (shT a s - (if 0 ≤ s ∧ s < 4 then a 20 s.toNat else 0) / 10) = max 0 (mT b s - b 48 (6 + s).toNat / 10)
  rw [if_pos ⟨s0, by omega⟩, (sh_eq h s0 sn).1, (li_eq hm s0 (by omega)).2]
/-- the two floors as they are shown -/
theorem ct_eq {a b m5 m3 : Mem} (hh : hsD a) (h : hsX a b) (hm : moX a b) (h5 : shoP a 19 20 m5) (h3 : asnP b m3) {p q : Int} (p0 : 0 ≤ p) (pn : p < 12) (q0 : 0 ≤ q) (qn : q < 12) : takeF (a 4 6) (m5 35) (m5 36) p q = takeF (b 44 2) (m3 61) (m3 60) p q := by
  have h7 := hh.2.2.2.2.2.2.1
  have ep : m5 35 p.toNat = m3 61 p.toNat := by rw [h5.2.2.2.1 p p0 pn, h3.2.2.2.2 p p0 pn, on_eq hh h hm]
  have eq : m5 35 q.toNat = m3 61 q.toNat := by rw [h5.2.2.2.1 q q0 qn, h3.2.2.2.2 q q0 qn, on_eq hh h hm]
  have hb := onF_b (w := a 4 3) (wi := shW a) (lo := shL a) (li := liD a 19) (a 7 2).toNat q
  have hb' : m5 35 q.toNat = -9 ∨ (0 ≤ m5 35 q.toNat ∧ m5 35 q.toNat < a 7 2) := by
    rw [h5.2.2.2.1 q q0 qn]
    have e : (((a 7 2).toNat : Nat) : Int) = a 7 2 := by omega
    rw [e] at hb
    exact hb
  unfold takeF
  rw [← ep, ← eq, h.1.2.2]
  by_cases e : m5 35 q.toNat = -9
  · rw [if_pos e, if_pos e]
  · have hz : 0 ≤ m5 35 q.toNat ∧ m5 35 q.toNat < a 7 2 := by omega
    have x5 := h.2.1.2.1
    have et : m5 36 (m5 35 q.toNat).toNat = m3 60 (m5 35 q.toNat).toNat := by
      rw [h5.2.2.2.2 _ hz.1 hz.2, h3.2.2.2.1 _ hz.1 (by omega), if_pos (by omega), th_eq hh h hm hz.1 hz.2]
    rw [if_neg e, if_neg e, et]
theorem D_eq {a b m5 m3 : Mem} (hh : hsD a) (h : hsX a b) (hm : moX a b) (h5 : shoP a 19 20 m5) (h3 : asnP b m3) {f c : Int} (f0 : 0 ≤ f) (fn : f < a 4 5) (c0 : 0 ≤ c) (cn : c < a 4 5) : DD m5 f c = DM m3 f c := by
  have hn := nD_b hh
  have en := n_eq hh h
  obtain ⟨hg, hcs⟩ := okGD_g h5.2.1.1
  have e4 : m5 4 = a 4 := h5.1.at 4
  have e44 : m3 44 = b 44 := h3.1.at 44
  have enM : nM m3 = a 4 5 := by rw [en]; unfold nM; rw [e44]
  unfold DD DM ctM
  rw [enM, e44, ← h.1.1]
  unfold ctD at *
  rw [e4] at hg hcs ⊢
  exact dist_congr hg hcs f0 fn (fun p q p0 pn q0 qn => ct_eq hh h hm h5 h3 p0 (by omega) q0 (by omega)) c0 cn
theorem ld_eq {a b m5 m3 : Mem} (hh : hsD a) (h : hsX a b) (hm : moX a b) (h5 : shoP a 19 20 m5) (h3 : asnP b m3) {c p q : Int} (c0 : 0 ≤ c) (cn : c < a 4 5) : ldD m5 c p q = ldM m3 c p q := by
  have h55 := hh.2.2.2.2.2.1
  have hno := hh.2.2.2.2.2.2.2.2.1
  unfold ldD ldM
  rw [h5.1.at 5, h3.1.at 44, ← h.2.1.1]
  refine loudF_congr _ (fun i i0 ik => ?_)
  have e := no_eq h i0 (show i < a 5 2 by omega)
  have e5 := no_fr h5.1
  have e3 := mno_fr h3.1
  have r := hno i i0 (by omega)
  rw [e5.1, e5.2.1, e5.2.2.1, e5.2.2.2, e3.1, e3.2.1, e3.2.2.1, e3.2.2.2, ← e.1, ← e.2.1, ← e.2.2.1, ← e.2.2.2]
  exact ⟨rfl, rfl, rfl, D_eq hh h hm h5 h3 r.1.1 r.1.2 c0 cn⟩
theorem mro_f {m m' : Mem} {ks : List Nat} (h : Fr ks m m') (h5 : 47 ∉ ks := by decide) : mrA m' = mrA m ∧ mrB m' = mrB m ∧ mrM m' = mrM m ∧ mrC m' = mrC m := by
  unfold mrA mrB mrM mrC
  rw [h 47 h5]
  exact ⟨rfl, rfl, rfl, rfl⟩
theorem lr_eq {a b m5 m3 : Mem} (hh : hsD a) (h : hsX a b) (hm : moX a b) (h5 : shoP a 19 20 m5) (h3 : asnP b m3) {r : Int} (r0 : 0 ≤ r) (rn : r < a 9 2) : lrD m5 r = lrM m3 r ∧ roM m5 r = mrM m3 r := by
  have hro := hh.2.2.2.2.2.2.2.2.2.2 r r0 rn
  have e := ro_eq h r0 rn
  have e5 := ro_fr h5.1
  have e3 := mro_f h3.1
  unfold lrD lrM
  rw [e5.1, e5.2.1, e5.2.2.1, e5.2.2.2, e3.1, e3.2.1, e3.2.2.1, e3.2.2.2, ← e.1, ← e.2.1, ← e.2.2.1, ← e.2.2.2]
  exact ⟨ld_eq hh h hm h5 h3 hro.1.1 hro.1.2, rfl⟩
theorem sumF_cg {f g : Int → Int} : ∀ k : Nat, (∀ i : Int, 0 ≤ i → i < k → f i = g i) → sumF f k = sumF g k
  | 0, _ => rfl
  | k + 1, h => by
    simp only [sumF]
    rw [h k (by omega) (by omega), sumF_cg k (fun i i0 i1 => h i i0 (by omega))]
/-- a case of the law -/
def cas (cQ mQ : Mem → Int → Mem → Prop) : Prop := ∀ (K : Int) (a b a' b' : Mem) (v w : Int), RelX K a b → cQ a v a' → mQ b w b' → v = w ∧ RelX (K + 1) a' b' ∧ Fr CK a a' ∧ Fr MK b b'
theorem rel_keep {K : Int} {a b a' b' : Mem} {ks ls : List Nat} (hR : RelX K a b) (ho : okD a') (ha : Fr ks a a') (hb : Fr ls b b') (hk : ∀ k ∈ ks, k ∈ [21, 22, 23, 35, 36, 38, 39, 40, 42, 43] := by decide) (hl : ∀ k ∈ ls, k ∈ [59, 60, 61, 62, 63, 64, 66] := by decide) : RelX K a' b' ∧ Fr CK a a' ∧ Fr MK b b' := by
  have hA : Fr [21, 22, 23, 35, 36, 38, 39, 40, 42, 43] a a' := ha.mono hk
  have hB : Fr [59, 60, 61, 62, 63, 64, 66] b b' := hb.mono hl
  refine ⟨?_, hA.mono (by decide), hB.mono (by decide)⟩
  obtain ⟨⟨c1, c2, c3, c4, c5, c6, c7⟩, r2, r3, r4, r5, r6, r7, r8, r9, r10⟩ := hR
  refine ⟨⟨⟨ho.1, ho.2.2.1, ho.2.2.2.1, ho.2.2.2.2⟩, heOK_fr hA c2, tpOK_fr hA c3, ?_, ?_, by rw [hA.at 12, hA.at 14, hA.at 16]; exact c6, by rw [hA.at 27]; exact c7⟩, ?_, ?_, ?_, ?_, ?_, ?_, ?_, ?_, ?_⟩
  · unfold txOK at *
    rw [hA.at 1, hA.at 2]
    exact c4
  · unfold cpK at *
    rw [hA.at 5, hA.at 7, hA.at 9]
    exact c5
  · unfold hsX at *
    rw [hA.at 4, hA.at 5, hA.at 6, hA.at 7, hA.at 8, hA.at 9, hA.at 10, hB.at 44, hB.at 45, hB.at 46, hB.at 47]
    exact r2
  · unfold moX at *
    rw [momV_fr hA, hB.at 48]
    exact r3
  · unfold paX at *
    rw [hA.at 24, hA.at 26, hB.at 44, hB.at 49]
    exact r4
  · unfold imX at *
    rw [hA.at 28, hA.at 29, hB.at 50, hB.at 51]
    exact r5
  · unfold heX hdC hdV mdC mdV at *
    rw [hA.at 30, hA.at 31, hB.at 44, hB.at 52]
    exact r6
  · unfold tpX tpC tpN tpT tpV mtC mtN mtT mtV at *
    rw [hA.at 32, hA.at 33, hB.at 44, hB.at 53]
    exact r7
  · unfold txX at *
    rw [hA.at 1, hA.at 2, hB.at 44, hB.at 54]
    exact r8
  · unfold trX at *
    rw [hA.at 0, hB.at 44]
    exact r9
  · obtain ⟨v1, v2, v3⟩ := r10
    refine ⟨?_, fun q q1 q2 => ?_, fun i i0 i1 hi => ?_⟩
    · rw [mvK_fr hA, momV_fr hA]; exact v1
    · rw [hA.at 24] at q2 ⊢
      rw [mvK_fr hA, hB.at 49]
      exact v2 q q1 q2
    · rw [hA.at 29] at hi
      rw [mvK_fr hA, hB.at 50]
      exact v3 i i0 i1 hi
theorem rel_same {K : Int} {a b a' b' : Mem} {ks ls : List Nat} (hR : RelX K a b) (ho : okD a') (ha : Fr ks a a') (hb : Fr ls b b') (hk : ∀ k ∈ ks, k ∈ [21, 22, 23, 35, 36, 38, 39, 40, 42, 43] := by decide) (hl : ∀ k ∈ ls, k ∈ [59, 60, 61, 62, 63, 64, 66] := by decide) : RelX (K + 1) a' b' ∧ Fr CK a a' ∧ Fr MK b b' :=
  ⟨RelX_up (rel_keep hR ho ha hb hk hl).1, (rel_keep hR ho ha hb hk hl).2⟩
