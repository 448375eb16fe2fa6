/-! THE MODEL'S BUYER: floors with more sheets -/
noncomputable abbrev onQm (m : Mem) (li : Int → Int) : Int → Int := onF (m 44 0) (mW m) (mL m) li (m 44 5).toNat
noncomputable abbrev DQm (m : Mem) (li : Int → Int) (th : Nat → Int) : Int → Int → Int := dist (nM m) (m 44 0) (takeF (m 44 2) (fun x => onQm m li x) th)
noncomputable abbrev lwM (m : Mem) (li : Int → Int) (c p q : Int) : Int := loudF (mnA m) (mnB m) (mnS m) (mnC m) (DQm m li (fun i => trV m i)) c p q (m 44 3).toNat
def qzM (m : Mem) (li : Int → Int) : Prop := ∀ r : Int, 0 ≤ r → r < m 44 7 → ¬ mrM m r < lwM m li (mrC m r) (mrA m r) (mrB m r)
def legM (m : Mem) (li : Int → Int) (s c : Int) : Prop := fitsAt (m 44 0) (m 44 1) (mW m s) (mL m s) c ∧ ∀ x : Int, 0 ≤ x → x < 12 → cov (m 44 0) (mW m s) (mL m s) c x → onQm m li x = -9
def bmF (m0 m : Mem) : Prop := Fr [44, 59, 60, 61, 62, 65] m0 m ∧ ∀ k : Nat, k ≠ 40 → m 44 k = m0 44 k
theorem bm_rf {m : Mem} : bmF m m := ⟨Fr.rf, fun _ _ => rfl⟩
theorem bm_tr {m0 m m' : Mem} (h : bmF m0 m) (hF : Fr [59, 60, 61, 62, 65] m m') : bmF m0 m' := ⟨h.1.tr (hF.mono (by decide)), fun k hk => by rw [hF.at 44]; exact h.2 k hk⟩
theorem bm_hs {m0 m : Mem} (h : bmF m0 m) : hsM m ↔ hsM m0 := hsM_k (fun k hk => h.2 k (by omega)) (h.1.at 45) (h.1.at 46) (h.1.at 47)
theorem bm_mo {m0 m : Mem} (h : bmF m0 m) : moM m ↔ moM m0 := moM_k (fun k hk => h.2 k (by omega)) (h.1.at 46) (h.1.at 48)
theorem bm_nM {m0 m : Mem} (h : bmF m0 m) : nM m = nM m0 := by
  unfold nM
  rw [h.2 0 (by decide), h.2 1 (by decide)]
def flM (m0 : Mem) (li : Int → Int) (m : Mem) : Prop := bmF m0 m ∧ okGM m ∧ (∀ s : Int, 0 ≤ s → s < 4 → m 59 s.toNat = li s) ∧ (∀ s : Int, 0 ≤ s → s < m0 44 5 → m 60 s.toNat = trV m0 s) ∧ ∀ x : Int, 0 ≤ x → x < 12 → m 61 x.toNat = onQm m0 li x
def li0M (m : Mem) : Int → Int := fun s => if s < m 44 5 then m 48 (2 + s).toNat else -9
theorem fl0M {m0 m m4 : Mem} (hh : hsM m0) (hb : bmF m0 m) (ha : asnP m m4) : flM m0 (li0M m0) m4 := by
  obtain ⟨hF, hg, h59, h60, h61⟩ := ha
  have e46 := hb.1.at 46
  have e48 := hb.1.at 48
  refine ⟨bm_tr hb (hF.mono (by decide)), hg, fun s s0 s1 => ?_, fun s s0 sn => ?_, fun x x0 x1 => ?_⟩
  · rw [h59 s s0 s1, hb.2 5 (by decide), e48]
    rfl
  · have h5 := hb.2 5 (by decide)
    have h5b := hh.2.2.2.2.2.1
    rw [h60 s s0 (by omega), h5, if_pos sn, e48]
    unfold trV thM mT
    rw [e46]
  · rw [h61 x x0 x1]
    unfold onS onQm
    rw [hb.2 0 (by decide), hb.2 5 (by decide), e48]
    unfold mW mL
    rw [e46]
    refine onF_congr _ x (fun s s0 sk => ⟨rfl, rfl, ?_⟩)
    unfold li0M
    rw [if_pos (by omega)]
theorem fm_can {m0 m : Mem} {li : Int → Int} {s c : Int} (h : flM m0 li m) : canP (m 44 0) (m 44 1) (mW m s) (mL m s) c (m 61) ↔ legM m0 li s c := by
  obtain ⟨hb, -, -, -, hon⟩ := h
  unfold canP legM mW mL
  rw [hb.2 0 (by decide), hb.2 1 (by decide), hb.1.at 46]
  refine ⟨fun ⟨a, b⟩ => ⟨a, fun x x0 x1 q => ?_⟩, fun ⟨a, b⟩ => ⟨a, fun x x0 x1 q => ?_⟩⟩
  · rw [← hon x x0 x1]; exact b x x0 x1 q
  · rw [hon x x0 x1]; exact b x x0 x1 q
theorem DM_DQm {m0 m : Mem} {li : Int → Int} (hh : hsM m0) (h : flM m0 li m) {f c : Int} (f0 : 0 ≤ f) (fn : f < nM m0) (c0 : 0 ≤ c) (cn : c < nM m0) : DM m f c = DQm m0 li (fun i => trV m0 i) f c := by
  obtain ⟨hb, hg, -, hth, hon⟩ := h
  have hgr := okG_grid hg
  have hcs := okG_costs hg
  have hn := nM_b hh
  have hns := hh.2.2.2.2.2.1
  rw [hb.2 0 (by decide), hb.2 1 (by decide), hb.2 2 (by decide)] at hcs
  rw [hb.2 0 (by decide), hb.2 1 (by decide)] at hgr
  unfold DQm DM ctM nM
  rw [hb.2 0 (by decide), hb.2 1 (by decide), hb.2 2 (by decide)]
  refine dist_congr hgr hcs f0 fn (fun a b a0 an b0 bn => ?_) c0 cn
  have ea := hon a a0 (Int.lt_of_lt_of_le an hn.2)
  have eb := hon b b0 (Int.lt_of_lt_of_le bn hn.2)
  have q := onF_b (w := m0 44 0) (wi := mW m0) (lo := mL m0) (li := li) (m0 44 5).toNat b
  show takeF (m0 44 2) (m 61) (m 60) a b = takeF (m0 44 2) (fun x => onQm m0 li x) (fun i => trV m0 i) a b
  have xa : ((a.toNat : Nat) : Int) = a := by omega
  have xb : ((b.toNat : Nat) : Int) = b := by omega
  unfold takeF
  simp only [xa, xb]
  rw [ea, eb]
  have q' : onQm m0 li b = -9 ∨ (0 ≤ onQm m0 li b ∧ onQm m0 li b < ((m0 44 5).toNat : Nat)) := q
  revert q'
  generalize onQm m0 li b = z
  intro q'
  by_cases e : z = -9
  · rw [if_pos e, if_pos e]
  · have et := hth z (by omega) (by omega)
    have ez : ((z.toNat : Nat) : Int) = z := by omega
    rw [if_neg e, if_neg e, et, ez]
theorem fm_qz {m0 m : Mem} {li : Int → Int} (hh : hsM m0) (h : flM m0 li m) : (∀ r : Int, 0 ≤ r → r < m 44 7 → ¬ waM m r) ↔ qzM m0 li := by
  have hb := h.1
  have h3 := hh.2.2.2.2.1
  have hno := hh.2.2.2.2.2.2.2.1
  have hro := hh.2.2.2.2.2.2.2.2.2
  have e : ∀ r : Int, 0 ≤ r → r < m0 44 7 → (waM m r ↔ mrM m0 r < lwM m0 li (mrC m0 r) (mrA m0 r) (mrB m0 r)) := by
    intro r r0 rn
    have q := hro r r0 rn
    unfold waM lrM mrM mrC mrA mrB
    rw [hb.1.at 47]
    unfold ldM lwM mnA mnB mnS mnC
    rw [hb.1.at 45, hb.2 3 (by decide)]
    rw [loudF_congr (D' := DQm m0 li (fun i => trV m0 i)) _ (fun i i0 ik => ⟨rfl, rfl, rfl, ?_⟩)]
    have p := hno i i0 (by omega)
    exact DM_DQm hh h p.1.1 p.1.2 q.1.1 q.1.2
  unfold qzM
  rw [hb.2 7 (by decide)]
  exact ⟨fun h r r0 rn z => h r r0 rn ((e r r0 rn).mpr z), fun h r r0 rn z => h r r0 rn ((e r r0 rn).mp z)⟩
def liK (m : Mem) (li : Int → Int) : Prop := ∀ t : Int, 0 ≤ t → t < m 44 5 → li t = -9 ∨ fitsAt (m 44 0) (m 44 1) (mW m t) (mL m t) (li t)
theorem li0_K {m : Mem} (hm : moM m) : liK m (li0M m) := fun t t0 tn => by
  unfold li0M
  rw [if_pos tn]
  exact (hm t t0 tn).1
theorem liK_put {m : Mem} {li : Int → Int} {s c : Int} (h : liK m li) (hf : fitsAt (m 44 0) (m 44 1) (mW m s) (mL m s) c) : liK m (fupd li s c) := fun t t0 tn => by
  unfold fupd
  by_cases e : t = s
  · rw [if_pos e, e]; exact Or.inr hf
  · rw [if_neg e]; exact h t t0 tn
theorem fm_set {m0 m m15 : Mem} {li : Int → Int} {s c : Int} (hh : hsM m0) (h : flM m0 li m) (hk : liK m0 li) (s0 : 0 ≤ s) (sn : s < m0 44 5) (hf : fitsAt (m0 44 0) (m0 44 1) (mW m0 s) (mL m0 s) c) (e : m15 = mset m 59 s.toNat c) : (hsM m15 ∧ liM m15) ∧ ∀ m18 : Mem, layP m15 m18 → flM m0 (fupd li s c) m18 := by
  have hb := h.1
  have h5 := hh.2.2.2.2.2.1
  have hF : Fr [59] m m15 := by rw [e]; exact Fr.rf.set (by decide)
  have hb15 : bmF m0 m15 := bm_tr hb (hF.mono (by decide))
  have hx : ∀ t : Int, 0 ≤ t → t < 4 → m15 59 t.toNat = fupd li s c t := by
    intro t t0 t1
    unfold fupd
    rw [e, mset_at]
    by_cases q : t = s
    · rw [q, if_pos ⟨rfl, rfl⟩, if_pos rfl]
    · rw [if_neg (by omega), if_neg q]
      exact h.2.2.1 t t0 t1
  have hkk := liK_put hk hf
  refine ⟨⟨(bm_hs hb15).mpr hh, fun t t0 tn => ?_⟩, fun m18 h18 => ?_⟩
  · rw [hb15.2 5 (by decide)] at tn
    rw [hx t t0 (by omega), hb15.2 0 (by decide), hb15.2 1 (by decide)]
    unfold mW mL
    rw [hb15.1.at 46]
    exact hkk t t0 tn
  · have hb18 : bmF m0 m18 := bm_tr hb15 (h18.1.mono (by decide))
    have hon : ∀ x : Int, 0 ≤ x → x < 12 → m18 61 x.toNat = onQm m0 (fupd li s c) x := by
      intro x x0 x1
      rw [h18.2 x x0 x1]
      unfold onM onQm
      rw [hb15.2 0 (by decide), hb15.2 5 (by decide)]
      unfold mW mL
      rw [hb15.1.at 46]
      exact onF_congr _ x (fun t t0 tk => ⟨rfl, rfl, hx t t0 (by omega)⟩)
    refine ⟨hb18, ?_, fun t t0 t1 => by rw [h18.1.at 59]; exact hx t t0 t1, fun t t0 tn => by rw [h18.1.at 60, hF.at 60]; exact h.2.2.2.1 t t0 tn, hon⟩
    have hg := h.2.1
    unfold okGM okG at hg ⊢
    rw [h18.1.at 44, h18.1.at 60, hF.at 44, hF.at 60]
    refine ⟨hg.1, hg.2.1, hg.2.2.1, hg.2.2.2.1, fun x x0 x1 => ?_, hg.2.2.2.2.2⟩
    rw [hon x x0 x1]
    have q := onF_b (w := m0 44 0) (wi := mW m0) (lo := mL m0) (li := fupd li s c) (m0 44 5).toNat x
    rcases q with q | q
    · exact Or.inl q
    · exact Or.inr ⟨q.1, Int.lt_of_lt_of_le q.2 (by omega)⟩
/-! ranks by their digits -/
def digF (b i : Int) : Int := b / pvF i % 13
theorem dig_one {p s c i : Int} (hp : 0 ≤ p) (s0 : 0 ≤ s) (s1 : s < 4) (c0 : 0 ≤ c) (c1 : c < 12) (i0 : 0 ≤ i) (i1 : i < 4) : (p * 28561 + (c + 1) * pvF s) / 28561 = p ∧ (i = s → digF (p * 28561 + (c + 1) * pvF s) i = c + 1) ∧ (i ≠ s → digF (p * 28561 + (c + 1) * pvF s) i = 0) := by
  have hs : s = 0 ∨ s = 1 ∨ s = 2 ∨ s = 3 := by omega
  have hi : i = 0 ∨ i = 1 ∨ i = 2 ∨ i = 3 := by omega
  unfold digF
  have p0 : pvF 0 = 2197 := rfl
  have p1 : pvF 1 = 169 := rfl
  have p2 : pvF 2 = 13 := rfl
  have p3 : pvF 3 = 1 := rfl
  rcases hs with e | e | e | e <;> rcases hi with f | f | f | f <;> subst e f <;> simp only [p0, p1, p2, p3] <;> (refine ⟨by omega, fun h => by omega, fun h => by omega⟩)
theorem dig_two {p q s c t d i : Int} (hp : 0 ≤ p) (hq : 0 ≤ q) (s0 : 0 ≤ s) (st : s < t) (t1 : t < 4) (c0 : 0 ≤ c) (c1 : c < 12) (d0 : 0 ≤ d) (d1 : d < 12) (i0 : 0 ≤ i) (i1 : i < 4) : ((p * 28561 + (c + 1) * pvF s) + (q * 28561 + (d + 1) * pvF t)) / 28561 = p + q ∧ (i = s → digF ((p * 28561 + (c + 1) * pvF s) + (q * 28561 + (d + 1) * pvF t)) i = c + 1) ∧ (i = t → digF ((p * 28561 + (c + 1) * pvF s) + (q * 28561 + (d + 1) * pvF t)) i = d + 1) ∧ (i ≠ s → i ≠ t → digF ((p * 28561 + (c + 1) * pvF s) + (q * 28561 + (d + 1) * pvF t)) i = 0) := by
  have hs : (s = 0 ∧ t = 1) ∨ (s = 0 ∧ t = 2) ∨ (s = 0 ∧ t = 3) ∨ (s = 1 ∧ t = 2) ∨ (s = 1 ∧ t = 3) ∨ (s = 2 ∧ t = 3) := by omega
  have hi : i = 0 ∨ i = 1 ∨ i = 2 ∨ i = 3 := by omega
  unfold digF
  have p0 : pvF 0 = 2197 := rfl
  have p1 : pvF 1 = 169 := rfl
  have p2 : pvF 2 = 13 := rfl
  have p3 : pvF 3 = 1 := rfl
  rcases hs with ⟨e, g⟩ | ⟨e, g⟩ | ⟨e, g⟩ | ⟨e, g⟩ | ⟨e, g⟩ | ⟨e, g⟩ <;> rcases hi with f | f | f | f <;> subst e f g <;> simp only [p0, p1, p2, p3] <;> (refine ⟨by omega, fun h => by omega, fun h => by omega, fun h h2 => by omega⟩)
theorem dig_lt {r b s : Int} (r0 : 0 ≤ r) (b0 : 0 ≤ b) (hp : r / 28561 = b / 28561) (s0 : 0 ≤ s) (s1 : s < 4) (he : ∀ i : Int, 0 ≤ i → i < s → digF r i = digF b i) (hl : digF r s < digF b s) : r < b := by
  have hs : s = 0 ∨ s = 1 ∨ s = 2 ∨ s = 3 := by omega
  unfold digF at he hl
  have p0 : pvF 0 = 2197 := rfl
  have p1 : pvF 1 = 169 := rfl
  have p2 : pvF 2 = 13 := rfl
  have p3 : pvF 3 = 1 := rfl
  rcases hs with e | e | e | e <;> subst e
  · simp only [p0] at hl
    omega
  · have h0 := he 0 (by decide) (by decide)
    simp only [p0] at h0
    simp only [p1] at hl
    omega
  · have h0 := he 0 (by decide) (by decide)
    have h1 := he 1 (by decide) (by decide)
    simp only [p0] at h0
    simp only [p1] at h1
    simp only [p2] at hl
    omega
  · have h0 := he 0 (by decide) (by decide)
    have h1 := he 1 (by decide) (by decide)
    have h2 := he 2 (by decide) (by decide)
    simp only [p0] at h0
    simp only [p1] at h1
    simp only [p2] at h2
    simp only [p3] at hl
    omega
theorem dig_eq {r b : Int} (r0 : 0 ≤ r) (b0 : 0 ≤ b) (hp : r / 28561 = b / 28561) (he : ∀ i : Int, 0 ≤ i → i < 4 → digF r i = digF b i) : r = b := by
  unfold digF at he
  have h0 := he 0 (by decide) (by decide)
  have h1 := he 1 (by decide) (by decide)
  have h2 := he 2 (by decide) (by decide)
  have h3 := he 3 (by decide) (by decide)
  simp only [show pvF 0 = 2197 from rfl] at h0
  simp only [show pvF 1 = 169 from rfl] at h1
  simp only [show pvF 2 = 13 from rfl] at h2
  simp only [show pvF 3 = 1 from rfl] at h3
  omega
