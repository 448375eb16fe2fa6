/-! THE MODEL: asNow, loudAt -/
theorem onF_congr {w : Int} {wi lo li wi' lo' li' : Int → Int} : ∀ (k : Nat) (x : Int), (∀ s : Int, 0 ≤ s → s < k → wi s = wi' s ∧ lo s = lo' s ∧ li s = li' s) → onF w wi lo li k x = onF w wi' lo' li' k x
  | 0, _, _ => rfl
  | k + 1, x, h => by
    obtain ⟨h1, h2, h3⟩ := h k (by omega) (by omega)
    simp only [onF]
    rw [h1, h2, h3, onF_congr k x (fun s s0 sk => h s s0 (by omega))]
noncomputable abbrev onS (m : Mem) (x : Int) : Int := onF (m 44 0) (mW m) (mL m) (fun s => m 48 (2 + s).toNat) (m 44 5).toNat x
def asnP (m0 : Mem) (m : Mem) : Prop := Fr [59, 60, 61] m0 m ∧ okGM m ∧ (∀ s : Int, 0 ≤ s → s < 4 → m 59 s.toNat = if s < m0 44 5 then m0 48 (2 + s).toNat else -9) ∧ (∀ s : Int, 0 ≤ s → s < 4 → m 60 s.toNat = if s < m0 44 5 then thM m0 s (m0 48 (6 + s).toNat) else 0) ∧ ∀ x : Int, 0 ≤ x → x < 12 → m 61 x.toNat = onS m0 x
theorem msh_fr {ks : List Nat} {m m' : Mem} (h : Fr ks m m') (h6 : 46 ∉ ks := by decide) : mW m' = mW m ∧ mL m' = mL m ∧ mT m' = mT m ∧ mP m' = mP m := by
  unfold mW mL mT mP
  rw [h 46 h6]
  exact ⟨rfl, rfl, rfl, rfl⟩
def asnI (m0 : Mem) (k : Int) (m : Mem) : Prop := Fr [59, 60] m0 m ∧ (∀ s : Int, 0 ≤ s → s < k → m 59 s.toNat = if s < m0 44 5 then m0 48 (2 + s).toNat else -9) ∧ ∀ s : Int, 0 ≤ s → s < k → m 60 s.toNat = if s < m0 44 5 then thM m0 s (m0 48 (6 + s).toNat) else 0
theorem asn_put {m0 m m5 m6 : Mem} {k u v : Int} (k0 : 0 ≤ k) (h : asnI m0 k m) (h5 : m5 = mset m 59 k.toNat u) (h6 : m6 = mset m5 60 k.toNat v) (hu : u = if k < m0 44 5 then m0 48 (2 + k).toNat else -9) (hv : v = if k < m0 44 5 then thM m0 k (m0 48 (6 + k).toNat) else 0) : asnI m0 (k + 1) m6 := by
  obtain ⟨hF, ha, hb⟩ := h
  refine ⟨by rw [h6, h5]; exact (hF.set (by decide)).set (by decide), fun s s0 s1 => ?_, fun s s0 s1 => ?_⟩
  · rw [h6, h5, mset_at, if_neg (by omega), mset_at]
    by_cases q : s = k
    · rw [if_pos ⟨rfl, by rw [q]⟩, q]; exact hu
    · rw [if_neg (by omega)]; exact ha s s0 (by omega)
  · rw [h6, mset_at]
    by_cases q : s = k
    · rw [if_pos ⟨rfl, by rw [q]⟩, q]; exact hv
    · rw [if_neg (by omega), h5, mset_at, if_neg (by omega)]; exact hb s s0 (by omega)
theorem asn_end {m0 m m3 : Mem} {k : Int} (hh : hsM m0) (hm : moM m0) (hk : 4 ≤ k) (h : asnI m0 k m) : hsM m ∧ liM m ∧ (layP m m3 → asnP m0 m3) := by
  obtain ⟨hF, ha, hb⟩ := h
  have h5 := hh.2.2.2.2.2.1
  have e44 := hF.at 44
  have hli : ∀ s : Int, 0 ≤ s → s < m0 44 5 → m 59 s.toNat = m0 48 (2 + s).toNat := fun s s0 sn => by rw [ha s s0 (by omega), if_pos sn]
  refine ⟨(hsM_fr hF).mpr hh, fun s s0 sn => ?_, fun h3 => ?_⟩
  · rw [e44] at sn ⊢
    rw [(msh_fr hF).1, (msh_fr hF).2.1, hli s s0 sn]
    exact (hm s s0 sn).1
  · obtain ⟨h31, h32⟩ := h3
    have hon : ∀ x : Int, 0 ≤ x → x < 12 → m3 61 x.toNat = onS m0 x := by
      intro x x0 x1
      rw [h32 x x0 x1, e44]
      show onF (m 44 0) (mW m) (mL m) (fun s => m 59 s.toNat) _ x = _
      rw [e44, (msh_fr hF).1, (msh_fr hF).2.1]
      exact onF_congr _ x (fun s s0 sk => ⟨rfl, rfl, hli s s0 (by omega)⟩)
    have hth : ∀ s : Int, 0 ≤ s → s < 4 → m3 60 s.toNat = if s < m0 44 5 then thM m0 s (m0 48 (6 + s).toNat) else 0 := fun s s0 s1 => by rw [h31.at 60]; exact hb s s0 (by omega)
    refine ⟨(hF.mono (by decide)).tr (h31.mono (by decide)), ?_, fun s s0 s1 => by rw [h31.at 59]; exact ha s s0 (by omega), hth, hon⟩
    unfold okGM okG
    rw [h31.at 44, e44]
    refine ⟨hh.1, hh.2.1, hh.2.2.1, hh.2.2.2.1, fun x x0 x1 => ?_, fun s s0 s1 => ?_⟩
    · rw [hon x x0 x1]
      have := onF_b (w := m0 44 0) (wi := mW m0) (lo := mL m0) (li := fun s => m0 48 (2 + s).toNat) (m0 44 5).toNat x
      show onF (m0 44 0) (mW m0) (mL m0) (fun s => m0 48 (2 + s).toNat) (m0 44 5).toNat x = -9 ∨ (0 ≤ onF (m0 44 0) (mW m0) (mL m0) (fun s => m0 48 (2 + s).toNat) (m0 44 5).toNat x ∧ onF (m0 44 0) (mW m0) (mL m0) (fun s => m0 48 (2 + s).toNat) (m0 44 5).toNat x < 4)
      omega
    · rw [hth s s0 s1]
      split
      · rename_i q
        have h1 : 0 ≤ mT m0 s ∧ mT m0 s ≤ 30 := (hh.2.2.2.2.2.2.2.2.1 s s0 q).1
        have h2 := (hm s s0 q).2
        show 0 ≤ max 0 (mT m0 s - m0 48 (6 + s).toNat / 10) ∧ max 0 (mT m0 s - m0 48 (6 + s).toNat / 10) ≤ 30
        omega
      · omega
theorem asn_loop {m0 : Mem} (hh : hsM m0) (hm : moM m0) : ∀ (k : Nat) (a1 : Int) (m : Mem), 0 ≤ a1 → (4 - a1).toNat ≤ k → asnI m0 a1 m → w_X10_asNow_2 (asnP m0) a1 m := by
  intro k
  induction k with
  | zero =>
    intro a1 m h0 hk hI
    exact v_X10_asNow_2 ⟨fun c => ⟨(asn_end (m3 := m) hh hm c hI).1, (asn_end (m3 := m) hh hm c hI).2.1, fun m3 h3 => (asn_end hh hm c hI).2.2 h3⟩, fun c => by omega⟩
  | succ k ih =>
    intro a1 m h0 hk hI
    have e44 := hI.1.at 44
    have e48 := hI.1.at 48
    refine v_X10_asNow_2 ⟨fun c => ⟨(asn_end (m3 := m) hh hm c hI).1, (asn_end (m3 := m) hh hm c hI).2.1, fun m3 h3 => (asn_end hh hm c hI).2.2 h3⟩, fun c => ⟨fun q => ⟨h0, fun m5 h5 => ⟨fun q2 m6 h6 => ⟨by omega, ih _ _ (by omega) (by omega) (asn_put h0 hI h5 h6 (by rw [e44] at q; rw [if_neg (by omega)]) (by rw [e44] at q; rw [if_neg (by omega)]))⟩, fun q2 => ?_⟩⟩, fun q => ⟨by omega, by omega, by omega, h0, fun m21 h21 => ⟨fun q2 => ?_, fun q2 => ?_⟩⟩⟩⟩
    · exfalso
      have : m5 44 5 = m 44 5 := by rw [h5, mset_at, if_neg (by omega)]
      omega
    · exfalso
      have : m21 44 5 = m 44 5 := by rw [h21, mset_at, if_neg (by omega)]
      omega
    · rw [e44] at q
      have hF21 : Fr [59, 60] m0 m21 := by rw [h21]; exact hI.1.set (by decide)
      have hb := (hm a1 h0 q).2
      rw [hF21.at 48]
      refine ⟨by omega, by omega, by omega, (hsM_fr hF21).mpr hh, by rw [hF21.at 44]; exact q, hb.1, hb.2, fun m31 h31 => ⟨by omega, ih _ _ (by omega) (by omega) (asn_put h0 hI h21 h31 (by rw [if_pos q, e48]) ?_)⟩⟩
      rw [if_pos q]
      show max 0 (mT m21 a1 - _) = max 0 (mT m0 a1 - _)
      rw [(msh_fr hF21).2.2.1]
theorem c_X10_asNow {m0 : Mem} (hh : hsM m0) (hm : moM m0) : Tot mX10_asNow 0 0 [vR 44] SH m0 (Pn SH (asnP m0)) :=
  v_X10_asNow (asn_loop hh hm _ 0 m0 (by omega) (Nat.le_refl _) ⟨Fr.rf, fun s s0 s1 => by omega, fun s s0 s1 => by omega⟩)
/-- the model, ready to be asked -/
def rdM (m : Mem) : Prop := hsM m ∧ okGM m
noncomputable abbrev DM (m : Mem) : Int → Int → Int := dist (nM m) (m 44 0) (ctM m)
theorem rdM_fr {m m' : Mem} (h : Fr [62] m m') (hr : rdM m) : rdM m' := ⟨(hsM_fr h).mpr hr.1, (okGM_fr h).2.2 hr.2⟩
theorem DM_fr {ks : List Nat} {m m' : Mem} (h : Fr ks m m') (h1 : 44 ∉ ks := by decide) (h2 : 61 ∉ ks := by decide) (h3 : 60 ∉ ks := by decide) : DM m' = DM m := by
  have q := okGM_fr h h1 h2 h3
  unfold DM
  rw [q.1, q.2.1, h 44 h1]
theorem mno_fr {ks : List Nat} {m m' : Mem} (h : Fr ks m m') (h5 : 45 ∉ ks := by decide) : mnA m' = mnA m ∧ mnB m' = mnB m ∧ mnS m' = mnS m ∧ mnC m' = mnC m := by
  unfold mnA mnB mnS mnC
  rw [h 45 h5]
  exact ⟨rfl, rfl, rfl, rfl⟩
theorem DM_b {m : Mem} (hr : rdM m) {f t : Int} (f0 : 0 ≤ f) (fn : f < nM m) (t0 : 0 ≤ t) (tn : t < nM m) : 0 ≤ DM m f t ∧ DM m f t ≤ 1100 :=
  (dist_isD (okG_grid hr.2) (okG_costs hr.2) f0 fn).2.1 t t0 tn
noncomputable abbrev ldM (m : Mem) (c p q : Int) : Int := loudF (mnA m) (mnB m) (mnS m) (mnC m) (DM m) c p q (m 44 3).toNat
def anM (m0 : Mem) (x v : Int) (m : Mem) : Prop := v = x ∧ Fr [62] m0 m
theorem la_loop {m0 : Mem} {c hr : Int} (hy : rdM m0) (c0 : 0 ≤ c) (cn : c < nM m0) :
    ∀ (k : Nat) (a3 a4 : Int) (u5 : Vl) (m : Mem), 0 ≤ a4 → a4 ≤ m0 44 3 → (m0 44 3 - a4).toNat ≤ k → Fr [62] m0 m → a3 = loudF (mnA m0) (mnB m0) (mnS m0) (mnC m0) (DM m0) c hr hr a4.toNat → w_X10_loudAt_5 c hr (anM m0 (ldM m0 c hr hr)) a3 a4 u5 m := by
  have h3 := hy.1.2.2.2.2.1
  have hno := hy.1.2.2.2.2.2.2.2.1
  have hn := okG_n hy.2
  have hbd : ∀ a4 : Int, 0 ≤ a4 → a4 ≤ m0 44 3 → 0 ≤ loudF (mnA m0) (mnB m0) (mnS m0) (mnC m0) (DM m0) c hr hr a4.toNat ∧ loudF (mnA m0) (mnB m0) (mnS m0) (mnC m0) (DM m0) c hr hr a4.toNat ≤ 99 := by
    intro a4 h0 h1
    refine loudF_b _ (fun i i0 ik => ?_)
    have q1 := hno i i0 (by omega)
    exact ⟨q1.2.1.2, (DM_b hy q1.1.1 q1.1.2 c0 cn).1⟩
  intro k
  induction k with
  | zero =>
    intro a3 a4 u5 m h0 h1 hk hF he
    refine v_X10_loudAt_5 ?_
    rw [hF.at 44]
    exact ⟨fun z => ⟨by rw [he, show a4 = m0 44 3 by omega], hF⟩, fun z => by omega⟩
  | succ k ih =>
    intro a3 a4 u5 m h0 h1 hk hF he
    have hy' := rdM_fr hF hy
    have q1 := hno a4
    refine v_X10_loudAt_5 ?_
    rw [hF.at 44, (mno_fr hF).1, (mno_fr hF).2.1, hF.at 45]
    refine ⟨fun z => ⟨by rw [he, show a4 = m0 44 3 by omega], hF⟩, fun z => ⟨by omega, ?_⟩⟩
    have q1 := hno a4 h0 z
    have q2 := DM_b hy q1.1.1 q1.1.2 c0 cn
    have q3 := hbd a4 h0 h1
    have ekk : (a4 + 1).toNat = a4.toNat + 1 := by omega
    have eka : ((a4.toNat : Nat) : Int) = a4 := by omega
    have hstep : loudF (mnA m0) (mnB m0) (mnS m0) (mnC m0) (DM m0) c hr hr (a4 + 1).toNat = if mnA m0 a4 ≤ hr ∧ hr ≤ mnB m0 a4 then max (loudF (mnA m0) (mnB m0) (mnS m0) (mnC m0) (DM m0) c hr hr a4.toNat) (mnS m0 a4 - DM m0 (mnC m0 a4) c) else loudF (mnA m0) (mnB m0) (mnS m0) (mnC m0) (DM m0) c hr hr a4.toNat := by
      rw [ekk]
      show (if mnA m0 ((a4.toNat : Nat) : Int) ≤ hr ∧ hr ≤ mnB m0 ((a4.toNat : Nat) : Int) then _ else _) = _
      rw [eka]
    have hnM : nM m = nM m0 := (okGM_fr hF).2.1
    refine ⟨fun y => ⟨by omega, ih _ _ _ _ (by omega) (by omega) (by omega) hF (by rw [hstep, if_neg y]; exact he)⟩, fun y => ⟨by omega, by omega, by omega, hy'.2, q1.1.1, by rw [hnM]; exact q1.1.2, fun m9 h9 => ?_⟩⟩
    have hF9 := hF.tr h9.1
    have hd : m9 62 c.toNat = DM m0 (mnC m0 a4) c := by
      rw [h9.2 c c0 (by rw [hnM]; exact cn)]
      show DM m (mnC m0 a4) c = _
      rw [DM_fr hF]
    have hS : m9 45 (4 * a4 + 1).toNat = mnS m0 a4 := by rw [hF9.at 45]
    rw [hd, hS]
    have hs := q1.2.1
    have hc12 : c < 12 := Int.lt_of_lt_of_le cn hn.2
    generalize mnS m0 a4 = S at hs hstep ⊢
    generalize DM m0 (mnC m0 a4) c = d at q2 hstep ⊢
    refine ⟨by omega, by omega, by omega, c0, hc12, by omega, fun g => ⟨by omega, ih _ _ _ _ (by omega) (by omega) (by omega) hF9 ?_⟩, fun g => ⟨by omega, ih _ _ _ _ (by omega) (by omega) (by omega) hF9 ?_⟩⟩
    · rw [hstep, if_pos y]; omega
    · rw [hstep, if_pos y]; omega
theorem c_X10_loudAt {m0 : Mem} {c hr : Int} (hy : rdM m0) (c0 : 0 ≤ c) (cn : c < nM m0) : Tot mX10_loudAt 0 0 [vR 44, vI c, vI hr] SH m0 (Pr SH (anM m0 (ldM m0 c hr hr))) :=
  v_X10_loudAt (la_loop hy c0 cn _ 0 0 _ m0 (by omega) hy.1.2.2.2.2.1.1 (Nat.le_refl _) Fr.rf rfl)
