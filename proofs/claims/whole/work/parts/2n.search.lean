/-! THE BUYER: search, toBuy -/
/-- a way to lay one sheet more, two, by which all rooms are still -/
def c1P (m : Mem) (s c : Int) : Prop := (0 ≤ s ∧ s < m 7 2) ∧ (0 ≤ c ∧ c < 12) ∧ m 19 s.toNat = -9 ∧ legQ m (liD m 19) s c
def q1P (m : Mem) (s c : Int) : Prop := c1P m s c ∧ qzQ m (fupd (liD m 19) s c)
def q2P (m : Mem) (s c t d : Int) : Prop := c1P m s c ∧ (s < t ∧ t < m 7 2) ∧ (0 ≤ d ∧ d < 12) ∧ m 19 t.toNat = -9 ∧ legQ m (fupd (liD m 19) s c) t d ∧ qzQ m (fupd (fupd (liD m 19) s c) t d)
/-- the ranks of such ways whose first lay lies below F -/
def cdO (m : Mem) (F r : Int) : Prop := (qzQ m (liD m 19) ∧ r = 0) ∨ (∃ s c : Int, 12 * s + c < F ∧ q1P m s c ∧ r = r1F (shP m) s c) ∨ ∃ s c t d : Int, 12 * s + c < F ∧ q2P m s c t d ∧ r = r1F (shP m) s c + r1F (shP m) t d
def cdN (m : Mem) (S C G r : Int) : Prop := cdO m (12 * S + C) r ∨ (q1P m S C ∧ r = r1F (shP m) S C) ∨ ∃ t d : Int, 12 * t + d < G ∧ q2P m S C t d ∧ r = r1F (shP m) S C + r1F (shP m) t d
/-- b is the least rank, or none is found -/
def bsP (C : Int → Prop) (b : Int) : Prop := (b = 28561000 ∨ C b) ∧ (0 ≤ b ∧ b ≤ 28561000) ∧ ∀ r : Int, C r → b ≤ r
theorem bsP_eqv {C D : Int → Prop} {b : Int} (h : ∀ r : Int, C r ↔ D r) (hb : bsP C b) : bsP D b :=
  ⟨hb.1.elim Or.inl (fun z => Or.inr ((h b).mp z)), hb.2.1, fun r hr => hb.2.2 r ((h r).mpr hr)⟩
theorem shP_b {m : Mem} (hh : hsD m) {s : Int} (s0 : 0 ≤ s) (sn : s < m 7 2) : 1 ≤ shP m s ∧ shP m s ≤ 9 := (hh.2.2.2.2.2.2.2.2.2.1 s s0 sn).2.2.2
theorem c1_b {m : Mem} (hh : hsD m) {s c : Int} (h : c1P m s c) : 28562 ≤ r1F (shP m) s c ∧ r1F (shP m) s c ≤ 283413 := r1F_b (shP_b hh h.1.1 h.1.2) h.2.1.1 h.2.1.2
theorem two_eq {s c S C : Int} (c0 : 0 ≤ c) (c1 : c < 12) (C0 : 0 ≤ C) (C1 : C < 12) (h : 12 * s + c = 12 * S + C) : s = S ∧ c = C := by omega
/-- all ways with the first lay at S, C are seen -/
theorem cdN_end {m : Mem} {S C : Int} (hC : 0 ≤ C ∧ C < 12) (r : Int) : cdN m S C (12 * m 7 2) r ↔ cdO m (12 * S + C + 1) r := by
  constructor
  · rintro (h | ⟨h, e⟩ | ⟨t, d, hg, h, e⟩)
    · rcases h with h | ⟨s, c, q, h⟩ | ⟨s, c, t, d, q, h⟩
      · exact Or.inl h
      · exact Or.inr (Or.inl ⟨s, c, by omega, h⟩)
      · exact Or.inr (Or.inr ⟨s, c, t, d, by omega, h⟩)
    · exact Or.inr (Or.inl ⟨S, C, by omega, h, e⟩)
    · exact Or.inr (Or.inr ⟨S, C, t, d, by omega, h, e⟩)
  · rintro (h | ⟨s, c, q, h, e⟩ | ⟨s, c, t, d, q, h, e⟩)
    · exact Or.inl (Or.inl h)
    · by_cases z : 12 * s + c < 12 * S + C
      · exact Or.inl (Or.inr (Or.inl ⟨s, c, z, h, e⟩))
      · obtain ⟨e1, e2⟩ := two_eq (s := s) (c := c) (S := S) (C := C) h.1.2.1.1 h.1.2.1.2 hC.1 hC.2 (by omega)
        subst e1 e2
        exact Or.inr (Or.inl ⟨h, e⟩)
    · by_cases z : 12 * s + c < 12 * S + C
      · exact Or.inl (Or.inr (Or.inr ⟨s, c, t, d, z, h, e⟩))
      · obtain ⟨e1, e2⟩ := two_eq (s := s) (c := c) (S := S) (C := C) h.1.2.1.1 h.1.2.1.2 hC.1 hC.2 (by omega)
        subst e1 e2
        have h1 := h.2.1
        have h2 := h.2.2.1
        exact Or.inr (Or.inr ⟨t, d, by omega, h, e⟩)
def seI (m0 : Mem) (F : Int) (m : Mem) : Prop := flI m0 (liD m0 19) m ∧ bsP (cdO m0 F) (m 42 3)
def seJ (m0 : Mem) (S C G : Int) (m : Mem) : Prop := flI m0 (fupd (liD m0 19) S C) m ∧ bsP (cdN m0 S C G) (m 42 3)
def seP (m0 m : Mem) : Prop := flI m0 (liD m0 19) m ∧ bsP (cdO m0 (12 * m0 7 2)) (m 42 3)
theorem rkV_fl {m0 m : Mem} {li : Int → Int} (h : flI m0 li m) : rkV m = rkV m0 := by
  funext l
  unfold rkV
  rw [(sh_fr h.1).2.2.2]
theorem tyC_fl {m0 m : Mem} {li : Int → Int} {l b : Int} (h : flI m0 li m) : tyC m l b ↔ b + rkV m0 l < m 42 3 ∧ m0 19 (l / 12).toNat = -9 ∧ legQ m0 li (l / 12) (l % 12) := by
  unfold tyC
  rw [fl_can h, rkV_fl h, h.1.at 19]
theorem se_in {m0 : Mem} {S C a5 : Int} {P : Mem → Prop} (hh : hsD m0) (hc : c1P m0 S C)
    (K : ∀ (m : Mem), seI m0 (12 * S + C + 1) m → ∀ (u4 u5 u6 : Vl), w_X0_search_46 P (12 * m0 7 2) (12 * S + C + 1) u4 u5 u6 m) :
    ∀ (k : Nat) (a6 : Int) (m : Mem), 12 * (S + 1) ≤ a6 → a6 ≤ 12 * m0 7 2 → (12 * m0 7 2 - a6).toNat ≤ k → seJ m0 S C a6 m → w_X0_search_86 P (12 * m0 7 2) (12 * S + C) (r1F (shP m0) S C) a5 a6 m := by
  have h7 := hh.2.2.2.2.2.2.1
  have hb1 := c1_b hh hc
  obtain ⟨hs, hcc, hl, hg⟩ := hc
  have eS : (12 * S + C) / 12 = S := by omega
  have hfin : ∀ (a6 : Int) (m : Mem), a6 = 12 * m0 7 2 → seJ m0 S C a6 m → (0 ≤ 12 * S + C) ∧ ((flOK m) ∧ (∀ m3 : Mem, uncP m ((12 * S + C) / 12) m3 → ((inR (12 * S + C + 1)) ∧ (w_X0_search_46 P (12 * m0 7 2) (12 * S + C + 1) (vI (r1F (shP m0) S C)) (vI a5) (vI a6) m3)))) := by
    intro a6 m e hJ
    refine ⟨by omega, hJ.1.2.1.2.1, fun m3 h3 => ⟨by unfold inR; omega, K m3 ?_ _ _ _⟩⟩
    rw [eS] at h3
    obtain ⟨u1, u2⟩ := fl_unc (show liD m0 19 S = -9 from hl) hs.1 hs.2 hJ.1 hg h3
    refine ⟨u1, ?_⟩
    rw [u2]
    have hJ2 := hJ.2
    rw [e] at hJ2
    exact bsP_eqv (cdN_end hcc) hJ2
  intro k
  induction k with
  | zero =>
    intro a6 m h0 h1 hk hJ
    exact v_X0_search_86 ⟨fun _ => hfin a6 m (by omega) hJ, fun q => by omega⟩
  | succ k ih =>
    intro a6 m h0 h1 hk hJ
    refine v_X0_search_86 ⟨fun q => hfin a6 m (by omega) hJ, fun q => ?_⟩
    have hF := hJ.1.1
    have hbb := hJ.2.2.1
    refine ⟨⟨hJ.1.2.1, by rw [hF.at 7]; omega, by omega, by omega⟩, fun v6 m7 h7' => ?_⟩
    have htw : fupd (liD m0 19) S C (a6 / 12) = m0 19 (a6 / 12).toNat := by
      unfold fupd
      rw [if_neg (by omega)]
    have hp2 := shP_b hh (s := a6 / 12) (by omega) (by omega)
    have hr2 := r1F_b (c := a6 % 12) hp2 (by omega) (by omega)
    have erk : rkV m0 a6 = r1F (shP m0) (a6 / 12) (a6 % 12) := rfl
    -- what the step adds
    have hadd : ∀ r : Int, cdN m0 S C (a6 + 1) r ↔ (cdN m0 S C a6 r ∨ (q2P m0 S C (a6 / 12) (a6 % 12) ∧ r = r1F (shP m0) S C + rkV m0 a6)) := by
      intro r
      constructor
      · rintro (h | h | ⟨t, d, hg', h, e⟩)
        · exact Or.inl (Or.inl h)
        · exact Or.inl (Or.inr (Or.inl h))
        · by_cases z : 12 * t + d < a6
          · exact Or.inl (Or.inr (Or.inr ⟨t, d, z, h, e⟩))
          · have hd := h.2.2.1
            have e1 : t = a6 / 12 := by omega
            have e2 : d = a6 % 12 := by omega
            rw [e1, e2] at h e
            exact Or.inr ⟨h, e⟩
      · rintro ((h | h | ⟨t, d, hg', h, e⟩) | ⟨h, e⟩)
        · exact Or.inl h
        · exact Or.inr (Or.inl h)
        · exact Or.inr (Or.inr ⟨t, d, by omega, h, e⟩)
        · exact Or.inr (Or.inr ⟨a6 / 12, a6 % 12, by omega, h, e⟩)
    unfold tlR at h7'
    rw [tyC_fl hJ.1, rkV_fl hJ.1] at h7'
    refine ⟨fun z => ⟨by unfold inR; omega, ?_⟩, fun z => ⟨by omega, ?_⟩⟩
    · rcases h7' with ⟨hn, -, e⟩ | ⟨-, e, -⟩
      · rw [e]
        refine ih _ _ (by omega) (by omega) (by omega) ⟨hJ.1, ?_⟩
        refine ⟨hJ.2.1.elim Or.inl (fun y => Or.inr ((hadd _).mpr (Or.inl y))), hbb, fun r hr => ?_⟩
        rcases (hadd r).mp hr with y | ⟨y, e⟩
        · exact hJ.2.2.2 r y
        · rw [e]
          refine Int.not_lt.mp (fun y2 => hn ⟨y2, y.2.2.2.1, y.2.2.2.2.1⟩)
      · omega
    · rcases h7' with ⟨-, e, -⟩ | ⟨⟨hlt, hla, hleg⟩, -, m1, hcov, hF1, hlo, hq⟩
      · exact absurd e z
      have hfl1 : flI m0 (fupd (fupd (liD m0 19) S C) (a6 / 12) (a6 % 12)) m1 := fl_cov (by rw [htw]; exact hla) (by omega) (by omega) hJ.1 hleg hcov Fr.rf hcov.2.2.1
      have hfl7 : flI m0 (fupd (fupd (liD m0 19) S C) (a6 / 12) (a6 % 12)) m7 := fl_cov (by rw [htw]; exact hla) (by omega) (by omega) hJ.1 hleg hcov hF1 hlo
      refine ⟨hfl7.2.1.2.1, fun m11 h11 => ⟨by unfold inR; omega, ?_⟩⟩
      obtain ⟨u1, u2⟩ := fl_unc (by rw [htw]; exact hla) (by omega) (by omega) hfl7 hleg h11
      refine ih _ _ (by omega) (by omega) (by omega) ⟨u1, ?_⟩
      rw [u2]
      have hqz : nwP m1 ↔ qzQ m0 (fupd (fupd (liD m0 19) S C) (a6 / 12) (a6 % 12)) := fl_qz hh hfl1
      have hq2 : q2P m0 S C (a6 / 12) (a6 % 12) ↔ qzQ m0 (fupd (fupd (liD m0 19) S C) (a6 / 12) (a6 % 12)) :=
        ⟨fun y => y.2.2.2.2.2, fun y => ⟨⟨hs, hcc, hl, hg⟩, ⟨by omega, by omega⟩, ⟨by omega, by omega⟩, hla, hleg, y⟩⟩
      rcases hq with ⟨hn, e⟩ | ⟨hn, e⟩
      · rw [e]
        refine ⟨Or.inr ((hadd _).mpr (Or.inr ⟨hq2.mpr (hqz.mp hn), rfl⟩)), by omega, fun r hr => ?_⟩
        rcases (hadd r).mp hr with y | ⟨-, e⟩
        · have := hJ.2.2.2 r y
          omega
        · omega
      · rw [e]
        refine ⟨hJ.2.1.elim Or.inl (fun y => Or.inr ((hadd _).mpr (Or.inl y))), hbb, fun r hr => ?_⟩
        rcases (hadd r).mp hr with y | ⟨y, -⟩
        · exact hJ.2.2.2 r y
        · exact absurd (hqz.mpr (hq2.mp y)) hn
theorem se_out {m0 : Mem} (hh : hsD m0) : ∀ (k : Nat) (a3 : Int) (u4 u5 u6 : Vl) (m : Mem), 0 ≤ a3 → a3 ≤ 12 * m0 7 2 → (12 * m0 7 2 - a3).toNat ≤ k → seI m0 a3 m → w_X0_search_46 (seP m0) (12 * m0 7 2) a3 u4 u5 u6 m := by
  have h7 := hh.2.2.2.2.2.2.1
  intro k
  induction k with
  | zero =>
    intro a3 u4 u5 u6 m h0 h1 hk hI
    refine v_X0_search_46 ⟨fun _ => ?_, fun q => by omega⟩
    rw [show a3 = 12 * m0 7 2 by omega] at hI
    exact hI
  | succ k ih =>
    intro a3 u4 u5 u6 m h0 h1 hk hI
    refine v_X0_search_46 ⟨fun q => by rw [show a3 = 12 * m0 7 2 by omega] at hI; exact hI, fun q => ?_⟩
    have hF := hI.1.1
    have hbb := hI.2.2.1
    refine ⟨⟨hI.1.2.1, by rw [hF.at 7]; omega, by omega, by omega⟩, fun v2 m3 h3 => ?_⟩
    have hp := shP_b hh (s := a3 / 12) (by omega) (by omega)
    have hr := r1F_b (c := a3 % 12) hp (by omega) (by omega)
    have erk : rkV m0 a3 = r1F (shP m0) (a3 / 12) (a3 % 12) := rfl
    have ea : 12 * (a3 / 12) + a3 % 12 = a3 := by omega
    unfold tlR at h3
    rw [tyC_fl hI.1, rkV_fl hI.1] at h3
    refine ⟨fun z => ?_, fun z => ⟨by unfold inR; omega, ?_⟩⟩
    · rcases h3 with ⟨-, e, -⟩ | ⟨⟨hlt, hla, hleg⟩, -, m1, hcov, hF1, hlo, hq⟩
      · exact absurd e z
      have hc1 : c1P m0 (a3 / 12) (a3 % 12) := ⟨⟨by omega, by omega⟩, ⟨by omega, by omega⟩, hla, hleg⟩
      have hfl1 := fl_cov (show liD m0 19 (a3 / 12) = -9 from hla) (by omega) (by omega) hI.1 hleg hcov Fr.rf hcov.2.2.1
      have hfl3 := fl_cov (show liD m0 19 (a3 / 12) = -9 from hla) (by omega) (by omega) hI.1 hleg hcov hF1 hlo
      have hqz : nwP m1 ↔ qzQ m0 (fupd (liD m0 19) (a3 / 12) (a3 % 12)) := fl_qz hh hfl1
      refine ⟨⟨(hsD_fr hfl3.1).mpr hh, h0, by rw [hfl3.1.at 7]; omega⟩, h0, by unfold inR; omega, by unfold inR; omega, ?_⟩
      rw [rkV_fl hfl3, erk]
      have hin := se_in (P := seP m0) (a5 := (a3 / 12 + 1) * 12) hh hc1 (fun m hm u4 u5 u6 => by rw [ea] at hm ⊢; exact ih _ _ _ _ _ (by omega) (by omega) (by omega) hm) (12 * m0 7 2 - (a3 / 12 + 1) * 12).toNat ((a3 / 12 + 1) * 12) m3 (by omega) (by omega) (by omega) ⟨hfl3, ?_⟩
      · rw [ea] at hin
        exact hin
      · have hadd : ∀ r : Int, cdN m0 (a3 / 12) (a3 % 12) ((a3 / 12 + 1) * 12) r ↔ (cdO m0 a3 r ∨ (q1P m0 (a3 / 12) (a3 % 12) ∧ r = rkV m0 a3)) := by
          intro r
          unfold cdN
          rw [ea]
          constructor
          · rintro (h | h | ⟨t, d, hg', h, e⟩)
            · exact Or.inl h
            · exact Or.inr h
            · have h1 := h.2.1
              have h2 := h.2.2.1
              omega
          · rintro (h | h)
            · exact Or.inl h
            · exact Or.inr (Or.inl h)
        rcases hq with ⟨hn, e⟩ | ⟨hn, e⟩
        · rw [e]
          refine ⟨Or.inr ((hadd _).mpr (Or.inr ⟨⟨hc1, hqz.mp hn⟩, by omega⟩)), by omega, fun r hr => ?_⟩
          rcases (hadd r).mp hr with y | ⟨-, e⟩
          · have := hI.2.2.2 r y
            omega
          · omega
        · rw [e]
          refine ⟨hI.2.1.elim Or.inl (fun y => Or.inr ((hadd _).mpr (Or.inl y))), hbb, fun r hr => ?_⟩
          rcases (hadd r).mp hr with y | ⟨y, -⟩
          · exact hI.2.2.2 r y
          · exact absurd (hqz.mpr y.2) hn
    · rcases h3 with ⟨hn, -, e⟩ | ⟨-, e, -⟩
      · rw [e]
        refine ih _ _ _ _ _ (by omega) (by omega) (by omega) ⟨hI.1, ?_⟩
        have hno : ∀ r : Int, cdO m0 (a3 + 1) r → cdO m0 a3 r ∨ m 42 3 ≤ r := by
          rintro r (h | ⟨s, c, q', h, e⟩ | ⟨s, c, t, d, q', h, e⟩)
          · exact Or.inl (Or.inl h)
          · by_cases y : 12 * s + c < a3
            · exact Or.inl (Or.inr (Or.inl ⟨s, c, y, h, e⟩))
            · have hd := h.1.2.1
              have e1 : s = a3 / 12 := by omega
              have e2 : c = a3 % 12 := by omega
              rw [e1, e2] at h e
              refine Or.inr (Int.not_lt.mp (fun y2 => hn ⟨by omega, h.1.2.2.1, h.1.2.2.2⟩))
          · by_cases y : 12 * s + c < a3
            · exact Or.inl (Or.inr (Or.inr ⟨s, c, t, d, y, h, e⟩))
            · have hd := h.1.2.1
              have e1 : s = a3 / 12 := by omega
              have e2 : c = a3 % 12 := by omega
              rw [e1, e2] at h e
              have hr2 := r1F_b (c := d) (shP_b hh (s := t) (by have := h.2.1; omega) h.2.1.2) h.2.2.1.1 h.2.2.1.2
              refine Or.inr (Int.not_lt.mp (fun y2 => hn ⟨by omega, h.1.2.2.1, h.1.2.2.2⟩))
        have hup : ∀ r : Int, cdO m0 a3 r → cdO m0 (a3 + 1) r := by
          rintro r (h | ⟨s, c, q', h, e⟩ | ⟨s, c, t, d, q', h, e⟩)
          · exact Or.inl h
          · exact Or.inr (Or.inl ⟨s, c, by omega, h, e⟩)
          · exact Or.inr (Or.inr ⟨s, c, t, d, by omega, h, e⟩)
        refine ⟨hI.2.1.elim Or.inl (fun y => Or.inr (hup _ y)), hbb, fun r hr => ?_⟩
        rcases hno r hr with y | y
        · exact hI.2.2.2 r y
        · exact y
      · omega
theorem c_X0_search {m0 : Mem} (ho : okD m0) : Tot mX0_search 0 0 [vR 42, vR 18] SH m0 (Pn SH (seP m0)) := by
  have hh := ho.1
  have h7 := hh.2.2.2.2.2.2.1
  refine v_X0_search ⟨by unfold inR; omega, hh, ho.2.1, ho.2.2.1, ho.2.2.2.1, fun m6 h6 => ⟨(sho_ok ho h6).2, fun v8 m9 h9 => ?_⟩⟩
  obtain ⟨hf, hF9, hl9⟩ := h9
  have hfl6 : flI m0 (liD m0 19) m6 := fl_0 h6 hh Fr.rf h6.2.2.1
  have hqz : nwP m6 ↔ qzQ m0 (liD m0 19) := fl_qz hh hfl6
  have hset : ∀ (z : Int) (m10 : Mem), m10 = mset m9 42 3 z → flI m0 (liD m0 19) m10 := by
    intro z m10 e
    have hFm : Fr [42] m9 m10 := by rw [e]; exact Fr.rf.set (by decide)
    refine fl_0 h6 hh ((hF9.mono (by decide)).tr (hFm.mono (by decide))) ?_
    unfold losOK rowD
    rw [DD_fr hFm, hFm.at 4, hFm.at 39, hFm.at 40]
    exact hl9
  have hcd : ∀ r : Int, cdO m0 0 r ↔ qzQ m0 (liD m0 19) ∧ r = 0 := by
    intro r
    constructor
    · rintro (h | ⟨s, c, q, h, e⟩ | ⟨s, c, t, d, q, h, e⟩)
      · exact h
      · have h1 := h.1.1
        have h2 := h.1.2.1
        omega
      · have h1 := h.1.1
        have h2 := h.1.2.1
        omega
    · exact Or.inl
  refine ⟨fun z m10 e => ?_, fun z m11 e => ?_⟩
  · rw [Int.mul_comm]
    refine se_out hh _ 0 _ _ _ m10 (by omega) (by omega) (Nat.le_refl _) ⟨hset _ _ e, ?_⟩
    rw [e, mset_eq]
    refine ⟨Or.inl rfl, by omega, fun r hr => ?_⟩
    have hq := hqz.mpr ((hcd r).mp hr).1
    rcases hf with ⟨y, -⟩ | ⟨y1, y2, y3, -⟩
    · exact absurd y z
    · exact absurd y3 (hq v8 y1 y2)
  · rw [Int.mul_comm]
    refine se_out hh _ 0 _ _ _ m11 (by omega) (by omega) (Nat.le_refl _) ⟨hset _ _ e, ?_⟩
    rw [e, mset_eq]
    have hn : nwP m6 := by
      rcases hf with ⟨-, y⟩ | ⟨y1, -⟩
      · exact y
      · omega
    exact ⟨Or.inr ((hcd 0).mpr ⟨hqz.mp hn, rfl⟩), by omega, fun r hr => by have := ((hcd r).mp hr).2; omega⟩
set_option maxRecDepth 20000 in
theorem v_X9_toBuy {s : Int} {P : Int → Mem → Prop} {mem : Mem}  (H : (s = (-9) → (okD mem) ∧ (∀ m2 : Mem, seP mem m2 → (((m2 42 3 < 28561000) → (0 ≤ m2 42 3) ∧ (P (m2 42 3 / 28561) m2)) ∧ (¬ (m2 42 3 < 28561000) → P (-9) m2)))) ∧ (¬ s = (-9) → (¬ (0 ≤ s ∧ s < mem 7 2) → P (-1) mem) ∧ ((0 ≤ s ∧ s < mem 7 2) → (¬ ((0 ≤ s ∧ s < 4) ∧ ¬ mem 19 s.toNat = -9) → (okD mem) ∧ (∀ m5 : Mem, seP mem m5 → (((m5 42 3 < 28561000) → (0 ≤ m5 42 3) ∧ ((s < 4) ∧ (P (ceV (m5 42 3) s) m5))) ∧ (¬ (m5 42 3 < 28561000) → P (-9) m5)))) ∧ (((0 ≤ s ∧ s < 4) ∧ ¬ mem 19 s.toNat = -9) → P (-1) mem)))) : Tot mX9_toBuy 0 0 [vR 0, vI s] SH mem (Pr SH P) := by
  refine Tot.of rfl (Nat.le_of_ble_eq_true rfl) (by simp [isJ]) (ls := [vR 0, vI s]) rfl ?_
  refine q_iload_n dX9_toBuy_0 rfl ?_
  refine q_bipush dX9_toBuy_1 rfl (by decide) ?_
  refine q_icmp_eq (tgt := 33) dX9_toBuy_3 (by decide) (fun c3 => ?_) (fun c3 => ?_)
  · have H := H.1 c3
    refine q_aload_n dX9_toBuy_33 rfl ?_
    refine q_getr (r := 42) dX9_toBuy_34 lf_RX9_89 s0 rfl rfl ?_
    refine q_aload_n dX9_toBuy_37 rfl ?_
    refine q_getr (r := 18) dX9_toBuy_38 lf_RX9_29 s0 rfl rfl ?_
    obtain ⟨h1, H⟩ := H
    refine q_cVn (as := [vR _]) dX9_toBuy_41 kmX0_search kvX0_search lm_RX9_241 ⟨by decide, by decide⟩ s42 ⟨by decide, rfl⟩ rfl rfl (Nat.le_of_ble_eq_true rfl) (c_X0_search h1) (fun m1 hq => ?_)
    have H := H m1 hq
    refine q_aload_n dX9_toBuy_44 rfl ?_
    refine q_getr (r := 42) dX9_toBuy_45 lf_RX9_89 s0 rfl rfl ?_
    refine q_cVi (as := []) dX9_toBuy_48 kmX0_hasFound kvX0_hasFound lm_RX9_244 ⟨by decide, by decide⟩ s42 ⟨by decide, rfl⟩ rfl rfl (Nat.le_of_ble_eq_true rfl) (c_X0_hasFound) (fun v m1 hq => ?_)
    obtain ⟨rfl, rfl⟩ := hq
    refine q_if_ne (tgt := 57) dX9_toBuy_51 (by decide) (fun c51 => ?_) (fun c51 => ?_)
    · have H := H.1 (b_yes c51)
      refine q_iload_n dX9_toBuy_57 rfl ?_
      refine q_bipush dX9_toBuy_58 rfl (by decide) ?_
      refine q_icmp_ne (tgt := 73) dX9_toBuy_60 (by decide) (fun c => absurd c3 (by omega)) (fun _ => ?_)
      refine q_aload_n dX9_toBuy_63 rfl ?_
      refine q_getr (r := 42) dX9_toBuy_64 lf_RX9_89 s0 rfl rfl ?_
      obtain ⟨h3, H⟩ := H
      refine q_cVi (as := []) dX9_toBuy_67 kmX0_price kvX0_price lm_RX9_247 ⟨by decide, by decide⟩ s42 ⟨by decide, rfl⟩ rfl rfl (Nat.le_of_ble_eq_true rfl) (c_X0_price h3) (fun v m1 hq => ?_)
      obtain ⟨rfl, rfl⟩ := hq
      refine q_goto (tgt := 81) dX9_toBuy_70 (by decide) ?_
      exact q_iret dX9_toBuy_81 rfl ⟨_, rfl, rfl, H⟩
    · have H := H.2 (b_no c51)
      refine q_bipush dX9_toBuy_54 rfl (by decide) ?_
      exact q_iret dX9_toBuy_56 rfl ⟨_, rfl, rfl, H⟩
  · have H := H.2 c3
    refine q_aload_n dX9_toBuy_6 rfl ?_
    refine q_getr (r := 4) dX9_toBuy_7 lf_RX9_19 s0 rfl rfl ?_
    refine q_getr (r := 7) dX9_toBuy_10 lf_RX9_144 s4 rfl rfl ?_
    refine q_iload_n dX9_toBuy_13 rfl ?_
    refine q_cVi (as := [vI _]) dX9_toBuy_14 kmX6_has kvX6_has lm_RX9_136 ⟨by decide, by decide⟩ s7 ⟨by decide, rfl⟩ rfl rfl (Nat.le_of_ble_eq_true rfl) (c_X6_has s7) (fun v m1 hq => ?_)
    obtain ⟨rfl, rfl⟩ := hq
    refine q_if_eq (tgt := 31) dX9_toBuy_17 (by decide) (fun c17 => ?_) (fun c17 => ?_)
    · have H := H.1 (b_no c17)
      refine q_iconst dX9_toBuy_31 (by decide) ?_
      exact q_iret dX9_toBuy_32 rfl ⟨_, rfl, rfl, H⟩
    · have H := H.2 (b_yes c17)
      refine q_aload_n dX9_toBuy_20 rfl ?_
      refine q_getr (r := 18) dX9_toBuy_21 lf_RX9_29 s0 rfl rfl ?_
      refine q_iload_n dX9_toBuy_24 rfl ?_
      refine q_cVi (as := [vI _]) dX9_toBuy_25 kmX4_isLaid kvX4_isLaid lm_RX9_186 ⟨by decide, by decide⟩ s18 ⟨by decide, rfl⟩ rfl rfl (Nat.le_of_ble_eq_true rfl) (c_X4_isLaid s18 s19 s20) (fun v m1 hq => ?_)
      obtain ⟨rfl, rfl⟩ := hq
      refine q_if_eq (tgt := 33) dX9_toBuy_28 (by decide) (fun c28 => ?_) (fun c28 => ?_)
      · have H := H.1 (b_no c28)
        refine q_aload_n dX9_toBuy_33 rfl ?_
        refine q_getr (r := 42) dX9_toBuy_34 lf_RX9_89 s0 rfl rfl ?_
        refine q_aload_n dX9_toBuy_37 rfl ?_
        refine q_getr (r := 18) dX9_toBuy_38 lf_RX9_29 s0 rfl rfl ?_
        obtain ⟨h4, H⟩ := H
        refine q_cVn (as := [vR _]) dX9_toBuy_41 kmX0_search kvX0_search lm_RX9_241 ⟨by decide, by decide⟩ s42 ⟨by decide, rfl⟩ rfl rfl (Nat.le_of_ble_eq_true rfl) (c_X0_search h4) (fun m1 hq => ?_)
        have H := H m1 hq
        refine q_aload_n dX9_toBuy_44 rfl ?_
        refine q_getr (r := 42) dX9_toBuy_45 lf_RX9_89 s0 rfl rfl ?_
        refine q_cVi (as := []) dX9_toBuy_48 kmX0_hasFound kvX0_hasFound lm_RX9_244 ⟨by decide, by decide⟩ s42 ⟨by decide, rfl⟩ rfl rfl (Nat.le_of_ble_eq_true rfl) (c_X0_hasFound) (fun v m1 hq => ?_)
        obtain ⟨rfl, rfl⟩ := hq
        refine q_if_ne (tgt := 57) dX9_toBuy_51 (by decide) (fun c51 => ?_) (fun c51 => ?_)
        · have H := H.1 (b_yes c51)
          refine q_iload_n dX9_toBuy_57 rfl ?_
          refine q_bipush dX9_toBuy_58 rfl (by decide) ?_
          refine q_icmp_ne (tgt := 73) dX9_toBuy_60 (by decide) (fun _ => ?_) (fun c => absurd c3 (by omega))
          refine q_aload_n dX9_toBuy_73 rfl ?_
          refine q_getr (r := 42) dX9_toBuy_74 lf_RX9_89 s0 rfl rfl ?_
          refine q_iload_n dX9_toBuy_77 rfl ?_
          obtain ⟨h6, H⟩ := H
          obtain ⟨h7, H⟩ := H
          refine q_cVi (as := [vI _]) dX9_toBuy_78 kmX0_cellOf kvX0_cellOf lm_RX9_250 ⟨by decide, by decide⟩ s42 ⟨by decide, rfl⟩ rfl rfl (Nat.le_of_ble_eq_true rfl) (c_X0_cellOf h6 (b_yes c17).1 h7) (fun v m1 hq => ?_)
          obtain ⟨rfl, rfl⟩ := hq
          exact q_iret dX9_toBuy_81 rfl ⟨_, rfl, rfl, H⟩
        · have H := H.2 (b_no c51)
          refine q_bipush dX9_toBuy_54 rfl (by decide) ?_
          exact q_iret dX9_toBuy_56 rfl ⟨_, rfl, rfl, H⟩
      · have H := H.2 (b_yes c28)
        refine q_iconst dX9_toBuy_31 (by decide) ?_
        exact q_iret dX9_toBuy_32 rfl ⟨_, rfl, rfl, H⟩


def tbQ (m0 : Mem) (s v : Int) (m : Mem) : Prop := ((s = -9 ∨ ((0 ≤ s ∧ s < m0 7 2) ∧ m0 19 s.toNat = -9)) ∧ (∃ b, bsP (cdO m0 (12 * m0 7 2)) b ∧ v = if b = 28561000 then -9 else if s = -9 then b / 28561 else ceV b s) ∧ Fr [35, 36, 38, 39, 40, 42] m0 m ∧ okD m) ∨ (¬ (s = -9 ∨ ((0 ≤ s ∧ s < m0 7 2) ∧ m0 19 s.toNat = -9)) ∧ v = -1 ∧ m = m0)
theorem c_X9_toBuy {m0 : Mem} {s : Int} (ho : okD m0) : Tot mX9_toBuy 0 0 [vR 0, vI s] SH m0 (Pr SH (tbQ m0 s)) := by
  have h7 := ho.1.2.2.2.2.2.2.1
  have hok : ∀ m : Mem, seP m0 m → okD m := by
    intro m h
    have hF := h.1.1
    obtain ⟨a, b, c, d, e⟩ := ho
    refine ⟨h.1.2.1.1, (moD_fr hF (by decide) (by decide)).mpr b, ?_, h.1.2.1.2.1.1.1.2.2.2.2.2, ?_⟩
    · rw [hF.at 4, hF.at 37]; exact c
    · unfold paOK; rw [hF.at 24, hF.at 25]; exact e
  refine v_X9_toBuy ⟨fun q => ⟨ho, fun m2 h2 => ⟨fun z => ⟨h2.2.2.1.1, Or.inl ⟨Or.inl q, ⟨m2 42 3, h2.2, ?_⟩, h2.1.1, hok m2 h2⟩⟩, fun z => Or.inl ⟨Or.inl q, ⟨m2 42 3, h2.2, ?_⟩, h2.1.1, hok m2 h2⟩⟩⟩, fun q => ⟨fun q2 => Or.inr ⟨fun z => z.elim q (fun y => q2 y.1), rfl, rfl⟩, fun q2 => ⟨fun q3 => ⟨ho, fun m5 h5 => ⟨fun z => ⟨h5.2.2.1.1, by omega, Or.inl ⟨Or.inr ⟨q2, ?_⟩, ⟨m5 42 3, h5.2, ?_⟩, h5.1.1, hok m5 h5⟩⟩, fun z => Or.inl ⟨Or.inr ⟨q2, ?_⟩, ⟨m5 42 3, h5.2, ?_⟩, h5.1.1, hok m5 h5⟩⟩⟩, fun q3 => Or.inr ⟨fun z => z.elim q (fun y => q3.2 y.2), rfl, rfl⟩⟩⟩⟩
  · rw [if_neg (by omega), if_pos q]
  · have := h2.2.2.1.2
    rw [if_pos (by omega)]
  · exact Classical.byContradiction fun z2 => q3 ⟨by omega, z2⟩
  · rw [if_neg (by omega), if_neg q]
  · exact Classical.byContradiction fun z2 => q3 ⟨by omega, z2⟩
  · have := h5.2.2.1.2
    rw [if_pos (by omega)]
