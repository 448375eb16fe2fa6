/-! THE CLASS: what is heard, where it can come from -/
noncomputable def cntF (p : Int → Prop) : Nat → Int
  | 0 => 0
  | k + 1 => cntF p k + @ite Int (p ((k : Int) + 1)) (Classical.propDecidable _) 1 0
theorem cntF_t {p : Int → Prop} {k : Nat} (h : p ((k : Int) + 1)) : cntF p (k + 1) = cntF p k + 1 := by
  show cntF p k + @ite Int (p ((k : Int) + 1)) (Classical.propDecidable _) 1 0 = _
  rw [if_pos h]
theorem cntF_f {p : Int → Prop} {k : Nat} (h : ¬ p ((k : Int) + 1)) : cntF p (k + 1) = cntF p k := by
  show cntF p k + @ite Int (p ((k : Int) + 1)) (Classical.propDecidable _) 1 0 = _
  rw [if_neg h, Int.add_zero]
theorem cntF_b {p : Int → Prop} : ∀ k : Nat, 0 ≤ cntF p k ∧ cntF p k ≤ k
  | 0 => ⟨Int.le_refl _, Int.le_refl _⟩
  | k + 1 => by
    have h := cntF_b (p := p) k
    by_cases q : p ((k : Int) + 1)
    · rw [cntF_t q]; omega
    · rw [cntF_f q]; omega
theorem cntF_congr {p q : Int → Prop} : ∀ k : Nat, (∀ i : Int, 1 ≤ i → i ≤ k → (p i ↔ q i)) → cntF p k = cntF q k
  | 0, _ => rfl
  | k + 1, h => by
    have e := cntF_congr k (fun i h0 h1 => h i h0 (by omega))
    have hk := h ((k : Int) + 1) (by omega) (by omega)
    by_cases c : p ((k : Int) + 1)
    · rw [cntF_t c, cntF_t (hk.mp c), e]
    · rw [cntF_f c, cntF_f (fun z => c (hk.mpr z)), e]
theorem cntF_iv {p : Int → Prop} {lo hi : Int} (hlo : 1 ≤ lo) : ∀ k : Nat, (∀ n : Int, 1 ≤ n → n ≤ k → (p n ↔ lo ≤ n ∧ n ≤ hi)) → cntF p k = max 0 (min hi k - lo + 1)
  | 0, _ => by
    show (0 : Int) = _
    omega
  | k + 1, h => by
    have e := cntF_iv hlo k (fun i h0 h1 => h i h0 (by omega))
    have hk := h ((k : Int) + 1) (by omega) (by omega)
    by_cases c : p ((k : Int) + 1)
    · rw [cntF_t c, e]
      have := hk.mp c
      omega
    · rw [cntF_f c, e]
      have : ¬ (lo ≤ (k : Int) + 1 ∧ (k : Int) + 1 ≤ hi) := fun z => c (hk.mpr z)
      omega
abbrev hdC (m : Mem) (i : Int) : Int := getF (m 31) (m 30 2) i 0
abbrev hdV (m : Mem) (i : Int) : Int := getF (m 31) (m 30 2) i 1
def heOK (m : Mem) : Prop := rwOK m 30 ∧ ∀ i : Int, 0 ≤ i → i < m 30 2 → (0 ≤ hdC m i ∧ hdC m i < m 4 5) ∧ 0 ≤ hdV m i ∧ hdV m i ≤ 99
theorem heOK_fr {ks : List Nat} {m m' : Mem} (h : Fr ks m m') (ho : heOK m) (h4 : 4 ∉ ks := by decide) (h30 : 30 ∉ ks := by decide) (h31 : 31 ∉ ks := by decide) : heOK m' := by
  unfold heOK rwOK hdC hdV at *
  rw [h 4 h4, h 30 h30, h 31 h31]
  exact ho
theorem hd_fr {ks : List Nat} {m m' : Mem} (h : Fr ks m m') (h30 : 30 ∉ ks := by decide) (h31 : 31 ∉ ks := by decide) : hdC m' = hdC m ∧ hdV m' = hdV m := by
  unfold hdC hdV
  rw [h 30 h30, h 31 h31]
  exact ⟨rfl, rfl⟩
def agrF (D hc hv : Int → Int) (k n : Int) : Prop := ∀ i : Int, 0 ≤ i → i < k → max 0 (n - D (hc i)) = hv i
theorem agrF_s {D hc hv : Int → Int} {k n : Int} (h0 : 0 ≤ k) : agrF D hc hv (k + 1) n ↔ agrF D hc hv k n ∧ max 0 (n - D (hc k)) = hv k := by
  refine ⟨fun h => ⟨fun i i0 i1 => h i i0 (by omega), h k h0 (by omega)⟩, fun h i i0 i1 => ?_⟩
  by_cases e : i = k
  · rw [e]; exact h.2
  · exact h.1 i i0 (by omega)
noncomputable abbrev stnF (m : Mem) (c : Int) : Int := cntF (agrF (DD m c) (hdC m) (hdV m) (m 30 2)) 99
def w_X9_strengthsAt_8 (c : Int) (P : Int → Mem → Prop) (a2 : Int) (a3 : Int) (a4 : Int) (u5 : Vl) (u6 : Vl) (mem : Mem) : Prop := WP mX9_strengthsAt none 0 0 (Pr SH P) 8 [vR 0, vI c, vI a2, vI a3, vI a4, u5, u6] [] SH mem
set_option maxRecDepth 20000 in
theorem v_X9_strengthsAt_8 {c : Int} {P : Int → Mem → Prop} {a2 : Int} {a3 : Int} {a4 : Int} {u5 : Vl} {u6 : Vl} {mem : Mem}  (H : ((mem 30 2) ≤ a4 → (inR (a3 - a2)) ∧ ((inR ((a3 - a2) + 1)) ∧ (P (max 0 ((a3 - a2) + 1)) mem))) ∧ (a4 < (mem 30 2) → (mem 30 2 * 4 ≤ 16) ∧ ((rdy mem) ∧ ((0 ≤ c) ∧ ((c < mem 4 5) ∧ ((0 ≤ (getF (mem 31) (mem 30 2) a4 0)) ∧ (((getF (mem 31) (mem 30 2) a4 0) < mem 4 5) ∧ (∀ (v9 : Int) (m10 : Mem), anP mem (DD mem c (getF (mem 31) (mem 30 2) a4 0)) v9 m10 → ((m10 30 2 * 4 ≤ 16) ∧ ((inR (v9 + (getF (m10 31) (m10 30 2) a4 1))) ∧ (((getF (m10 31) (m10 30 2) a4 1) ≤ 0 → (inR (a4 + 1)) ∧ (w_X9_strengthsAt_8 c P a2 (min a3 (v9 + (getF (m10 31) (m10 30 2) a4 1))) (a4 + 1) (vI v9) (vI (getF (m10 31) (m10 30 2) a4 1)) m10)) ∧ (0 < (getF (m10 31) (m10 30 2) a4 1) → (inR (a4 + 1)) ∧ (w_X9_strengthsAt_8 c P (max a2 (v9 + (getF (m10 31) (m10 30 2) a4 1))) (min a3 (v9 + (getF (m10 31) (m10 30 2) a4 1))) (a4 + 1) (vI v9) (vI (getF (m10 31) (m10 30 2) a4 1)) m10))))))))))))) : w_X9_strengthsAt_8 c P a2 a3 a4 u5 u6 mem := by
  unfold w_X9_strengthsAt_8
  refine q_iload dX9_strengthsAt_8 rfl ?_
  refine q_aload_n dX9_strengthsAt_10 rfl ?_
  refine q_getr (r := 30) dX9_strengthsAt_11 lf_RX9_59 s0 rfl rfl ?_
  refine q_cVi (as := []) dX9_strengthsAt_14 kmX6_size kvX6_size lm_RX9_214 ⟨by decide, by decide⟩ s30 ⟨by decide, rfl⟩ rfl rfl (Nat.le_of_ble_eq_true rfl) (c_X6_size s30) (fun v m1 hq => ?_)
  obtain ⟨rfl, rfl⟩ := hq
  refine q_icmp_ge (tgt := 83) dX9_strengthsAt_17 (by decide) (fun c17 => ?_) (fun c17 => ?_)
  · have H := H.1 c17
    refine q_iconst dX9_strengthsAt_83 (by decide) ?_
    refine q_iload_n dX9_strengthsAt_84 rfl ?_
    refine q_iload_n dX9_strengthsAt_85 rfl ?_
    obtain ⟨h1, H⟩ := H
    refine q_isub dX9_strengthsAt_86 h1 ?_
    refine q_iconst dX9_strengthsAt_87 (by decide) ?_
    obtain ⟨h2, H⟩ := H
    refine q_iadd dX9_strengthsAt_88 h2 ?_
    refine q_max dX9_strengthsAt_89 lm_RX9_276 k_max (by decide) (Nat.le_of_ble_eq_true rfl) ?_
    exact q_iret dX9_strengthsAt_92 rfl ⟨_, rfl, rfl, H⟩
  · have H := H.2 c17
    refine q_aload_n dX9_strengthsAt_20 rfl ?_
    refine q_getr (r := 34) dX9_strengthsAt_21 lf_RX9_71 s0 rfl rfl ?_
    refine q_iload_n dX9_strengthsAt_24 rfl ?_
    refine q_aload_n dX9_strengthsAt_25 rfl ?_
    refine q_getr (r := 30) dX9_strengthsAt_26 lf_RX9_59 s0 rfl rfl ?_
    refine q_iload dX9_strengthsAt_29 rfl ?_
    refine q_iconst dX9_strengthsAt_31 (by decide) ?_
    obtain ⟨h3, H⟩ := H
    refine q_cVi (as := [vI _, vI _]) dX9_strengthsAt_32 kmX6_get kvX6_get lm_RX9_140 ⟨by decide, by decide⟩ s30 ⟨by decide, rfl⟩ rfl rfl (Nat.le_of_ble_eq_true rfl) (c_X6_get s30 s31 h3) (fun v m1 hq => ?_)
    obtain ⟨rfl, rfl⟩ := hq
    obtain ⟨h4, H⟩ := H
    obtain ⟨h5, H⟩ := H
    obtain ⟨h6, H⟩ := H
    obtain ⟨h7, H⟩ := H
    obtain ⟨h8, H⟩ := H
    refine q_cVi (as := [vI _, vI _]) dX9_strengthsAt_35 kmX1_lost kvX1_lost lm_RX9_268 ⟨by decide, by decide⟩ s34 ⟨by decide, rfl⟩ rfl rfl (Nat.le_of_ble_eq_true rfl) (c_lost h4 h5 h6 h7 h8) (fun v m1 hq => ?_)
    have H := H v m1 hq
    refine q_istore dX9_strengthsAt_38 (by decide) rfl ?_
    refine q_aload_n dX9_strengthsAt_40 rfl ?_
    refine q_getr (r := 30) dX9_strengthsAt_41 lf_RX9_59 s0 rfl rfl ?_
    refine q_iload dX9_strengthsAt_44 rfl ?_
    refine q_iconst dX9_strengthsAt_46 (by decide) ?_
    obtain ⟨h11, H⟩ := H
    refine q_cVi (as := [vI _, vI _]) dX9_strengthsAt_47 kmX6_get kvX6_get lm_RX9_140 ⟨by decide, by decide⟩ s30 ⟨by decide, rfl⟩ rfl rfl (Nat.le_of_ble_eq_true rfl) (c_X6_get s30 s31 h11) (fun v m1 hq => ?_)
    obtain ⟨rfl, rfl⟩ := hq
    refine q_istore dX9_strengthsAt_50 (by decide) rfl ?_
    refine q_iload_n dX9_strengthsAt_52 rfl ?_
    refine q_iload dX9_strengthsAt_53 rfl ?_
    refine q_iload dX9_strengthsAt_55 rfl ?_
    obtain ⟨h12, H⟩ := H
    refine q_iadd dX9_strengthsAt_57 h12 ?_
    refine q_min dX9_strengthsAt_58 lm_RX9_271 k_min (by decide) (Nat.le_of_ble_eq_true rfl) ?_
    refine q_istore_n dX9_strengthsAt_61 (by decide) rfl ?_
    refine q_iload dX9_strengthsAt_62 rfl ?_
    refine q_if_le (tgt := 77) dX9_strengthsAt_64 (by decide) (fun c64 => ?_) (fun c64 => ?_)
    · have H := H.1 c64
      obtain ⟨h13, H⟩ := H
      refine q_iinc dX9_strengthsAt_77 rfl h13 rfl ?_
      refine q_goto (tgt := 8) dX9_strengthsAt_80 (by decide) ?_
      exact H
    · have H := H.2 c64
      refine q_iload_n dX9_strengthsAt_67 rfl ?_
      refine q_iload dX9_strengthsAt_68 rfl ?_
      refine q_iload dX9_strengthsAt_70 rfl ?_
      refine q_iadd dX9_strengthsAt_72 h12 ?_
      refine q_max dX9_strengthsAt_73 lm_RX9_276 k_max (by decide) (Nat.le_of_ble_eq_true rfl) ?_
      refine q_istore_n dX9_strengthsAt_76 (by decide) rfl ?_
      obtain ⟨h14, H⟩ := H
      refine q_iinc dX9_strengthsAt_77 rfl h14 rfl ?_
      refine q_goto (tgt := 8) dX9_strengthsAt_80 (by decide) ?_
      exact H
set_option maxRecDepth 20000 in
theorem v_X9_strengthsAt {c : Int} {P : Int → Mem → Prop} {mem : Mem}  (H : w_X9_strengthsAt_8 c P 1 99 0 (vJ 0) (vJ 0) mem) : Tot mX9_strengthsAt 0 0 [vR 0, vI c] SH mem (Pr SH P) := by
  refine Tot.of rfl (Nat.le_of_ble_eq_true rfl) (by simp [isJ]) (ls := [vR 0, vI c, vJ 0, vJ 0, vJ 0, vJ 0, vJ 0]) rfl ?_
  refine q_iconst dX9_strengthsAt_0 (by decide) ?_
  refine q_istore_n dX9_strengthsAt_1 (by decide) rfl ?_
  refine q_bipush dX9_strengthsAt_2 rfl (by decide) ?_
  refine q_istore_n dX9_strengthsAt_4 (by decide) rfl ?_
  refine q_iconst dX9_strengthsAt_5 (by decide) ?_
  refine q_istore dX9_strengthsAt_6 (by decide) rfl ?_
  exact H


theorem sta_loop {m0 : Mem} {c : Int} (hy : rdy m0) (hh : heOK m0) (c0 : 0 ≤ c) (cn : c < m0 4 5) : ∀ (k : Nat) (a2 a3 a4 : Int) (u5 u6 : Vl) (m : Mem), 0 ≤ a4 → a4 ≤ m0 30 2 → (m0 30 2 - a4).toNat ≤ k → (1 ≤ a2 ∧ a2 ≤ 1300) → (0 ≤ a3 ∧ a3 ≤ 99) → (∀ n : Int, 1 ≤ n → n ≤ 99 → (agrF (DD m0 c) (hdC m0) (hdV m0) a4 n ↔ a2 ≤ n ∧ n ≤ a3)) → Fr [39, 40] m0 m → losOK m → w_X9_strengthsAt_8 c (anP m0 (stnF m0 c)) a2 a3 a4 u5 u6 m := by
  have h30 : m0 30 0 = 4 ∧ 0 ≤ m0 30 2 ∧ m0 30 2 ≤ 4 := hh.1
  have hb : ∀ (a2 a3 a4 : Int) (m : Mem), (1 ≤ a2 ∧ a2 ≤ 1300) → (0 ≤ a3 ∧ a3 ≤ 99) → a4 = m0 30 2 → (∀ n : Int, 1 ≤ n → n ≤ 99 → (agrF (DD m0 c) (hdC m0) (hdV m0) a4 n ↔ a2 ≤ n ∧ n ≤ a3)) → Fr [39, 40] m0 m → losOK m → anP m0 (stnF m0 c) (max 0 ((a3 - a2) + 1)) m := by
    intro a2 a3 a4 m h2 h3 e hx hF hl
    refine ⟨?_, hF, hl⟩
    rw [e] at hx
    show _ = cntF _ 99
    rw [cntF_iv h2.1 99 hx]
    omega
  intro k
  induction k with
  | zero =>
    intro a2 a3 a4 u5 u6 m h0 h1 hk h2 h3 hx hF hl
    refine v_X9_strengthsAt_8 ⟨fun q => ⟨by unfold inR; omega, by unfold inR; omega, hb a2 a3 a4 m h2 h3 (by omega) hx hF hl⟩, fun q => ?_⟩
    rw [hF.at 30] at q
    omega
  | succ k ih =>
    intro a2 a3 a4 u5 u6 m h0 h1 hk h2 h3 hx hF hl
    refine v_X9_strengthsAt_8 ⟨fun q => ⟨by unfold inR; omega, by unfold inR; omega, hb a2 a3 a4 m h2 h3 (by rw [hF.at 30] at q; omega) hx hF hl⟩, fun q => ?_⟩
    have hd := hd_fr hF
    have ec : getF (m 31) (m 30 2) a4 0 = hdC m0 a4 := by rw [← hd.1]
    have hy' := rdy_fr hF hl hy
    rw [ec, hF.at 30, hF.at 4]
    rw [hF.at 30] at q
    have hr := hh.2 a4 h0 q
    have hD := DD_b hy c0 cn hr.1.1 hr.1.2
    refine ⟨by omega, hy', c0, cn, hr.1.1, hr.1.2, fun v9 m10 h10 => ?_⟩
    have hF10 := hF.tr h10.2.1
    have ev : getF (m10 31) (m10 30 2) a4 1 = hdV m0 a4 := by rw [← (hd_fr hF10).2]
    have e9 : v9 = DD m0 c (hdC m0 a4) := by rw [h10.1, DD_fr hF]
    rw [ev, hF10.at 30]
    have hs := fun n : Int => agrF_s (D := DD m0 c) (hc := hdC m0) (hv := hdV m0) (n := n) h0
    rw [← e9] at hD
    simp only [← e9] at hs
    have hv := hr.2
    revert hs hv
    generalize hdV m0 a4 = y
    intro hs hv
    refine ⟨by omega, by unfold inR; omega, fun z => ⟨by unfold inR; omega, ?_⟩, fun z => ⟨by unfold inR; omega, ?_⟩⟩
    · refine ih _ _ _ _ _ _ (by omega) (by omega) (by omega) h2 (by omega) (fun n n0 n1 => ?_) hF10 h10.2.2
      rw [hs n, hx n n0 n1]
      omega
    · refine ih _ _ _ _ _ _ (by omega) (by omega) (by omega) (by omega) (by omega) (fun n n0 n1 => ?_) hF10 h10.2.2
      rw [hs n, hx n n0 n1]
      omega
theorem c_X9_strengthsAt {m0 : Mem} {c : Int} (hy : rdy m0) (hh : heOK m0) (c0 : 0 ≤ c) (cn : c < m0 4 5) : Tot mX9_strengthsAt 0 0 [vR 0, vI c] SH m0 (Pr SH (anP m0 (stnF m0 c))) := by
  have h30 : m0 30 0 = 4 ∧ 0 ≤ m0 30 2 ∧ m0 30 2 ≤ 4 := hh.1
  exact v_X9_strengthsAt (sta_loop hy hh c0 cn _ 1 99 0 _ _ m0 (by omega) h30.2.1 (Nat.le_refl _) (by omega) (by omega) (fun n n0 n1 => ⟨fun _ => ⟨n0, n1⟩, fun _ i i0 i1 => by omega⟩) Fr.rf hy.2.2)
theorem stnF_fr {ks : List Nat} {m m' : Mem} (h : Fr ks m m') (h4 : 4 ∉ ks := by decide) (h35 : 35 ∉ ks := by decide) (h36 : 36 ∉ ks := by decide) (h30 : 30 ∉ ks := by decide) (h31 : 31 ∉ ks := by decide) : stnF m' = stnF m := by
  funext c
  unfold stnF
  rw [DD_fr h h4 h35 h36, (hd_fr h h30 h31).1, (hd_fr h h30 h31).2, h 30 h30]
def w_X9_sources_15 (P : Int → Mem → Prop) (a1 : Int) (a2 : Int) (mem : Mem) : Prop := WP mX9_sources none 0 0 (Pr SH P) 15 [vR 0, vI a1, vI a2] [] SH mem
set_option maxRecDepth 20000 in
theorem v_X9_sources_15 {P : Int → Mem → Prop} {a1 : Int} {a2 : Int} {mem : Mem}  (H : ((mem 4 5) ≤ a2 → P a1 mem) ∧ (a2 < (mem 4 5) → (rdy mem) ∧ ((heOK mem) ∧ ((0 ≤ a2) ∧ ((a2 < mem 4 5) ∧ (∀ (v5 : Int) (m6 : Mem), anP mem (stnF mem a2) v5 m6 → ((v5 ≤ 0 → (inR (a2 + 1)) ∧ (w_X9_sources_15 P a1 (a2 + 1) m6)) ∧ (0 < v5 → (a2 < 31) ∧ ((0 ≤ a1) ∧ ((0 ≤ ((2 ^ (a2).toNat : Nat) : Int)) ∧ ((inR (a2 + 1)) ∧ (w_X9_sources_15 P (((a1).toNat ||| (((2 ^ (a2).toNat : Nat) : Int)).toNat : Nat) : Int) (a2 + 1) m6)))))))))))) : w_X9_sources_15 P a1 a2 mem := by
  unfold w_X9_sources_15
  refine q_iload_n dX9_sources_15 rfl ?_
  refine q_aload_n dX9_sources_16 rfl ?_
  refine q_getr (r := 4) dX9_sources_17 lf_RX9_19 s0 rfl rfl ?_
  refine q_geti dX9_sources_20 lf_RX9_262 s4 rfl ?_
  refine q_icmp_ge (tgt := 46) dX9_sources_23 (by decide) (fun c23 => ?_) (fun c23 => ?_)
  · have H := H.1 c23
    refine q_iload_n dX9_sources_46 rfl ?_
    exact q_iret dX9_sources_47 rfl ⟨_, rfl, rfl, H⟩
  · have H := H.2 c23
    refine q_aload_n dX9_sources_26 rfl ?_
    refine q_iload_n dX9_sources_27 rfl ?_
    obtain ⟨h1, H⟩ := H
    obtain ⟨h2, H⟩ := H
    obtain ⟨h3, H⟩ := H
    obtain ⟨h4, H⟩ := H
    refine q_cVi (as := [vI _]) dX9_sources_28 kmX9_strengthsAt kvX9_strengthsAt lm_RX9_265 ⟨by decide, by decide⟩ s0 ⟨by decide, rfl⟩ rfl rfl (Nat.le_of_ble_eq_true rfl) (c_X9_strengthsAt h1 h2 h3 h4) (fun v m1 hq => ?_)
    have H := H v m1 hq
    refine q_if_le (tgt := 40) dX9_sources_31 (by decide) (fun c31 => ?_) (fun c31 => ?_)
    · have H := H.1 c31
      obtain ⟨h7, H⟩ := H
      refine q_iinc dX9_sources_40 rfl h7 rfl ?_
      refine q_goto (tgt := 15) dX9_sources_43 (by decide) ?_
      exact H
    · have H := H.2 c31
      refine q_iload_n dX9_sources_34 rfl ?_
      refine q_iconst dX9_sources_35 (by decide) ?_
      refine q_iload_n dX9_sources_36 rfl ?_
      obtain ⟨h8, H⟩ := H
      refine q_shl1 dX9_sources_37 h3 h8 ?_
      obtain ⟨h9, H⟩ := H
      obtain ⟨h10, H⟩ := H
      refine q_ior dX9_sources_38 h9 h10 ?_
      refine q_istore_n dX9_sources_39 (by decide) rfl ?_
      obtain ⟨h11, H⟩ := H
      refine q_iinc dX9_sources_40 rfl h11 rfl ?_
      refine q_goto (tgt := 15) dX9_sources_43 (by decide) ?_
      exact H
set_option maxRecDepth 20000 in
theorem v_X9_sources {P : Int → Mem → Prop} {mem : Mem}  (H : (hsD mem) ∧ ((moD mem 19 20) ∧ ((nextOK (mem 4 5) (mem 4 3) (mem 37)) ∧ ((thOK mem) ∧ (∀ m5 : Mem, shoP mem 19 20 m5 → (w_X9_sources_15 P 0 0 m5)))))) : Tot mX9_sources 0 0 [vR 0] SH mem (Pr SH P) := by
  refine Tot.of rfl (Nat.le_of_ble_eq_true rfl) (by simp [isJ]) (ls := [vR 0, vJ 0, vJ 0]) rfl ?_
  refine q_aload_n dX9_sources_0 rfl ?_
  refine q_getr (r := 34) dX9_sources_1 lf_RX9_71 s0 rfl rfl ?_
  refine q_aload_n dX9_sources_4 rfl ?_
  refine q_getr (r := 18) dX9_sources_5 lf_RX9_29 s0 rfl rfl ?_
  obtain ⟨h1, H⟩ := H
  obtain ⟨h2, H⟩ := H
  obtain ⟨h3, H⟩ := H
  obtain ⟨h4, H⟩ := H
  refine q_cVn (as := [vR _]) dX9_sources_8 kmX1_show kvX1_show lm_RX9_164 ⟨by decide, by decide⟩ s34 ⟨by decide, rfl⟩ rfl rfl (Nat.le_of_ble_eq_true rfl) (c_X1_show s18 s19 s20 (by decide) h1 h2 h3 h4) (fun m1 hq => ?_)
  have H := H m1 hq
  refine q_iconst dX9_sources_11 (by decide) ?_
  refine q_istore_n dX9_sources_12 (by decide) rfl ?_
  refine q_iconst dX9_sources_13 (by decide) ?_
  refine q_istore_n dX9_sources_14 (by decide) rfl ?_
  exact H

set_option maxRecDepth 20000 in
theorem v_X9_strengths {c : Int} {P : Int → Mem → Prop} {mem : Mem}  (H : ((0 ≤ c ∧ c < mem 4 5) → (hsD mem) ∧ ((moD mem 19 20) ∧ ((nextOK (mem 4 5) (mem 4 3) (mem 37)) ∧ ((thOK mem) ∧ (∀ m5 : Mem, shoP mem 19 20 m5 → ((rdy m5) ∧ ((heOK m5) ∧ ((c < m5 4 5) ∧ (∀ (v9 : Int) (m10 : Mem), anP m5 (stnF m5 c) v9 m10 → (P v9 m10)))))))))) ∧ (¬ (0 ≤ c ∧ c < mem 4 5) → P (-1) mem)) : Tot mX9_strengths 0 0 [vR 0, vI c] SH mem (Pr SH P) := by
  refine Tot.of rfl (Nat.le_of_ble_eq_true rfl) (by simp [isJ]) (ls := [vR 0, vI c]) rfl ?_
  refine q_aload_n dX9_strengths_0 rfl ?_
  refine q_getr (r := 4) dX9_strengths_1 lf_RX9_19 s0 rfl rfl ?_
  refine q_iload_n dX9_strengths_4 rfl ?_
  refine q_cVi (as := [vI _]) dX9_strengths_5 kmX3_hasCell kvX3_hasCell lm_RX9_161 ⟨by decide, by decide⟩ s4 ⟨by decide, rfl⟩ rfl rfl (Nat.le_of_ble_eq_true rfl) (c_X3_hasCell s4) (fun v m1 hq => ?_)
  obtain ⟨rfl, rfl⟩ := hq
  refine q_if_ne (tgt := 13) dX9_strengths_8 (by decide) (fun c8 => ?_) (fun c8 => ?_)
  · have H := H.1 (b_yes c8)
    refine q_aload_n dX9_strengths_13 rfl ?_
    refine q_getr (r := 34) dX9_strengths_14 lf_RX9_71 s0 rfl rfl ?_
    refine q_aload_n dX9_strengths_17 rfl ?_
    refine q_getr (r := 18) dX9_strengths_18 lf_RX9_29 s0 rfl rfl ?_
    obtain ⟨h1, H⟩ := H
    obtain ⟨h2, H⟩ := H
    obtain ⟨h3, H⟩ := H
    obtain ⟨h4, H⟩ := H
    refine q_cVn (as := [vR _]) dX9_strengths_21 kmX1_show kvX1_show lm_RX9_164 ⟨by decide, by decide⟩ s34 ⟨by decide, rfl⟩ rfl rfl (Nat.le_of_ble_eq_true rfl) (c_X1_show s18 s19 s20 (by decide) h1 h2 h3 h4) (fun m1 hq => ?_)
    have H := H m1 hq
    refine q_aload_n dX9_strengths_24 rfl ?_
    refine q_iload_n dX9_strengths_25 rfl ?_
    obtain ⟨h6, H⟩ := H
    obtain ⟨h7, H⟩ := H
    obtain ⟨h8, H⟩ := H
    refine q_cVi (as := [vI _]) dX9_strengths_26 kmX9_strengthsAt kvX9_strengthsAt lm_RX9_265 ⟨by decide, by decide⟩ s0 ⟨by decide, rfl⟩ rfl rfl (Nat.le_of_ble_eq_true rfl) (c_X9_strengthsAt h6 h7 (b_yes c8).1 h8) (fun v m1 hq => ?_)
    have H := H v m1 hq
    exact q_iret dX9_strengths_29 rfl ⟨_, rfl, rfl, H⟩
  · have H := H.2 (b_no c8)
    refine q_iconst dX9_strengths_11 (by decide) ?_
    exact q_iret dX9_strengths_12 rfl ⟨_, rfl, rfl, H⟩

set_option maxRecDepth 20000 in
theorem v_X9_hired {f t v : Int} {P : Int → Mem → Prop} {mem : Mem}  (H : (¬ (0 ≤ f ∧ f < mem 4 5) → P (-1) mem) ∧ ((0 ≤ f ∧ f < mem 4 5) → (¬ (0 ≤ t ∧ t < mem 4 5) → P (-1) mem) ∧ ((0 ≤ t ∧ t < mem 4 5) → ((1 ≤ v ∧ v ≤ 99) → (hsD mem) ∧ ((moD mem 19 20) ∧ ((nextOK (mem 4 5) (mem 4 3) (mem 37)) ∧ ((thOK mem) ∧ (∀ m5 : Mem, shoP mem 19 20 m5 → ((rdy m5) ∧ ((f < m5 4 5) ∧ ((t < m5 4 5) ∧ (∀ (v9 : Int) (m10 : Mem), anP m5 (DD m5 f t) v9 m10 → ((inR (v9 + v)) ∧ ((99 < (v9 + v) → P (-9) m10) ∧ ((v9 + v) ≤ 99 → P (v9 + v) m10)))))))))))) ∧ (¬ (1 ≤ v ∧ v ≤ 99) → P (-1) mem)))) : Tot mX9_hired 0 0 [vR 0, vI f, vI t, vI v] SH mem (Pr SH P) := by
  refine Tot.of rfl (Nat.le_of_ble_eq_true rfl) (by simp [isJ]) (ls := [vR 0, vI f, vI t, vI v, vJ 0]) rfl ?_
  refine q_aload_n dX9_hired_0 rfl ?_
  refine q_getr (r := 4) dX9_hired_1 lf_RX9_19 s0 rfl rfl ?_
  refine q_iload_n dX9_hired_4 rfl ?_
  refine q_cVi (as := [vI _]) dX9_hired_5 kmX3_hasCell kvX3_hasCell lm_RX9_161 ⟨by decide, by decide⟩ s4 ⟨by decide, rfl⟩ rfl rfl (Nat.le_of_ble_eq_true rfl) (c_X3_hasCell s4) (fun v m1 hq => ?_)
  obtain ⟨rfl, rfl⟩ := hq
  refine q_if_eq (tgt := 32) dX9_hired_8 (by decide) (fun c8 => ?_) (fun c8 => ?_)
  · have H := H.1 (b_no c8)
    refine q_iconst dX9_hired_32 (by decide) ?_
    exact q_iret dX9_hired_33 rfl ⟨_, rfl, rfl, H⟩
  · have H := H.2 (b_yes c8)
    refine q_aload_n dX9_hired_11 rfl ?_
    refine q_getr (r := 4) dX9_hired_12 lf_RX9_19 s0 rfl rfl ?_
    refine q_iload_n dX9_hired_15 rfl ?_
    refine q_cVi (as := [vI _]) dX9_hired_16 kmX3_hasCell kvX3_hasCell lm_RX9_161 ⟨by decide, by decide⟩ s4 ⟨by decide, rfl⟩ rfl rfl (Nat.le_of_ble_eq_true rfl) (c_X3_hasCell s4) (fun v m1 hq => ?_)
    obtain ⟨rfl, rfl⟩ := hq
    refine q_if_eq (tgt := 32) dX9_hired_19 (by decide) (fun c19 => ?_) (fun c19 => ?_)
    · have H := H.1 (b_no c19)
      refine q_iconst dX9_hired_32 (by decide) ?_
      exact q_iret dX9_hired_33 rfl ⟨_, rfl, rfl, H⟩
    · have H := H.2 (b_yes c19)
      refine q_iload_n dX9_hired_22 rfl ?_
      refine q_iconst dX9_hired_23 (by decide) ?_
      refine q_bipush dX9_hired_24 rfl (by decide) ?_
      refine q_cSi (as := [vI _, vI _, vI _]) dX9_hired_26 kmX9_isWithin ktX9_isWithin lm_RX9_97 ⟨by decide, by decide⟩ rfl rfl (Nat.le_of_ble_eq_true rfl) (c_X9_isWithin) (fun v m1 hq => ?_)
      obtain ⟨rfl, rfl⟩ := hq
      refine q_if_ne (tgt := 34) dX9_hired_29 (by decide) (fun c29 => ?_) (fun c29 => ?_)
      · have H := H.1 (b_yes c29)
        refine q_aload_n dX9_hired_34 rfl ?_
        refine q_getr (r := 34) dX9_hired_35 lf_RX9_71 s0 rfl rfl ?_
        refine q_aload_n dX9_hired_38 rfl ?_
        refine q_getr (r := 18) dX9_hired_39 lf_RX9_29 s0 rfl rfl ?_
        obtain ⟨h1, H⟩ := H
        obtain ⟨h2, H⟩ := H
        obtain ⟨h3, H⟩ := H
        obtain ⟨h4, H⟩ := H
        refine q_cVn (as := [vR _]) dX9_hired_42 kmX1_show kvX1_show lm_RX9_164 ⟨by decide, by decide⟩ s34 ⟨by decide, rfl⟩ rfl rfl (Nat.le_of_ble_eq_true rfl) (c_X1_show s18 s19 s20 (by decide) h1 h2 h3 h4) (fun m1 hq => ?_)
        have H := H m1 hq
        refine q_aload_n dX9_hired_45 rfl ?_
        refine q_getr (r := 34) dX9_hired_46 lf_RX9_71 s0 rfl rfl ?_
        refine q_iload_n dX9_hired_49 rfl ?_
        refine q_iload_n dX9_hired_50 rfl ?_
        obtain ⟨h6, H⟩ := H
        obtain ⟨h7, H⟩ := H
        obtain ⟨h8, H⟩ := H
        refine q_cVi (as := [vI _, vI _]) dX9_hired_51 kmX1_lost kvX1_lost lm_RX9_268 ⟨by decide, by decide⟩ s34 ⟨by decide, rfl⟩ rfl rfl (Nat.le_of_ble_eq_true rfl) (c_lost h6 (b_yes c8).1 h7 (b_yes c19).1 h8) (fun v m1 hq => ?_)
        have H := H v m1 hq
        refine q_iload_n dX9_hired_54 rfl ?_
        obtain ⟨h11, H⟩ := H
        refine q_iadd dX9_hired_55 h11 ?_
        refine q_istore dX9_hired_56 (by decide) rfl ?_
        refine q_iload dX9_hired_58 rfl ?_
        refine q_bipush dX9_hired_60 rfl (by decide) ?_
        refine q_icmp_gt (tgt := 70) dX9_hired_62 (by decide) (fun c62 => ?_) (fun c62 => ?_)
        · have H := H.1 c62
          refine q_bipush dX9_hired_70 rfl (by decide) ?_
          exact q_iret dX9_hired_72 rfl ⟨_, rfl, rfl, H⟩
        · have H := H.2 c62
          refine q_iload dX9_hired_65 rfl ?_
          refine q_goto (tgt := 72) dX9_hired_67 (by decide) ?_
          exact q_iret dX9_hired_72 rfl ⟨_, rfl, rfl, H⟩
      · have H := H.2 (b_no c29)
        refine q_iconst dX9_hired_32 (by decide) ?_
        exact q_iret dX9_hired_33 rfl ⟨_, rfl, rfl, H⟩


def ssQ (m0 : Mem) (c v : Int) (m : Mem) : Prop := if 0 ≤ c ∧ c < m0 4 5 then (∃ m5, shoP m0 19 20 m5 ∧ v = stnF m5 c) ∧ scD m0 m else v = -1 ∧ m = m0
theorem c_X9_strengths {m0 : Mem} {c : Int} (ho : okD m0) (hh : heOK m0) : Tot mX9_strengths 0 0 [vR 0, vI c] SH m0 (Pr SH (ssQ m0 c)) := by
  refine v_X9_strengths ⟨fun q => ⟨ho.1, ho.2.1, ho.2.2.1, ho.2.2.2.1, fun m5 h5 => ⟨(sho_ok ho h5).2, heOK_fr h5.1 hh, by rw [h5.1.at 4]; exact q.2, fun v7 m8 h8 => ?_⟩⟩, fun q => ?_⟩
  · unfold ssQ
    rw [if_pos q]
    exact ⟨⟨m5, h5, h8.1⟩, scD_an (sho_scD ho h5) h8.2.1⟩
  · unfold ssQ
    rw [if_neg q]
    exact ⟨rfl, rfl⟩
def soQ (m0 : Mem) (v : Int) (m : Mem) : Prop := (∃ m5, shoP m0 19 20 m5 ∧ v = (bitF (fun c => 0 < stnF m5 c) (m0 4 5).toNat : Nat)) ∧ scD m0 m
theorem src_loop {m0 m5 : Mem} (ho : okD m0) (hh : heOK m0) (h5 : shoP m0 19 20 m5) : ∀ (k : Nat) (a2 : Int) (m : Mem), 0 ≤ a2 → a2 ≤ m0 4 5 → (m0 4 5 - a2).toNat ≤ k → Fr [39, 40] m5 m → losOK m → w_X9_sources_15 (soQ m0) (bitF (fun c => 0 < stnF m5 c) a2.toNat : Nat) a2 m := by
  have hn := nD_b ho.1
  have hb : ∀ (a2 : Int) (m : Mem), a2 = m0 4 5 → Fr [39, 40] m5 m → soQ m0 (bitF (fun c => 0 < stnF m5 c) a2.toNat : Nat) m := by
    intro a2 m e hF
    rw [e]
    exact ⟨⟨m5, h5, rfl⟩, scD_an (sho_scD ho h5) hF⟩
  intro k
  induction k with
  | zero =>
    intro a2 m h0 h1 hk hF hl
    refine v_X9_sources_15 ⟨fun q => hb _ _ (by omega) hF, fun q => ?_⟩
    rw [hF.at 4, h5.1.at 4] at q
    omega
  | succ k ih =>
    intro a2 m h0 h1 hk hF hl
    refine v_X9_sources_15 ⟨fun q => hb _ _ (by rw [hF.at 4, h5.1.at 4] at q; omega) hF, fun q => ?_⟩
    have q' := q
    rw [hF.at 4, h5.1.at 4] at q'
    refine ⟨rdy_fr hF hl (sho_ok ho h5).2, heOK_fr hF (heOK_fr h5.1 hh), h0, q, fun v2 m3 h3 => ?_⟩
    have e3 : v2 = stnF m5 a2 := by rw [h3.1, stnF_fr hF]
    have hF3 := hF.tr h3.2.1
    refine ⟨fun z => ⟨by unfold inR; omega, ?_⟩, fun z => ⟨by omega, Int.natCast_nonneg _, Int.natCast_nonneg _, by unfold inR; omega, ?_⟩⟩
    · rw [← bitF_skip (p := fun c => 0 < stnF m5 c) h0 (fun y => by rw [e3] at z; omega)]
      exact ih _ _ (by omega) (by omega) (by omega) hF3 h3.2.2
    · rw [bitF_step (p := fun c => 0 < stnF m5 c) h0 (by rw [e3] at z; exact z)]
      exact ih _ _ (by omega) (by omega) (by omega) hF3 h3.2.2
theorem c_X9_sources {m0 : Mem} (ho : okD m0) (hh : heOK m0) : Tot mX9_sources 0 0 [vR 0] SH m0 (Pr SH (soQ m0)) := by
  have hn := nD_b ho.1
  exact v_X9_sources ⟨ho.1, ho.2.1, ho.2.2.1, ho.2.2.2.1, fun m5 h5 => src_loop ho hh h5 _ 0 m5 (by omega) (by omega) (Nat.le_refl _) Fr.rf h5.2.2.1⟩
def hiQ (m0 : Mem) (f t n v : Int) (m : Mem) : Prop := (((0 ≤ f ∧ f < m0 4 5) ∧ (0 ≤ t ∧ t < m0 4 5) ∧ (1 ≤ n ∧ n ≤ 99)) ∧ (∃ m5, shoP m0 19 20 m5 ∧ v = if DD m5 f t + n ≤ 99 then DD m5 f t + n else -9) ∧ scD m0 m) ∨ (¬ ((0 ≤ f ∧ f < m0 4 5) ∧ (0 ≤ t ∧ t < m0 4 5) ∧ (1 ≤ n ∧ n ≤ 99)) ∧ v = -1 ∧ m = m0)
theorem c_X9_hired {m0 : Mem} {f t v : Int} (ho : okD m0) : Tot mX9_hired 0 0 [vR 0, vI f, vI t, vI v] SH m0 (Pr SH (hiQ m0 f t v)) := by
  refine v_X9_hired ⟨fun q => Or.inr ⟨fun z => q z.1, rfl, rfl⟩, fun q => ⟨fun q2 => Or.inr ⟨fun z => q2 z.2.1, rfl, rfl⟩, fun q2 => ⟨fun q3 => ⟨ho.1, ho.2.1, ho.2.2.1, ho.2.2.2.1, fun m5 h5 => ?_⟩, fun q3 => Or.inr ⟨fun z => q3 z.2.2, rfl, rfl⟩⟩⟩⟩
  have hy5 := (sho_ok ho h5).2
  have e4 : m5 4 = m0 4 := h5.1.at 4
  have hD := DD_b hy5 q.1 (by rw [e4]; exact q.2) q2.1 (by rw [e4]; exact q2.2)
  refine ⟨hy5, by rw [e4]; exact q.2, by rw [e4]; exact q2.2, fun v9 m10 h10 => ?_⟩
  rw [h10.1]
  refine ⟨by unfold inR; omega, fun z => ?_, fun z => ?_⟩
  · exact Or.inl ⟨⟨q, q2, q3⟩, ⟨m5, h5, by rw [if_neg (by omega)]⟩, scD_an (sho_scD ho h5) h10.2.1⟩
  · exact Or.inl ⟨⟨q, q2, q3⟩, ⟨m5, h5, by rw [if_pos z]⟩, scD_an (sho_scD ho h5) h10.2.1⟩

