/-! THE CLASS: shams, by taps; the odds of streets -/
noncomputable abbrev DP (m : Mem) (th : Nat → Int) : Int → Int → Int := dist (m 4 5) (m 4 3) (takeF (m 4 6) (fun x => onD m 19 (m 7 2).toNat x) th)
theorem DD_DP {m0 m : Mem} {th : Nat → Int} (hh : hsD m0) (hf : flOK m) (hF : Fr [35, 36, 38, 39, 40] m0 m) (hon : ∀ x : Int, 0 ≤ x → x < 12 → m 35 x.toNat = onD m0 19 (m0 7 2).toNat x) (hth : ∀ s : Int, 0 ≤ s → s < m0 7 2 → m 36 s.toNat = th s.toNat) {f c : Int} (f0 : 0 ≤ f) (fn : f < m0 4 5) (c0 : 0 ≤ c) (cn : c < m0 4 5) : DD m f c = DP m0 th f c := by
  obtain ⟨hg, hcs⟩ := okGD_g hf.1
  have hn := nD_b hh
  have hns := hh.2.2.2.2.2.2.1
  have e4 : m 4 = m0 4 := hF.at 4
  unfold DP DD
  rw [e4] at hg hcs ⊢
  refine dist_congr hg hcs f0 fn (fun a b a0 an b0 bn => ?_) c0 cn
  have ea := hon a a0 (by omega)
  have eb := hon b b0 (by omega)
  have q := onF_b (w := m0 4 3) (wi := shW m0) (lo := shL m0) (li := liD m0 19) (m0 7 2).toNat b
  show takeF (m 4 6) (m 35) (m 36) a b = takeF (m0 4 6) (fun x => onD m0 19 (m0 7 2).toNat x) th a b
  have xa : ((a.toNat : Nat) : Int) = a := by omega
  have xb : ((b.toNat : Nat) : Int) = b := by omega
  unfold takeF
  simp only [xa, xb]
  rw [ea, eb, e4]
  have q' : onD m0 19 (m0 7 2).toNat b = -9 ∨ (0 ≤ onD m0 19 (m0 7 2).toNat b ∧ onD m0 19 (m0 7 2).toNat b < ((m0 7 2).toNat : Nat)) := q
  revert q'
  generalize onD m0 19 (m0 7 2).toNat b = z
  intro q'
  by_cases e : z = -9
  · rw [if_pos e, if_pos e]
  · have et := hth z (by omega) (by omega)
    rw [if_neg e, if_neg e, et]
abbrev tpC (m : Mem) (i : Int) : Int := getF (m 33) (m 32 2) i 0
abbrev tpN (m : Mem) (i : Int) : Int := getF (m 33) (m 32 2) i 1
abbrev tpT (m : Mem) (i : Int) : Int := getF (m 33) (m 32 2) i 2
abbrev tpV (m : Mem) (i : Int) : Int := getF (m 33) (m 32 2) i 3
theorem tp_fr {ks : List Nat} {m m' : Mem} (h : Fr ks m m') (h32 : 32 ∉ ks := by decide) (h33 : 33 ∉ ks := by decide) : tpC m' = tpC m ∧ tpN m' = tpN m ∧ tpT m' = tpT m ∧ tpV m' = tpV m := by
  unfold tpC tpN tpT tpV
  rw [h 32 h32, h 33 h33]
  exact ⟨rfl, rfl, rfl, rfl⟩
def tpOK (m : Mem) : Prop := rwOK m 32 ∧ ∀ i : Int, 0 ≤ i → i < m 32 2 → (0 ≤ tpC m i ∧ tpC m i < m 4 5) ∧ (1 ≤ tpN m i ∧ tpN m i ≤ 99) ∧ (0 ≤ tpT m i ∧ tpT m i < m 4 5) ∧ 0 ≤ tpV m i ∧ tpV m i ≤ 99
theorem tpOK_fr {ks : List Nat} {m m' : Mem} (h : Fr ks m m') (ho : tpOK m) (h4 : 4 ∉ ks := by decide) (h32 : 32 ∉ ks := by decide) (h33 : 33 ∉ ks := by decide) : tpOK m' := by
  unfold tpOK rwOK tpC tpN tpT tpV at *
  rw [h 4 h4, h 32 h32, h 33 h33]
  exact ho
def shamT (m : Mem) (s : Int) : Nat → Int := fun i => if (i : Int) = s then 0 else thD m 20 i
def shaP (m : Mem) (s : Int) : Prop := ∀ i : Int, 0 ≤ i → i < m 32 2 → max 0 (tpN m i - DP m (shamT m s) (tpC m i) (tpT m i)) = tpV m i
def w_X9_tapsAgreeWithSham_22 (s : Int) (P : Int → Mem → Prop) (a2 : Int) (mem : Mem) : Prop := WP mX9_tapsAgreeWithSham none 0 0 (Pr SH P) 22 [vR 0, vI s, vI a2] [] SH mem
set_option maxRecDepth 20000 in
theorem v_X9_tapsAgreeWithSham_22 {s : Int} {P : Int → Mem → Prop} {a2 : Int} {mem : Mem}  (H : ((mem 32 2) ≤ a2 → P 1 mem) ∧ (a2 < (mem 32 2) → (mem 32 2 * 4 ≤ 16) ∧ ((rdy mem) ∧ ((0 ≤ (getF (mem 33) (mem 32 2) a2 1)) ∧ (((getF (mem 33) (mem 32 2) a2 1) ≤ 99) ∧ ((0 ≤ (getF (mem 33) (mem 32 2) a2 0)) ∧ (((getF (mem 33) (mem 32 2) a2 0) < mem 4 5) ∧ ((0 ≤ (getF (mem 33) (mem 32 2) a2 2)) ∧ (((getF (mem 33) (mem 32 2) a2 2) < mem 4 5) ∧ (∀ (v9 : Int) (m10 : Mem), anP mem (max 0 ((getF (mem 33) (mem 32 2) a2 1) - DD mem (getF (mem 33) (mem 32 2) a2 0) (getF (mem 33) (mem 32 2) a2 2))) v9 m10 → ((m10 32 2 * 4 ≤ 16) ∧ ((v9 = (getF (m10 33) (m10 32 2) a2 3) → (inR (a2 + 1)) ∧ (w_X9_tapsAgreeWithSham_22 s P (a2 + 1) m10)) ∧ (¬ v9 = (getF (m10 33) (m10 32 2) a2 3) → P 0 m10))))))))))))) : w_X9_tapsAgreeWithSham_22 s P a2 mem := by
  unfold w_X9_tapsAgreeWithSham_22
  refine q_iload_n dX9_tapsAgreeWithSham_22 rfl ?_
  refine q_aload_n dX9_tapsAgreeWithSham_23 rfl ?_
  refine q_getr (r := 32) dX9_tapsAgreeWithSham_24 lf_RX9_63 s0 rfl rfl ?_
  refine q_cVi (as := []) dX9_tapsAgreeWithSham_27 kmX6_size kvX6_size lm_RX9_214 ⟨by decide, by decide⟩ s32 ⟨by decide, rfl⟩ rfl rfl (Nat.le_of_ble_eq_true rfl) (c_X6_size s32) (fun v m1 hq => ?_)
  obtain ⟨rfl, rfl⟩ := hq
  refine q_icmp_ge (tgt := 87) dX9_tapsAgreeWithSham_30 (by decide) (fun c30 => ?_) (fun c30 => ?_)
  · have H := H.1 c30
    refine q_iconst dX9_tapsAgreeWithSham_87 (by decide) ?_
    exact q_zret dX9_tapsAgreeWithSham_88 rfl (by decide) ⟨_, rfl, rfl, H⟩
  · have H := H.2 c30
    refine q_aload_n dX9_tapsAgreeWithSham_33 rfl ?_
    refine q_getr (r := 41) dX9_tapsAgreeWithSham_34 lf_RX9_80 s0 rfl rfl ?_
    refine q_aload_n dX9_tapsAgreeWithSham_37 rfl ?_
    refine q_getr (r := 32) dX9_tapsAgreeWithSham_38 lf_RX9_63 s0 rfl rfl ?_
    refine q_iload_n dX9_tapsAgreeWithSham_41 rfl ?_
    refine q_iconst dX9_tapsAgreeWithSham_42 (by decide) ?_
    obtain ⟨h1, H⟩ := H
    refine q_cVi (as := [vI _, vI _]) dX9_tapsAgreeWithSham_43 kmX6_get kvX6_get lm_RX9_140 ⟨by decide, by decide⟩ s32 ⟨by decide, rfl⟩ rfl rfl (Nat.le_of_ble_eq_true rfl) (c_X6_get s32 s33 h1) (fun v m1 hq => ?_)
    obtain ⟨rfl, rfl⟩ := hq
    refine q_aload_n dX9_tapsAgreeWithSham_46 rfl ?_
    refine q_getr (r := 32) dX9_tapsAgreeWithSham_47 lf_RX9_63 s0 rfl rfl ?_
    refine q_iload_n dX9_tapsAgreeWithSham_50 rfl ?_
    refine q_iconst dX9_tapsAgreeWithSham_51 (by decide) ?_
    refine q_cVi (as := [vI _, vI _]) dX9_tapsAgreeWithSham_52 kmX6_get kvX6_get lm_RX9_140 ⟨by decide, by decide⟩ s32 ⟨by decide, rfl⟩ rfl rfl (Nat.le_of_ble_eq_true rfl) (c_X6_get s32 s33 h1) (fun v m1 hq => ?_)
    obtain ⟨rfl, rfl⟩ := hq
    refine q_aload_n dX9_tapsAgreeWithSham_55 rfl ?_
    refine q_getr (r := 32) dX9_tapsAgreeWithSham_56 lf_RX9_63 s0 rfl rfl ?_
    refine q_iload_n dX9_tapsAgreeWithSham_59 rfl ?_
    refine q_iconst dX9_tapsAgreeWithSham_60 (by decide) ?_
    refine q_cVi (as := [vI _, vI _]) dX9_tapsAgreeWithSham_61 kmX6_get kvX6_get lm_RX9_140 ⟨by decide, by decide⟩ s32 ⟨by decide, rfl⟩ rfl rfl (Nat.le_of_ble_eq_true rfl) (c_X6_get s32 s33 h1) (fun v m1 hq => ?_)
    obtain ⟨rfl, rfl⟩ := hq
    obtain ⟨h2, H⟩ := H
    obtain ⟨h3, H⟩ := H
    obtain ⟨h4, H⟩ := H
    obtain ⟨h5, H⟩ := H
    obtain ⟨h6, H⟩ := H
    obtain ⟨h7, H⟩ := H
    obtain ⟨h8, H⟩ := H
    refine q_cVi (as := [vI _, vI _, vI _]) dX9_tapsAgreeWithSham_64 kmX2_loudBy kvX2_loudBy lm_RX9_291 ⟨by decide, by decide⟩ s41 ⟨by decide, rfl⟩ rfl rfl (Nat.le_of_ble_eq_true rfl) (c_X2_loudBy h2 h3 h4 h5 h6 h7 h8) (fun v m1 hq => ?_)
    have H := H v m1 hq
    refine q_aload_n dX9_tapsAgreeWithSham_67 rfl ?_
    refine q_getr (r := 32) dX9_tapsAgreeWithSham_68 lf_RX9_63 s0 rfl rfl ?_
    refine q_iload_n dX9_tapsAgreeWithSham_71 rfl ?_
    refine q_iconst dX9_tapsAgreeWithSham_72 (by decide) ?_
    obtain ⟨h11, H⟩ := H
    refine q_cVi (as := [vI _, vI _]) dX9_tapsAgreeWithSham_73 kmX6_get kvX6_get lm_RX9_140 ⟨by decide, by decide⟩ s32 ⟨by decide, rfl⟩ rfl rfl (Nat.le_of_ble_eq_true rfl) (c_X6_get s32 s33 h11) (fun v m1 hq => ?_)
    obtain ⟨rfl, rfl⟩ := hq
    refine q_icmp_eq (tgt := 81) dX9_tapsAgreeWithSham_76 (by decide) (fun c76 => ?_) (fun c76 => ?_)
    · have H := H.1 c76
      obtain ⟨h12, H⟩ := H
      refine q_iinc dX9_tapsAgreeWithSham_81 rfl h12 rfl ?_
      refine q_goto (tgt := 22) dX9_tapsAgreeWithSham_84 (by decide) ?_
      exact H
    · have H := H.2 c76
      refine q_iconst dX9_tapsAgreeWithSham_79 (by decide) ?_
      exact q_zret dX9_tapsAgreeWithSham_80 rfl (by decide) ⟨_, rfl, rfl, H⟩
set_option maxRecDepth 20000 in
theorem v_X9_tapsAgreeWithSham {s : Int} {P : Int → Mem → Prop} {mem : Mem}  (H : (hsD mem) ∧ ((moD mem 19 20) ∧ ((nextOK (mem 4 5) (mem 4 3) (mem 37)) ∧ ((thOK mem) ∧ (∀ m5 : Mem, shoP mem 19 20 m5 → (((0 : Int) ≤ 0) ∧ ((0 ≤ (30 : Int)) ∧ ((flOK m5) ∧ ((losOK m5) ∧ (∀ m10 : Mem, thkP m5 s 0 m10 → (w_X9_tapsAgreeWithSham_22 s P 0 m10))))))))))) : Tot mX9_tapsAgreeWithSham 0 0 [vR 0, vI s] SH mem (Pr SH P) := by
  refine Tot.of rfl (Nat.le_of_ble_eq_true rfl) (by simp [isJ]) (ls := [vR 0, vI s, vJ 0]) rfl ?_
  refine q_aload_n dX9_tapsAgreeWithSham_0 rfl ?_
  refine q_getr (r := 34) dX9_tapsAgreeWithSham_1 lf_RX9_71 s0 rfl rfl ?_
  refine q_aload_n dX9_tapsAgreeWithSham_4 rfl ?_
  refine q_getr (r := 18) dX9_tapsAgreeWithSham_5 lf_RX9_29 s0 rfl rfl ?_
  obtain ⟨h1, H⟩ := H
  obtain ⟨h2, H⟩ := H
  obtain ⟨h3, H⟩ := H
  obtain ⟨h4, H⟩ := H
  refine q_cVn (as := [vR _]) dX9_tapsAgreeWithSham_8 kmX1_show kvX1_show lm_RX9_164 ⟨by decide, by decide⟩ s34 ⟨by decide, rfl⟩ rfl rfl (Nat.le_of_ble_eq_true rfl) (c_X1_show s18 s19 s20 (by decide) h1 h2 h3 h4) (fun m1 hq => ?_)
  have H := H m1 hq
  refine q_aload_n dX9_tapsAgreeWithSham_11 rfl ?_
  refine q_getr (r := 34) dX9_tapsAgreeWithSham_12 lf_RX9_71 s0 rfl rfl ?_
  refine q_iload_n dX9_tapsAgreeWithSham_15 rfl ?_
  refine q_iconst dX9_tapsAgreeWithSham_16 (by decide) ?_
  obtain ⟨h6, H⟩ := H
  obtain ⟨h7, H⟩ := H
  obtain ⟨h8, H⟩ := H
  obtain ⟨h9, H⟩ := H
  refine q_cVn (as := [vI _, vI _]) dX9_tapsAgreeWithSham_17 kmX1_setThick kvX1_setThick lm_RX9_218 ⟨by decide, by decide⟩ s34 ⟨by decide, rfl⟩ rfl rfl (Nat.le_of_ble_eq_true rfl) (c_X1_setThick h6 h7 h8 h9) (fun m1 hq => ?_)
  have H := H m1 hq
  refine q_iconst dX9_tapsAgreeWithSham_20 (by decide) ?_
  refine q_istore_n dX9_tapsAgreeWithSham_21 (by decide) rfl ?_
  exact H


def tsQ (m0 : Mem) (s v : Int) (m : Mem) : Prop := ((shaP m0 s ∧ v = 1) ∨ (¬ shaP m0 s ∧ v = 0)) ∧ scD m0 m
theorem ts_loop {m0 m5 : Mem} {s : Int} (ho : okD m0) (ht : tpOK m0) (hF5 : Fr [35, 36, 38, 39, 40] m0 m5) (hy : rdy m5) (ho5 : okD m5) (hD : ∀ f c : Int, 0 ≤ f → f < m0 4 5 → 0 ≤ c → c < m0 4 5 → DD m5 f c = DP m0 (shamT m0 s) f c) :
    ∀ (k : Nat) (a2 : Int) (m : Mem), 0 ≤ a2 → a2 ≤ m0 32 2 → (m0 32 2 - a2).toNat ≤ k → Fr [39, 40] m5 m → losOK m → (∀ i : Int, 0 ≤ i → i < a2 → max 0 (tpN m0 i - DP m0 (shamT m0 s) (tpC m0 i) (tpT m0 i)) = tpV m0 i) → w_X9_tapsAgreeWithSham_22 s (tsQ m0 s) a2 m := by
  have h32 : m0 32 0 = 4 ∧ 0 ≤ m0 32 2 ∧ m0 32 2 ≤ 4 := ht.1
  have hsc : ∀ m : Mem, Fr [39, 40] m5 m → scD m0 m := fun m hF => scD_an ⟨hF5, ho5⟩ hF
  intro k
  induction k with
  | zero =>
    intro a2 m h0 h1 hk hF hl hx
    refine v_X9_tapsAgreeWithSham_22 ⟨fun _ => ⟨Or.inl ⟨fun i i0 i1 => hx i i0 (by omega), rfl⟩, hsc m hF⟩, fun q => ?_⟩
    rw [hF.at 32, hF5.at 32] at q
    omega
  | succ k ih =>
    intro a2 m h0 h1 hk hF hl hx
    refine v_X9_tapsAgreeWithSham_22 ⟨fun q => ⟨Or.inl ⟨fun i i0 i1 => hx i i0 (by rw [hF.at 32, hF5.at 32] at q; omega), rfl⟩, hsc m hF⟩, fun q => ?_⟩
    have hL : Fr [35, 36, 38, 39, 40] m0 m := hF5.tr (hF.mono (by decide))
    rw [hL.at 32] at q
    have hr := ht.2 a2 h0 q
    have et := tp_fr hL
    have e0 : getF (m 33) (m 32 2) a2 0 = tpC m0 a2 := by rw [← et.1]
    have e1 : getF (m 33) (m 32 2) a2 1 = tpN m0 a2 := by rw [← et.2.1]
    have e2 : getF (m 33) (m 32 2) a2 2 = tpT m0 a2 := by rw [← et.2.2.1]
    rw [e0, e1, e2, hL.at 32, hL.at 4]
    refine ⟨by omega, rdy_fr hF hl hy, by omega, hr.2.1.2, hr.1.1, hr.1.2, hr.2.2.1.1, hr.2.2.1.2, fun v9 m10 h10 => ?_⟩
    have hF10 := hF.tr h10.2.1
    have hL10 : Fr [35, 36, 38, 39, 40] m0 m10 := hF5.tr (hF10.mono (by decide))
    have e3 : getF (m10 33) (m10 32 2) a2 3 = tpV m0 a2 := by rw [← (tp_fr hL10).2.2.2]
    have e9 : v9 = max 0 (tpN m0 a2 - DP m0 (shamT m0 s) (tpC m0 a2) (tpT m0 a2)) := by rw [h10.1, DD_fr hF, hD _ _ hr.1.1 hr.1.2 hr.2.2.1.1 hr.2.2.1.2]
    rw [e3, hL10.at 32]
    refine ⟨by omega, fun z => ⟨by unfold inR; omega, ih _ _ (by omega) (by omega) (by omega) hF10 h10.2.2 (fun i i0 i1 => ?_)⟩, fun z => ⟨Or.inr ⟨fun y => z ?_, rfl⟩, hsc m10 hF10⟩⟩
    · by_cases e : i = a2
      · rw [e, ← e9]; exact z
      · exact hx i i0 (by omega)
    · rw [e9]; exact y a2 h0 q
theorem c_X9_tapsAgreeWithSham {m0 : Mem} {s : Int} (ho : okD m0) (ht : tpOK m0) (s0 : 0 ≤ s) (sn : s < m0 7 2) : Tot mX9_tapsAgreeWithSham 0 0 [vR 0, vI s] SH m0 (Pr SH (tsQ m0 s)) := by
  have h32 : m0 32 0 = 4 ∧ 0 ≤ m0 32 2 ∧ m0 32 2 ≤ 4 := ht.1
  have hns := ho.1.2.2.2.2.2.2.1
  refine v_X9_tapsAgreeWithSham ⟨ho.1, ho.2.1, ho.2.2.1, ho.2.2.2.1, fun m5 h5 => ⟨by decide, by decide, h5.2.1, h5.2.2.1, fun m10 h10 => ?_⟩⟩
  have hok := sho_ok ho h5
  have hF : Fr [35, 36, 38, 39, 40] m0 m10 := (h5.1.mono (by decide)).tr (h10.1.mono (by decide))
  have hy : rdy m10 := ⟨(hsD_fr hF).mpr ho.1, h10.2.1, h10.2.2.1⟩
  have hok10 : okD m10 := okD_of ho (hF.mono (by decide)) hy
  refine ts_loop ho ht hF hy hok10 (fun f c f0 fn c0 cn => DD_DP ho.1 h10.2.1 hF (fun x x0 x1 => ?_) (fun x x0 x1 => ?_) f0 fn c0 cn) _ 0 m10 (by omega) h32.2.1 (Nat.le_refl _) Fr.rf h10.2.2.1 (fun i i0 i1 => by omega)
  · rw [h10.1.at 35]
    exact h5.2.2.2.1 x x0 x1
  · rw [h10.2.2.2 x x0 (by omega)]
    unfold shamT
    have e : ((x.toNat : Nat) : Int) = x := by omega
    rw [e, h5.2.2.2.2 x x0 x1]
def w_X9_mayBe_4 (P : Int → Mem → Prop) (a1 : Int) (a2 : Int) (mem : Mem) : Prop := WP mX9_mayBe none 0 0 (Pr SH P) 4 [vR 0, vI a1, vI a2] [] SH mem
set_option maxRecDepth 20000 in
theorem v_X9_mayBe_4 {P : Int → Mem → Prop} {a1 : Int} {a2 : Int} {mem : Mem}  (H : ((mem 7 2) ≤ a2 → P a1 mem) ∧ (a2 < (mem 7 2) → (¬ ((0 ≤ a2 ∧ a2 < 4) ∧ ¬ mem 19 a2.toNat = -9) → (inR (a2 + 1)) ∧ (w_X9_mayBe_4 P a1 (a2 + 1) mem)) ∧ (((0 ≤ a2 ∧ a2 < 4) ∧ ¬ mem 19 a2.toNat = -9) → (okD mem) ∧ ((tpOK mem) ∧ ((0 ≤ a2) ∧ ((a2 < mem 7 2) ∧ (∀ (v6 : Int) (m7 : Mem), tsQ mem a2 v6 m7 → ((v6 = 0 → (inR (a2 + 1)) ∧ (w_X9_mayBe_4 P a1 (a2 + 1) m7)) ∧ (¬ v6 = 0 → (a2 < 31) ∧ ((0 ≤ a1) ∧ ((0 ≤ ((2 ^ (a2).toNat : Nat) : Int)) ∧ ((inR (a2 + 1)) ∧ (w_X9_mayBe_4 P (((a1).toNat ||| (((2 ^ (a2).toNat : Nat) : Int)).toNat : Nat) : Int) (a2 + 1) m7))))))))))))) : w_X9_mayBe_4 P a1 a2 mem := by
  unfold w_X9_mayBe_4
  refine q_iload_n dX9_mayBe_4 rfl ?_
  refine q_aload_n dX9_mayBe_5 rfl ?_
  refine q_getr (r := 4) dX9_mayBe_6 lf_RX9_19 s0 rfl rfl ?_
  refine q_getr (r := 7) dX9_mayBe_9 lf_RX9_144 s4 rfl rfl ?_
  refine q_cVi (as := []) dX9_mayBe_12 kmX6_size kvX6_size lm_RX9_214 ⟨by decide, by decide⟩ s7 ⟨by decide, rfl⟩ rfl rfl (Nat.le_of_ble_eq_true rfl) (c_X6_size s7) (fun v m1 hq => ?_)
  obtain ⟨rfl, rfl⟩ := hq
  refine q_icmp_ge (tgt := 49) dX9_mayBe_15 (by decide) (fun c15 => ?_) (fun c15 => ?_)
  · have H := H.1 c15
    refine q_iload_n dX9_mayBe_49 rfl ?_
    exact q_iret dX9_mayBe_50 rfl ⟨_, rfl, rfl, H⟩
  · have H := H.2 c15
    refine q_aload_n dX9_mayBe_18 rfl ?_
    refine q_getr (r := 18) dX9_mayBe_19 lf_RX9_29 s0 rfl rfl ?_
    refine q_iload_n dX9_mayBe_22 rfl ?_
    refine q_cVi (as := [vI _]) dX9_mayBe_23 kmX4_isLaid kvX4_isLaid lm_RX9_186 ⟨by decide, by decide⟩ s18 ⟨by decide, rfl⟩ rfl rfl (Nat.le_of_ble_eq_true rfl) (c_X4_isLaid s18 s19 s20) (fun v m1 hq => ?_)
    obtain ⟨rfl, rfl⟩ := hq
    refine q_if_eq (tgt := 43) dX9_mayBe_26 (by decide) (fun c26 => ?_) (fun c26 => ?_)
    · have H := H.1 (b_no c26)
      obtain ⟨h1, H⟩ := H
      refine q_iinc dX9_mayBe_43 rfl h1 rfl ?_
      refine q_goto (tgt := 4) dX9_mayBe_46 (by decide) ?_
      exact H
    · have H := H.2 (b_yes c26)
      refine q_aload_n dX9_mayBe_29 rfl ?_
      refine q_iload_n dX9_mayBe_30 rfl ?_
      obtain ⟨h2, H⟩ := H
      obtain ⟨h3, H⟩ := H
      obtain ⟨h4, H⟩ := H
      obtain ⟨h5, H⟩ := H
      refine q_cVi (as := [vI _]) dX9_mayBe_31 kmX9_tapsAgreeWithSham kvX9_tapsAgreeWithSham lm_RX9_288 ⟨by decide, by decide⟩ s0 ⟨by decide, rfl⟩ rfl rfl (Nat.le_of_ble_eq_true rfl) (c_X9_tapsAgreeWithSham h2 h3 h4 h5) (fun v m1 hq => ?_)
      have H := H v m1 hq
      refine q_if_eq (tgt := 43) dX9_mayBe_34 (by decide) (fun c34 => ?_) (fun c34 => ?_)
      · have H := H.1 c34
        obtain ⟨h8, H⟩ := H
        refine q_iinc dX9_mayBe_43 rfl h8 rfl ?_
        refine q_goto (tgt := 4) dX9_mayBe_46 (by decide) ?_
        exact H
      · have H := H.2 c34
        refine q_iload_n dX9_mayBe_37 rfl ?_
        refine q_iconst dX9_mayBe_38 (by decide) ?_
        refine q_iload_n dX9_mayBe_39 rfl ?_
        obtain ⟨h9, H⟩ := H
        refine q_shl1 dX9_mayBe_40 h4 h9 ?_
        obtain ⟨h10, H⟩ := H
        obtain ⟨h11, H⟩ := H
        refine q_ior dX9_mayBe_41 h10 h11 ?_
        refine q_istore_n dX9_mayBe_42 (by decide) rfl ?_
        obtain ⟨h12, H⟩ := H
        refine q_iinc dX9_mayBe_43 rfl h12 rfl ?_
        refine q_goto (tgt := 4) dX9_mayBe_46 (by decide) ?_
        exact H
set_option maxRecDepth 20000 in
theorem v_X9_mayBe {P : Int → Mem → Prop} {mem : Mem}  (H : w_X9_mayBe_4 P 0 0 mem) : Tot mX9_mayBe 0 0 [vR 0] SH mem (Pr SH P) := by
  refine Tot.of rfl (Nat.le_of_ble_eq_true rfl) (by simp [isJ]) (ls := [vR 0, vJ 0, vJ 0]) rfl ?_
  refine q_iconst dX9_mayBe_0 (by decide) ?_
  refine q_istore_n dX9_mayBe_1 (by decide) rfl ?_
  refine q_iconst dX9_mayBe_2 (by decide) ?_
  refine q_istore_n dX9_mayBe_3 (by decide) rfl ?_
  exact H


def mbP (m : Mem) : Int → Prop := fun s => ¬ m 19 s.toNat = -9 ∧ shaP m s
theorem shaP_fr {ks : List Nat} {m m' : Mem} (h : Fr ks m m') (h4 : 4 ∉ ks := by decide) (h7 : 7 ∉ ks := by decide) (h8 : 8 ∉ ks := by decide) (h19 : 19 ∉ ks := by decide) (h20 : 20 ∉ ks := by decide) (h32 : 32 ∉ ks := by decide) (h33 : 33 ∉ ks := by decide) : shaP m' = shaP m := by
  funext s
  have e1 := sh_fr h h7 h8
  have e2 : liD m' 19 = liD m 19 := by unfold liD; rw [h 19 h19]
  have e3 : shamT m' s = shamT m s := by
    unfold shamT thD
    rw [e1.2.2.1, h 20 h20]
  unfold shaP DP onD
  rw [(tp_fr h h32 h33).1, (tp_fr h h32 h33).2.1, (tp_fr h h32 h33).2.2.1, (tp_fr h h32 h33).2.2.2, h 32 h32, h 4 h4, h 7 h7, e1.1, e1.2.1, e2, e3]
def myQ (m0 : Mem) (v : Int) (m : Mem) : Prop := v = (bitF (mbP m0) (m0 7 2).toNat : Nat) ∧ scD m0 m
theorem my_loop {m0 : Mem} (ho : okD m0) (ht : tpOK m0) : ∀ (k : Nat) (a2 : Int) (m : Mem), 0 ≤ a2 → a2 ≤ m0 7 2 → (m0 7 2 - a2).toNat ≤ k → scD m0 m → w_X9_mayBe_4 (myQ m0) (bitF (mbP m0) a2.toNat : Nat) a2 m := by
  have hns := ho.1.2.2.2.2.2.2.1
  intro k
  induction k with
  | zero =>
    intro a2 m h0 h1 hk hs
    refine v_X9_mayBe_4 ⟨fun _ => ⟨by rw [show a2 = m0 7 2 by omega], hs⟩, fun q => ?_⟩
    rw [hs.1.at 7] at q
    omega
  | succ k ih =>
    intro a2 m h0 h1 hk hs
    refine v_X9_mayBe_4 ⟨fun q => ⟨by rw [hs.1.at 7] at q; rw [show a2 = m0 7 2 by omega], hs⟩, fun q => ?_⟩
    have q7 := q
    rw [hs.1.at 7] at q
    rw [hs.1.at 19]
    refine ⟨fun z => ⟨by unfold inR; omega, ?_⟩, fun z => ⟨hs.2, tpOK_fr hs.1 ht, h0, q7, fun v3 m4 h4 => ?_⟩⟩
    · rw [← bitF_skip (p := mbP m0) h0 (fun y => z ⟨⟨h0, by omega⟩, y.1⟩)]
      exact ih _ _ (by omega) (by omega) (by omega) hs
    · have hs4 : scD m0 m4 := ⟨hs.1.tr h4.2.1, h4.2.2⟩
      have hv := h4.1
      rw [shaP_fr hs.1] at hv
      refine ⟨fun y => ⟨by unfold inR; omega, ?_⟩, fun y => ⟨by omega, Int.natCast_nonneg _, Int.natCast_nonneg _, by unfold inR; omega, ?_⟩⟩
      · rw [← bitF_skip (p := mbP m0) h0 (fun x => ?_)]
        · exact ih _ _ (by omega) (by omega) (by omega) hs4
        · rcases hv with ⟨-, r⟩ | ⟨r, -⟩
          · omega
          · exact r x.2
      · have hp : shaP m0 a2 := by
          rcases hv with ⟨r, -⟩ | ⟨-, r⟩
          · exact r
          · exact absurd r y
        rw [bitF_step (p := mbP m0) h0 ⟨z.2, hp⟩]
        exact ih _ _ (by omega) (by omega) (by omega) hs4
theorem c_X9_mayBe {m0 : Mem} (ho : okD m0) (ht : tpOK m0) : Tot mX9_mayBe 0 0 [vR 0] SH m0 (Pr SH (myQ m0)) := by
  have hns := ho.1.2.2.2.2.2.2.1
  exact v_X9_mayBe (my_loop ho ht _ 0 m0 (by omega) (by omega) (Nat.le_refl _) ⟨Fr.rf, ho⟩)
/-! odds -/
def gcdL : Nat → Int → Int → Int
  | 0, x, _ => x
  | k + 1, x, y => if y = 0 then x else gcdL k y (x % y)
def w_X9_commonDivisor_7 (a b : Int) (P : Int → Mem → Prop) (a2 : Int) (a3 : Int) (a4 : Int) (u5 : Vl) (mem : Mem) : Prop := WP mX9_commonDivisor none 0 0 (Pr SH P) 7 [vI a, vI b, vI a2, vI a3, vI a4, u5] [] SH mem
set_option maxRecDepth 20000 in
theorem v_X9_commonDivisor_7 {a b : Int} {P : Int → Mem → Prop} {a2 : Int} {a3 : Int} {a4 : Int} {u5 : Vl} {mem : Mem}  (H : (64 ≤ a4 → P a2 mem) ∧ (a4 < 64 → (a3 = 0 → P a2 mem) ∧ (¬ a3 = 0 → (0 ≤ a2) ∧ ((0 < a3) ∧ ((inR (a4 + 1)) ∧ (w_X9_commonDivisor_7 a b P a3 (a2 % a3) (a4 + 1) (vI (a2 % a3)) mem)))))) : w_X9_commonDivisor_7 a b P a2 a3 a4 u5 mem := by
  unfold w_X9_commonDivisor_7
  refine q_iload dX9_commonDivisor_7 rfl ?_
  refine q_bipush dX9_commonDivisor_9 rfl (by decide) ?_
  refine q_icmp_ge (tgt := 34) dX9_commonDivisor_11 (by decide) (fun c11 => ?_) (fun c11 => ?_)
  · have H := H.1 c11
    refine q_iload_n dX9_commonDivisor_34 rfl ?_
    exact q_iret dX9_commonDivisor_35 rfl ⟨_, rfl, rfl, H⟩
  · have H := H.2 c11
    refine q_iload_n dX9_commonDivisor_14 rfl ?_
    refine q_if_eq (tgt := 34) dX9_commonDivisor_15 (by decide) (fun c15 => ?_) (fun c15 => ?_)
    · have H := H.1 c15
      refine q_iload_n dX9_commonDivisor_34 rfl ?_
      exact q_iret dX9_commonDivisor_35 rfl ⟨_, rfl, rfl, H⟩
    · have H := H.2 c15
      refine q_iload_n dX9_commonDivisor_18 rfl ?_
      refine q_iload_n dX9_commonDivisor_19 rfl ?_
      obtain ⟨h1, H⟩ := H
      obtain ⟨h2, H⟩ := H
      refine q_irem dX9_commonDivisor_20 h1 h2 ?_
      refine q_istore dX9_commonDivisor_21 (by decide) rfl ?_
      refine q_iload_n dX9_commonDivisor_23 rfl ?_
      refine q_istore_n dX9_commonDivisor_24 (by decide) rfl ?_
      refine q_iload dX9_commonDivisor_25 rfl ?_
      refine q_istore_n dX9_commonDivisor_27 (by decide) rfl ?_
      obtain ⟨h3, H⟩ := H
      refine q_iinc dX9_commonDivisor_28 rfl h3 rfl ?_
      refine q_goto (tgt := 7) dX9_commonDivisor_31 (by decide) ?_
      exact H
set_option maxRecDepth 20000 in
theorem v_X9_commonDivisor {a b : Int} {P : Int → Mem → Prop} {mem : Mem}  (H : w_X9_commonDivisor_7 a b P a b 0 (vJ 0) mem) : Tot mX9_commonDivisor 0 0 [vI a, vI b] SH mem (Pr SH P) := by
  refine Tot.of rfl (Nat.le_of_ble_eq_true rfl) (by simp [isJ]) (ls := [vI a, vI b, vJ 0, vJ 0, vJ 0, vJ 0]) rfl ?_
  refine q_iload_n dX9_commonDivisor_0 rfl ?_
  refine q_istore_n dX9_commonDivisor_1 (by decide) rfl ?_
  refine q_iload_n dX9_commonDivisor_2 rfl ?_
  refine q_istore_n dX9_commonDivisor_3 (by decide) rfl ?_
  refine q_iconst dX9_commonDivisor_4 (by decide) ?_
  refine q_istore dX9_commonDivisor_5 (by decide) rfl ?_
  exact H


theorem cd_loop {m0 : Mem} {a b : Int} {X : Int} : ∀ (k : Nat) (a2 a3 a4 : Int) (u5 : Vl), a4 = 64 - k → 0 ≤ a4 → 0 ≤ a2 → 0 ≤ a3 → gcdL k a2 a3 = X → w_X9_commonDivisor_7 a b (Pv X m0) a2 a3 a4 u5 m0 := by
  intro k
  induction k with
  | zero =>
    intro a2 a3 a4 u5 e h4 h2 h3 hX
    exact v_X9_commonDivisor_7 ⟨fun _ => ⟨hX, rfl⟩, fun q => by omega⟩
  | succ k ih =>
    intro a2 a3 a4 u5 e h4 h2 h3 hX
    simp only [gcdL] at hX
    refine v_X9_commonDivisor_7 ⟨fun q => by omega, fun q => ⟨fun z => ⟨by rw [if_pos z] at hX; exact hX, rfl⟩, fun z => ⟨h2, by omega, by unfold inR; omega, ?_⟩⟩⟩
    rw [if_neg z] at hX
    exact ih _ _ _ _ (by omega) (by omega) h3 (Int.emod_nonneg _ z) hX
theorem c_X9_commonDivisor {m0 : Mem} {a b : Int} (a0 : 0 ≤ a) (b0 : 0 ≤ b) : Tot mX9_commonDivisor 0 0 [vI a, vI b] SH m0 (Pr SH (Pv (gcdL 64 a b) m0)) := v_X9_commonDivisor (cd_loop 64 a b 0 _ (by omega) (by omega) a0 b0 rfl)
def w_X9_odds_55 (r p w : Int) (P : Int → Mem → Prop) (a4 : Int) (a5 : Int) (a6 : Int) (mem : Mem) : Prop := WP mX9_odds none 0 0 (Pr SH P) 55 [vR 0, vI r, vI p, vI w, vI a4, vI a5, vI a6] [] SH mem
set_option maxRecDepth 20000 in
theorem v_X9_odds_55 {r p w : Int} {P : Int → Mem → Prop} {a4 : Int} {a5 : Int} {a6 : Int} {mem : Mem}  (H : ((mem 5 2) ≤ a6 → (0 ≤ a4) ∧ ((0 ≤ a5) ∧ ((¬ w = 0 → (0 < (max 1 (gcdL 64 a4 a5))) ∧ (P (a5 / (max 1 (gcdL 64 a4 a5))) mem)) ∧ (w = 0 → (0 < (max 1 (gcdL 64 a4 a5))) ∧ (P (a4 / (max 1 (gcdL 64 a4 a5))) mem))))) ∧ (a6 < (mem 5 2) → (rdy mem) ∧ ((0 ≤ a6) ∧ ((a6 < mem 5 2) ∧ ((0 ≤ r) ∧ ((r < mem 9 2) ∧ (∀ (v10 : Int) (m11 : Mem), anP mem (if roM mem r < max 0 (noS mem a6 - DD mem (noC mem a6) (roC mem r)) then 1 else 0) v10 m11 → ((v10 = 0 → (inR (a6 + 1)) ∧ (w_X9_odds_55 r p w P a4 a5 (a6 + 1) m11)) ∧ (¬ v10 = 0 → (inR (10 - p)) ∧ ((inR (a4 * (10 - p))) ∧ ((inR (a5 * 10)) ∧ ((inR (a6 + 1)) ∧ (w_X9_odds_55 r p w P (a4 * (10 - p)) (a5 * 10) (a6 + 1) m11))))))))))))) : w_X9_odds_55 r p w P a4 a5 a6 mem := by
  unfold w_X9_odds_55
  refine q_iload dX9_odds_55 rfl ?_
  refine q_aload_n dX9_odds_57 rfl ?_
  refine q_getr (r := 4) dX9_odds_58 lf_RX9_19 s0 rfl rfl ?_
  refine q_getr (r := 5) dX9_odds_61 lf_RX9_133 s4 rfl rfl ?_
  refine q_cVi (as := []) dX9_odds_64 kmX6_size kvX6_size lm_RX9_214 ⟨by decide, by decide⟩ s5 ⟨by decide, rfl⟩ rfl rfl (Nat.le_of_ble_eq_true rfl) (c_X6_size s5) (fun v m1 hq => ?_)
  obtain ⟨rfl, rfl⟩ := hq
  refine q_icmp_ge (tgt := 105) dX9_odds_67 (by decide) (fun c67 => ?_) (fun c67 => ?_)
  · have H := H.1 c67
    refine q_iconst dX9_odds_105 (by decide) ?_
    refine q_iload dX9_odds_106 rfl ?_
    refine q_iload dX9_odds_108 rfl ?_
    obtain ⟨h1, H⟩ := H
    obtain ⟨h2, H⟩ := H
    refine q_cSi (as := [vI _, vI _]) dX9_odds_110 kmX9_commonDivisor ktX9_commonDivisor lm_RX9_297 ⟨by decide, by decide⟩ rfl rfl (Nat.le_of_ble_eq_true rfl) (c_X9_commonDivisor h1 h2) (fun v m1 hq => ?_)
    obtain ⟨rfl, rfl⟩ := hq
    refine q_max dX9_odds_113 lm_RX9_276 k_max (by decide) (Nat.le_of_ble_eq_true rfl) ?_
    refine q_istore dX9_odds_116 (by decide) rfl ?_
    refine q_iload_n dX9_odds_118 rfl ?_
    refine q_if_ne (tgt := 127) dX9_odds_119 (by decide) (fun c119 => ?_) (fun c119 => ?_)
    · have H := H.1 c119
      refine q_iload dX9_odds_127 rfl ?_
      refine q_iload dX9_odds_129 rfl ?_
      obtain ⟨h3, H⟩ := H
      refine q_idiv dX9_odds_131 h2 h3 ?_
      exact q_iret dX9_odds_132 rfl ⟨_, rfl, rfl, H⟩
    · have H := H.2 c119
      refine q_iload dX9_odds_122 rfl ?_
      refine q_goto (tgt := 129) dX9_odds_124 (by decide) ?_
      refine q_iload dX9_odds_129 rfl ?_
      obtain ⟨h4, H⟩ := H
      refine q_idiv dX9_odds_131 h1 h4 ?_
      exact q_iret dX9_odds_132 rfl ⟨_, rfl, rfl, H⟩
  · have H := H.2 c67
    refine q_aload_n dX9_odds_70 rfl ?_
    refine q_getr (r := 41) dX9_odds_71 lf_RX9_80 s0 rfl rfl ?_
    refine q_iload dX9_odds_74 rfl ?_
    refine q_iload_n dX9_odds_76 rfl ?_
    obtain ⟨h5, H⟩ := H
    obtain ⟨h6, H⟩ := H
    obtain ⟨h7, H⟩ := H
    obtain ⟨h8, H⟩ := H
    obtain ⟨h9, H⟩ := H
    refine q_cVi (as := [vI _, vI _]) dX9_odds_77 kmX2_wakes kvX2_wakes lm_RX9_294 ⟨by decide, by decide⟩ s41 ⟨by decide, rfl⟩ rfl rfl (Nat.le_of_ble_eq_true rfl) (c_X2_wakes h5 h6 h7 h8 h9) (fun v m1 hq => ?_)
    have H := H v m1 hq
    refine q_if_eq (tgt := 99) dX9_odds_80 (by decide) (fun c80 => ?_) (fun c80 => ?_)
    · have H := H.1 c80
      obtain ⟨h12, H⟩ := H
      refine q_iinc dX9_odds_99 rfl h12 rfl ?_
      refine q_goto (tgt := 55) dX9_odds_102 (by decide) ?_
      exact H
    · have H := H.2 c80
      refine q_iload dX9_odds_83 rfl ?_
      refine q_bipush dX9_odds_85 rfl (by decide) ?_
      refine q_iload_n dX9_odds_87 rfl ?_
      obtain ⟨h13, H⟩ := H
      refine q_isub dX9_odds_88 h13 ?_
      obtain ⟨h14, H⟩ := H
      refine q_imul dX9_odds_89 h14 ?_
      refine q_istore dX9_odds_90 (by decide) rfl ?_
      refine q_iload dX9_odds_92 rfl ?_
      refine q_bipush dX9_odds_94 rfl (by decide) ?_
      obtain ⟨h15, H⟩ := H
      refine q_imul dX9_odds_96 h15 ?_
      refine q_istore dX9_odds_97 (by decide) rfl ?_
      obtain ⟨h16, H⟩ := H
      refine q_iinc dX9_odds_99 rfl h16 rfl ?_
      refine q_goto (tgt := 55) dX9_odds_102 (by decide) ?_
      exact H
set_option maxRecDepth 20000 in
theorem v_X9_odds {r p w : Int} {P : Int → Mem → Prop} {mem : Mem}  (H : (¬ (0 ≤ r ∧ r < mem 9 2) → P (-1) mem) ∧ ((0 ≤ r ∧ r < mem 9 2) → (¬ (0 ≤ p ∧ p ≤ 10) → P (-1) mem) ∧ ((0 ≤ p ∧ p ≤ 10) → ((0 ≤ w ∧ w ≤ 1) → (hsD mem) ∧ ((moD mem 19 20) ∧ ((nextOK (mem 4 5) (mem 4 3) (mem 37)) ∧ ((thOK mem) ∧ (∀ m5 : Mem, shoP mem 19 20 m5 → (w_X9_odds_55 r p w P 1 1 0 m5)))))) ∧ (¬ (0 ≤ w ∧ w ≤ 1) → P (-1) mem)))) : Tot mX9_odds 0 0 [vR 0, vI r, vI p, vI w] SH mem (Pr SH P) := by
  refine Tot.of rfl (Nat.le_of_ble_eq_true rfl) (by simp [isJ]) (ls := [vR 0, vI r, vI p, vI w, vJ 0, vJ 0, vJ 0]) rfl ?_
  refine q_aload_n dX9_odds_0 rfl ?_
  refine q_getr (r := 4) dX9_odds_1 lf_RX9_19 s0 rfl rfl ?_
  refine q_getr (r := 9) dX9_odds_4 lf_RX9_158 s4 rfl rfl ?_
  refine q_iload_n dX9_odds_7 rfl ?_
  refine q_cVi (as := [vI _]) dX9_odds_8 kmX6_has kvX6_has lm_RX9_136 ⟨by decide, by decide⟩ s9 ⟨by decide, rfl⟩ rfl rfl (Nat.le_of_ble_eq_true rfl) (c_X6_has s9) (fun v m1 hq => ?_)
  obtain ⟨rfl, rfl⟩ := hq
  refine q_if_eq (tgt := 33) dX9_odds_11 (by decide) (fun c11 => ?_) (fun c11 => ?_)
  · have H := H.1 (b_no c11)
    refine q_iconst dX9_odds_33 (by decide) ?_
    exact q_iret dX9_odds_34 rfl ⟨_, rfl, rfl, H⟩
  · have H := H.2 (b_yes c11)
    refine q_iload_n dX9_odds_14 rfl ?_
    refine q_iconst dX9_odds_15 (by decide) ?_
    refine q_bipush dX9_odds_16 rfl (by decide) ?_
    refine q_cSi (as := [vI _, vI _, vI _]) dX9_odds_18 kmX9_isWithin ktX9_isWithin lm_RX9_97 ⟨by decide, by decide⟩ rfl rfl (Nat.le_of_ble_eq_true rfl) (c_X9_isWithin) (fun v m1 hq => ?_)
    obtain ⟨rfl, rfl⟩ := hq
    refine q_if_eq (tgt := 33) dX9_odds_21 (by decide) (fun c21 => ?_) (fun c21 => ?_)
    · have H := H.1 (b_no c21)
      refine q_iconst dX9_odds_33 (by decide) ?_
      exact q_iret dX9_odds_34 rfl ⟨_, rfl, rfl, H⟩
    · have H := H.2 (b_yes c21)
      refine q_iload_n dX9_odds_24 rfl ?_
      refine q_iconst dX9_odds_25 (by decide) ?_
      refine q_iconst dX9_odds_26 (by decide) ?_
      refine q_cSi (as := [vI _, vI _, vI _]) dX9_odds_27 kmX9_isWithin ktX9_isWithin lm_RX9_97 ⟨by decide, by decide⟩ rfl rfl (Nat.le_of_ble_eq_true rfl) (c_X9_isWithin) (fun v m1 hq => ?_)
      obtain ⟨rfl, rfl⟩ := hq
      refine q_if_ne (tgt := 35) dX9_odds_30 (by decide) (fun c30 => ?_) (fun c30 => ?_)
      · have H := H.1 (b_yes c30)
        refine q_aload_n dX9_odds_35 rfl ?_
        refine q_getr (r := 34) dX9_odds_36 lf_RX9_71 s0 rfl rfl ?_
        refine q_aload_n dX9_odds_39 rfl ?_
        refine q_getr (r := 18) dX9_odds_40 lf_RX9_29 s0 rfl rfl ?_
        obtain ⟨h1, H⟩ := H
        obtain ⟨h2, H⟩ := H
        obtain ⟨h3, H⟩ := H
        obtain ⟨h4, H⟩ := H
        refine q_cVn (as := [vR _]) dX9_odds_43 kmX1_show kvX1_show lm_RX9_164 ⟨by decide, by decide⟩ s34 ⟨by decide, rfl⟩ rfl rfl (Nat.le_of_ble_eq_true rfl) (c_X1_show s18 s19 s20 (by decide) h1 h2 h3 h4) (fun m1 hq => ?_)
        have H := H m1 hq
        refine q_iconst dX9_odds_46 (by decide) ?_
        refine q_istore dX9_odds_47 (by decide) rfl ?_
        refine q_iconst dX9_odds_49 (by decide) ?_
        refine q_istore dX9_odds_50 (by decide) rfl ?_
        refine q_iconst dX9_odds_52 (by decide) ?_
        refine q_istore dX9_odds_53 (by decide) rfl ?_
        exact H
      · have H := H.2 (b_no c30)
        refine q_iconst dX9_odds_33 (by decide) ?_
        exact q_iret dX9_odds_34 rfl ⟨_, rfl, rfl, H⟩


noncomputable def oddF (P : Int → Prop) (x : Int) : Nat → Int
  | 0 => 1
  | k + 1 => @ite Int (P k) (Classical.propDecidable _) (oddF P x k * x) (oddF P x k)
theorem oddF_t {P : Int → Prop} {x : Int} {k : Nat} (h : P k) : oddF P x (k + 1) = oddF P x k * x := if_pos h
theorem oddF_f {P : Int → Prop} {x : Int} {k : Nat} (h : ¬ P k) : oddF P x (k + 1) = oddF P x k := if_neg h
theorem oddF_congr {P Q : Int → Prop} {x : Int} : ∀ k : Nat, (∀ i : Int, 0 ≤ i → i < k → (P i ↔ Q i)) → oddF P x k = oddF Q x k
  | 0, _ => rfl
  | k + 1, h => by
    have e := oddF_congr (x := x) k (fun i i0 i1 => h i i0 (by omega))
    have q := h k (by omega) (by omega)
    by_cases c : P k
    · rw [oddF_t c, oddF_t (q.mp c), e]
    · rw [oddF_f c, oddF_f (fun z => c (q.mpr z)), e]
theorem oddF_pow {P : Int → Prop} : ∀ k : Nat, ∃ j : Nat, j ≤ k ∧ ∀ x : Int, oddF P x k = x ^ j
  | 0 => ⟨0, Nat.le_refl _, fun x => by rw [Int.pow_zero]; rfl⟩
  | k + 1 => by
    obtain ⟨j, hj, e⟩ := oddF_pow (P := P) k
    by_cases c : P k
    · exact ⟨j + 1, by omega, fun x => by rw [oddF_t c, e x, Int.pow_succ]⟩
    · exact ⟨j, by omega, fun x => by rw [oddF_f c, e x]⟩
theorem odd_fin : ∀ (p : Fin 11) (j : Fin 4), (0 ≤ ((10 : Int) - p.val) ^ j.val ∧ ((10 : Int) - p.val) ^ j.val ≤ 1000) ∧ (0 ≤ (10 : Int) ^ j.val ∧ (10 : Int) ^ j.val ≤ 1000) ∧ max 1 (gcdL 64 (((10 : Int) - p.val) ^ j.val) (10 ^ j.val)) = ((Int.gcd (((10 : Int) - p.val) ^ j.val) (10 ^ j.val) : Nat) : Int) := by decide +kernel
theorem odd_b {P : Int → Prop} {p : Int} {k : Nat} (p0 : 0 ≤ p) (p1 : p ≤ 10) (hk : k ≤ 3) : (0 ≤ oddF P (10 - p) k ∧ oddF P (10 - p) k ≤ 1000) ∧ (0 ≤ oddF P 10 k ∧ oddF P 10 k ≤ 1000) ∧ max 1 (gcdL 64 (oddF P (10 - p) k) (oddF P 10 k)) = ((Int.gcd (oddF P (10 - p) k) (oddF P 10 k) : Nat) : Int) := by
  obtain ⟨j, hj, e⟩ := oddF_pow (P := P) k
  rw [e, e]
  have h := odd_fin ⟨p.toNat, by omega⟩ ⟨j, by omega⟩
  simp only [show ((p.toNat : Nat) : Int) = p by omega] at h
  exact h
noncomputable def odV (P : Int → Prop) (k : Nat) (p w : Int) : Int := (if w = 0 then oddF P (10 - p) k else oddF P 10 k) / ((Int.gcd (oddF P (10 - p) k) (oddF P 10 k) : Nat) : Int)
def odC (m : Mem) (r p w : Int) : Prop := (0 ≤ r ∧ r < m 9 2) ∧ (0 ≤ p ∧ p ≤ 10) ∧ (0 ≤ w ∧ w ≤ 1)
def odP (m : Mem) (r : Int) : Int → Prop := fun n => roM m r < max 0 (noS m n - DD m (noC m n) (roC m r))
def odQ (m0 : Mem) (r p w v : Int) (m : Mem) : Prop := (odC m0 r p w ∧ (∃ m5, shoP m0 19 20 m5 ∧ v = odV (odP m5 r) (m0 5 2).toNat p w) ∧ scD m0 m) ∨ (¬ odC m0 r p w ∧ v = -1 ∧ m = m0)
theorem od_loop {m0 m5 : Mem} {r p w : Int} (ho : okD m0) (h5 : shoP m0 19 20 m5) (hc : odC m0 r p w) : ∀ (k : Nat) (a6 : Int) (m : Mem), 0 ≤ a6 → a6 ≤ m0 5 2 → (m0 5 2 - a6).toNat ≤ k → Fr [39, 40] m5 m → losOK m → w_X9_odds_55 r p w (odQ m0 r p w) (oddF (odP m5 r) (10 - p) a6.toNat) (oddF (odP m5 r) 10 a6.toNat) a6 m := by
  have hok := sho_ok ho h5
  have hno := ho.1.2.2.2.2.2.1
  have e5 : m5 5 = m0 5 := h5.1.at 5
  have hfin : ∀ (a6 : Int) (m : Mem), a6 = m0 5 2 → Fr [39, 40] m5 m → 0 ≤ oddF (odP m5 r) (10 - p) a6.toNat ∧ 0 ≤ oddF (odP m5 r) 10 a6.toNat ∧ (¬ w = 0 → 0 < max 1 (gcdL 64 (oddF (odP m5 r) (10 - p) a6.toNat) (oddF (odP m5 r) 10 a6.toNat)) ∧ odQ m0 r p w (oddF (odP m5 r) 10 a6.toNat / max 1 (gcdL 64 (oddF (odP m5 r) (10 - p) a6.toNat) (oddF (odP m5 r) 10 a6.toNat))) m) ∧ (w = 0 → 0 < max 1 (gcdL 64 (oddF (odP m5 r) (10 - p) a6.toNat) (oddF (odP m5 r) 10 a6.toNat)) ∧ odQ m0 r p w (oddF (odP m5 r) (10 - p) a6.toNat / max 1 (gcdL 64 (oddF (odP m5 r) (10 - p) a6.toNat) (oddF (odP m5 r) 10 a6.toNat))) m) := by
    intro a6 m e hF
    have hb := odd_b (P := odP m5 r) (k := a6.toNat) hc.2.1.1 hc.2.1.2 (by omega)
    have hs := scD_an (sho_scD ho h5) hF
    refine ⟨hb.1.1, hb.2.1.1, fun z => ⟨by omega, Or.inl ⟨hc, ⟨m5, h5, ?_⟩, hs⟩⟩, fun z => ⟨by omega, Or.inl ⟨hc, ⟨m5, h5, ?_⟩, hs⟩⟩⟩
    · rw [hb.2.2, e]
      unfold odV
      rw [if_neg z]
    · rw [hb.2.2, e]
      unfold odV
      rw [if_pos z]
  intro k
  induction k with
  | zero =>
    intro a6 m h0 h1 hk hF hl
    refine v_X9_odds_55 ⟨fun _ => hfin a6 m (by omega) hF, fun q => ?_⟩
    rw [hF.at 5, e5] at q
    omega
  | succ k ih =>
    intro a6 m h0 h1 hk hF hl
    refine v_X9_odds_55 ⟨fun q => hfin a6 m (by rw [hF.at 5, e5] at q; omega) hF, fun q => ?_⟩
    have q5 := q
    rw [hF.at 5, e5] at q
    refine ⟨rdy_fr hF hl hok.2, h0, q5, hc.1.1, ?_, fun v10 m11 h11 => ?_⟩
    · rw [hF.at 9, h5.1.at 9]
      exact hc.1.2
    have hF11 := hF.tr h11.2.1
    have hv := h11.1
    rw [(ro_fr hF).2.2.1, (ro_fr hF).2.2.2, (no_fr hF).2.2.1, (no_fr hF).2.2.2, DD_fr hF] at hv
    have hb := odd_b (P := odP m5 r) (k := a6.toNat) hc.2.1.1 hc.2.1.2 (by omega)
    have ek : (a6 + 1).toNat = a6.toNat + 1 := by omega
    have ea : ((a6.toNat : Nat) : Int) = a6 := by omega
    by_cases c : odP m5 r a6
    · have c' : odP m5 r ((a6.toNat : Nat) : Int) := by rw [ea]; exact c
      have cc : roM m5 r < max 0 (noS m5 a6 - DD m5 (noC m5 a6) (roC m5 r)) := c
      rw [if_pos cc] at hv
      refine ⟨fun z => by omega, fun z => ⟨by have := hc.2.1; unfold inR; omega, ?_, by unfold inR; omega, by unfold inR; omega, ?_⟩⟩
      · have h1 := odd_b (P := fun _ => odP m5 r a6) (k := 1) hc.2.1.1 hc.2.1.2 (by omega)
        have hp := hc.2.1
        generalize oddF (odP m5 r) (10 - p) a6.toNat = x at hb ⊢
        have u1 : 0 ≤ x * (10 - p) := Int.mul_nonneg hb.1.1 (by omega)
        have u2 : x * (10 - p) ≤ 1000 * 10 := Int.mul_le_mul hb.1.2 (by omega) (by omega) (by decide)
        unfold inR
        omega
      · have := ih (a6 + 1) m11 (by omega) (by omega) (by omega) hF11 h11.2.2
        rw [ek, oddF_t c', oddF_t c'] at this
        exact this
    · have c' : ¬ odP m5 r ((a6.toNat : Nat) : Int) := by rw [ea]; exact c
      have cc : ¬ roM m5 r < max 0 (noS m5 a6 - DD m5 (noC m5 a6) (roC m5 r)) := c
      rw [if_neg cc] at hv
      refine ⟨fun z => ⟨by unfold inR; omega, ?_⟩, fun z => absurd hv z⟩
      have := ih (a6 + 1) m11 (by omega) (by omega) (by omega) hF11 h11.2.2
      rw [ek, oddF_f c', oddF_f c'] at this
      exact this
theorem c_X9_odds {m0 : Mem} {r p w : Int} (ho : okD m0) : Tot mX9_odds 0 0 [vR 0, vI r, vI p, vI w] SH m0 (Pr SH (odQ m0 r p w)) := by
  have hno := ho.1.2.2.2.2.2.1
  refine v_X9_odds ⟨fun q => Or.inr ⟨fun z => q z.1, rfl, rfl⟩, fun q => ⟨fun q2 => Or.inr ⟨fun z => q2 z.2.1, rfl, rfl⟩, fun q2 => ⟨fun q3 => ⟨ho.1, ho.2.1, ho.2.2.1, ho.2.2.2.1, fun m5 h5 => ?_⟩, fun q3 => Or.inr ⟨fun z => q3 z.2.2, rfl, rfl⟩⟩⟩⟩
  exact od_loop ho h5 ⟨q, q2, q3⟩ _ 0 m5 (by omega) (by omega) (Nat.le_refl _) Fr.rf h5.2.2.1
