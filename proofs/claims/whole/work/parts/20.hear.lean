/-! HEARING: how loud it is -/
def covP (m0 : Mem) (s c : Int) (m : Mem) : Prop := Fr [35, 38, 40] m0 m ∧ flOK m ∧ losOK m ∧ putF (cov (m0 4 3) (shW m0 s) (shL m0 s) c) s (m0 35) m
theorem c_X1_cover {m0 : Mem} {s c : Int} (hh : hsD m0) (hfl : flOK m0) (s0 : 0 ≤ s) (sn : s < m0 7 2) (hf : fitsAt (m0 4 3) (m0 4 4) (shW m0 s) (shL m0 s) c) : Tot mX1_cover 0 0 [vR 34, vI s, vI c] SH m0 (Pn SH (covP m0 s c)) := by
  refine v_X1_cover ⟨hh, s0, sn, hf, fun m5 h5 => ?_⟩
  obtain ⟨hF, hp⟩ := h5
  have hh5 := (hsD_fr hF).mpr hh
  have h7 := hh.2.2.2.2.2.2.1
  have hg : okGD m5 := okGD_of hh5 (fun x x0 x1 => by rw [hF.at 36]; exact hfl.1.1.2.2.2.2.2 x x0 x1) (fun x x0 x1 => by
    have := hp x x0 x1
    have h2 := hfl.1.1.2.2.2.2.1 x x0 x1
    by_cases q : cov (m0 4 3) (shW m0 s) (shL m0 s) c x
    · rw [this.1 q]; right; omega
    · rw [this.2 q]; exact h2)
  refine ⟨hg, fun m7 h7' => ?_⟩
  have hok := wgP_ok hg (by rw [hF.at 4, hF.at 37]; exact hfl.2.1) h7'
  refine ⟨(hF.mono (by decide)).tr (h7'.1.mono (by decide)), hok.1, hok.2, fun x x0 x1 => ?_⟩
  rw [h7'.1.at 35]
  exact hp x x0 x1
/-- ready to be asked: a house, the floor shown, losses told right -/
def rdy (m : Mem) : Prop := hsD m ∧ flOK m ∧ losOK m
theorem rdy_fr {m m' : Mem} (h : Fr [39, 40] m m') (hl : losOK m') (hr : rdy m) : rdy m' := ⟨(hsD_fr h).mpr hr.1, (flOK_fr h).mpr hr.2.1, hl⟩
theorem DD_b {m : Mem} (hr : rdy m) {f t : Int} (f0 : 0 ≤ f) (fn : f < m 4 5) (t0 : 0 ≤ t) (tn : t < m 4 5) : 0 ≤ DD m f t ∧ DD m f t ≤ 1100 := by
  obtain ⟨hg, hcs⟩ := okGD_g hr.2.1.1
  exact (dist_isD hg hcs f0 fn).2.1 t t0 tn
/-- an answer that makes losses known at most -/
def anP (m0 : Mem) (x v : Int) (m : Mem) : Prop := v = x ∧ Fr [39, 40] m0 m ∧ losOK m
/-- the loudest of k noises, in hours first to last -/
noncomputable def loudF (A B S C : Int → Int) (D : Int → Int → Int) (c first last : Int) : Nat → Int
  | 0 => 0
  | k + 1 => if A k ≤ last ∧ first ≤ B k then max (loudF A B S C D c first last k) (S k - D (C k) c) else loudF A B S C D c first last k
theorem loudF_b {A B S C : Int → Int} {D : Int → Int → Int} {c first last : Int} : ∀ (k : Nat), (∀ i : Int, 0 ≤ i → i < k → S i ≤ 99 ∧ 0 ≤ D (C i) c) → 0 ≤ loudF A B S C D c first last k ∧ loudF A B S C D c first last k ≤ 99
  | 0, _ => by simp only [loudF]; omega
  | k + 1, h => by
    have h1 := loudF_b (A := A) (B := B) (first := first) (last := last) k (fun i i0 ik => h i i0 (by omega))
    have h2 := h k (by omega) (by omega)
    simp only [loudF]
    split <;> omega
theorem loudF_congr {A B S C A' B' S' C' : Int → Int} {D D' : Int → Int → Int} {c first last : Int} : ∀ (k : Nat), (∀ i : Int, 0 ≤ i → i < k → A i = A' i ∧ B i = B' i ∧ S i = S' i ∧ D (C i) c = D' (C' i) c) → loudF A B S C D c first last k = loudF A' B' S' C' D' c first last k
  | 0, _ => rfl
  | k + 1, h => by
    obtain ⟨h1, h2, h3, h4⟩ := h k (by omega) (by omega)
    simp only [loudF]
    rw [h1, h2, h3, h4, loudF_congr k (fun i i0 ik => h i i0 (by omega))]
noncomputable abbrev ldD (m : Mem) (c first last : Int) : Int := loudF (noA m) (noB m) (noS m) (noC m) (DD m) c first last (m 5 2).toNat
theorem no_fr {ks : List Nat} {m m' : Mem} (h : Fr ks m m') (h5 : 5 ∉ ks := by decide) (h6 : 6 ∉ ks := by decide) : noA m' = noA m ∧ noB m' = noB m ∧ noS m' = noS m ∧ noC m' = noC m := by
  unfold noA noB noS noC
  rw [h 5 h5, h 6 h6]
  exact ⟨rfl, rfl, rfl, rfl⟩
theorem ro_fr {ks : List Nat} {m m' : Mem} (h : Fr ks m m') (h5 : 9 ∉ ks := by decide) (h6 : 10 ∉ ks := by decide) : roA m' = roA m ∧ roB m' = roB m ∧ roM m' = roM m ∧ roC m' = roC m := by
  unfold roA roB roM roC
  rw [h 9 h5, h 10 h6]
  exact ⟨rfl, rfl, rfl, rfl⟩
theorem c_lost {m0 : Mem} {f t : Int} (hr : rdy m0) (f0 : 0 ≤ f) (fn : f < m0 4 5) (t0 : 0 ≤ t) (tn : t < m0 4 5) : Tot mX1_lost 0 0 [vR 34, vI f, vI t] SH m0 (Pr SH (anP m0 (DD m0 f t))) := c_X1_lost hr.2.1 hr.2.2 f0 fn t0 tn
set_option maxRecDepth 20000 in
theorem v_X2_loudBy {n f t : Int} {P : Int → Mem → Prop} {mem : Mem}  (H : (rdy mem) ∧ ((0 ≤ f) ∧ ((f < mem 4 5) ∧ ((0 ≤ t) ∧ ((t < mem 4 5) ∧ (∀ (v6 : Int) (m7 : Mem), anP mem (DD mem f t) v6 m7 → ((inR (n - v6)) ∧ (P (max 0 (n - v6)) m7)))))))) : Tot mX2_loudBy 0 0 [vR 41, vI n, vI f, vI t] SH mem (Pr SH P) := by
  refine Tot.of rfl (Nat.le_of_ble_eq_true rfl) (by simp [isJ]) (ls := [vR 41, vI n, vI f, vI t]) rfl ?_
  refine q_iconst dX2_loudBy_0 (by decide) ?_
  refine q_iload_n dX2_loudBy_1 rfl ?_
  refine q_aload_n dX2_loudBy_2 rfl ?_
  refine q_getr (r := 34) dX2_loudBy_3 lf_RX2_15 s41 rfl rfl ?_
  refine q_iload_n dX2_loudBy_6 rfl ?_
  refine q_iload_n dX2_loudBy_7 rfl ?_
  obtain ⟨h1, H⟩ := H
  obtain ⟨h2, H⟩ := H
  obtain ⟨h3, H⟩ := H
  obtain ⟨h4, H⟩ := H
  obtain ⟨h5, H⟩ := H
  refine q_cVi (as := [vI _, vI _]) dX2_loudBy_8 kmX1_lost kvX1_lost lm_RX2_19 ⟨by decide, by decide⟩ s34 ⟨by decide, rfl⟩ rfl rfl (Nat.le_of_ble_eq_true rfl) (c_lost h1 h2 h3 h4 h5) (fun v m1 hq => ?_)
  have H := H v m1 hq
  obtain ⟨h8, H⟩ := H
  refine q_isub dX2_loudBy_11 h8 ?_
  refine q_max dX2_loudBy_12 lm_RX2_25 k_max (by decide) (Nat.le_of_ble_eq_true rfl) ?_
  exact q_iret dX2_loudBy_15 rfl ⟨_, rfl, rfl, H⟩

def w_X2_loudWithin_6 (c p q : Int) (P : Int → Mem → Prop) (a4 : Int) (a5 : Int) (u6 : Vl) (mem : Mem) : Prop := WP mX2_loudWithin none 0 0 (Pr SH P) 6 [vR 41, vI c, vI p, vI q, vI a4, vI a5, u6] [] SH mem
set_option maxRecDepth 20000 in
theorem v_X2_loudWithin_6 {c p q : Int} {P : Int → Mem → Prop} {a4 : Int} {a5 : Int} {u6 : Vl} {mem : Mem}  (H : ((mem 5 2) ≤ a5 → P a4 mem) ∧ (a5 < (mem 5 2) → (mem 5 2 * 4 ≤ 12) ∧ ((q < (getF (mem 6) (mem 5 2) a5 2) → (inR (a5 + 1)) ∧ (w_X2_loudWithin_6 c p q P a4 (a5 + 1) u6 mem)) ∧ ((getF (mem 6) (mem 5 2) a5 2) ≤ q → ((getF (mem 6) (mem 5 2) a5 3) < p → (inR (a5 + 1)) ∧ (w_X2_loudWithin_6 c p q P a4 (a5 + 1) u6 mem)) ∧ (p ≤ (getF (mem 6) (mem 5 2) a5 3) → (rdy mem) ∧ ((0 ≤ (getF (mem 6) (mem 5 2) a5 0)) ∧ (((getF (mem 6) (mem 5 2) a5 0) < mem 4 5) ∧ ((0 ≤ c) ∧ ((c < mem 4 5) ∧ (∀ (v9 : Int) (m10 : Mem), anP mem (DD mem (getF (mem 6) (mem 5 2) a5 0) c) v9 m10 → ((inR ((getF (mem 6) (mem 5 2) a5 1) - v9)) ∧ ((inR (a5 + 1)) ∧ (w_X2_loudWithin_6 c p q P (max a4 ((getF (mem 6) (mem 5 2) a5 1) - v9)) (a5 + 1) (vI ((getF (mem 6) (mem 5 2) a5 1) - v9)) m10))))))))))))) : w_X2_loudWithin_6 c p q P a4 a5 u6 mem := by
  unfold w_X2_loudWithin_6
  refine q_iload dX2_loudWithin_6 rfl ?_
  refine q_aload_n dX2_loudWithin_8 rfl ?_
  refine q_getr (r := 4) dX2_loudWithin_9 lf_RX2_9 s41 rfl rfl ?_
  refine q_getr (r := 5) dX2_loudWithin_12 lf_RX2_30 s4 rfl rfl ?_
  refine q_cVi (as := []) dX2_loudWithin_15 kmX6_size kvX6_size lm_RX2_36 ⟨by decide, by decide⟩ s5 ⟨by decide, rfl⟩ rfl rfl (Nat.le_of_ble_eq_true rfl) (c_X6_size s5) (fun v m1 hq => ?_)
  obtain ⟨rfl, rfl⟩ := hq
  refine q_icmp_ge (tgt := 107) dX2_loudWithin_18 (by decide) (fun c18 => ?_) (fun c18 => ?_)
  · have H := H.1 c18
    refine q_iload dX2_loudWithin_107 rfl ?_
    exact q_iret dX2_loudWithin_109 rfl ⟨_, rfl, rfl, H⟩
  · have H := H.2 c18
    refine q_aload_n dX2_loudWithin_21 rfl ?_
    refine q_getr (r := 4) dX2_loudWithin_22 lf_RX2_9 s41 rfl rfl ?_
    refine q_getr (r := 5) dX2_loudWithin_25 lf_RX2_30 s4 rfl rfl ?_
    refine q_iload dX2_loudWithin_28 rfl ?_
    refine q_iconst dX2_loudWithin_30 (by decide) ?_
    obtain ⟨h1, H⟩ := H
    refine q_cVi (as := [vI _, vI _]) dX2_loudWithin_31 kmX6_get kvX6_get lm_RX2_42 ⟨by decide, by decide⟩ s5 ⟨by decide, rfl⟩ rfl rfl (Nat.le_of_ble_eq_true rfl) (c_X6_get s5 s6 h1) (fun v m1 hq => ?_)
    obtain ⟨rfl, rfl⟩ := hq
    refine q_iload_n dX2_loudWithin_34 rfl ?_
    refine q_icmp_gt (tgt := 101) dX2_loudWithin_35 (by decide) (fun c35 => ?_) (fun c35 => ?_)
    · have H := H.1 c35
      obtain ⟨h2, H⟩ := H
      refine q_iinc dX2_loudWithin_101 rfl h2 rfl ?_
      refine q_goto (tgt := 6) dX2_loudWithin_104 (by decide) ?_
      exact H
    · have H := H.2 c35
      refine q_aload_n dX2_loudWithin_38 rfl ?_
      refine q_getr (r := 4) dX2_loudWithin_39 lf_RX2_9 s41 rfl rfl ?_
      refine q_getr (r := 5) dX2_loudWithin_42 lf_RX2_30 s4 rfl rfl ?_
      refine q_iload dX2_loudWithin_45 rfl ?_
      refine q_iconst dX2_loudWithin_47 (by decide) ?_
      refine q_cVi (as := [vI _, vI _]) dX2_loudWithin_48 kmX6_get kvX6_get lm_RX2_42 ⟨by decide, by decide⟩ s5 ⟨by decide, rfl⟩ rfl rfl (Nat.le_of_ble_eq_true rfl) (c_X6_get s5 s6 h1) (fun v m1 hq => ?_)
      obtain ⟨rfl, rfl⟩ := hq
      refine q_iload_n dX2_loudWithin_51 rfl ?_
      refine q_icmp_lt (tgt := 101) dX2_loudWithin_52 (by decide) (fun c52 => ?_) (fun c52 => ?_)
      · have H := H.1 c52
        obtain ⟨h3, H⟩ := H
        refine q_iinc dX2_loudWithin_101 rfl h3 rfl ?_
        refine q_goto (tgt := 6) dX2_loudWithin_104 (by decide) ?_
        exact H
      · have H := H.2 c52
        refine q_aload_n dX2_loudWithin_55 rfl ?_
        refine q_getr (r := 4) dX2_loudWithin_56 lf_RX2_9 s41 rfl rfl ?_
        refine q_getr (r := 5) dX2_loudWithin_59 lf_RX2_30 s4 rfl rfl ?_
        refine q_iload dX2_loudWithin_62 rfl ?_
        refine q_iconst dX2_loudWithin_64 (by decide) ?_
        refine q_cVi (as := [vI _, vI _]) dX2_loudWithin_65 kmX6_get kvX6_get lm_RX2_42 ⟨by decide, by decide⟩ s5 ⟨by decide, rfl⟩ rfl rfl (Nat.le_of_ble_eq_true rfl) (c_X6_get s5 s6 h1) (fun v m1 hq => ?_)
        obtain ⟨rfl, rfl⟩ := hq
        refine q_aload_n dX2_loudWithin_68 rfl ?_
        refine q_getr (r := 34) dX2_loudWithin_69 lf_RX2_15 s41 rfl rfl ?_
        refine q_aload_n dX2_loudWithin_72 rfl ?_
        refine q_getr (r := 4) dX2_loudWithin_73 lf_RX2_9 s41 rfl rfl ?_
        refine q_getr (r := 5) dX2_loudWithin_76 lf_RX2_30 s4 rfl rfl ?_
        refine q_iload dX2_loudWithin_79 rfl ?_
        refine q_iconst dX2_loudWithin_81 (by decide) ?_
        refine q_cVi (as := [vI _, vI _]) dX2_loudWithin_82 kmX6_get kvX6_get lm_RX2_42 ⟨by decide, by decide⟩ s5 ⟨by decide, rfl⟩ rfl rfl (Nat.le_of_ble_eq_true rfl) (c_X6_get s5 s6 h1) (fun v m1 hq => ?_)
        obtain ⟨rfl, rfl⟩ := hq
        refine q_iload_n dX2_loudWithin_85 rfl ?_
        obtain ⟨h4, H⟩ := H
        obtain ⟨h5, H⟩ := H
        obtain ⟨h6, H⟩ := H
        obtain ⟨h7, H⟩ := H
        obtain ⟨h8, H⟩ := H
        refine q_cVi (as := [vI _, vI _]) dX2_loudWithin_86 kmX1_lost kvX1_lost lm_RX2_19 ⟨by decide, by decide⟩ s34 ⟨by decide, rfl⟩ rfl rfl (Nat.le_of_ble_eq_true rfl) (c_lost h4 h5 h6 h7 h8) (fun v m1 hq => ?_)
        have H := H v m1 hq
        obtain ⟨h11, H⟩ := H
        refine q_isub dX2_loudWithin_89 h11 ?_
        refine q_istore dX2_loudWithin_90 (by decide) rfl ?_
        refine q_iload dX2_loudWithin_92 rfl ?_
        refine q_iload dX2_loudWithin_94 rfl ?_
        refine q_max dX2_loudWithin_96 lm_RX2_25 k_max (by decide) (Nat.le_of_ble_eq_true rfl) ?_
        refine q_istore dX2_loudWithin_99 (by decide) rfl ?_
        obtain ⟨h12, H⟩ := H
        refine q_iinc dX2_loudWithin_101 rfl h12 rfl ?_
        refine q_goto (tgt := 6) dX2_loudWithin_104 (by decide) ?_
        exact H
set_option maxRecDepth 20000 in
theorem v_X2_loudWithin {c p q : Int} {P : Int → Mem → Prop} {mem : Mem}  (H : w_X2_loudWithin_6 c p q P 0 0 (vJ 0) mem) : Tot mX2_loudWithin 0 0 [vR 41, vI c, vI p, vI q] SH mem (Pr SH P) := by
  refine Tot.of rfl (Nat.le_of_ble_eq_true rfl) (by simp [isJ]) (ls := [vR 41, vI c, vI p, vI q, vJ 0, vJ 0, vJ 0]) rfl ?_
  refine q_iconst dX2_loudWithin_0 (by decide) ?_
  refine q_istore dX2_loudWithin_1 (by decide) rfl ?_
  refine q_iconst dX2_loudWithin_3 (by decide) ?_
  refine q_istore dX2_loudWithin_4 (by decide) rfl ?_
  exact H


theorem c_X2_loudBy {m0 : Mem} {n f t : Int} (hr : rdy m0) (n0 : 0 ≤ n) (n1 : n ≤ 99) (f0 : 0 ≤ f) (fn : f < m0 4 5) (t0 : 0 ≤ t) (tn : t < m0 4 5) : Tot mX2_loudBy 0 0 [vR 41, vI n, vI f, vI t] SH m0 (Pr SH (anP m0 (max 0 (n - DD m0 f t)))) := by
  have := DD_b hr f0 fn t0 tn
  exact v_X2_loudBy ⟨hr, f0, fn, t0, tn, fun v m h => ⟨by rw [h.1]; omega, by rw [h.1], h.2.1, h.2.2⟩⟩
theorem lw_loop {m0 : Mem} {c p q : Int} (hr : rdy m0) (c0 : 0 ≤ c) (cn : c < m0 4 5) :
    ∀ (k : Nat) (a4 a5 : Int) (u6 : Vl) (m : Mem), 0 ≤ a5 → a5 ≤ m0 5 2 → (m0 5 2 - a5).toNat ≤ k → Fr [39, 40] m0 m → losOK m → a4 = loudF (noA m0) (noB m0) (noS m0) (noC m0) (DD m0) c p q a5.toNat → w_X2_loudWithin_6 c p q (anP m0 (ldD m0 c p q)) a4 a5 u6 m := by
  have h5 := hr.1.2.2.2.2.2.1
  have hno := hr.1.2.2.2.2.2.2.2.2.1
  have hbd : ∀ a5 : Int, 0 ≤ a5 → a5 ≤ m0 5 2 → 0 ≤ loudF (noA m0) (noB m0) (noS m0) (noC m0) (DD m0) c p q a5.toNat ∧ loudF (noA m0) (noB m0) (noS m0) (noC m0) (DD m0) c p q a5.toNat ≤ 99 := by
    intro a5 h0 h1
    refine loudF_b _ (fun i i0 ik => ?_)
    have q1 := hno i i0 (by omega)
    exact ⟨q1.2.1.2, (DD_b hr q1.1.1 q1.1.2 c0 cn).1⟩
  intro k
  induction k with
  | zero =>
    intro a4 a5 u6 m h0 h1 hk hF hl he
    refine v_X2_loudWithin_6 ?_
    rw [hF.at 5]
    exact ⟨fun z => ⟨by rw [he, show a5 = m0 5 2 by omega], hF, hl⟩, fun z => by omega⟩
  | succ k ih =>
    intro a4 a5 u6 m h0 h1 hk hF hl he
    refine v_X2_loudWithin_6 ?_
    rw [hF.at 5, hF.at 6, hF.at 4, DD_fr hF]
    refine ⟨fun z => ⟨by rw [he, show a5 = m0 5 2 by omega], hF, hl⟩, fun z => ⟨by omega, ?_⟩⟩
    have eC : getF (m0 6) (m0 5 2) a5 0 = noC m0 a5 := rfl
    have eS : getF (m0 6) (m0 5 2) a5 1 = noS m0 a5 := rfl
    have eA : getF (m0 6) (m0 5 2) a5 2 = noA m0 a5 := rfl
    have eB : getF (m0 6) (m0 5 2) a5 3 = noB m0 a5 := rfl
    have q1 := hno a5 h0 z
    have q2 := DD_b hr q1.1.1 q1.1.2 c0 cn
    have q3 := hbd a5 h0 h1
    have ekk : (a5 + 1).toNat = a5.toNat + 1 := by omega
    have eka : ((a5.toNat : Nat) : Int) = a5 := by omega
    have hstep : loudF (noA m0) (noB m0) (noS m0) (noC m0) (DD m0) c p q (a5 + 1).toNat = if noA m0 a5 ≤ q ∧ p ≤ noB m0 a5 then max (loudF (noA m0) (noB m0) (noS m0) (noC m0) (DD m0) c p q a5.toNat) (noS m0 a5 - DD m0 (noC m0 a5) c) else loudF (noA m0) (noB m0) (noS m0) (noC m0) (DD m0) c p q a5.toNat := by
      rw [ekk]
      show (if noA m0 ((a5.toNat : Nat) : Int) ≤ q ∧ p ≤ noB m0 ((a5.toNat : Nat) : Int) then _ else _) = _
      rw [eka]
    rw [eC, eS, eA, eB]
    refine ⟨fun y => ⟨by omega, ih _ _ _ _ (by omega) (by omega) (by omega) hF hl (by rw [hstep, if_neg (by omega)]; exact he)⟩, fun y => ⟨fun x => ⟨by omega, ih _ _ _ _ (by omega) (by omega) (by omega) hF hl (by rw [hstep, if_neg (by omega)]; exact he)⟩, fun x => ⟨rdy_fr hF hl hr, q1.1.1, q1.1.2, c0, cn, fun v9 m10 h9 => ?_⟩⟩⟩
    have hs := q1.2.1
    generalize noS m0 a5 = S at hs hstep ⊢
    obtain ⟨hv, hF9, hl9⟩ := h9
    rw [hv]
    generalize DD m0 (noC m0 a5) c = d at q2 hstep ⊢
    refine ⟨by omega, by omega, ih _ _ _ _ (by omega) (by omega) (by omega) (hF.tr hF9) hl9 ?_⟩
    rw [hstep, if_pos ⟨y, x⟩, he]
theorem c_X2_loudWithin {m0 : Mem} {c p q : Int} (hr : rdy m0) (c0 : 0 ≤ c) (cn : c < m0 4 5) : Tot mX2_loudWithin 0 0 [vR 41, vI c, vI p, vI q] SH m0 (Pr SH (anP m0 (ldD m0 c p q))) :=
  v_X2_loudWithin (lw_loop hr c0 cn _ 0 0 _ m0 (by omega) hr.1.2.2.2.2.2.1.1 (Nat.le_refl _) Fr.rf hr.2.2 rfl)
def w_X2_loudOnSheet_5 (s hr : Int) (P : Int → Mem → Prop) (a3 : Int) (a4 : Int) (mem : Mem) : Prop := WP mX2_loudOnSheet none 0 0 (Pr SH P) 5 [vR 41, vI s, vI hr, vI a3, vI a4] [] SH mem
set_option maxRecDepth 20000 in
theorem v_X2_loudOnSheet_5 {s hr : Int} {P : Int → Mem → Prop} {a3 : Int} {a4 : Int} {mem : Mem}  (H : ((mem 4 5) ≤ a4 → P a3 mem) ∧ (a4 < (mem 4 5) → (mem 4 5 ≤ 12) ∧ ((¬ (if 0 ≤ a4 ∧ a4 < mem 4 5 then mem 35 a4.toNat else -9) = s → (inR (a4 + 1)) ∧ (w_X2_loudOnSheet_5 s hr P a3 (a4 + 1) mem)) ∧ ((if 0 ≤ a4 ∧ a4 < mem 4 5 then mem 35 a4.toNat else -9) = s → (rdy mem) ∧ ((0 ≤ a4) ∧ ((a4 < mem 4 5) ∧ (∀ (v6 : Int) (m7 : Mem), anP mem (ldD mem a4 hr hr) v6 m7 → ((inR (a4 + 1)) ∧ (w_X2_loudOnSheet_5 s hr P (max a3 v6) (a4 + 1) m7))))))))) : w_X2_loudOnSheet_5 s hr P a3 a4 mem := by
  unfold w_X2_loudOnSheet_5
  refine q_iload dX2_loudOnSheet_5 rfl ?_
  refine q_aload_n dX2_loudOnSheet_7 rfl ?_
  refine q_getr (r := 4) dX2_loudOnSheet_8 lf_RX2_9 s41 rfl rfl ?_
  refine q_geti dX2_loudOnSheet_11 lf_RX2_45 s4 rfl ?_
  refine q_icmp_ge (tgt := 49) dX2_loudOnSheet_14 (by decide) (fun c14 => ?_) (fun c14 => ?_)
  · have H := H.1 c14
    refine q_iload_n dX2_loudOnSheet_49 rfl ?_
    exact q_iret dX2_loudOnSheet_50 rfl ⟨_, rfl, rfl, H⟩
  · have H := H.2 c14
    refine q_aload_n dX2_loudOnSheet_17 rfl ?_
    refine q_getr (r := 34) dX2_loudOnSheet_18 lf_RX2_15 s41 rfl rfl ?_
    refine q_iload dX2_loudOnSheet_21 rfl ?_
    obtain ⟨h1, H⟩ := H
    refine q_cVi (as := [vI _]) dX2_loudOnSheet_23 kmX1_sheetOn kvX1_sheetOn lm_RX2_49 ⟨by decide, by decide⟩ s34 ⟨by decide, rfl⟩ rfl rfl (Nat.le_of_ble_eq_true rfl) (c_X1_sheetOn h1) (fun v m1 hq => ?_)
    obtain ⟨rfl, rfl⟩ := hq
    refine q_iload_n dX2_loudOnSheet_26 rfl ?_
    refine q_icmp_ne (tgt := 43) dX2_loudOnSheet_27 (by decide) (fun c27 => ?_) (fun c27 => ?_)
    · have H := H.1 c27
      obtain ⟨h2, H⟩ := H
      refine q_iinc dX2_loudOnSheet_43 rfl h2 rfl ?_
      refine q_goto (tgt := 5) dX2_loudOnSheet_46 (by decide) ?_
      exact H
    · have H := H.2 c27
      refine q_iload_n dX2_loudOnSheet_30 rfl ?_
      refine q_aload_n dX2_loudOnSheet_31 rfl ?_
      refine q_iload dX2_loudOnSheet_32 rfl ?_
      refine q_iload_n dX2_loudOnSheet_34 rfl ?_
      refine q_iload_n dX2_loudOnSheet_35 rfl ?_
      obtain ⟨h3, H⟩ := H
      obtain ⟨h4, H⟩ := H
      obtain ⟨h5, H⟩ := H
      refine q_cVi (as := [vI _, vI _, vI _]) dX2_loudOnSheet_36 kmX2_loudWithin kvX2_loudWithin lm_RX2_53 ⟨by decide, by decide⟩ s41 ⟨by decide, rfl⟩ rfl rfl (Nat.le_of_ble_eq_true rfl) (c_X2_loudWithin h3 h4 h5) (fun v m1 hq => ?_)
      have H := H v m1 hq
      refine q_max dX2_loudOnSheet_39 lm_RX2_25 k_max (by decide) (Nat.le_of_ble_eq_true rfl) ?_
      refine q_istore_n dX2_loudOnSheet_42 (by decide) rfl ?_
      obtain ⟨h8, H⟩ := H
      refine q_iinc dX2_loudOnSheet_43 rfl h8 rfl ?_
      refine q_goto (tgt := 5) dX2_loudOnSheet_46 (by decide) ?_
      exact H
set_option maxRecDepth 20000 in
theorem v_X2_loudOnSheet {s hr : Int} {P : Int → Mem → Prop} {mem : Mem}  (H : w_X2_loudOnSheet_5 s hr P 0 0 mem) : Tot mX2_loudOnSheet 0 0 [vR 41, vI s, vI hr] SH mem (Pr SH P) := by
  refine Tot.of rfl (Nat.le_of_ble_eq_true rfl) (by simp [isJ]) (ls := [vR 41, vI s, vI hr, vJ 0, vJ 0]) rfl ?_
  refine q_iconst dX2_loudOnSheet_0 (by decide) ?_
  refine q_istore_n dX2_loudOnSheet_1 (by decide) rfl ?_
  refine q_iconst dX2_loudOnSheet_2 (by decide) ?_
  refine q_istore dX2_loudOnSheet_3 (by decide) rfl ?_
  exact H

def w_X2_loudInRooms_12 (P : Int → Mem → Prop) (a2 : Int) (a3 : Int) (mem : Mem) : Prop := WP mX2_loudInRooms none 0 0 (Pr SH P) 12 [vR 41, vR 9, vI a2, vI a3] [] SH mem
set_option maxRecDepth 20000 in
theorem v_X2_loudInRooms_12 {P : Int → Mem → Prop} {a2 : Int} {a3 : Int} {mem : Mem}  (H : ((mem 9 2) ≤ a3 → P a2 mem) ∧ (a3 < (mem 9 2) → (mem 9 2 * 4 ≤ 12) ∧ ((rdy mem) ∧ ((0 ≤ (getF (mem 10) (mem 9 2) a3 0)) ∧ (((getF (mem 10) (mem 9 2) a3 0) < mem 4 5) ∧ (∀ (v5 : Int) (m6 : Mem), anP mem (ldD mem (getF (mem 10) (mem 9 2) a3 0) (getF (mem 10) (mem 9 2) a3 1) (getF (mem 10) (mem 9 2) a3 2)) v5 m6 → ((inR (a2 + v5)) ∧ ((inR (a3 + 1)) ∧ (w_X2_loudInRooms_12 P (a2 + v5) (a3 + 1) m6))))))))) : w_X2_loudInRooms_12 P a2 a3 mem := by
  unfold w_X2_loudInRooms_12
  refine q_iload_n dX2_loudInRooms_12 rfl ?_
  refine q_aload_n dX2_loudInRooms_13 rfl ?_
  refine q_cVi (as := []) dX2_loudInRooms_14 kmX6_size kvX6_size lm_RX2_36 ⟨by decide, by decide⟩ s9 ⟨by decide, rfl⟩ rfl rfl (Nat.le_of_ble_eq_true rfl) (c_X6_size s9) (fun v m1 hq => ?_)
  obtain ⟨rfl, rfl⟩ := hq
  refine q_icmp_ge (tgt := 51) dX2_loudInRooms_17 (by decide) (fun c17 => ?_) (fun c17 => ?_)
  · have H := H.1 c17
    refine q_iload_n dX2_loudInRooms_51 rfl ?_
    exact q_iret dX2_loudInRooms_52 rfl ⟨_, rfl, rfl, H⟩
  · have H := H.2 c17
    refine q_iload_n dX2_loudInRooms_20 rfl ?_
    refine q_aload_n dX2_loudInRooms_21 rfl ?_
    refine q_aload_n dX2_loudInRooms_22 rfl ?_
    refine q_iload_n dX2_loudInRooms_23 rfl ?_
    refine q_iconst dX2_loudInRooms_24 (by decide) ?_
    obtain ⟨h1, H⟩ := H
    refine q_cVi (as := [vI _, vI _]) dX2_loudInRooms_25 kmX6_get kvX6_get lm_RX2_42 ⟨by decide, by decide⟩ s9 ⟨by decide, rfl⟩ rfl rfl (Nat.le_of_ble_eq_true rfl) (c_X6_get s9 s10 h1) (fun v m1 hq => ?_)
    obtain ⟨rfl, rfl⟩ := hq
    refine q_aload_n dX2_loudInRooms_28 rfl ?_
    refine q_iload_n dX2_loudInRooms_29 rfl ?_
    refine q_iconst dX2_loudInRooms_30 (by decide) ?_
    refine q_cVi (as := [vI _, vI _]) dX2_loudInRooms_31 kmX6_get kvX6_get lm_RX2_42 ⟨by decide, by decide⟩ s9 ⟨by decide, rfl⟩ rfl rfl (Nat.le_of_ble_eq_true rfl) (c_X6_get s9 s10 h1) (fun v m1 hq => ?_)
    obtain ⟨rfl, rfl⟩ := hq
    refine q_aload_n dX2_loudInRooms_34 rfl ?_
    refine q_iload_n dX2_loudInRooms_35 rfl ?_
    refine q_iconst dX2_loudInRooms_36 (by decide) ?_
    refine q_cVi (as := [vI _, vI _]) dX2_loudInRooms_37 kmX6_get kvX6_get lm_RX2_42 ⟨by decide, by decide⟩ s9 ⟨by decide, rfl⟩ rfl rfl (Nat.le_of_ble_eq_true rfl) (c_X6_get s9 s10 h1) (fun v m1 hq => ?_)
    obtain ⟨rfl, rfl⟩ := hq
    obtain ⟨h2, H⟩ := H
    obtain ⟨h3, H⟩ := H
    obtain ⟨h4, H⟩ := H
    refine q_cVi (as := [vI _, vI _, vI _]) dX2_loudInRooms_40 kmX2_loudWithin kvX2_loudWithin lm_RX2_53 ⟨by decide, by decide⟩ s41 ⟨by decide, rfl⟩ rfl rfl (Nat.le_of_ble_eq_true rfl) (c_X2_loudWithin h2 h3 h4) (fun v m1 hq => ?_)
    have H := H v m1 hq
    obtain ⟨h7, H⟩ := H
    refine q_iadd dX2_loudInRooms_43 h7 ?_
    refine q_istore_n dX2_loudInRooms_44 (by decide) rfl ?_
    obtain ⟨h8, H⟩ := H
    refine q_iinc dX2_loudInRooms_45 rfl h8 rfl ?_
    refine q_goto (tgt := 12) dX2_loudInRooms_48 (by decide) ?_
    exact H
set_option maxRecDepth 20000 in
theorem v_X2_loudInRooms {P : Int → Mem → Prop} {mem : Mem}  (H : w_X2_loudInRooms_12 P 0 0 mem) : Tot mX2_loudInRooms 0 0 [vR 41] SH mem (Pr SH P) := by
  refine Tot.of rfl (Nat.le_of_ble_eq_true rfl) (by simp [isJ]) (ls := [vR 41, vJ 0, vJ 0, vJ 0]) rfl ?_
  refine q_aload_n dX2_loudInRooms_0 rfl ?_
  refine q_getr (r := 4) dX2_loudInRooms_1 lf_RX2_9 s41 rfl rfl ?_
  refine q_getr (r := 9) dX2_loudInRooms_4 lf_RX2_57 s4 rfl rfl ?_
  refine q_astore_n dX2_loudInRooms_7 (by decide) rfl ?_
  refine q_iconst dX2_loudInRooms_8 (by decide) ?_
  refine q_istore_n dX2_loudInRooms_9 (by decide) rfl ?_
  refine q_iconst dX2_loudInRooms_10 (by decide) ?_
  refine q_istore_n dX2_loudInRooms_11 (by decide) rfl ?_
  exact H

def w_X2_firstWaked_10 (P : Int → Mem → Prop) (a2 : Int) (u3 : Vl) (mem : Mem) : Prop := WP mX2_firstWaked none 0 0 (Pr SH P) 10 [vR 41, vR 9, vI a2, u3] [] SH mem
set_option maxRecDepth 20000 in
theorem v_X2_firstWaked_10 {P : Int → Mem → Prop} {a2 : Int} {u3 : Vl} {mem : Mem}  (H : ((mem 9 2) ≤ a2 → P (-9) mem) ∧ (a2 < (mem 9 2) → (mem 9 2 * 4 ≤ 12) ∧ ((rdy mem) ∧ ((0 ≤ (getF (mem 10) (mem 9 2) a2 0)) ∧ (((getF (mem 10) (mem 9 2) a2 0) < mem 4 5) ∧ (∀ (v5 : Int) (m6 : Mem), anP mem (ldD mem (getF (mem 10) (mem 9 2) a2 0) (getF (mem 10) (mem 9 2) a2 1) (getF (mem 10) (mem 9 2) a2 2)) v5 m6 → ((m6 9 2 * 4 ≤ 12) ∧ ((v5 ≤ (getF (m6 10) (m6 9 2) a2 3) → (inR (a2 + 1)) ∧ (w_X2_firstWaked_10 P (a2 + 1) (vI v5) m6)) ∧ ((getF (m6 10) (m6 9 2) a2 3) < v5 → P a2 m6))))))))) : w_X2_firstWaked_10 P a2 u3 mem := by
  unfold w_X2_firstWaked_10
  refine q_iload_n dX2_firstWaked_10 rfl ?_
  refine q_aload_n dX2_firstWaked_11 rfl ?_
  refine q_cVi (as := []) dX2_firstWaked_12 kmX6_size kvX6_size lm_RX2_36 ⟨by decide, by decide⟩ s9 ⟨by decide, rfl⟩ rfl rfl (Nat.le_of_ble_eq_true rfl) (c_X6_size s9) (fun v m1 hq => ?_)
  obtain ⟨rfl, rfl⟩ := hq
  refine q_icmp_ge (tgt := 59) dX2_firstWaked_15 (by decide) (fun c15 => ?_) (fun c15 => ?_)
  · have H := H.1 c15
    refine q_bipush dX2_firstWaked_59 rfl (by decide) ?_
    exact q_iret dX2_firstWaked_61 rfl ⟨_, rfl, rfl, H⟩
  · have H := H.2 c15
    refine q_aload_n dX2_firstWaked_18 rfl ?_
    refine q_aload_n dX2_firstWaked_19 rfl ?_
    refine q_iload_n dX2_firstWaked_20 rfl ?_
    refine q_iconst dX2_firstWaked_21 (by decide) ?_
    obtain ⟨h1, H⟩ := H
    refine q_cVi (as := [vI _, vI _]) dX2_firstWaked_22 kmX6_get kvX6_get lm_RX2_42 ⟨by decide, by decide⟩ s9 ⟨by decide, rfl⟩ rfl rfl (Nat.le_of_ble_eq_true rfl) (c_X6_get s9 s10 h1) (fun v m1 hq => ?_)
    obtain ⟨rfl, rfl⟩ := hq
    refine q_aload_n dX2_firstWaked_25 rfl ?_
    refine q_iload_n dX2_firstWaked_26 rfl ?_
    refine q_iconst dX2_firstWaked_27 (by decide) ?_
    refine q_cVi (as := [vI _, vI _]) dX2_firstWaked_28 kmX6_get kvX6_get lm_RX2_42 ⟨by decide, by decide⟩ s9 ⟨by decide, rfl⟩ rfl rfl (Nat.le_of_ble_eq_true rfl) (c_X6_get s9 s10 h1) (fun v m1 hq => ?_)
    obtain ⟨rfl, rfl⟩ := hq
    refine q_aload_n dX2_firstWaked_31 rfl ?_
    refine q_iload_n dX2_firstWaked_32 rfl ?_
    refine q_iconst dX2_firstWaked_33 (by decide) ?_
    refine q_cVi (as := [vI _, vI _]) dX2_firstWaked_34 kmX6_get kvX6_get lm_RX2_42 ⟨by decide, by decide⟩ s9 ⟨by decide, rfl⟩ rfl rfl (Nat.le_of_ble_eq_true rfl) (c_X6_get s9 s10 h1) (fun v m1 hq => ?_)
    obtain ⟨rfl, rfl⟩ := hq
    obtain ⟨h2, H⟩ := H
    obtain ⟨h3, H⟩ := H
    obtain ⟨h4, H⟩ := H
    refine q_cVi (as := [vI _, vI _, vI _]) dX2_firstWaked_37 kmX2_loudWithin kvX2_loudWithin lm_RX2_53 ⟨by decide, by decide⟩ s41 ⟨by decide, rfl⟩ rfl rfl (Nat.le_of_ble_eq_true rfl) (c_X2_loudWithin h2 h3 h4) (fun v m1 hq => ?_)
    have H := H v m1 hq
    refine q_istore_n dX2_firstWaked_40 (by decide) rfl ?_
    refine q_iload_n dX2_firstWaked_41 rfl ?_
    refine q_aload_n dX2_firstWaked_42 rfl ?_
    refine q_iload_n dX2_firstWaked_43 rfl ?_
    refine q_iconst dX2_firstWaked_44 (by decide) ?_
    obtain ⟨h7, H⟩ := H
    refine q_cVi (as := [vI _, vI _]) dX2_firstWaked_45 kmX6_get kvX6_get lm_RX2_42 ⟨by decide, by decide⟩ s9 ⟨by decide, rfl⟩ rfl rfl (Nat.le_of_ble_eq_true rfl) (c_X6_get s9 s10 h7) (fun v m1 hq => ?_)
    obtain ⟨rfl, rfl⟩ := hq
    refine q_icmp_le (tgt := 53) dX2_firstWaked_48 (by decide) (fun c48 => ?_) (fun c48 => ?_)
    · have H := H.1 c48
      obtain ⟨h8, H⟩ := H
      refine q_iinc dX2_firstWaked_53 rfl h8 rfl ?_
      refine q_goto (tgt := 10) dX2_firstWaked_56 (by decide) ?_
      exact H
    · have H := H.2 c48
      refine q_iload_n dX2_firstWaked_51 rfl ?_
      exact q_iret dX2_firstWaked_52 rfl ⟨_, rfl, rfl, H⟩
set_option maxRecDepth 20000 in
theorem v_X2_firstWaked {P : Int → Mem → Prop} {mem : Mem}  (H : w_X2_firstWaked_10 P 0 (vJ 0) mem) : Tot mX2_firstWaked 0 0 [vR 41] SH mem (Pr SH P) := by
  refine Tot.of rfl (Nat.le_of_ble_eq_true rfl) (by simp [isJ]) (ls := [vR 41, vJ 0, vJ 0, vJ 0]) rfl ?_
  refine q_aload_n dX2_firstWaked_0 rfl ?_
  refine q_getr (r := 4) dX2_firstWaked_1 lf_RX2_9 s41 rfl rfl ?_
  refine q_getr (r := 9) dX2_firstWaked_4 lf_RX2_57 s4 rfl rfl ?_
  refine q_astore_n dX2_firstWaked_7 (by decide) rfl ?_
  refine q_iconst dX2_firstWaked_8 (by decide) ?_
  refine q_istore_n dX2_firstWaked_9 (by decide) rfl ?_
  exact H

def w_X2_firstLoudHour_13 (r : Int) (P : Int → Mem → Prop) (a2 : Int) (mem : Mem) : Prop := WP mX2_firstLoudHour none 0 0 (Pr SH P) 13 [vR 41, vI r, vI a2] [] SH mem
set_option maxRecDepth 20000 in
theorem v_X2_firstLoudHour_13 {r : Int} {P : Int → Mem → Prop} {a2 : Int} {mem : Mem}  (H : (24 ≤ a2 → P (-9) mem) ∧ (a2 < 24 → (mem 9 2 * 4 ≤ 12) ∧ ((rdy mem) ∧ ((0 ≤ (getF (mem 10) (mem 9 2) r 0)) ∧ (((getF (mem 10) (mem 9 2) r 0) < mem 4 5) ∧ (∀ (v5 : Int) (m6 : Mem), anP mem (ldD mem (getF (mem 10) (mem 9 2) r 0) a2 a2) v5 m6 → ((m6 9 2 * 4 ≤ 12) ∧ ((v5 ≤ (getF (m6 10) (m6 9 2) r 3) → (inR (a2 + 1)) ∧ (w_X2_firstLoudHour_13 r P (a2 + 1) m6)) ∧ ((getF (m6 10) (m6 9 2) r 3) < v5 → P a2 m6))))))))) : w_X2_firstLoudHour_13 r P a2 mem := by
  unfold w_X2_firstLoudHour_13
  refine q_iload_n dX2_firstLoudHour_13 rfl ?_
  refine q_bipush dX2_firstLoudHour_14 rfl (by decide) ?_
  refine q_icmp_ge (tgt := 60) dX2_firstLoudHour_16 (by decide) (fun c16 => ?_) (fun c16 => ?_)
  · have H := H.1 c16
    refine q_bipush dX2_firstLoudHour_60 rfl (by decide) ?_
    exact q_iret dX2_firstLoudHour_62 rfl ⟨_, rfl, rfl, H⟩
  · have H := H.2 c16
    refine q_aload_n dX2_firstLoudHour_19 rfl ?_
    refine q_aload_n dX2_firstLoudHour_20 rfl ?_
    refine q_getr (r := 4) dX2_firstLoudHour_21 lf_RX2_9 s41 rfl rfl ?_
    refine q_getr (r := 9) dX2_firstLoudHour_24 lf_RX2_57 s4 rfl rfl ?_
    refine q_iload_n dX2_firstLoudHour_27 rfl ?_
    refine q_iconst dX2_firstLoudHour_28 (by decide) ?_
    obtain ⟨h1, H⟩ := H
    refine q_cVi (as := [vI _, vI _]) dX2_firstLoudHour_29 kmX6_get kvX6_get lm_RX2_42 ⟨by decide, by decide⟩ s9 ⟨by decide, rfl⟩ rfl rfl (Nat.le_of_ble_eq_true rfl) (c_X6_get s9 s10 h1) (fun v m1 hq => ?_)
    obtain ⟨rfl, rfl⟩ := hq
    refine q_iload_n dX2_firstLoudHour_32 rfl ?_
    refine q_iload_n dX2_firstLoudHour_33 rfl ?_
    obtain ⟨h2, H⟩ := H
    obtain ⟨h3, H⟩ := H
    obtain ⟨h4, H⟩ := H
    refine q_cVi (as := [vI _, vI _, vI _]) dX2_firstLoudHour_34 kmX2_loudWithin kvX2_loudWithin lm_RX2_53 ⟨by decide, by decide⟩ s41 ⟨by decide, rfl⟩ rfl rfl (Nat.le_of_ble_eq_true rfl) (c_X2_loudWithin h2 h3 h4) (fun v m1 hq => ?_)
    have H := H v m1 hq
    refine q_aload_n dX2_firstLoudHour_37 rfl ?_
    refine q_getr (r := 4) dX2_firstLoudHour_38 lf_RX2_9 s41 rfl rfl ?_
    refine q_getr (r := 9) dX2_firstLoudHour_41 lf_RX2_57 s4 rfl rfl ?_
    refine q_iload_n dX2_firstLoudHour_44 rfl ?_
    refine q_iconst dX2_firstLoudHour_45 (by decide) ?_
    obtain ⟨h7, H⟩ := H
    refine q_cVi (as := [vI _, vI _]) dX2_firstLoudHour_46 kmX6_get kvX6_get lm_RX2_42 ⟨by decide, by decide⟩ s9 ⟨by decide, rfl⟩ rfl rfl (Nat.le_of_ble_eq_true rfl) (c_X6_get s9 s10 h7) (fun v m1 hq => ?_)
    obtain ⟨rfl, rfl⟩ := hq
    refine q_icmp_le (tgt := 54) dX2_firstLoudHour_49 (by decide) (fun c49 => ?_) (fun c49 => ?_)
    · have H := H.1 c49
      obtain ⟨h8, H⟩ := H
      refine q_iinc dX2_firstLoudHour_54 rfl h8 rfl ?_
      refine q_goto (tgt := 13) dX2_firstLoudHour_57 (by decide) ?_
      exact H
    · have H := H.2 c49
      refine q_iload_n dX2_firstLoudHour_52 rfl ?_
      exact q_iret dX2_firstLoudHour_53 rfl ⟨_, rfl, rfl, H⟩
set_option maxRecDepth 20000 in
theorem v_X2_firstLoudHour {r : Int} {P : Int → Mem → Prop} {mem : Mem}  (H : (mem 9 2 * 4 ≤ 12) ∧ (w_X2_firstLoudHour_13 r P (getF (mem 10) (mem 9 2) r 1) mem)) : Tot mX2_firstLoudHour 0 0 [vR 41, vI r] SH mem (Pr SH P) := by
  refine Tot.of rfl (Nat.le_of_ble_eq_true rfl) (by simp [isJ]) (ls := [vR 41, vI r, vJ 0]) rfl ?_
  refine q_aload_n dX2_firstLoudHour_0 rfl ?_
  refine q_getr (r := 4) dX2_firstLoudHour_1 lf_RX2_9 s41 rfl rfl ?_
  refine q_getr (r := 9) dX2_firstLoudHour_4 lf_RX2_57 s4 rfl rfl ?_
  refine q_iload_n dX2_firstLoudHour_7 rfl ?_
  refine q_iconst dX2_firstLoudHour_8 (by decide) ?_
  obtain ⟨h1, H⟩ := H
  refine q_cVi (as := [vI _, vI _]) dX2_firstLoudHour_9 kmX6_get kvX6_get lm_RX2_42 ⟨by decide, by decide⟩ s9 ⟨by decide, rfl⟩ rfl rfl (Nat.le_of_ble_eq_true rfl) (c_X6_get s9 s10 h1) (fun v m1 hq => ?_)
  obtain ⟨rfl, rfl⟩ := hq
  refine q_istore_n dX2_firstLoudHour_12 (by decide) rfl ?_
  exact H

set_option maxRecDepth 20000 in
theorem v_X2_wakes {n r : Int} {P : Int → Mem → Prop} {mem : Mem}  (H : (mem 5 2 * 4 ≤ 12) ∧ ((mem 9 2 * 4 ≤ 12) ∧ ((rdy mem) ∧ ((0 ≤ (getF (mem 6) (mem 5 2) n 1)) ∧ (((getF (mem 6) (mem 5 2) n 1) ≤ 99) ∧ ((0 ≤ (getF (mem 6) (mem 5 2) n 0)) ∧ (((getF (mem 6) (mem 5 2) n 0) < mem 4 5) ∧ ((0 ≤ (getF (mem 10) (mem 9 2) r 0)) ∧ (((getF (mem 10) (mem 9 2) r 0) < mem 4 5) ∧ (∀ (v10 : Int) (m11 : Mem), anP mem (max 0 ((getF (mem 6) (mem 5 2) n 1) - DD mem (getF (mem 6) (mem 5 2) n 0) (getF (mem 10) (mem 9 2) r 0))) v10 m11 → ((m11 9 2 * 4 ≤ 12) ∧ ((v10 ≤ (getF (m11 10) (m11 9 2) r 3) → P 0 m11) ∧ ((getF (m11 10) (m11 9 2) r 3) < v10 → P 1 m11))))))))))))) : Tot mX2_wakes 0 0 [vR 41, vI n, vI r] SH mem (Pr SH P) := by
  refine Tot.of rfl (Nat.le_of_ble_eq_true rfl) (by simp [isJ]) (ls := [vR 41, vI n, vI r, vJ 0]) rfl ?_
  refine q_aload_n dX2_wakes_0 rfl ?_
  refine q_aload_n dX2_wakes_1 rfl ?_
  refine q_getr (r := 4) dX2_wakes_2 lf_RX2_9 s41 rfl rfl ?_
  refine q_getr (r := 5) dX2_wakes_5 lf_RX2_30 s4 rfl rfl ?_
  refine q_iload_n dX2_wakes_8 rfl ?_
  refine q_iconst dX2_wakes_9 (by decide) ?_
  obtain ⟨h1, H⟩ := H
  refine q_cVi (as := [vI _, vI _]) dX2_wakes_10 kmX6_get kvX6_get lm_RX2_42 ⟨by decide, by decide⟩ s5 ⟨by decide, rfl⟩ rfl rfl (Nat.le_of_ble_eq_true rfl) (c_X6_get s5 s6 h1) (fun v m1 hq => ?_)
  obtain ⟨rfl, rfl⟩ := hq
  refine q_aload_n dX2_wakes_13 rfl ?_
  refine q_getr (r := 4) dX2_wakes_14 lf_RX2_9 s41 rfl rfl ?_
  refine q_getr (r := 5) dX2_wakes_17 lf_RX2_30 s4 rfl rfl ?_
  refine q_iload_n dX2_wakes_20 rfl ?_
  refine q_iconst dX2_wakes_21 (by decide) ?_
  refine q_cVi (as := [vI _, vI _]) dX2_wakes_22 kmX6_get kvX6_get lm_RX2_42 ⟨by decide, by decide⟩ s5 ⟨by decide, rfl⟩ rfl rfl (Nat.le_of_ble_eq_true rfl) (c_X6_get s5 s6 h1) (fun v m1 hq => ?_)
  obtain ⟨rfl, rfl⟩ := hq
  refine q_aload_n dX2_wakes_25 rfl ?_
  refine q_getr (r := 4) dX2_wakes_26 lf_RX2_9 s41 rfl rfl ?_
  refine q_getr (r := 9) dX2_wakes_29 lf_RX2_57 s4 rfl rfl ?_
  refine q_iload_n dX2_wakes_32 rfl ?_
  refine q_iconst dX2_wakes_33 (by decide) ?_
  obtain ⟨h2, H⟩ := H
  refine q_cVi (as := [vI _, vI _]) dX2_wakes_34 kmX6_get kvX6_get lm_RX2_42 ⟨by decide, by decide⟩ s9 ⟨by decide, rfl⟩ rfl rfl (Nat.le_of_ble_eq_true rfl) (c_X6_get s9 s10 h2) (fun v m1 hq => ?_)
  obtain ⟨rfl, rfl⟩ := hq
  obtain ⟨h3, H⟩ := H
  obtain ⟨h4, H⟩ := H
  obtain ⟨h5, H⟩ := H
  obtain ⟨h6, H⟩ := H
  obtain ⟨h7, H⟩ := H
  obtain ⟨h8, H⟩ := H
  obtain ⟨h9, H⟩ := H
  refine q_cVi (as := [vI _, vI _, vI _]) dX2_wakes_37 kmX2_loudBy kvX2_loudBy lm_RX2_60 ⟨by decide, by decide⟩ s41 ⟨by decide, rfl⟩ rfl rfl (Nat.le_of_ble_eq_true rfl) (c_X2_loudBy h3 h4 h5 h6 h7 h8 h9) (fun v m1 hq => ?_)
  have H := H v m1 hq
  refine q_istore_n dX2_wakes_40 (by decide) rfl ?_
  refine q_iload_n dX2_wakes_41 rfl ?_
  refine q_aload_n dX2_wakes_42 rfl ?_
  refine q_getr (r := 4) dX2_wakes_43 lf_RX2_9 s41 rfl rfl ?_
  refine q_getr (r := 9) dX2_wakes_46 lf_RX2_57 s4 rfl rfl ?_
  refine q_iload_n dX2_wakes_49 rfl ?_
  refine q_iconst dX2_wakes_50 (by decide) ?_
  obtain ⟨h12, H⟩ := H
  refine q_cVi (as := [vI _, vI _]) dX2_wakes_51 kmX6_get kvX6_get lm_RX2_42 ⟨by decide, by decide⟩ s9 ⟨by decide, rfl⟩ rfl rfl (Nat.le_of_ble_eq_true rfl) (c_X6_get s9 s10 h12) (fun v m1 hq => ?_)
  obtain ⟨rfl, rfl⟩ := hq
  refine q_icmp_le (tgt := 61) dX2_wakes_54 (by decide) (fun c54 => ?_) (fun c54 => ?_)
  · have H := H.1 c54
    refine q_iconst dX2_wakes_61 (by decide) ?_
    exact q_zret dX2_wakes_62 rfl (by decide) ⟨_, rfl, rfl, H⟩
  · have H := H.2 c54
    refine q_iconst dX2_wakes_57 (by decide) ?_
    refine q_goto (tgt := 62) dX2_wakes_58 (by decide) ?_
    exact q_zret dX2_wakes_62 rfl (by decide) ⟨_, rfl, rfl, H⟩

def w_X2_isUnheard_2 (c n : Int) (P : Int → Mem → Prop) (a3 : Int) (mem : Mem) : Prop := WP mX2_isUnheard none 0 0 (Pr SH P) 2 [vR 41, vI c, vI n, vI a3] [] SH mem
set_option maxRecDepth 20000 in
theorem v_X2_isUnheard_2 {c n : Int} {P : Int → Mem → Prop} {a3 : Int} {mem : Mem}  (H : ((mem 9 2) ≤ a3 → P 1 mem) ∧ (a3 < (mem 9 2) → (mem 9 2 * 4 ≤ 12) ∧ ((rdy mem) ∧ ((0 ≤ n) ∧ ((n ≤ 99) ∧ ((0 ≤ c) ∧ ((c < mem 4 5) ∧ ((0 ≤ (getF (mem 10) (mem 9 2) a3 0)) ∧ (((getF (mem 10) (mem 9 2) a3 0) < mem 4 5) ∧ (∀ (v9 : Int) (m10 : Mem), anP mem (max 0 (n - DD mem c (getF (mem 10) (mem 9 2) a3 0))) v9 m10 → ((m10 9 2 * 4 ≤ 12) ∧ ((v9 ≤ (getF (m10 10) (m10 9 2) a3 3) → (inR (a3 + 1)) ∧ (w_X2_isUnheard_2 c n P (a3 + 1) m10)) ∧ ((getF (m10 10) (m10 9 2) a3 3) < v9 → P 0 m10))))))))))))) : w_X2_isUnheard_2 c n P a3 mem := by
  unfold w_X2_isUnheard_2
  refine q_iload_n dX2_isUnheard_2 rfl ?_
  refine q_aload_n dX2_isUnheard_3 rfl ?_
  refine q_getr (r := 4) dX2_isUnheard_4 lf_RX2_9 s41 rfl rfl ?_
  refine q_getr (r := 9) dX2_isUnheard_7 lf_RX2_57 s4 rfl rfl ?_
  refine q_cVi (as := []) dX2_isUnheard_10 kmX6_size kvX6_size lm_RX2_36 ⟨by decide, by decide⟩ s9 ⟨by decide, rfl⟩ rfl rfl (Nat.le_of_ble_eq_true rfl) (c_X6_size s9) (fun v m1 hq => ?_)
  obtain ⟨rfl, rfl⟩ := hq
  refine q_icmp_ge (tgt := 57) dX2_isUnheard_13 (by decide) (fun c13 => ?_) (fun c13 => ?_)
  · have H := H.1 c13
    refine q_iconst dX2_isUnheard_57 (by decide) ?_
    exact q_zret dX2_isUnheard_58 rfl (by decide) ⟨_, rfl, rfl, H⟩
  · have H := H.2 c13
    refine q_aload_n dX2_isUnheard_16 rfl ?_
    refine q_iload_n dX2_isUnheard_17 rfl ?_
    refine q_iload_n dX2_isUnheard_18 rfl ?_
    refine q_aload_n dX2_isUnheard_19 rfl ?_
    refine q_getr (r := 4) dX2_isUnheard_20 lf_RX2_9 s41 rfl rfl ?_
    refine q_getr (r := 9) dX2_isUnheard_23 lf_RX2_57 s4 rfl rfl ?_
    refine q_iload_n dX2_isUnheard_26 rfl ?_
    refine q_iconst dX2_isUnheard_27 (by decide) ?_
    obtain ⟨h1, H⟩ := H
    refine q_cVi (as := [vI _, vI _]) dX2_isUnheard_28 kmX6_get kvX6_get lm_RX2_42 ⟨by decide, by decide⟩ s9 ⟨by decide, rfl⟩ rfl rfl (Nat.le_of_ble_eq_true rfl) (c_X6_get s9 s10 h1) (fun v m1 hq => ?_)
    obtain ⟨rfl, rfl⟩ := hq
    obtain ⟨h2, H⟩ := H
    obtain ⟨h3, H⟩ := H
    obtain ⟨h4, H⟩ := H
    obtain ⟨h5, H⟩ := H
    obtain ⟨h6, H⟩ := H
    obtain ⟨h7, H⟩ := H
    obtain ⟨h8, H⟩ := H
    refine q_cVi (as := [vI _, vI _, vI _]) dX2_isUnheard_31 kmX2_loudBy kvX2_loudBy lm_RX2_60 ⟨by decide, by decide⟩ s41 ⟨by decide, rfl⟩ rfl rfl (Nat.le_of_ble_eq_true rfl) (c_X2_loudBy h2 h3 h4 h5 h6 h7 h8) (fun v m1 hq => ?_)
    have H := H v m1 hq
    refine q_aload_n dX2_isUnheard_34 rfl ?_
    refine q_getr (r := 4) dX2_isUnheard_35 lf_RX2_9 s41 rfl rfl ?_
    refine q_getr (r := 9) dX2_isUnheard_38 lf_RX2_57 s4 rfl rfl ?_
    refine q_iload_n dX2_isUnheard_41 rfl ?_
    refine q_iconst dX2_isUnheard_42 (by decide) ?_
    obtain ⟨h11, H⟩ := H
    refine q_cVi (as := [vI _, vI _]) dX2_isUnheard_43 kmX6_get kvX6_get lm_RX2_42 ⟨by decide, by decide⟩ s9 ⟨by decide, rfl⟩ rfl rfl (Nat.le_of_ble_eq_true rfl) (c_X6_get s9 s10 h11) (fun v m1 hq => ?_)
    obtain ⟨rfl, rfl⟩ := hq
    refine q_icmp_le (tgt := 51) dX2_isUnheard_46 (by decide) (fun c46 => ?_) (fun c46 => ?_)
    · have H := H.1 c46
      obtain ⟨h12, H⟩ := H
      refine q_iinc dX2_isUnheard_51 rfl h12 rfl ?_
      refine q_goto (tgt := 2) dX2_isUnheard_54 (by decide) ?_
      exact H
    · have H := H.2 c46
      refine q_iconst dX2_isUnheard_49 (by decide) ?_
      exact q_zret dX2_isUnheard_50 rfl (by decide) ⟨_, rfl, rfl, H⟩
set_option maxRecDepth 20000 in
theorem v_X2_isUnheard {c n : Int} {P : Int → Mem → Prop} {mem : Mem}  (H : w_X2_isUnheard_2 c n P 0 mem) : Tot mX2_isUnheard 0 0 [vR 41, vI c, vI n] SH mem (Pr SH P) := by
  refine Tot.of rfl (Nat.le_of_ble_eq_true rfl) (by simp [isJ]) (ls := [vR 41, vI c, vI n, vJ 0]) rfl ?_
  refine q_iconst dX2_isUnheard_0 (by decide) ?_
  refine q_istore_n dX2_isUnheard_1 (by decide) rfl ?_
  exact H


