/-! wakes, isUnheard; an hour goes by in the class -/
theorem c_X2_wakes {m0 : Mem} {n r : Int} (hy : rdy m0) (n0 : 0 ≤ n) (nn : n < m0 5 2) (r0 : 0 ≤ r) (rn : r < m0 9 2) : Tot mX2_wakes 0 0 [vR 41, vI n, vI r] SH m0 (Pr SH (anP m0 (if roM m0 r < max 0 (noS m0 n - DD m0 (noC m0 n) (roC m0 r)) then 1 else 0))) := by
  have h5 := hy.1.2.2.2.2.2.1
  have h9 := hy.1.2.2.2.2.2.2.2.1
  have q := hy.1.2.2.2.2.2.2.2.2.2.2 r r0 rn
  have p := hy.1.2.2.2.2.2.2.2.2.1 n n0 nn
  refine v_X2_wakes ⟨by omega, by omega, hy, Int.le_trans (by decide) p.2.1.1, p.2.1.2, p.1.1, p.1.2, q.1.1, q.1.2, fun v m h => ?_⟩
  have hv : v = max 0 (noS m0 n - DD m0 (noC m0 n) (roC m0 r)) := h.1
  rw [h.2.1.at 9, h.2.1.at 10]
  refine ⟨by omega, fun y => ⟨?_, h.2.1, h.2.2⟩, fun y => ⟨?_, h.2.1, h.2.2⟩⟩
  · have y' : v ≤ roM m0 r := y
    rw [← hv, if_neg (Int.not_lt.mpr y')]
  · have y' : roM m0 r < v := y
    rw [← hv, if_pos y']
abbrev unhP (m : Mem) (c n : Int) : Prop := ∀ r : Int, 0 ≤ r → r < m 9 2 → max 0 (n - DD m c (roC m r)) ≤ roM m r
theorem unh_loop {m0 : Mem} {c n : Int} (hy : rdy m0) (c0 : 0 ≤ c) (cn : c < m0 4 5) (n0 : 0 ≤ n) (n1 : n ≤ 99) :
    ∀ (k : Nat) (a3 : Int) (m : Mem), 0 ≤ a3 → a3 ≤ m0 9 2 → (m0 9 2 - a3).toNat ≤ k → Fr [39, 40] m0 m → losOK m → (∀ i : Int, 0 ≤ i → i < a3 → max 0 (n - DD m0 c (roC m0 i)) ≤ roM m0 i) → w_X2_isUnheard_2 c n (anQ m0 (fun v => (unhP m0 c n ∧ v = 1) ∨ (¬ unhP m0 c n ∧ v = 0))) a3 m := by
  have h9 := hy.1.2.2.2.2.2.2.2.1
  have hro := hy.1.2.2.2.2.2.2.2.2.2.2
  intro k
  induction k with
  | zero =>
    intro a3 m h0 h1 hk hF hl he
    refine v_X2_isUnheard_2 ?_
    rw [hF.at 9]
    exact ⟨fun z => ⟨Or.inl ⟨fun i i0 i1 => he i i0 (by omega), rfl⟩, hF, hl⟩, fun z => by omega⟩
  | succ k ih =>
    intro a3 m h0 h1 hk hF hl he
    refine v_X2_isUnheard_2 ?_
    rw [hF.at 9, hF.at 10, hF.at 4, DD_fr hF]
    refine ⟨fun z => ⟨Or.inl ⟨fun i i0 i1 => he i i0 (by omega), rfl⟩, hF, hl⟩, fun z => ⟨by omega, rdy_fr hF hl hy, n0, n1, c0, cn, ?_⟩⟩
    have q := hro a3 h0 z
    refine ⟨q.1.1, q.1.2, fun v m10 h => ?_⟩
    have hF6 := hF.tr h.2.1
    have hv : v = max 0 (n - DD m0 c (roC m0 a3)) := h.1
    rw [hF6.at 9, hF6.at 10]
    refine ⟨by omega, fun y => ⟨by omega, ih _ _ (by omega) (by omega) (by omega) hF6 h.2.2 (fun i i0 i1 => ?_)⟩, fun y => ⟨Or.inr ⟨fun w => ?_, rfl⟩, hF6, h.2.2⟩⟩
    · by_cases hi : i = a3
      · rw [hi, ← hv]; exact y
      · exact he i i0 (by omega)
    · have := w a3 h0 z
      rw [← hv] at this
      exact absurd y (Int.not_lt.mpr this)
theorem c_X2_isUnheard {m0 : Mem} {c n : Int} (hy : rdy m0) (c0 : 0 ≤ c) (cn : c < m0 4 5) (n0 : 0 ≤ n) (n1 : n ≤ 99) : Tot mX2_isUnheard 0 0 [vR 41, vI c, vI n] SH m0 (Pr SH (anQ m0 (fun v => (unhP m0 c n ∧ v = 1) ∨ (¬ unhP m0 c n ∧ v = 0)))) :=
  v_X2_isUnheard (unh_loop hy c0 cn n0 n1 _ 0 m0 (by omega) hy.1.2.2.2.2.2.2.2.1.1 (Nat.le_refl _) Fr.rf hy.2.2 (fun i i0 i1 => by omega))
/-- tick: the hour, the day -/
def tickF (m : Mem) (h : Nat) : Mem := if m h 3 + 1 < 24 then mset m h 3 (m h 3 + 1) else mset (mset (mset m h 3 (m h 3 + 1)) h 3 0) h 2 (m h 2 + 1)
theorem c_X4_tick {sh : Sh} {mem : Mem} {h ca wo : Nat} (hs : sh[h]? = some (4, 0, [ca + 1, wo + 1, 0, 0])) (hc : sh[ca]? = some (11, 4, [])) (hw : sh[wo]? = some (11, 4, [])) (h3 : 0 ≤ mem h 3 ∧ mem h 3 ≤ 23) (h2 : 0 ≤ mem h 2 ∧ mem h 2 ≤ 1000) : Tot mX4_tick 0 0 [vR h] sh mem (Pn sh (fun m => m = tickF mem h)) := by
  refine v_X4_tick hs hc hw ⟨by omega, fun m2 e2 => ?_⟩
  have e3 : m2 h 3 = mem h 3 + 1 := by rw [e2, mset_eq]
  rw [e3]
  refine ⟨fun c => by unfold tickF; rw [if_pos c]; exact e2, fun c m3 em3 => ?_⟩
  have e4 : m3 h 2 = mem h 2 := by rw [em3, e2, mset_at, if_neg (by omega), mset_at, if_neg (by omega)]
  rw [e4]
  exact ⟨by omega, fun m5 e5 => by unfold tickF; rw [if_neg (by omega), e5, em3, e2]⟩

theorem losF_b {on ld : Int → Int} {s M : Int} (hM : 0 ≤ M) : ∀ (k : Nat), (∀ i : Int, 0 ≤ i → i < k → 0 ≤ ld i ∧ ld i ≤ M) → 0 ≤ losF on ld s k ∧ losF on ld s k ≤ M
  | 0, _ => ⟨Int.le_refl _, hM⟩
  | k + 1, h => by
    have h1 := losF_b (on := on) (s := s) hM k (fun i i0 ik => h i i0 (by omega))
    have h2 := h k (by omega) (by omega)
    simp only [losF]
    split <;> omega
/-- by how much a sheet wears in an hour, by the floor as it is shown -/
noncomputable abbrev morD (m : Mem) (hr s : Int) : Int := losF (fun c => m 35 c.toNat) (fun c => ldD m c hr hr) s (m 4 5).toNat
theorem morD_b {m : Mem} (hy : rdy m) {hr s : Int} : 0 ≤ morD m hr s ∧ morD m hr s ≤ 99 := by
  have hn := grid_n (okGD_g hy.2.1.1).1
  exact losF_b (by decide) _ (fun i i0 ik => ldD_b hy i0 (by omega))
theorem moD_set {m m' : Mem} {ca wo : Nat} (h4 : m' 4 = m 4) (h7 : m' 7 = m 7) (h8 : m' 8 = m 8) (hc : m' ca = m ca) (hw : ∀ s : Int, 0 ≤ s → s < 4 → 0 ≤ m' wo s.toNat ∧ m' wo s.toNat ≤ 100000) (h : moD m ca wo) : moD m' ca wo := by
  unfold moD shW shL at *
  rw [h4, h7, h8, hc]
  exact ⟨fun s s0 s1 => ⟨(h.1 s s0 s1).1, hw s s0 s1⟩, h.2⟩
/-- what an hour does to a moment, and to the floor that shows it -/
def phP_18 (m0 : Mem) (m : Mem) : Prop := ∃ m1 : Mem, m = tickF m1 18 ∧ Fr [20, 36, 38, 39, 40] m0 m1 ∧ flOK m1 ∧ losOK m1 ∧ (∀ s : Int, 0 ≤ s → s < 4 → m1 20 s.toNat = if s < m0 7 2 ∧ ¬ m0 19 s.toNat = -9 then m0 20 s.toNat + morD m0 (m0 18 3) s / 10 else m0 20 s.toNat) ∧ ∀ s : Int, 0 ≤ s → s < m0 7 2 → m1 36 s.toNat = thD m1 20 s
def w_X9_passHour_18_2 (P : Mem → Prop) (a2 : Int) (mem : Mem) : Prop := WP mX9_passHour none 0 0 (Pn SH P) 2 [vR 0, vR 18, vI a2] [] SH mem
def w_X9_passHour_18_58 (P : Mem → Prop) (a2 : Int) (mem : Mem) : Prop := WP mX9_passHour none 0 0 (Pn SH P) 58 [vR 0, vR 18, vI a2] [] SH mem
set_option maxRecDepth 20000 in
theorem v_X9_passHour_18_2 {P : Mem → Prop} {a2 : Int} {mem : Mem}  (H : ((mem 7 2) ≤ a2 → w_X9_passHour_18_58 P 0 mem) ∧ (a2 < (mem 7 2) → (¬ ((0 ≤ a2 ∧ a2 < 4) ∧ ¬ mem 19 a2.toNat = -9) → (inR (a2 + 1)) ∧ (w_X9_passHour_18_2 P (a2 + 1) mem)) ∧ (((0 ≤ a2 ∧ a2 < 4) ∧ ¬ mem 19 a2.toNat = -9) → (rdy mem) ∧ (∀ (v3 : Int) (m4 : Mem), anP mem (losF (fun c => mem 35 c.toNat) (fun c => ldD mem c (mem 18 3) (mem 18 3)) a2 (mem 4 5).toNat) v3 m4 → ((0 ≤ v3) ∧ ((inR ((if 0 ≤ a2 ∧ a2 < 4 then mem 20 a2.toNat else 0) + (v3 / 10))) ∧ (∀ m7 : Mem, m7 = (if 0 ≤ a2 ∧ a2 < 4 then mset m4 20 a2.toNat ((if 0 ≤ a2 ∧ a2 < 4 then mem 20 a2.toNat else 0) + (v3 / 10)) else m4) → ((inR (a2 + 1)) ∧ (w_X9_passHour_18_2 P (a2 + 1) m7))))))))) : w_X9_passHour_18_2 P a2 mem := by
  unfold w_X9_passHour_18_2
  refine q_iload_n dX9_passHour_2 rfl ?_
  refine q_aload_n dX9_passHour_3 rfl ?_
  refine q_getr (r := 4) dX9_passHour_4 lf_RX9_19 s0 rfl rfl ?_
  refine q_getr (r := 7) dX9_passHour_7 lf_RX9_144 s4 rfl rfl ?_
  refine q_cVi (as := []) dX9_passHour_10 kmX6_size kvX6_size lm_RX9_214 ⟨by decide, by decide⟩ s7 ⟨by decide, rfl⟩ rfl rfl (Nat.le_of_ble_eq_true rfl) (c_X6_size s7) (fun v m1 hq => ?_)
  obtain ⟨rfl, rfl⟩ := hq
  refine q_icmp_ge (tgt := 56) dX9_passHour_13 (by decide) (fun c13 => ?_) (fun c13 => ?_)
  · have H := H.1 c13
    refine q_iconst dX9_passHour_56 (by decide) ?_
    refine q_istore_n dX9_passHour_57 (by decide) rfl ?_
    exact H
  · have H := H.2 c13
    refine q_aload_n dX9_passHour_16 rfl ?_
    refine q_iload_n dX9_passHour_17 rfl ?_
    refine q_cVi (as := [vI _]) dX9_passHour_18 kmX4_isLaid kvX4_isLaid lm_RX9_186 ⟨by decide, by decide⟩ s18 ⟨by decide, rfl⟩ rfl rfl (Nat.le_of_ble_eq_true rfl) (c_X4_isLaid s18 s19 s20) (fun v m1 hq => ?_)
    obtain ⟨rfl, rfl⟩ := hq
    refine q_if_eq (tgt := 50) dX9_passHour_21 (by decide) (fun c21 => ?_) (fun c21 => ?_)
    · have H := H.1 (b_no c21)
      obtain ⟨h1, H⟩ := H
      refine q_iinc dX9_passHour_50 rfl h1 rfl ?_
      refine q_goto (tgt := 2) dX9_passHour_53 (by decide) ?_
      exact H
    · have H := H.2 (b_yes c21)
      refine q_aload_n dX9_passHour_24 rfl ?_
      refine q_iload_n dX9_passHour_25 rfl ?_
      refine q_aload_n dX9_passHour_26 rfl ?_
      refine q_iload_n dX9_passHour_27 rfl ?_
      refine q_cVi (as := [vI _]) dX9_passHour_28 kmX4_wornOf kvX4_wornOf lm_RX9_151 ⟨by decide, by decide⟩ s18 ⟨by decide, rfl⟩ rfl rfl (Nat.le_of_ble_eq_true rfl) (c_X4_wornOf s18 s19 s20) (fun v m1 hq => ?_)
      obtain ⟨rfl, rfl⟩ := hq
      refine q_aload_n dX9_passHour_31 rfl ?_
      refine q_getr (r := 41) dX9_passHour_32 lf_RX9_80 s0 rfl rfl ?_
      refine q_iload_n dX9_passHour_35 rfl ?_
      refine q_aload_n dX9_passHour_36 rfl ?_
      refine q_geti dX9_passHour_37 lf_RX9_179 s18 rfl ?_
      obtain ⟨h2, H⟩ := H
      refine q_cVi (as := [vI _, vI _]) dX9_passHour_40 kmX2_loudOnSheet kvX2_loudOnSheet lm_RX9_215 ⟨by decide, by decide⟩ s41 ⟨by decide, rfl⟩ rfl rfl (Nat.le_of_ble_eq_true rfl) (c_X2_loudOnSheet h2) (fun v m1 hq => ?_)
      have H := H v m1 hq
      refine q_bipush dX9_passHour_43 rfl (by decide) ?_
      obtain ⟨h5, H⟩ := H
      refine q_idiv dX9_passHour_45 h5 (by decide) ?_
      obtain ⟨h6, H⟩ := H
      refine q_iadd dX9_passHour_46 h6 ?_
      refine q_cVn (as := [vI _, vI _]) dX9_passHour_47 kmX4_wear kvX4_wear lm_RX9_205 ⟨by decide, by decide⟩ s18 ⟨by decide, rfl⟩ rfl rfl (Nat.le_of_ble_eq_true rfl) (c_X4_wear s18 s19 s20) (fun m1 hq => ?_)
      have H := H m1 hq
      obtain ⟨h8, H⟩ := H
      refine q_iinc dX9_passHour_50 rfl h8 rfl ?_
      refine q_goto (tgt := 2) dX9_passHour_53 (by decide) ?_
      exact H
set_option maxRecDepth 20000 in
theorem v_X9_passHour_18_58 {P : Mem → Prop} {a2 : Int} {mem : Mem}  (H : ((mem 7 2) ≤ a2 → (0 ≤ mem 18 3 ∧ mem 18 3 ≤ 23) ∧ ((0 ≤ mem 18 2 ∧ mem 18 2 ≤ 1000) ∧ (∀ m3 : Mem, m3 = tickF mem 18 → (P m3)))) ∧ (a2 < (mem 7 2) → (hsD mem) ∧ ((moD mem 19 20) ∧ ((0 ≤ a2) ∧ ((a2 < mem 7 2) ∧ ((0 ≤ (thD mem 20 a2)) ∧ (((thD mem 20 a2) ≤ 30) ∧ ((flOK mem) ∧ ((losOK mem) ∧ (∀ m12 : Mem, thkP mem a2 (thD mem 20 a2) m12 → ((inR (a2 + 1)) ∧ (w_X9_passHour_18_58 P (a2 + 1) m12)))))))))))) : w_X9_passHour_18_58 P a2 mem := by
  unfold w_X9_passHour_18_58
  refine q_iload_n dX9_passHour_58 rfl ?_
  refine q_aload_n dX9_passHour_59 rfl ?_
  refine q_getr (r := 4) dX9_passHour_60 lf_RX9_19 s0 rfl rfl ?_
  refine q_getr (r := 7) dX9_passHour_63 lf_RX9_144 s4 rfl rfl ?_
  refine q_cVi (as := []) dX9_passHour_66 kmX6_size kvX6_size lm_RX9_214 ⟨by decide, by decide⟩ s7 ⟨by decide, rfl⟩ rfl rfl (Nat.le_of_ble_eq_true rfl) (c_X6_size s7) (fun v m1 hq => ?_)
  obtain ⟨rfl, rfl⟩ := hq
  refine q_icmp_ge (tgt := 95) dX9_passHour_69 (by decide) (fun c69 => ?_) (fun c69 => ?_)
  · have H := H.1 c69
    refine q_aload_n dX9_passHour_95 rfl ?_
    obtain ⟨h1, H⟩ := H
    obtain ⟨h2, H⟩ := H
    refine q_cVn (as := []) dX9_passHour_96 kmX4_tick kvX4_tick lm_RX9_221 ⟨by decide, by decide⟩ s18 ⟨by decide, rfl⟩ rfl rfl (Nat.le_of_ble_eq_true rfl) (c_X4_tick s18 s19 s20 h1 h2) (fun m1 hq => ?_)
    have H := H m1 hq
    exact q_vret dX9_passHour_99 rfl ⟨rfl, rfl, H⟩
  · have H := H.2 c69
    refine q_aload_n dX9_passHour_72 rfl ?_
    refine q_getr (r := 34) dX9_passHour_73 lf_RX9_71 s0 rfl rfl ?_
    refine q_iload_n dX9_passHour_76 rfl ?_
    refine q_aload_n dX9_passHour_77 rfl ?_
    refine q_getr (r := 4) dX9_passHour_78 lf_RX9_19 s0 rfl rfl ?_
    refine q_iload_n dX9_passHour_81 rfl ?_
    refine q_aload_n dX9_passHour_82 rfl ?_
    obtain ⟨h4, H⟩ := H
    obtain ⟨h5, H⟩ := H
    obtain ⟨h6, H⟩ := H
    obtain ⟨h7, H⟩ := H
    refine q_cVi (as := [vI _, vR _]) dX9_passHour_83 kmX3_thickNow kvX3_thickNow lm_RX9_154 ⟨by decide, by decide⟩ s4 ⟨by decide, rfl⟩ rfl rfl (Nat.le_of_ble_eq_true rfl) (c_X3_thickNow s18 s19 s20 h4 h5 h6 h7) (fun v m1 hq => ?_)
    obtain ⟨rfl, rfl⟩ := hq
    obtain ⟨h8, H⟩ := H
    obtain ⟨h9, H⟩ := H
    obtain ⟨h10, H⟩ := H
    obtain ⟨h11, H⟩ := H
    refine q_cVn (as := [vI _, vI _]) dX9_passHour_86 kmX1_setThick kvX1_setThick lm_RX9_218 ⟨by decide, by decide⟩ s34 ⟨by decide, rfl⟩ rfl rfl (Nat.le_of_ble_eq_true rfl) (c_X1_setThick h8 h9 h10 h11) (fun m1 hq => ?_)
    have H := H m1 hq
    obtain ⟨h13, H⟩ := H
    refine q_iinc dX9_passHour_89 rfl h13 rfl ?_
    refine q_goto (tgt := 58) dX9_passHour_92 (by decide) ?_
    exact H
set_option maxRecDepth 20000 in
theorem v_X9_passHour_18 {P : Mem → Prop} {mem : Mem}  (H : w_X9_passHour_18_2 P 0 mem) : Tot mX9_passHour 0 0 [vR 0, vR 18] SH mem (Pn SH P) := by
  refine Tot.of rfl (Nat.le_of_ble_eq_true rfl) (by simp [isJ]) (ls := [vR 0, vR 18, vJ 0]) rfl ?_
  refine q_iconst dX9_passHour_0 (by decide) ?_
  refine q_istore_n dX9_passHour_1 (by decide) rfl ?_
  exact H


theorem ph1_loop_18 {m0 : Mem} {P : Mem → Prop} (hy : rdy m0) (hwo : ∀ s : Int, 0 ≤ s → s < 4 → 0 ≤ m0 20 s.toNat ∧ m0 20 s.toNat ≤ 99990) (K : ∀ m, Fr [20, 39, 40] m0 m → losOK m → (∀ s : Int, 0 ≤ s → s < 4 → m 20 s.toNat = if s < m0 7 2 ∧ ¬ m0 19 s.toNat = -9 then m0 20 s.toNat + morD m0 (m0 18 3) s / 10 else m0 20 s.toNat) → w_X9_passHour_18_58 P 0 m) :
    ∀ (k : Nat) (a2 : Int) (m : Mem), 0 ≤ a2 → a2 ≤ m0 7 2 → (m0 7 2 - a2).toNat ≤ k → Fr [20, 39, 40] m0 m → losOK m → (∀ s : Int, 0 ≤ s → s < 4 → m 20 s.toNat = if s < a2 ∧ ¬ m0 19 s.toNat = -9 then m0 20 s.toNat + morD m0 (m0 18 3) s / 10 else m0 20 s.toNat) → w_X9_passHour_18_2 P a2 m := by
  have h7 := hy.1.2.2.2.2.2.2.1
  have hend : ∀ (a2 : Int) (m : Mem), a2 = m0 7 2 → Fr [20, 39, 40] m0 m → losOK m → (∀ s : Int, 0 ≤ s → s < 4 → m 20 s.toNat = if s < a2 ∧ ¬ m0 19 s.toNat = -9 then m0 20 s.toNat + morD m0 (m0 18 3) s / 10 else m0 20 s.toNat) → w_X9_passHour_18_58 P 0 m := fun a2 m h hF hl hx => K m hF hl (by rw [h] at hx; exact hx)
  intro k
  induction k with
  | zero =>
    intro a2 m h0 h1 hk hF hl hx
    refine v_X9_passHour_18_2 ?_
    rw [hF.at 7]
    exact ⟨fun q => hend a2 m (by omega) hF hl hx, fun q => by omega⟩
  | succ k ih =>
    intro a2 m h0 h1 hk hF hl hx
    refine v_X9_passHour_18_2 ?_
    rw [hF.at 7, hF.at 19, hF.at 35, hF.at 18, ldD_fr hF, hF.at 4]
    refine ⟨fun q => hend a2 m (by omega) hF hl hx, fun q => ⟨fun q2 => ⟨by omega, ih _ _ (by omega) (by omega) (by omega) hF hl (fun s s0 s1 => ?_)⟩, fun q2 => ⟨⟨(hsD_fr hF).mpr hy.1, (flOK_fr hF).mpr hy.2.1, hl⟩, fun v3 m4 h4 => ?_⟩⟩⟩
    · rw [hx s s0 s1]
      by_cases hs : s = a2
      · rw [hs, if_neg (fun z => by omega), if_neg (fun z => q2 ⟨⟨h0, by omega⟩, z.2⟩)]
      · by_cases z : s < a2 ∧ ¬ m0 19 s.toNat = -9
        · rw [if_pos z, if_pos ⟨by omega, z.2⟩]
        · rw [if_neg z, if_neg (fun y => z ⟨by omega, y.2⟩)]
    · have hv : v3 = morD m0 (m0 18 3) a2 := h4.1
      have hmb := morD_b hy (hr := m0 18 3) (s := a2)
      have hwa := hx a2 h0 (by omega)
      rw [if_neg (fun z => by omega)] at hwa
      have hwb := hwo a2 h0 (by omega)
      rw [if_pos q2.1, hwa, if_pos q2.1]
      refine ⟨by omega, by omega, fun m7 e7 => ⟨by omega, ih _ _ (by omega) (by omega) (by omega) ?_ ?_ (fun s s0 s1 => ?_)⟩⟩
      · rw [e7]
        exact (hF.tr (h4.2.1.mono (by decide))).set (by decide)
      · have : losOK (mset m4 20 a2.toNat (m0 20 a2.toNat + v3 / 10)) ↔ losOK m4 := Iff.rfl
        rw [e7]
        exact h4.2.2
      · rw [e7, mset_at]
        by_cases hs : s = a2
        · rw [if_pos ⟨rfl, by rw [hs]⟩, hs, if_pos ⟨by omega, q2.2⟩, hv]
        · rw [if_neg (by omega), h4.2.1.at 20, hx s s0 s1]
          by_cases z : s < a2 ∧ ¬ m0 19 s.toNat = -9
          · rw [if_pos z, if_pos ⟨by omega, z.2⟩]
          · rw [if_neg z, if_neg (fun y => z ⟨by omega, y.2⟩)]
theorem ph2_loop_18 {m0 m1 : Mem} (hh : hsD m0) (hmo : moD m1 19 20) (e4 : m1 4 = m0 4) (hh1 : hsD m1) (hF1 : Fr [20, 39, 40] m0 m1) (hx : ∀ s : Int, 0 ≤ s → s < 4 → m1 20 s.toNat = if s < m0 7 2 ∧ ¬ m0 19 s.toNat = -9 then m0 20 s.toNat + morD m0 (m0 18 3) s / 10 else m0 20 s.toNat) (h3 : 0 ≤ m0 18 3 ∧ m0 18 3 ≤ 23) (h2 : 0 ≤ m0 18 2 ∧ m0 18 2 ≤ 1000) :
    ∀ (k : Nat) (a2 : Int) (m : Mem), 0 ≤ a2 → a2 ≤ m0 7 2 → (m0 7 2 - a2).toNat ≤ k → Fr [36, 38, 40] m1 m → flOK m → losOK m → (∀ s : Int, 0 ≤ s → s < a2 → m 36 s.toNat = thD m1 20 s) → w_X9_passHour_18_58 (phP_18 m0) a2 m := by
  have h7 := hh.2.2.2.2.2.2.1
  have e7 : m1 7 = m0 7 := hF1.at 7
  have hend : ∀ (a2 : Int) (m : Mem), a2 = m0 7 2 → Fr [36, 38, 40] m1 m → flOK m → losOK m → (∀ s : Int, 0 ≤ s → s < a2 → m 36 s.toNat = thD m1 20 s) → (0 ≤ m 18 3 ∧ m 18 3 ≤ 23) ∧ (0 ≤ m 18 2 ∧ m 18 2 ≤ 1000) ∧ ∀ m3, m3 = tickF m 18 → phP_18 m0 m3 := by
    intro a2 m h hF hfl hl ht
    rw [hF.at 18, hF1.at 18]
    refine ⟨h3, h2, fun m3 e => ⟨m, e, (hF1.mono (by decide)).tr (hF.mono (by decide)), hfl, hl, fun s s0 s1 => by rw [hF.at 20]; exact hx s s0 s1, fun s s0 s1 => ?_⟩⟩
    rw [ht s s0 (by omega)]
    unfold thD
    rw [(sh_fr hF).2.2.1, hF.at 20]
  intro k
  induction k with
  | zero =>
    intro a2 m g0 g1 hk hF hfl hl ht
    refine v_X9_passHour_18_58 ?_
    rw [hF.at 7, e7]
    exact ⟨fun q => hend a2 m (by omega) hF hfl hl ht, fun q => by omega⟩
  | succ k ih =>
    intro a2 m g0 g1 hk hF hfl hl ht
    refine v_X9_passHour_18_58 ?_
    rw [hF.at 7, e7]
    have eT : thD m 20 a2 = thD m1 20 a2 := by
      unfold thD
      rw [(sh_fr hF).2.2.1, hF.at 20]
    refine ⟨fun q => hend a2 m (by omega) hF hfl hl ht, fun q => ⟨(hsD_fr hF).mpr hh1, (moD_fr hF (by decide) (by decide)).mpr hmo, g0, q, ?_⟩⟩
    rw [eT]
    have hshT := (hh1.2.2.2.2.2.2.2.2.2.1 a2 g0 (by rw [e7]; exact q)).1
    have hwor := (hmo.1 a2 g0 (by omega)).2
    have hTb : 0 ≤ thD m1 20 a2 ∧ thD m1 20 a2 ≤ 30 := by
      show 0 ≤ max 0 (shT m1 a2 - (if 0 ≤ a2 ∧ a2 < 4 then m1 20 a2.toNat else 0) / 10) ∧ max 0 (shT m1 a2 - (if 0 ≤ a2 ∧ a2 < 4 then m1 20 a2.toNat else 0) / 10) ≤ 30
      rw [if_pos ⟨g0, by omega⟩]
      change 0 ≤ shT m1 a2 ∧ shT m1 a2 ≤ 30 at hshT
      omega
    refine ⟨hTb.1, hTb.2, hfl, hl, fun m12 h12 => ⟨by omega, ih _ _ (by omega) (by omega) (by omega) (hF.tr h12.1) h12.2.1 h12.2.2.1 (fun s s0 s1 => ?_)⟩⟩
    rw [h12.2.2.2 s s0 (by omega)]
    split
    · rename_i e; rw [e]
    · exact ht s s0 (by omega)
theorem c_X9_passHour_18 {m0 : Mem} (hy : rdy m0) (hmo : moD m0 19 20) (hwo : ∀ s : Int, 0 ≤ s → s < 4 → m0 20 s.toNat ≤ 99990) (h3 : 0 ≤ m0 18 3 ∧ m0 18 3 ≤ 23) (h2 : 0 ≤ m0 18 2 ∧ m0 18 2 ≤ 1000) : Tot mX9_passHour 0 0 [vR 0, vR 18] SH m0 (Pn SH (phP_18 m0)) := by
  have h7 := hy.1.2.2.2.2.2.2.1
  have hwb : ∀ s : Int, 0 ≤ s → s < 4 → 0 ≤ m0 20 s.toNat ∧ m0 20 s.toNat ≤ 99990 := fun s s0 s1 => ⟨(hmo.1 s s0 s1).2.1, hwo s s0 s1⟩
  refine v_X9_passHour_18 (ph1_loop_18 hy hwb (fun m hF hl hx => ?_) _ 0 m0 (by omega) h7.1 (Nat.le_refl _) Fr.rf hy.2.2 (fun s s0 s1 => by rw [if_neg (fun z => by omega)]))
  have hmo1 : moD m 19 20 := moD_set (hF.at 4) (hF.at 7) (hF.at 8) (hF.at 19) (fun s s0 s1 => by
    have q := hwb s s0 s1
    have p := morD_b hy (hr := m0 18 3) (s := s)
    rw [hx s s0 s1]
    split <;> omega) hmo
  exact ph2_loop_18 hy.1 hmo1 (hF.at 4) ((hsD_fr hF).mpr hy.1) hF hx h3 h2 _ 0 m (by omega) h7.1 (Nat.le_refl _) Fr.rf ((flOK_fr hF).mpr hy.2.1) hl (fun s s0 s1 => by omega)
/-- what an hour does to a moment, and to the floor that shows it -/
def phP_21 (m0 : Mem) (m : Mem) : Prop := ∃ m1 : Mem, m = tickF m1 21 ∧ Fr [23, 36, 38, 39, 40] m0 m1 ∧ flOK m1 ∧ losOK m1 ∧ (∀ s : Int, 0 ≤ s → s < 4 → m1 23 s.toNat = if s < m0 7 2 ∧ ¬ m0 22 s.toNat = -9 then m0 23 s.toNat + morD m0 (m0 21 3) s / 10 else m0 23 s.toNat) ∧ ∀ s : Int, 0 ≤ s → s < m0 7 2 → m1 36 s.toNat = thD m1 23 s
def w_X9_passHour_21_2 (P : Mem → Prop) (a2 : Int) (mem : Mem) : Prop := WP mX9_passHour none 0 0 (Pn SH P) 2 [vR 0, vR 21, vI a2] [] SH mem
def w_X9_passHour_21_58 (P : Mem → Prop) (a2 : Int) (mem : Mem) : Prop := WP mX9_passHour none 0 0 (Pn SH P) 58 [vR 0, vR 21, vI a2] [] SH mem
set_option maxRecDepth 20000 in
theorem v_X9_passHour_21_2 {P : Mem → Prop} {a2 : Int} {mem : Mem}  (H : ((mem 7 2) ≤ a2 → w_X9_passHour_21_58 P 0 mem) ∧ (a2 < (mem 7 2) → (¬ ((0 ≤ a2 ∧ a2 < 4) ∧ ¬ mem 22 a2.toNat = -9) → (inR (a2 + 1)) ∧ (w_X9_passHour_21_2 P (a2 + 1) mem)) ∧ (((0 ≤ a2 ∧ a2 < 4) ∧ ¬ mem 22 a2.toNat = -9) → (rdy mem) ∧ (∀ (v3 : Int) (m4 : Mem), anP mem (losF (fun c => mem 35 c.toNat) (fun c => ldD mem c (mem 21 3) (mem 21 3)) a2 (mem 4 5).toNat) v3 m4 → ((0 ≤ v3) ∧ ((inR ((if 0 ≤ a2 ∧ a2 < 4 then mem 23 a2.toNat else 0) + (v3 / 10))) ∧ (∀ m7 : Mem, m7 = (if 0 ≤ a2 ∧ a2 < 4 then mset m4 23 a2.toNat ((if 0 ≤ a2 ∧ a2 < 4 then mem 23 a2.toNat else 0) + (v3 / 10)) else m4) → ((inR (a2 + 1)) ∧ (w_X9_passHour_21_2 P (a2 + 1) m7))))))))) : w_X9_passHour_21_2 P a2 mem := by
  unfold w_X9_passHour_21_2
  refine q_iload_n dX9_passHour_2 rfl ?_
  refine q_aload_n dX9_passHour_3 rfl ?_
  refine q_getr (r := 4) dX9_passHour_4 lf_RX9_19 s0 rfl rfl ?_
  refine q_getr (r := 7) dX9_passHour_7 lf_RX9_144 s4 rfl rfl ?_
  refine q_cVi (as := []) dX9_passHour_10 kmX6_size kvX6_size lm_RX9_214 ⟨by decide, by decide⟩ s7 ⟨by decide, rfl⟩ rfl rfl (Nat.le_of_ble_eq_true rfl) (c_X6_size s7) (fun v m1 hq => ?_)
  obtain ⟨rfl, rfl⟩ := hq
  refine q_icmp_ge (tgt := 56) dX9_passHour_13 (by decide) (fun c13 => ?_) (fun c13 => ?_)
  · have H := H.1 c13
    refine q_iconst dX9_passHour_56 (by decide) ?_
    refine q_istore_n dX9_passHour_57 (by decide) rfl ?_
    exact H
  · have H := H.2 c13
    refine q_aload_n dX9_passHour_16 rfl ?_
    refine q_iload_n dX9_passHour_17 rfl ?_
    refine q_cVi (as := [vI _]) dX9_passHour_18 kmX4_isLaid kvX4_isLaid lm_RX9_186 ⟨by decide, by decide⟩ s21 ⟨by decide, rfl⟩ rfl rfl (Nat.le_of_ble_eq_true rfl) (c_X4_isLaid s21 s22 s23) (fun v m1 hq => ?_)
    obtain ⟨rfl, rfl⟩ := hq
    refine q_if_eq (tgt := 50) dX9_passHour_21 (by decide) (fun c21 => ?_) (fun c21 => ?_)
    · have H := H.1 (b_no c21)
      obtain ⟨h1, H⟩ := H
      refine q_iinc dX9_passHour_50 rfl h1 rfl ?_
      refine q_goto (tgt := 2) dX9_passHour_53 (by decide) ?_
      exact H
    · have H := H.2 (b_yes c21)
      refine q_aload_n dX9_passHour_24 rfl ?_
      refine q_iload_n dX9_passHour_25 rfl ?_
      refine q_aload_n dX9_passHour_26 rfl ?_
      refine q_iload_n dX9_passHour_27 rfl ?_
      refine q_cVi (as := [vI _]) dX9_passHour_28 kmX4_wornOf kvX4_wornOf lm_RX9_151 ⟨by decide, by decide⟩ s21 ⟨by decide, rfl⟩ rfl rfl (Nat.le_of_ble_eq_true rfl) (c_X4_wornOf s21 s22 s23) (fun v m1 hq => ?_)
      obtain ⟨rfl, rfl⟩ := hq
      refine q_aload_n dX9_passHour_31 rfl ?_
      refine q_getr (r := 41) dX9_passHour_32 lf_RX9_80 s0 rfl rfl ?_
      refine q_iload_n dX9_passHour_35 rfl ?_
      refine q_aload_n dX9_passHour_36 rfl ?_
      refine q_geti dX9_passHour_37 lf_RX9_179 s21 rfl ?_
      obtain ⟨h2, H⟩ := H
      refine q_cVi (as := [vI _, vI _]) dX9_passHour_40 kmX2_loudOnSheet kvX2_loudOnSheet lm_RX9_215 ⟨by decide, by decide⟩ s41 ⟨by decide, rfl⟩ rfl rfl (Nat.le_of_ble_eq_true rfl) (c_X2_loudOnSheet h2) (fun v m1 hq => ?_)
      have H := H v m1 hq
      refine q_bipush dX9_passHour_43 rfl (by decide) ?_
      obtain ⟨h5, H⟩ := H
      refine q_idiv dX9_passHour_45 h5 (by decide) ?_
      obtain ⟨h6, H⟩ := H
      refine q_iadd dX9_passHour_46 h6 ?_
      refine q_cVn (as := [vI _, vI _]) dX9_passHour_47 kmX4_wear kvX4_wear lm_RX9_205 ⟨by decide, by decide⟩ s21 ⟨by decide, rfl⟩ rfl rfl (Nat.le_of_ble_eq_true rfl) (c_X4_wear s21 s22 s23) (fun m1 hq => ?_)
      have H := H m1 hq
      obtain ⟨h8, H⟩ := H
      refine q_iinc dX9_passHour_50 rfl h8 rfl ?_
      refine q_goto (tgt := 2) dX9_passHour_53 (by decide) ?_
      exact H
set_option maxRecDepth 20000 in
theorem v_X9_passHour_21_58 {P : Mem → Prop} {a2 : Int} {mem : Mem}  (H : ((mem 7 2) ≤ a2 → (0 ≤ mem 21 3 ∧ mem 21 3 ≤ 23) ∧ ((0 ≤ mem 21 2 ∧ mem 21 2 ≤ 1000) ∧ (∀ m3 : Mem, m3 = tickF mem 21 → (P m3)))) ∧ (a2 < (mem 7 2) → (hsD mem) ∧ ((moD mem 22 23) ∧ ((0 ≤ a2) ∧ ((a2 < mem 7 2) ∧ ((0 ≤ (thD mem 23 a2)) ∧ (((thD mem 23 a2) ≤ 30) ∧ ((flOK mem) ∧ ((losOK mem) ∧ (∀ m12 : Mem, thkP mem a2 (thD mem 23 a2) m12 → ((inR (a2 + 1)) ∧ (w_X9_passHour_21_58 P (a2 + 1) m12)))))))))))) : w_X9_passHour_21_58 P a2 mem := by
  unfold w_X9_passHour_21_58
  refine q_iload_n dX9_passHour_58 rfl ?_
  refine q_aload_n dX9_passHour_59 rfl ?_
  refine q_getr (r := 4) dX9_passHour_60 lf_RX9_19 s0 rfl rfl ?_
  refine q_getr (r := 7) dX9_passHour_63 lf_RX9_144 s4 rfl rfl ?_
  refine q_cVi (as := []) dX9_passHour_66 kmX6_size kvX6_size lm_RX9_214 ⟨by decide, by decide⟩ s7 ⟨by decide, rfl⟩ rfl rfl (Nat.le_of_ble_eq_true rfl) (c_X6_size s7) (fun v m1 hq => ?_)
  obtain ⟨rfl, rfl⟩ := hq
  refine q_icmp_ge (tgt := 95) dX9_passHour_69 (by decide) (fun c69 => ?_) (fun c69 => ?_)
  · have H := H.1 c69
    refine q_aload_n dX9_passHour_95 rfl ?_
    obtain ⟨h1, H⟩ := H
    obtain ⟨h2, H⟩ := H
    refine q_cVn (as := []) dX9_passHour_96 kmX4_tick kvX4_tick lm_RX9_221 ⟨by decide, by decide⟩ s21 ⟨by decide, rfl⟩ rfl rfl (Nat.le_of_ble_eq_true rfl) (c_X4_tick s21 s22 s23 h1 h2) (fun m1 hq => ?_)
    have H := H m1 hq
    exact q_vret dX9_passHour_99 rfl ⟨rfl, rfl, H⟩
  · have H := H.2 c69
    refine q_aload_n dX9_passHour_72 rfl ?_
    refine q_getr (r := 34) dX9_passHour_73 lf_RX9_71 s0 rfl rfl ?_
    refine q_iload_n dX9_passHour_76 rfl ?_
    refine q_aload_n dX9_passHour_77 rfl ?_
    refine q_getr (r := 4) dX9_passHour_78 lf_RX9_19 s0 rfl rfl ?_
    refine q_iload_n dX9_passHour_81 rfl ?_
    refine q_aload_n dX9_passHour_82 rfl ?_
    obtain ⟨h4, H⟩ := H
    obtain ⟨h5, H⟩ := H
    obtain ⟨h6, H⟩ := H
    obtain ⟨h7, H⟩ := H
    refine q_cVi (as := [vI _, vR _]) dX9_passHour_83 kmX3_thickNow kvX3_thickNow lm_RX9_154 ⟨by decide, by decide⟩ s4 ⟨by decide, rfl⟩ rfl rfl (Nat.le_of_ble_eq_true rfl) (c_X3_thickNow s21 s22 s23 h4 h5 h6 h7) (fun v m1 hq => ?_)
    obtain ⟨rfl, rfl⟩ := hq
    obtain ⟨h8, H⟩ := H
    obtain ⟨h9, H⟩ := H
    obtain ⟨h10, H⟩ := H
    obtain ⟨h11, H⟩ := H
    refine q_cVn (as := [vI _, vI _]) dX9_passHour_86 kmX1_setThick kvX1_setThick lm_RX9_218 ⟨by decide, by decide⟩ s34 ⟨by decide, rfl⟩ rfl rfl (Nat.le_of_ble_eq_true rfl) (c_X1_setThick h8 h9 h10 h11) (fun m1 hq => ?_)
    have H := H m1 hq
    obtain ⟨h13, H⟩ := H
    refine q_iinc dX9_passHour_89 rfl h13 rfl ?_
    refine q_goto (tgt := 58) dX9_passHour_92 (by decide) ?_
    exact H
set_option maxRecDepth 20000 in
theorem v_X9_passHour_21 {P : Mem → Prop} {mem : Mem}  (H : w_X9_passHour_21_2 P 0 mem) : Tot mX9_passHour 0 0 [vR 0, vR 21] SH mem (Pn SH P) := by
  refine Tot.of rfl (Nat.le_of_ble_eq_true rfl) (by simp [isJ]) (ls := [vR 0, vR 21, vJ 0]) rfl ?_
  refine q_iconst dX9_passHour_0 (by decide) ?_
  refine q_istore_n dX9_passHour_1 (by decide) rfl ?_
  exact H


theorem ph1_loop_21 {m0 : Mem} {P : Mem → Prop} (hy : rdy m0) (hwo : ∀ s : Int, 0 ≤ s → s < 4 → 0 ≤ m0 23 s.toNat ∧ m0 23 s.toNat ≤ 99990) (K : ∀ m, Fr [23, 39, 40] m0 m → losOK m → (∀ s : Int, 0 ≤ s → s < 4 → m 23 s.toNat = if s < m0 7 2 ∧ ¬ m0 22 s.toNat = -9 then m0 23 s.toNat + morD m0 (m0 21 3) s / 10 else m0 23 s.toNat) → w_X9_passHour_21_58 P 0 m) :
    ∀ (k : Nat) (a2 : Int) (m : Mem), 0 ≤ a2 → a2 ≤ m0 7 2 → (m0 7 2 - a2).toNat ≤ k → Fr [23, 39, 40] m0 m → losOK m → (∀ s : Int, 0 ≤ s → s < 4 → m 23 s.toNat = if s < a2 ∧ ¬ m0 22 s.toNat = -9 then m0 23 s.toNat + morD m0 (m0 21 3) s / 10 else m0 23 s.toNat) → w_X9_passHour_21_2 P a2 m := by
  have h7 := hy.1.2.2.2.2.2.2.1
  have hend : ∀ (a2 : Int) (m : Mem), a2 = m0 7 2 → Fr [23, 39, 40] m0 m → losOK m → (∀ s : Int, 0 ≤ s → s < 4 → m 23 s.toNat = if s < a2 ∧ ¬ m0 22 s.toNat = -9 then m0 23 s.toNat + morD m0 (m0 21 3) s / 10 else m0 23 s.toNat) → w_X9_passHour_21_58 P 0 m := fun a2 m h hF hl hx => K m hF hl (by rw [h] at hx; exact hx)
  intro k
  induction k with
  | zero =>
    intro a2 m h0 h1 hk hF hl hx
    refine v_X9_passHour_21_2 ?_
    rw [hF.at 7]
    exact ⟨fun q => hend a2 m (by omega) hF hl hx, fun q => by omega⟩
  | succ k ih =>
    intro a2 m h0 h1 hk hF hl hx
    refine v_X9_passHour_21_2 ?_
    rw [hF.at 7, hF.at 22, hF.at 35, hF.at 21, ldD_fr hF, hF.at 4]
    refine ⟨fun q => hend a2 m (by omega) hF hl hx, fun q => ⟨fun q2 => ⟨by omega, ih _ _ (by omega) (by omega) (by omega) hF hl (fun s s0 s1 => ?_)⟩, fun q2 => ⟨⟨(hsD_fr hF).mpr hy.1, (flOK_fr hF).mpr hy.2.1, hl⟩, fun v3 m4 h4 => ?_⟩⟩⟩
    · rw [hx s s0 s1]
      by_cases hs : s = a2
      · rw [hs, if_neg (fun z => by omega), if_neg (fun z => q2 ⟨⟨h0, by omega⟩, z.2⟩)]
      · by_cases z : s < a2 ∧ ¬ m0 22 s.toNat = -9
        · rw [if_pos z, if_pos ⟨by omega, z.2⟩]
        · rw [if_neg z, if_neg (fun y => z ⟨by omega, y.2⟩)]
    · have hv : v3 = morD m0 (m0 21 3) a2 := h4.1
      have hmb := morD_b hy (hr := m0 21 3) (s := a2)
      have hwa := hx a2 h0 (by omega)
      rw [if_neg (fun z => by omega)] at hwa
      have hwb := hwo a2 h0 (by omega)
      rw [if_pos q2.1, hwa, if_pos q2.1]
      refine ⟨by omega, by omega, fun m7 e7 => ⟨by omega, ih _ _ (by omega) (by omega) (by omega) ?_ ?_ (fun s s0 s1 => ?_)⟩⟩
      · rw [e7]
        exact (hF.tr (h4.2.1.mono (by decide))).set (by decide)
      · have : losOK (mset m4 23 a2.toNat (m0 23 a2.toNat + v3 / 10)) ↔ losOK m4 := Iff.rfl
        rw [e7]
        exact h4.2.2
      · rw [e7, mset_at]
        by_cases hs : s = a2
        · rw [if_pos ⟨rfl, by rw [hs]⟩, hs, if_pos ⟨by omega, q2.2⟩, hv]
        · rw [if_neg (by omega), h4.2.1.at 23, hx s s0 s1]
          by_cases z : s < a2 ∧ ¬ m0 22 s.toNat = -9
          · rw [if_pos z, if_pos ⟨by omega, z.2⟩]
          · rw [if_neg z, if_neg (fun y => z ⟨by omega, y.2⟩)]
theorem ph2_loop_21 {m0 m1 : Mem} (hh : hsD m0) (hmo : moD m1 22 23) (e4 : m1 4 = m0 4) (hh1 : hsD m1) (hF1 : Fr [23, 39, 40] m0 m1) (hx : ∀ s : Int, 0 ≤ s → s < 4 → m1 23 s.toNat = if s < m0 7 2 ∧ ¬ m0 22 s.toNat = -9 then m0 23 s.toNat + morD m0 (m0 21 3) s / 10 else m0 23 s.toNat) (h3 : 0 ≤ m0 21 3 ∧ m0 21 3 ≤ 23) (h2 : 0 ≤ m0 21 2 ∧ m0 21 2 ≤ 1000) :
    ∀ (k : Nat) (a2 : Int) (m : Mem), 0 ≤ a2 → a2 ≤ m0 7 2 → (m0 7 2 - a2).toNat ≤ k → Fr [36, 38, 40] m1 m → flOK m → losOK m → (∀ s : Int, 0 ≤ s → s < a2 → m 36 s.toNat = thD m1 23 s) → w_X9_passHour_21_58 (phP_21 m0) a2 m := by
  have h7 := hh.2.2.2.2.2.2.1
  have e7 : m1 7 = m0 7 := hF1.at 7
  have hend : ∀ (a2 : Int) (m : Mem), a2 = m0 7 2 → Fr [36, 38, 40] m1 m → flOK m → losOK m → (∀ s : Int, 0 ≤ s → s < a2 → m 36 s.toNat = thD m1 23 s) → (0 ≤ m 21 3 ∧ m 21 3 ≤ 23) ∧ (0 ≤ m 21 2 ∧ m 21 2 ≤ 1000) ∧ ∀ m3, m3 = tickF m 21 → phP_21 m0 m3 := by
    intro a2 m h hF hfl hl ht
    rw [hF.at 21, hF1.at 21]
    refine ⟨h3, h2, fun m3 e => ⟨m, e, (hF1.mono (by decide)).tr (hF.mono (by decide)), hfl, hl, fun s s0 s1 => by rw [hF.at 23]; exact hx s s0 s1, fun s s0 s1 => ?_⟩⟩
    rw [ht s s0 (by omega)]
    unfold thD
    rw [(sh_fr hF).2.2.1, hF.at 23]
  intro k
  induction k with
  | zero =>
    intro a2 m g0 g1 hk hF hfl hl ht
    refine v_X9_passHour_21_58 ?_
    rw [hF.at 7, e7]
    exact ⟨fun q => hend a2 m (by omega) hF hfl hl ht, fun q => by omega⟩
  | succ k ih =>
    intro a2 m g0 g1 hk hF hfl hl ht
    refine v_X9_passHour_21_58 ?_
    rw [hF.at 7, e7]
    have eT : thD m 23 a2 = thD m1 23 a2 := by
      unfold thD
      rw [(sh_fr hF).2.2.1, hF.at 23]
    refine ⟨fun q => hend a2 m (by omega) hF hfl hl ht, fun q => ⟨(hsD_fr hF).mpr hh1, (moD_fr hF (by decide) (by decide)).mpr hmo, g0, q, ?_⟩⟩
    rw [eT]
    have hshT := (hh1.2.2.2.2.2.2.2.2.2.1 a2 g0 (by rw [e7]; exact q)).1
    have hwor := (hmo.1 a2 g0 (by omega)).2
    have hTb : 0 ≤ thD m1 23 a2 ∧ thD m1 23 a2 ≤ 30 := by
      show 0 ≤ max 0 (shT m1 a2 - (if 0 ≤ a2 ∧ a2 < 4 then m1 23 a2.toNat else 0) / 10) ∧ max 0 (shT m1 a2 - (if 0 ≤ a2 ∧ a2 < 4 then m1 23 a2.toNat else 0) / 10) ≤ 30
      rw [if_pos ⟨g0, by omega⟩]
      change 0 ≤ shT m1 a2 ∧ shT m1 a2 ≤ 30 at hshT
      omega
    refine ⟨hTb.1, hTb.2, hfl, hl, fun m12 h12 => ⟨by omega, ih _ _ (by omega) (by omega) (by omega) (hF.tr h12.1) h12.2.1 h12.2.2.1 (fun s s0 s1 => ?_)⟩⟩
    rw [h12.2.2.2 s s0 (by omega)]
    split
    · rename_i e; rw [e]
    · exact ht s s0 (by omega)
theorem c_X9_passHour_21 {m0 : Mem} (hy : rdy m0) (hmo : moD m0 22 23) (hwo : ∀ s : Int, 0 ≤ s → s < 4 → m0 23 s.toNat ≤ 99990) (h3 : 0 ≤ m0 21 3 ∧ m0 21 3 ≤ 23) (h2 : 0 ≤ m0 21 2 ∧ m0 21 2 ≤ 1000) : Tot mX9_passHour 0 0 [vR 0, vR 21] SH m0 (Pn SH (phP_21 m0)) := by
  have h7 := hy.1.2.2.2.2.2.2.1
  have hwb : ∀ s : Int, 0 ≤ s → s < 4 → 0 ≤ m0 23 s.toNat ∧ m0 23 s.toNat ≤ 99990 := fun s s0 s1 => ⟨(hmo.1 s s0 s1).2.1, hwo s s0 s1⟩
  refine v_X9_passHour_21 (ph1_loop_21 hy hwb (fun m hF hl hx => ?_) _ 0 m0 (by omega) h7.1 (Nat.le_refl _) Fr.rf hy.2.2 (fun s s0 s1 => by rw [if_neg (fun z => by omega)]))
  have hmo1 : moD m 22 23 := moD_set (hF.at 4) (hF.at 7) (hF.at 8) (hF.at 22) (fun s s0 s1 => by
    have q := hwb s s0 s1
    have p := morD_b hy (hr := m0 21 3) (s := s)
    rw [hx s s0 s1]
    split <;> omega) hmo
  exact ph2_loop_21 hy.1 hmo1 (hF.at 4) ((hsD_fr hF).mpr hy.1) hF hx h3 h2 _ 0 m (by omega) h7.1 (Nat.le_refl _) Fr.rf ((flOK_fr hF).mpr hy.2.1) hl (fun s s0 s1 => by omega)
