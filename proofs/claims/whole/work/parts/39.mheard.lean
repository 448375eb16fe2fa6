/-! THE MODEL: what is heard -/
abbrev mdC (m : Mem) (i : Int) : Int := m 52 (2 * i).toNat
abbrev mdV (m : Mem) (i : Int) : Int := m 52 (2 * i + 1).toNat
def hmOK (m : Mem) : Prop := (0 ≤ m 44 14 ∧ m 44 14 ≤ 4) ∧ ∀ i : Int, 0 ≤ i → i < m 44 14 → (0 ≤ mdC m i ∧ mdC m i < nM m) ∧ 0 ≤ mdV m i ∧ mdV m i ≤ 99
theorem hmOK_fr {ks : List Nat} {m m' : Mem} (h : Fr ks m m') (ho : hmOK m) (h4 : 44 ∉ ks := by decide) (h5 : 52 ∉ ks := by decide) : hmOK m' := by
  unfold hmOK mdC mdV nM at *
  rw [h 44 h4, h 52 h5]
  exact ho
noncomputable abbrev stnM (m : Mem) (c : Int) : Int := cntF (agrF (DM m c) (mdC m) (mdV m) (m 44 14)) 99
theorem stnM_fr {ks : List Nat} {m m' : Mem} (h : Fr ks m m') (h1 : 44 ∉ ks := by decide) (h2 : 61 ∉ ks := by decide) (h3 : 60 ∉ ks := by decide) (h5 : 52 ∉ ks := by decide) : stnM m' = stnM m := by
  funext c
  unfold stnM
  rw [DM_fr h h1 h2 h3, h 44 h1]
  unfold mdC mdV
  rw [h 52 h5]
def w_X10_strengthsAt_9 (c : Int) (P : Int → Mem → Prop) (a2 : Int) (a3 : Int) (u4 : Vl) (u5 : Vl) (mem : Mem) : Prop := WP mX10_strengthsAt none 0 0 (Pr SH P) 9 [vR 44, vI c, vI a2, vI a3, u4, u5] [] SH mem
def w_X10_strengthsAt_21 (c : Int) (P : Int → Mem → Prop) (a2 : Int) (a3 : Int) (a4 : Int) (a5 : Int) (mem : Mem) : Prop := WP mX10_strengthsAt none 0 0 (Pr SH P) 21 [vR 44, vI c, vI a2, vI a3, vI a4, vI a5] [] SH mem
set_option maxRecDepth 20000 in
theorem v_X10_strengthsAt_9 {c : Int} {P : Int → Mem → Prop} {a2 : Int} {a3 : Int} {u4 : Vl} {u5 : Vl} {mem : Mem}  (H : (99 < a3 → P a2 mem) ∧ (a3 ≤ 99 → w_X10_strengthsAt_21 c P a2 a3 1 0 mem)) : w_X10_strengthsAt_9 c P a2 a3 u4 u5 mem := by
  unfold w_X10_strengthsAt_9
  refine q_iload_n dX10_strengthsAt_9 rfl ?_
  refine q_bipush dX10_strengthsAt_10 rfl (by decide) ?_
  refine q_icmp_gt (tgt := 99) dX10_strengthsAt_12 (by decide) (fun c12 => ?_) (fun c12 => ?_)
  · have H := H.1 c12
    refine q_iload_n dX10_strengthsAt_99 rfl ?_
    exact q_iret dX10_strengthsAt_100 rfl ⟨_, rfl, rfl, H⟩
  · have H := H.2 c12
    refine q_iconst dX10_strengthsAt_15 (by decide) ?_
    refine q_istore dX10_strengthsAt_16 (by decide) rfl ?_
    refine q_iconst dX10_strengthsAt_18 (by decide) ?_
    refine q_istore dX10_strengthsAt_19 (by decide) rfl ?_
    exact H
set_option maxRecDepth 20000 in
theorem v_X10_strengthsAt_21 {c : Int} {P : Int → Mem → Prop} {a2 : Int} {a3 : Int} {a4 : Int} {a5 : Int} {mem : Mem}  (H : ((mem 44 14) ≤ a5 → (a4 = 0 → (inR (a2 + 0)) ∧ ((inR (a3 + 1)) ∧ (w_X10_strengthsAt_9 c P (a2 + 0) (a3 + 1) (vI a4) (vI a5) mem))) ∧ (¬ a4 = 0 → (inR (a2 + 1)) ∧ ((inR (a3 + 1)) ∧ (w_X10_strengthsAt_9 c P (a2 + 1) (a3 + 1) (vI a4) (vI a5) mem)))) ∧ (a5 < (mem 44 14) → (a4 = 0 → (inR (a5 + 1)) ∧ (w_X10_strengthsAt_21 c P a2 a3 0 (a5 + 1) mem)) ∧ (¬ a4 = 0 → (inR (2 * a5)) ∧ ((0 ≤ (2 * a5)) ∧ (((2 * a5) < 8) ∧ ((0 ≤ (mem 52 (2 * a5).toNat)) ∧ (((mem 52 (2 * a5).toNat) < 12) ∧ ((inR (a3 - (mem 62 (mem 52 (2 * a5).toNat).toNat))) ∧ ((inR ((2 * a5) + 1)) ∧ ((0 ≤ ((2 * a5) + 1)) ∧ ((((2 * a5) + 1) < 8) ∧ ((¬ (max 0 (a3 - (mem 62 (mem 52 (2 * a5).toNat).toNat))) = (mem 52 ((2 * a5) + 1).toNat) → (inR (a5 + 1)) ∧ (w_X10_strengthsAt_21 c P a2 a3 0 (a5 + 1) mem)) ∧ ((max 0 (a3 - (mem 62 (mem 52 (2 * a5).toNat).toNat))) = (mem 52 ((2 * a5) + 1).toNat) → (inR (a5 + 1)) ∧ (w_X10_strengthsAt_21 c P a2 a3 1 (a5 + 1) mem)))))))))))))) : w_X10_strengthsAt_21 c P a2 a3 a4 a5 mem := by
  unfold w_X10_strengthsAt_21
  refine q_iload dX10_strengthsAt_21 rfl ?_
  refine q_aload_n dX10_strengthsAt_23 rfl ?_
  refine q_geti dX10_strengthsAt_24 lf_RX10_174 s44 rfl ?_
  refine q_icmp_ge (tgt := 80) dX10_strengthsAt_27 (by decide) (fun c27 => ?_) (fun c27 => ?_)
  · have H := H.1 c27
    refine q_iload_n dX10_strengthsAt_80 rfl ?_
    refine q_iload dX10_strengthsAt_81 rfl ?_
    refine q_if_eq (tgt := 90) dX10_strengthsAt_83 (by decide) (fun c83 => ?_) (fun c83 => ?_)
    · have H := H.1 c83
      refine q_iconst dX10_strengthsAt_90 (by decide) ?_
      obtain ⟨h1, H⟩ := H
      refine q_iadd dX10_strengthsAt_91 h1 ?_
      refine q_istore_n dX10_strengthsAt_92 (by decide) rfl ?_
      obtain ⟨h2, H⟩ := H
      refine q_iinc dX10_strengthsAt_93 rfl h2 rfl ?_
      refine q_goto (tgt := 9) dX10_strengthsAt_96 (by decide) ?_
      exact H
    · have H := H.2 c83
      refine q_iconst dX10_strengthsAt_86 (by decide) ?_
      refine q_goto (tgt := 91) dX10_strengthsAt_87 (by decide) ?_
      obtain ⟨h3, H⟩ := H
      refine q_iadd dX10_strengthsAt_91 h3 ?_
      refine q_istore_n dX10_strengthsAt_92 (by decide) rfl ?_
      obtain ⟨h4, H⟩ := H
      refine q_iinc dX10_strengthsAt_93 rfl h4 rfl ?_
      refine q_goto (tgt := 9) dX10_strengthsAt_96 (by decide) ?_
      exact H
  · have H := H.2 c27
    refine q_iload dX10_strengthsAt_30 rfl ?_
    refine q_if_eq (tgt := 71) dX10_strengthsAt_32 (by decide) (fun c32 => ?_) (fun c32 => ?_)
    · have H := H.1 c32
      refine q_iconst dX10_strengthsAt_71 (by decide) ?_
      refine q_istore dX10_strengthsAt_72 (by decide) rfl ?_
      obtain ⟨h5, H⟩ := H
      refine q_iinc dX10_strengthsAt_74 rfl h5 rfl ?_
      refine q_goto (tgt := 21) dX10_strengthsAt_77 (by decide) ?_
      exact H
    · have H := H.2 c32
      refine q_iload_n dX10_strengthsAt_35 rfl ?_
      refine q_aload_n dX10_strengthsAt_36 rfl ?_
      refine q_getr (r := 62) dX10_strengthsAt_37 lf_RX10_72 s44 rfl rfl ?_
      refine q_aload_n dX10_strengthsAt_40 rfl ?_
      refine q_getr (r := 52) dX10_strengthsAt_41 lf_RX10_42 s44 rfl rfl ?_
      refine q_iconst dX10_strengthsAt_44 (by decide) ?_
      refine q_iload dX10_strengthsAt_45 rfl ?_
      obtain ⟨h6, H⟩ := H
      refine q_imul dX10_strengthsAt_47 h6 ?_
      obtain ⟨h7, H⟩ := H
      obtain ⟨h8, H⟩ := H
      refine q_iald dX10_strengthsAt_48 s52 h7 h8 ?_
      obtain ⟨h9, H⟩ := H
      obtain ⟨h10, H⟩ := H
      refine q_iald dX10_strengthsAt_49 s62 h9 h10 ?_
      obtain ⟨h11, H⟩ := H
      refine q_cSi (as := [vI _, vI _]) dX10_strengthsAt_50 kmX10_left ktX10_left lm_RX10_201 ⟨by decide, by decide⟩ rfl rfl (Nat.le_of_ble_eq_true rfl) (c_X10_left h11) (fun v m1 hq => ?_)
      obtain ⟨rfl, rfl⟩ := hq
      refine q_aload_n dX10_strengthsAt_53 rfl ?_
      refine q_getr (r := 52) dX10_strengthsAt_54 lf_RX10_42 s44 rfl rfl ?_
      refine q_iconst dX10_strengthsAt_57 (by decide) ?_
      refine q_iload dX10_strengthsAt_58 rfl ?_
      refine q_imul dX10_strengthsAt_60 h6 ?_
      refine q_iconst dX10_strengthsAt_61 (by decide) ?_
      obtain ⟨h12, H⟩ := H
      refine q_iadd dX10_strengthsAt_62 h12 ?_
      obtain ⟨h13, H⟩ := H
      obtain ⟨h14, H⟩ := H
      refine q_iald dX10_strengthsAt_63 s52 h13 h14 ?_
      refine q_icmp_ne (tgt := 71) dX10_strengthsAt_64 (by decide) (fun c64 => ?_) (fun c64 => ?_)
      · have H := H.1 c64
        refine q_iconst dX10_strengthsAt_71 (by decide) ?_
        refine q_istore dX10_strengthsAt_72 (by decide) rfl ?_
        obtain ⟨h15, H⟩ := H
        refine q_iinc dX10_strengthsAt_74 rfl h15 rfl ?_
        refine q_goto (tgt := 21) dX10_strengthsAt_77 (by decide) ?_
        exact H
      · have H := H.2 c64
        refine q_iconst dX10_strengthsAt_67 (by decide) ?_
        refine q_goto (tgt := 72) dX10_strengthsAt_68 (by decide) ?_
        refine q_istore dX10_strengthsAt_72 (by decide) rfl ?_
        obtain ⟨h16, H⟩ := H
        refine q_iinc dX10_strengthsAt_74 rfl h16 rfl ?_
        refine q_goto (tgt := 21) dX10_strengthsAt_77 (by decide) ?_
        exact H
set_option maxRecDepth 20000 in
theorem v_X10_strengthsAt {c : Int} {P : Int → Mem → Prop} {mem : Mem}  (H : (okGM mem) ∧ ((0 ≤ c) ∧ ((c < nM mem) ∧ (∀ m4 : Mem, sprP mem c m4 → (w_X10_strengthsAt_9 c P 0 1 (vJ 0) (vJ 0) m4))))) : Tot mX10_strengthsAt 0 0 [vR 44, vI c] SH mem (Pr SH P) := by
  refine Tot.of rfl (Nat.le_of_ble_eq_true rfl) (by simp [isJ]) (ls := [vR 44, vI c, vJ 0, vJ 0, vJ 0, vJ 0]) rfl ?_
  refine q_aload_n dX10_strengthsAt_0 rfl ?_
  refine q_iload_n dX10_strengthsAt_1 rfl ?_
  obtain ⟨h1, H⟩ := H
  obtain ⟨h2, H⟩ := H
  obtain ⟨h3, H⟩ := H
  refine q_cVn (as := [vI _]) dX10_strengthsAt_2 kmX10_spreads kvX10_spreads lm_RX10_197 ⟨by decide, by decide⟩ s44 ⟨by decide, rfl⟩ rfl rfl (Nat.le_of_ble_eq_true rfl) (c_spr h1 h2 h3) (fun m1 hq => ?_)
  have H := H m1 hq
  refine q_iconst dX10_strengthsAt_5 (by decide) ?_
  refine q_istore_n dX10_strengthsAt_6 (by decide) rfl ?_
  refine q_iconst dX10_strengthsAt_7 (by decide) ?_
  refine q_istore_n dX10_strengthsAt_8 (by decide) rfl ?_
  exact H


theorem mst_in {m0 m4 : Mem} {c a2 a3 : Int} {P : Int → Mem → Prop} (hh : hmOK m0) (hn : nM m0 ≤ 12) (hs : sprP m0 c m4) (hd : ∀ i : Int, 0 ≤ i → i < m0 44 14 → 0 ≤ DM m0 c (mdC m0 i) ∧ DM m0 c (mdC m0 i) ≤ 1100) (ha2 : 0 ≤ a2 ∧ a2 ≤ 99) (ha3 : 1 ≤ a3 ∧ a3 ≤ 99)
    (K : ∀ (z : Int) (u4 u5 : Vl), ((agrF (DM m0 c) (mdC m0) (mdV m0) (m0 44 14) a3 ∧ z = a2 + 1) ∨ (¬ agrF (DM m0 c) (mdC m0) (mdV m0) (m0 44 14) a3 ∧ z = a2)) → w_X10_strengthsAt_9 c P z (a3 + 1) u4 u5 m4) :
    ∀ (k : Nat) (a4 a5 : Int), 0 ≤ a5 → a5 ≤ m0 44 14 → (m0 44 14 - a5).toNat ≤ k → ((a4 = 1 ∧ agrF (DM m0 c) (mdC m0) (mdV m0) a5 a3) ∨ (a4 = 0 ∧ ¬ agrF (DM m0 c) (mdC m0) (mdV m0) (m0 44 14) a3)) → w_X10_strengthsAt_21 c P a2 a3 a4 a5 m4 := by
  have h14 := hh.1
  have hF := hs.1
  have hend : ∀ (a4 a5 : Int), a5 = m0 44 14 → ((a4 = 1 ∧ agrF (DM m0 c) (mdC m0) (mdV m0) a5 a3) ∨ (a4 = 0 ∧ ¬ agrF (DM m0 c) (mdC m0) (mdV m0) (m0 44 14) a3)) → (a4 = 0 → (inR (a2 + 0)) ∧ ((inR (a3 + 1)) ∧ (w_X10_strengthsAt_9 c P (a2 + 0) (a3 + 1) (vI a4) (vI a5) m4))) ∧ (¬ a4 = 0 → (inR (a2 + 1)) ∧ ((inR (a3 + 1)) ∧ (w_X10_strengthsAt_9 c P (a2 + 1) (a3 + 1) (vI a4) (vI a5) m4))) := by
    intro a4 a5 e hI
    refine ⟨fun z => ⟨by unfold inR; omega, by unfold inR; omega, ?_⟩, fun z => ⟨by unfold inR; omega, by unfold inR; omega, ?_⟩⟩
    · rw [Int.add_zero]
      refine K _ _ _ (Or.inr ⟨?_, rfl⟩)
      rcases hI with ⟨h, -⟩ | ⟨-, h⟩
      · omega
      · exact h
    · refine K _ _ _ (Or.inl ⟨?_, rfl⟩)
      rcases hI with ⟨-, h⟩ | ⟨h, -⟩
      · rw [← e]; exact h
      · exact absurd h z
  intro k
  induction k with
  | zero =>
    intro a4 a5 h0 h1 hk hI
    exact v_X10_strengthsAt_21 ⟨fun _ => hend a4 a5 (by omega) hI, fun q => by rw [hF.at 44] at q; omega⟩
  | succ k ih =>
    intro a4 a5 h0 h1 hk hI
    refine v_X10_strengthsAt_21 ⟨fun q => hend a4 a5 (by rw [hF.at 44] at q; omega) hI, fun q => ?_⟩
    rw [hF.at 44] at q
    rw [hF.at 52]
    have hr := hh.2 a5 h0 q
    have hdd := hd a5 h0 q
    have e62 : m4 62 (mdC m0 a5).toNat = DM m0 c (mdC m0 a5) := hs.2 _ hr.1.1 hr.1.2
    have h12 : mdC m0 a5 < 12 := Int.lt_of_lt_of_le hr.1.2 hn
    have hst := agrF_s (D := DM m0 c) (hc := mdC m0) (hv := mdV m0) (n := a3) h0
    have hmo : ¬ agrF (DM m0 c) (mdC m0) (mdV m0) (a5 + 1) a3 → ¬ agrF (DM m0 c) (mdC m0) (mdV m0) (m0 44 14) a3 := fun hx hy => hx (fun i i0 i1 => hy i i0 (by omega))
    refine ⟨fun z => ⟨by unfold inR; omega, ih _ _ (by omega) (by omega) (by omega) (Or.inr ⟨rfl, ?_⟩)⟩, fun z => ⟨by unfold inR; omega, by omega, by omega, hr.1.1, h12, ?_⟩⟩
    · rcases hI with ⟨h, -⟩ | ⟨-, h⟩
      · omega
      · exact h
    have hag : agrF (DM m0 c) (mdC m0) (mdV m0) a5 a3 := by
      rcases hI with ⟨-, h⟩ | ⟨h, -⟩
      · exact h
      · exact absurd h z
    have e62' : m4 62 (m0 52 (2 * a5).toNat).toNat = DM m0 c (mdC m0 a5) := e62
    rw [e62']
    refine ⟨by unfold inR; omega, by unfold inR; omega, by omega, by omega, fun y => ⟨by unfold inR; omega, ih _ _ (by omega) (by omega) (by omega) (Or.inr ⟨rfl, hmo (fun x => y (hst.mp x).2)⟩)⟩, fun y => ⟨by unfold inR; omega, ih _ _ (by omega) (by omega) (by omega) (Or.inl ⟨rfl, hst.mpr ⟨hag, y⟩⟩)⟩⟩
theorem mst_out {m0 m4 : Mem} {c : Int} (hh : hmOK m0) (hn : nM m0 ≤ 12) (hs : sprP m0 c m4) (hd : ∀ i : Int, 0 ≤ i → i < m0 44 14 → 0 ≤ DM m0 c (mdC m0 i) ∧ DM m0 c (mdC m0 i) ≤ 1100) : ∀ (k j : Nat) (u4 u5 : Vl), 99 - j ≤ k → j ≤ 99 → w_X10_strengthsAt_9 c (anM m0 (stnM m0 c)) (cntF (agrF (DM m0 c) (mdC m0) (mdV m0) (m0 44 14)) j) ((j : Int) + 1) u4 u5 m4 := by
  have h14 := hh.1
  intro k
  induction k with
  | zero =>
    intro j u4 u5 hk hj
    have e : j = 99 := by omega
    subst e
    exact v_X10_strengthsAt_9 ⟨fun _ => ⟨rfl, hs.1⟩, fun q => by omega⟩
  | succ k ih =>
    intro j u4 u5 hk hj
    have hb := cntF_b (p := agrF (DM m0 c) (mdC m0) (mdV m0) (m0 44 14)) j
    refine v_X10_strengthsAt_9 ⟨fun q => ?_, fun q => ?_⟩
    · have e : j = 99 := by omega
      subst e
      exact ⟨rfl, hs.1⟩
    · refine mst_in hh hn hs hd (by omega) (by omega) (fun z u4 u5 hz => ?_) _ 1 0 (by omega) h14.1 (Nat.le_refl _) (Or.inl ⟨rfl, fun i i0 i1 => by omega⟩)
      have h := ih (j + 1) u4 u5 (by omega) (by omega)
      rcases hz with ⟨hz, e⟩ | ⟨hz, e⟩
      · rw [cntF_t hz] at h
        rw [e]
        exact h
      · rw [cntF_f hz] at h
        rw [e]
        exact h
theorem c_X10_strengthsAt {m0 : Mem} {c : Int} (hy : rdM m0) (hh : hmOK m0) (c0 : 0 ≤ c) (cn : c < nM m0) : Tot mX10_strengthsAt 0 0 [vR 44, vI c] SH m0 (Pr SH (anM m0 (stnM m0 c))) := by
  have hn := nM_b hy.1
  exact v_X10_strengthsAt ⟨hy.2, c0, cn, fun m4 h4 => mst_out hh hn.2 h4 (fun i i0 i1 => DM_b hy c0 cn (hh.2 i i0 i1).1.1 (hh.2 i i0 i1).1.2) 99 0 _ _ (by omega) (by omega)⟩
def w_X10_sources_8 (P : Int → Mem → Prop) (a1 : Int) (a2 : Int) (mem : Mem) : Prop := WP mX10_sources none 0 0 (Pr SH P) 8 [vR 44, vI a1, vI a2] [] SH mem
set_option maxRecDepth 20000 in
theorem v_X10_sources_8 {P : Int → Mem → Prop} {a1 : Int} {a2 : Int} {mem : Mem}  (H : (inR ((mem 44 0) * (mem 44 1))) ∧ ((((mem 44 0) * (mem 44 1)) ≤ a2 → P a1 mem) ∧ (a2 < ((mem 44 0) * (mem 44 1)) → (rdM mem) ∧ ((hmOK mem) ∧ ((0 ≤ a2) ∧ ((a2 < nM mem) ∧ (∀ (v6 : Int) (m7 : Mem), anM mem (stnM mem a2) v6 m7 → ((v6 ≤ 0 → (0 ≤ a1) ∧ ((inR (a2 + 1)) ∧ (w_X10_sources_8 P (((a1).toNat ||| ((0 : Int)).toNat : Nat) : Int) (a2 + 1) m7))) ∧ (0 < v6 → (a2 < 31) ∧ ((0 ≤ a1) ∧ ((0 ≤ ((2 ^ (a2).toNat : Nat) : Int)) ∧ ((inR (a2 + 1)) ∧ (w_X10_sources_8 P (((a1).toNat ||| (((2 ^ (a2).toNat : Nat) : Int)).toNat : Nat) : Int) (a2 + 1) m7))))))))))))) : w_X10_sources_8 P a1 a2 mem := by
  unfold w_X10_sources_8
  refine q_iload_n dX10_sources_8 rfl ?_
  refine q_aload_n dX10_sources_9 rfl ?_
  refine q_geti dX10_sources_10 lf_RX10_7 s44 rfl ?_
  refine q_aload_n dX10_sources_13 rfl ?_
  refine q_geti dX10_sources_14 lf_RX10_13 s44 rfl ?_
  obtain ⟨h1, H⟩ := H
  refine q_imul dX10_sources_17 h1 ?_
  refine q_icmp_ge (tgt := 45) dX10_sources_18 (by decide) (fun c18 => ?_) (fun c18 => ?_)
  · have H := H.1 c18
    refine q_iload_n dX10_sources_45 rfl ?_
    exact q_iret dX10_sources_46 rfl ⟨_, rfl, rfl, H⟩
  · have H := H.2 c18
    refine q_iload_n dX10_sources_21 rfl ?_
    refine q_aload_n dX10_sources_22 rfl ?_
    refine q_iload_n dX10_sources_23 rfl ?_
    obtain ⟨h2, H⟩ := H
    obtain ⟨h3, H⟩ := H
    obtain ⟨h4, H⟩ := H
    obtain ⟨h5, H⟩ := H
    refine q_cVi (as := [vI _]) dX10_sources_24 kmX10_strengthsAt kvX10_strengthsAt lm_RX10_266 ⟨by decide, by decide⟩ s44 ⟨by decide, rfl⟩ rfl rfl (Nat.le_of_ble_eq_true rfl) (c_X10_strengthsAt h2 h3 h4 h5) (fun v m1 hq => ?_)
    have H := H v m1 hq
    refine q_if_le (tgt := 36) dX10_sources_27 (by decide) (fun c27 => ?_) (fun c27 => ?_)
    · have H := H.1 c27
      refine q_iconst dX10_sources_36 (by decide) ?_
      obtain ⟨h8, H⟩ := H
      refine q_ior dX10_sources_37 h8 (by decide) ?_
      refine q_istore_n dX10_sources_38 (by decide) rfl ?_
      obtain ⟨h9, H⟩ := H
      refine q_iinc dX10_sources_39 rfl h9 rfl ?_
      refine q_goto (tgt := 8) dX10_sources_42 (by decide) ?_
      exact H
    · have H := H.2 c27
      refine q_iconst dX10_sources_30 (by decide) ?_
      refine q_iload_n dX10_sources_31 rfl ?_
      obtain ⟨h10, H⟩ := H
      refine q_shl1 dX10_sources_32 h4 h10 ?_
      refine q_goto (tgt := 37) dX10_sources_33 (by decide) ?_
      obtain ⟨h11, H⟩ := H
      obtain ⟨h12, H⟩ := H
      refine q_ior dX10_sources_37 h11 h12 ?_
      refine q_istore_n dX10_sources_38 (by decide) rfl ?_
      obtain ⟨h13, H⟩ := H
      refine q_iinc dX10_sources_39 rfl h13 rfl ?_
      refine q_goto (tgt := 8) dX10_sources_42 (by decide) ?_
      exact H
set_option maxRecDepth 20000 in
theorem v_X10_sources {P : Int → Mem → Prop} {mem : Mem}  (H : (hsM mem) ∧ ((moM mem) ∧ (∀ m3 : Mem, asnP mem m3 → (w_X10_sources_8 P 0 0 m3)))) : Tot mX10_sources 0 0 [vR 44] SH mem (Pr SH P) := by
  refine Tot.of rfl (Nat.le_of_ble_eq_true rfl) (by simp [isJ]) (ls := [vR 44, vJ 0, vJ 0]) rfl ?_
  refine q_aload_n dX10_sources_0 rfl ?_
  obtain ⟨h1, H⟩ := H
  obtain ⟨h2, H⟩ := H
  refine q_cVn (as := []) dX10_sources_1 kmX10_asNow kvX10_asNow lm_RX10_211 ⟨by decide, by decide⟩ s44 ⟨by decide, rfl⟩ rfl rfl (Nat.le_of_ble_eq_true rfl) (c_X10_asNow h1 h2) (fun m1 hq => ?_)
  have H := H m1 hq
  refine q_iconst dX10_sources_4 (by decide) ?_
  refine q_istore_n dX10_sources_5 (by decide) rfl ?_
  refine q_iconst dX10_sources_6 (by decide) ?_
  refine q_istore_n dX10_sources_7 (by decide) rfl ?_
  exact H

set_option maxRecDepth 20000 in
theorem v_X10_strengths {c : Int} {P : Int → Mem → Prop} {mem : Mem}  (H : (hsM mem) ∧ (((0 ≤ c ∧ c < nM mem) → (moM mem) ∧ (∀ m3 : Mem, asnP mem m3 → ((rdM m3) ∧ ((hmOK m3) ∧ ((c < nM m3) ∧ (∀ (v7 : Int) (m8 : Mem), anM m3 (stnM m3 c) v7 m8 → (P v7 m8))))))) ∧ (¬ (0 ≤ c ∧ c < nM mem) → P (-1) mem))) : Tot mX10_strengths 0 0 [vR 44, vI c] SH mem (Pr SH P) := by
  refine Tot.of rfl (Nat.le_of_ble_eq_true rfl) (by simp [isJ]) (ls := [vR 44, vI c]) rfl ?_
  refine q_aload_n dX10_strengths_0 rfl ?_
  refine q_iload_n dX10_strengths_1 rfl ?_
  obtain ⟨h1, H⟩ := H
  refine q_cVi (as := [vI _]) dX10_strengths_2 kmX10_isCell kvX10_isCell lm_RX10_208 ⟨by decide, by decide⟩ s44 ⟨by decide, rfl⟩ rfl rfl (Nat.le_of_ble_eq_true rfl) (c_X10_isCell h1) (fun v m1 hq => ?_)
  obtain ⟨rfl, rfl⟩ := hq
  refine q_if_ne (tgt := 10) dX10_strengths_5 (by decide) (fun c5 => ?_) (fun c5 => ?_)
  · have H := H.1 (b_yes c5)
    refine q_aload_n dX10_strengths_10 rfl ?_
    obtain ⟨h2, H⟩ := H
    refine q_cVn (as := []) dX10_strengths_11 kmX10_asNow kvX10_asNow lm_RX10_211 ⟨by decide, by decide⟩ s44 ⟨by decide, rfl⟩ rfl rfl (Nat.le_of_ble_eq_true rfl) (c_X10_asNow h1 h2) (fun m1 hq => ?_)
    have H := H m1 hq
    refine q_aload_n dX10_strengths_14 rfl ?_
    refine q_iload_n dX10_strengths_15 rfl ?_
    obtain ⟨h4, H⟩ := H
    obtain ⟨h5, H⟩ := H
    obtain ⟨h6, H⟩ := H
    refine q_cVi (as := [vI _]) dX10_strengths_16 kmX10_strengthsAt kvX10_strengthsAt lm_RX10_266 ⟨by decide, by decide⟩ s44 ⟨by decide, rfl⟩ rfl rfl (Nat.le_of_ble_eq_true rfl) (c_X10_strengthsAt h4 h5 (b_yes c5).1 h6) (fun v m1 hq => ?_)
    have H := H v m1 hq
    exact q_iret dX10_strengths_19 rfl ⟨_, rfl, rfl, H⟩
  · have H := H.2 (b_no c5)
    refine q_iconst dX10_strengths_8 (by decide) ?_
    exact q_iret dX10_strengths_9 rfl ⟨_, rfl, rfl, H⟩

set_option maxRecDepth 20000 in
theorem v_X10_hired {f t v : Int} {P : Int → Mem → Prop} {mem : Mem}  (H : (hsM mem) ∧ ((¬ (0 ≤ f ∧ f < nM mem) → P (-1) mem) ∧ ((0 ≤ f ∧ f < nM mem) → (¬ (0 ≤ t ∧ t < nM mem) → P (-1) mem) ∧ ((0 ≤ t ∧ t < nM mem) → ((1 ≤ v ∧ v ≤ 99) → (moM mem) ∧ (∀ m3 : Mem, asnP mem m3 → ((okGM m3) ∧ ((f < nM m3) ∧ (∀ m6 : Mem, sprP m3 f m6 → ((t < 12) ∧ ((inR ((m6 62 t.toNat) + v)) ∧ ((99 < ((m6 62 t.toNat) + v) → P (-9) m6) ∧ (((m6 62 t.toNat) + v) ≤ 99 → P ((m6 62 t.toNat) + v) m6))))))))) ∧ (¬ (1 ≤ v ∧ v ≤ 99) → P (-1) mem))))) : Tot mX10_hired 0 0 [vR 44, vI f, vI t, vI v] SH mem (Pr SH P) := by
  refine Tot.of rfl (Nat.le_of_ble_eq_true rfl) (by simp [isJ]) (ls := [vR 44, vI f, vI t, vI v]) rfl ?_
  refine q_aload_n dX10_hired_0 rfl ?_
  refine q_iload_n dX10_hired_1 rfl ?_
  obtain ⟨h1, H⟩ := H
  refine q_cVi (as := [vI _]) dX10_hired_2 kmX10_isCell kvX10_isCell lm_RX10_208 ⟨by decide, by decide⟩ s44 ⟨by decide, rfl⟩ rfl rfl (Nat.le_of_ble_eq_true rfl) (c_X10_isCell h1) (fun v m1 hq => ?_)
  obtain ⟨rfl, rfl⟩ := hq
  refine q_if_eq (tgt := 23) dX10_hired_5 (by decide) (fun c5 => ?_) (fun c5 => ?_)
  · have H := H.1 (b_no c5)
    refine q_iconst dX10_hired_23 (by decide) ?_
    exact q_iret dX10_hired_24 rfl ⟨_, rfl, rfl, H⟩
  · have H := H.2 (b_yes c5)
    refine q_aload_n dX10_hired_8 rfl ?_
    refine q_iload_n dX10_hired_9 rfl ?_
    refine q_cVi (as := [vI _]) dX10_hired_10 kmX10_isCell kvX10_isCell lm_RX10_208 ⟨by decide, by decide⟩ s44 ⟨by decide, rfl⟩ rfl rfl (Nat.le_of_ble_eq_true rfl) (c_X10_isCell h1) (fun v m1 hq => ?_)
    obtain ⟨rfl, rfl⟩ := hq
    refine q_if_eq (tgt := 23) dX10_hired_13 (by decide) (fun c13 => ?_) (fun c13 => ?_)
    · have H := H.1 (b_no c13)
      refine q_iconst dX10_hired_23 (by decide) ?_
      exact q_iret dX10_hired_24 rfl ⟨_, rfl, rfl, H⟩
    · have H := H.2 (b_yes c13)
      refine q_iload_n dX10_hired_16 rfl ?_
      refine q_cSi (as := [vI _]) dX10_hired_17 kmX10_isStrength ktX10_isStrength lm_RX10_269 ⟨by decide, by decide⟩ rfl rfl (Nat.le_of_ble_eq_true rfl) (c_X10_isStrength) (fun v m1 hq => ?_)
      obtain ⟨rfl, rfl⟩ := hq
      refine q_if_ne (tgt := 25) dX10_hired_20 (by decide) (fun c20 => ?_) (fun c20 => ?_)
      · have H := H.1 (b_yes c20)
        refine q_aload_n dX10_hired_25 rfl ?_
        obtain ⟨h2, H⟩ := H
        refine q_cVn (as := []) dX10_hired_26 kmX10_asNow kvX10_asNow lm_RX10_211 ⟨by decide, by decide⟩ s44 ⟨by decide, rfl⟩ rfl rfl (Nat.le_of_ble_eq_true rfl) (c_X10_asNow h1 h2) (fun m1 hq => ?_)
        have H := H m1 hq
        refine q_aload_n dX10_hired_29 rfl ?_
        refine q_iload_n dX10_hired_30 rfl ?_
        obtain ⟨h4, H⟩ := H
        obtain ⟨h5, H⟩ := H
        refine q_cVn (as := [vI _]) dX10_hired_31 kmX10_spreads kvX10_spreads lm_RX10_197 ⟨by decide, by decide⟩ s44 ⟨by decide, rfl⟩ rfl rfl (Nat.le_of_ble_eq_true rfl) (c_spr h4 (b_yes c5).1 h5) (fun m1 hq => ?_)
        have H := H m1 hq
        refine q_aload_n dX10_hired_34 rfl ?_
        refine q_getr (r := 62) dX10_hired_35 lf_RX10_72 s44 rfl rfl ?_
        refine q_iload_n dX10_hired_38 rfl ?_
        obtain ⟨h7, H⟩ := H
        refine q_iald dX10_hired_39 s62 (b_yes c13).1 h7 ?_
        refine q_iload_n dX10_hired_40 rfl ?_
        obtain ⟨h8, H⟩ := H
        refine q_iadd dX10_hired_41 h8 ?_
        refine q_bipush dX10_hired_42 rfl (by decide) ?_
        refine q_icmp_gt (tgt := 58) dX10_hired_44 (by decide) (fun c44 => ?_) (fun c44 => ?_)
        · have H := H.1 c44
          refine q_bipush dX10_hired_58 rfl (by decide) ?_
          exact q_iret dX10_hired_60 rfl ⟨_, rfl, rfl, H⟩
        · have H := H.2 c44
          refine q_aload_n dX10_hired_47 rfl ?_
          refine q_getr (r := 62) dX10_hired_48 lf_RX10_72 s44 rfl rfl ?_
          refine q_iload_n dX10_hired_51 rfl ?_
          refine q_iald dX10_hired_52 s62 (b_yes c13).1 h7 ?_
          refine q_iload_n dX10_hired_53 rfl ?_
          refine q_iadd dX10_hired_54 h8 ?_
          refine q_goto (tgt := 60) dX10_hired_55 (by decide) ?_
          exact q_iret dX10_hired_60 rfl ⟨_, rfl, rfl, H⟩
      · have H := H.2 (b_no c20)
        refine q_iconst dX10_hired_23 (by decide) ?_
        exact q_iret dX10_hired_24 rfl ⟨_, rfl, rfl, H⟩


def ssM (m0 : Mem) (c v : Int) (m : Mem) : Prop := ((0 ≤ c ∧ c < nM m0) ∧ (∃ m3, asnP m0 m3 ∧ v = stnM m3 c) ∧ Fr [59, 60, 61, 62] m0 m) ∨ (¬ (0 ≤ c ∧ c < nM m0) ∧ v = -1 ∧ m = m0)
theorem c_X10_strengths {m0 : Mem} {c : Int} (hh : hsM m0) (hm : moM m0) (hd : hmOK m0) : Tot mX10_strengths 0 0 [vR 44, vI c] SH m0 (Pr SH (ssM m0 c)) :=
  v_X10_strengths ⟨hh, fun q => ⟨hm, fun m3 h3 => ⟨asn_rd hh h3, hmOK_fr h3.1 hd, by rw [nM_fr h3.1]; exact q.2, fun v7 m8 h8 => Or.inl ⟨q, ⟨m3, h3, h8.1⟩, (h3.1.mono (by decide)).tr (h8.2.mono (by decide))⟩⟩⟩, fun q => Or.inr ⟨q, rfl, rfl⟩⟩
def soM (m0 : Mem) (v : Int) (m : Mem) : Prop := (∃ m3, asnP m0 m3 ∧ v = (bitF (fun c => 0 < stnM m3 c) (nM m0).toNat : Nat)) ∧ Fr [59, 60, 61, 62] m0 m
theorem or_0 {b : Nat} : ((((b : Int)).toNat ||| ((0 : Int)).toNat : Nat) : Int) = (b : Int) := by simp
theorem mso_loop {m0 m3 : Mem} (hh : hsM m0) (hd : hmOK m0) (h3 : asnP m0 m3) : ∀ (k : Nat) (a2 : Int) (m : Mem), 0 ≤ a2 → a2 ≤ nM m0 → (nM m0 - a2).toNat ≤ k → Fr [62] m3 m → w_X10_sources_8 (soM m0) (bitF (fun c => 0 < stnM m3 c) a2.toNat : Nat) a2 m := by
  have hn := nM_b hh
  have hy := asn_rd hh h3
  have en : ∀ m : Mem, Fr [62] m3 m → m 44 0 * m 44 1 = nM m0 := fun m hF => by rw [hF.at 44, h3.1.at 44]
  have hfin : ∀ (a2 : Int) (m : Mem), a2 = nM m0 → Fr [62] m3 m → soM m0 (bitF (fun c => 0 < stnM m3 c) a2.toNat : Nat) m := by
    intro a2 m e hF
    rw [e]
    exact ⟨⟨m3, h3, rfl⟩, (h3.1.mono (by decide)).tr (hF.mono (by decide))⟩
  intro k
  induction k with
  | zero =>
    intro a2 m h0 h1 hk hF
    refine v_X10_sources_8 ?_
    rw [en m hF]
    exact ⟨by unfold inR; omega, fun q => hfin a2 m (by omega) hF, fun q => by omega⟩
  | succ k ih =>
    intro a2 m h0 h1 hk hF
    refine v_X10_sources_8 ?_
    rw [en m hF]
    refine ⟨by unfold inR; omega, fun q => hfin a2 m (by omega) hF, fun q => ⟨rdM_fr hF hy, hmOK_fr hF (hmOK_fr h3.1 hd), h0, by rw [nM_fr hF, nM_fr h3.1]; exact q, fun v6 m7 h7 => ?_⟩⟩
    have ev : v6 = stnM m3 a2 := by rw [h7.1, stnM_fr hF]
    refine ⟨fun z => ⟨Int.natCast_nonneg _, by unfold inR; omega, ?_⟩, fun z => ⟨by omega, Int.natCast_nonneg _, Int.natCast_nonneg _, by unfold inR; omega, ?_⟩⟩
    · rw [or_0, ← bitF_skip (p := fun c => 0 < stnM m3 c) h0 (fun y => by rw [ev] at z; omega)]
      exact ih _ _ (by omega) (by omega) (by omega) (hF.tr h7.2)
    · rw [bitF_step (p := fun c => 0 < stnM m3 c) h0 (by rw [ev] at z; exact z)]
      exact ih _ _ (by omega) (by omega) (by omega) (hF.tr h7.2)
theorem c_X10_sources {m0 : Mem} (hh : hsM m0) (hm : moM m0) (hd : hmOK m0) : Tot mX10_sources 0 0 [vR 44] SH m0 (Pr SH (soM m0)) := by
  have hn := nM_b hh
  exact v_X10_sources ⟨hh, hm, fun m3 h3 => mso_loop hh hd h3 _ 0 m3 (by omega) (by omega) (Nat.le_refl _) Fr.rf⟩
def hiC (m0 : Mem) (f t n : Int) : Prop := (0 ≤ f ∧ f < nM m0) ∧ (0 ≤ t ∧ t < nM m0) ∧ (1 ≤ n ∧ n ≤ 99)
def hiM (m0 : Mem) (f t n v : Int) (m : Mem) : Prop := (hiC m0 f t n ∧ (∃ m3, asnP m0 m3 ∧ v = if DM m3 f t + n ≤ 99 then DM m3 f t + n else -9) ∧ Fr [59, 60, 61, 62] m0 m) ∨ (¬ hiC m0 f t n ∧ v = -1 ∧ m = m0)
theorem c_X10_hired {m0 : Mem} {f t v : Int} (hh : hsM m0) (hm : moM m0) : Tot mX10_hired 0 0 [vR 44, vI f, vI t, vI v] SH m0 (Pr SH (hiM m0 f t v)) := by
  have hn := nM_b hh
  refine v_X10_hired ⟨hh, fun q => Or.inr ⟨fun z => q z.1, rfl, rfl⟩, fun q => ⟨fun q2 => Or.inr ⟨fun z => q2 z.2.1, rfl, rfl⟩, fun q2 => ⟨fun q3 => ⟨hm, fun m3 h3 => ?_⟩, fun q3 => Or.inr ⟨fun z => q3 z.2.2, rfl, rfl⟩⟩⟩⟩
  have hy := asn_rd hh h3
  have en := nM_fr h3.1
  have hD := DM_b hy q.1 (by rw [en]; exact q.2) q2.1 (by rw [en]; exact q2.2)
  refine ⟨hy.2, by rw [en]; exact q.2, fun m6 h6 => ?_⟩
  have e62 : m6 62 t.toNat = DM m3 f t := h6.2 t q2.1 (by rw [en]; exact q2.2)
  have hL : Fr [59, 60, 61, 62] m0 m6 := (h3.1.mono (by decide)).tr (h6.1.mono (by decide))
  rw [e62]
  refine ⟨Int.lt_of_lt_of_le q2.2 hn.2, by unfold inR; omega, fun z => ?_, fun z => ?_⟩
  · exact Or.inl ⟨⟨q, q2, q3⟩, ⟨m3, h3, by rw [if_neg (by omega)]⟩, hL⟩
  · exact Or.inl ⟨⟨q, q2, q3⟩, ⟨m3, h3, by rw [if_pos z]⟩, hL⟩
