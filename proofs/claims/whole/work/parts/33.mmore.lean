/-! THE MODEL: findMore -/
def w_X10_findMore_2 (hr : Int) (P : Mem → Prop) (a2 : Int) (u3 : Vl) (u4 : Vl) (mem : Mem) : Prop := WP mX10_findMore none 0 0 (Pn SH P) 2 [vR 44, vI hr, vI a2, u3, u4] [] SH mem
def w_X10_findMore_22 (hr : Int) (P : Mem → Prop) (a2 : Int) (u3 : Vl) (u4 : Vl) (mem : Mem) : Prop := WP mX10_findMore none 0 0 (Pn SH P) 22 [vR 44, vI hr, vI a2, u3, u4] [] SH mem
def w_X10_findMore_53 (hr : Int) (P : Mem → Prop) (a2 : Int) (a3 : Int) (u4 : Vl) (mem : Mem) : Prop := WP mX10_findMore none 0 0 (Pn SH P) 53 [vR 44, vI hr, vI a2, vI a3, u4] [] SH mem
set_option maxRecDepth 20000 in
theorem v_X10_findMore_2 {hr : Int} {P : Mem → Prop} {a2 : Int} {u3 : Vl} {u4 : Vl} {mem : Mem}  (H : (4 ≤ a2 → w_X10_findMore_22 hr P 0 u3 u4 mem) ∧ (a2 < 4 → (0 ≤ a2) ∧ (∀ m2 : Mem, m2 = mset mem 63 a2.toNat 0 → ((inR (a2 + 1)) ∧ (w_X10_findMore_2 hr P (a2 + 1) u3 u4 m2))))) : w_X10_findMore_2 hr P a2 u3 u4 mem := by
  unfold w_X10_findMore_2
  refine q_iload_n dX10_findMore_2 rfl ?_
  refine q_iconst dX10_findMore_3 (by decide) ?_
  refine q_icmp_ge (tgt := 20) dX10_findMore_4 (by decide) (fun c4 => ?_) (fun c4 => ?_)
  · have H := H.1 c4
    refine q_iconst dX10_findMore_20 (by decide) ?_
    refine q_istore_n dX10_findMore_21 (by decide) rfl ?_
    exact H
  · have H := H.2 c4
    refine q_aload_n dX10_findMore_7 rfl ?_
    refine q_getr (r := 63) dX10_findMore_8 lf_RX10_75 s44 rfl rfl ?_
    refine q_iload_n dX10_findMore_11 rfl ?_
    refine q_iconst dX10_findMore_12 (by decide) ?_
    obtain ⟨h1, H⟩ := H
    refine q_iast dX10_findMore_13 s63 h1 c4 ?_
    have H := H _ rfl
    obtain ⟨h3, H⟩ := H
    refine q_iinc dX10_findMore_14 rfl h3 rfl ?_
    refine q_goto (tgt := 2) dX10_findMore_17 (by decide) ?_
    exact H
set_option maxRecDepth 20000 in
theorem v_X10_findMore_22 {hr : Int} {P : Mem → Prop} {a2 : Int} {u3 : Vl} {u4 : Vl} {mem : Mem}  (H : ((mem 44 3) ≤ a2 → P mem) ∧ (a2 < (mem 44 3) → (0 ≤ a2 ∧ a2 < 3) ∧ ((¬ (mnA mem a2 ≤ hr ∧ hr ≤ mnB mem a2) → (inR (a2 + 1)) ∧ (w_X10_findMore_22 hr P (a2 + 1) u3 u4 mem)) ∧ ((mnA mem a2 ≤ hr ∧ hr ≤ mnB mem a2) → (inR (4 * a2)) ∧ ((0 ≤ (4 * a2)) ∧ (((4 * a2) < 12) ∧ ((okGM mem) ∧ ((0 ≤ (mem 45 (4 * a2).toNat)) ∧ (((mem 45 (4 * a2).toNat) < nM mem) ∧ (∀ m9 : Mem, sprP mem (mem 45 (4 * a2).toNat) m9 → (w_X10_findMore_53 hr P a2 0 u4 m9))))))))))) : w_X10_findMore_22 hr P a2 u3 u4 mem := by
  unfold w_X10_findMore_22
  refine q_iload_n dX10_findMore_22 rfl ?_
  refine q_aload_n dX10_findMore_23 rfl ?_
  refine q_geti dX10_findMore_24 lf_RX10_165 s44 rfl ?_
  refine q_icmp_ge (tgt := 142) dX10_findMore_27 (by decide) (fun c27 => ?_) (fun c27 => ?_)
  · have H := H.1 c27
    exact q_vret dX10_findMore_142 rfl ⟨rfl, rfl, H⟩
  · have H := H.2 c27
    refine q_aload_n dX10_findMore_30 rfl ?_
    refine q_iload_n dX10_findMore_31 rfl ?_
    refine q_iload_n dX10_findMore_32 rfl ?_
    obtain ⟨h1, H⟩ := H
    refine q_cVi (as := [vI _, vI _]) dX10_findMore_33 kmX10_sounds kvX10_sounds lm_RX10_194 ⟨by decide, by decide⟩ s44 ⟨by decide, rfl⟩ rfl rfl (Nat.le_of_ble_eq_true rfl) (c_X10_sounds h1) (fun v m1 hq => ?_)
    obtain ⟨rfl, rfl⟩ := hq
    refine q_if_eq (tgt := 136) dX10_findMore_36 (by decide) (fun c36 => ?_) (fun c36 => ?_)
    · have H := H.1 (b_no c36)
      obtain ⟨h2, H⟩ := H
      refine q_iinc dX10_findMore_136 rfl h2 rfl ?_
      refine q_goto (tgt := 22) dX10_findMore_139 (by decide) ?_
      exact H
    · have H := H.2 (b_yes c36)
      refine q_aload_n dX10_findMore_39 rfl ?_
      refine q_aload_n dX10_findMore_40 rfl ?_
      refine q_getr (r := 45) dX10_findMore_41 lf_RX10_19 s44 rfl rfl ?_
      refine q_iconst dX10_findMore_44 (by decide) ?_
      refine q_iload_n dX10_findMore_45 rfl ?_
      obtain ⟨h3, H⟩ := H
      refine q_imul dX10_findMore_46 h3 ?_
      obtain ⟨h4, H⟩ := H
      obtain ⟨h5, H⟩ := H
      refine q_iald dX10_findMore_47 s45 h4 h5 ?_
      obtain ⟨h6, H⟩ := H
      obtain ⟨h7, H⟩ := H
      obtain ⟨h8, H⟩ := H
      refine q_cVn (as := [vI _]) dX10_findMore_48 kmX10_spreads kvX10_spreads lm_RX10_197 ⟨by decide, by decide⟩ s44 ⟨by decide, rfl⟩ rfl rfl (Nat.le_of_ble_eq_true rfl) (c_spr h6 h7 h8) (fun m1 hq => ?_)
      have H := H m1 hq
      refine q_iconst dX10_findMore_51 (by decide) ?_
      refine q_istore_n dX10_findMore_52 (by decide) rfl ?_
      exact H
set_option maxRecDepth 20000 in
theorem v_X10_findMore_53 {hr : Int} {P : Mem → Prop} {a2 : Int} {a3 : Int} {u4 : Vl} {mem : Mem}  (H : (inR ((mem 44 0) * (mem 44 1))) ∧ ((((mem 44 0) * (mem 44 1)) ≤ a3 → (inR (a2 + 1)) ∧ (w_X10_findMore_22 hr P (a2 + 1) (vI a3) u4 mem)) ∧ (a3 < ((mem 44 0) * (mem 44 1)) → (inR (4 * a2)) ∧ ((inR ((4 * a2) + 1)) ∧ ((0 ≤ ((4 * a2) + 1)) ∧ ((((4 * a2) + 1) < 12) ∧ ((0 ≤ a3) ∧ ((a3 < 12) ∧ ((inR ((mem 45 ((4 * a2) + 1).toNat) - (mem 62 a3.toNat))) ∧ ((0 ≤ (max 0 ((mem 45 ((4 * a2) + 1).toNat) - (mem 62 a3.toNat)))) ∧ (((mem 61 a3.toNat) = (-9) → (inR (a3 + 1)) ∧ (w_X10_findMore_53 hr P a2 (a3 + 1) (vI ((max 0 ((mem 45 ((4 * a2) + 1).toNat) - (mem 62 a3.toNat))) / 10)) mem)) ∧ (¬ (mem 61 a3.toNat) = (-9) → (0 ≤ (mem 61 a3.toNat)) ∧ (((mem 61 a3.toNat) < 4) ∧ ((((max 0 ((mem 45 ((4 * a2) + 1).toNat) - (mem 62 a3.toNat))) / 10) ≤ (mem 63 (mem 61 a3.toNat).toNat) → (inR (a3 + 1)) ∧ (w_X10_findMore_53 hr P a2 (a3 + 1) (vI ((max 0 ((mem 45 ((4 * a2) + 1).toNat) - (mem 62 a3.toNat))) / 10)) mem)) ∧ ((mem 63 (mem 61 a3.toNat).toNat) < ((max 0 ((mem 45 ((4 * a2) + 1).toNat) - (mem 62 a3.toNat))) / 10) → ∀ m15 : Mem, m15 = mset mem 63 (mem 61 a3.toNat).toNat ((max 0 ((mem 45 ((4 * a2) + 1).toNat) - (mem 62 a3.toNat))) / 10) → ((inR (a3 + 1)) ∧ (w_X10_findMore_53 hr P a2 (a3 + 1) (vI ((max 0 ((mem 45 ((4 * a2) + 1).toNat) - (mem 62 a3.toNat))) / 10)) m15))))))))))))))))) : w_X10_findMore_53 hr P a2 a3 u4 mem := by
  unfold w_X10_findMore_53
  refine q_iload_n dX10_findMore_53 rfl ?_
  refine q_aload_n dX10_findMore_54 rfl ?_
  refine q_geti dX10_findMore_55 lf_RX10_7 s44 rfl ?_
  refine q_aload_n dX10_findMore_58 rfl ?_
  refine q_geti dX10_findMore_59 lf_RX10_13 s44 rfl ?_
  obtain ⟨h1, H⟩ := H
  refine q_imul dX10_findMore_62 h1 ?_
  refine q_icmp_ge (tgt := 136) dX10_findMore_63 (by decide) (fun c63 => ?_) (fun c63 => ?_)
  · have H := H.1 c63
    obtain ⟨h2, H⟩ := H
    refine q_iinc dX10_findMore_136 rfl h2 rfl ?_
    refine q_goto (tgt := 22) dX10_findMore_139 (by decide) ?_
    exact H
  · have H := H.2 c63
    refine q_aload_n dX10_findMore_66 rfl ?_
    refine q_getr (r := 45) dX10_findMore_67 lf_RX10_19 s44 rfl rfl ?_
    refine q_iconst dX10_findMore_70 (by decide) ?_
    refine q_iload_n dX10_findMore_71 rfl ?_
    obtain ⟨h3, H⟩ := H
    refine q_imul dX10_findMore_72 h3 ?_
    refine q_iconst dX10_findMore_73 (by decide) ?_
    obtain ⟨h4, H⟩ := H
    refine q_iadd dX10_findMore_74 h4 ?_
    obtain ⟨h5, H⟩ := H
    obtain ⟨h6, H⟩ := H
    refine q_iald dX10_findMore_75 s45 h5 h6 ?_
    refine q_aload_n dX10_findMore_76 rfl ?_
    refine q_getr (r := 62) dX10_findMore_77 lf_RX10_72 s44 rfl rfl ?_
    refine q_iload_n dX10_findMore_80 rfl ?_
    obtain ⟨h7, H⟩ := H
    obtain ⟨h8, H⟩ := H
    refine q_iald dX10_findMore_81 s62 h7 h8 ?_
    obtain ⟨h9, H⟩ := H
    refine q_cSi (as := [vI _, vI _]) dX10_findMore_82 kmX10_left ktX10_left lm_RX10_201 ⟨by decide, by decide⟩ rfl rfl (Nat.le_of_ble_eq_true rfl) (c_X10_left h9) (fun v m1 hq => ?_)
    obtain ⟨rfl, rfl⟩ := hq
    refine q_bipush dX10_findMore_85 rfl (by decide) ?_
    obtain ⟨h10, H⟩ := H
    refine q_idiv dX10_findMore_87 h10 (by decide) ?_
    refine q_istore dX10_findMore_88 (by decide) rfl ?_
    refine q_aload_n dX10_findMore_90 rfl ?_
    refine q_getr (r := 61) dX10_findMore_91 lf_RX10_69 s44 rfl rfl ?_
    refine q_iload_n dX10_findMore_94 rfl ?_
    refine q_iald dX10_findMore_95 s61 h7 h8 ?_
    refine q_bipush dX10_findMore_96 rfl (by decide) ?_
    refine q_icmp_eq (tgt := 130) dX10_findMore_98 (by decide) (fun c98 => ?_) (fun c98 => ?_)
    · have H := H.1 c98
      obtain ⟨h11, H⟩ := H
      refine q_iinc dX10_findMore_130 rfl h11 rfl ?_
      refine q_goto (tgt := 53) dX10_findMore_133 (by decide) ?_
      exact H
    · have H := H.2 c98
      refine q_iload dX10_findMore_101 rfl ?_
      refine q_aload_n dX10_findMore_103 rfl ?_
      refine q_getr (r := 63) dX10_findMore_104 lf_RX10_75 s44 rfl rfl ?_
      refine q_aload_n dX10_findMore_107 rfl ?_
      refine q_getr (r := 61) dX10_findMore_108 lf_RX10_69 s44 rfl rfl ?_
      refine q_iload_n dX10_findMore_111 rfl ?_
      refine q_iald dX10_findMore_112 s61 h7 h8 ?_
      obtain ⟨h12, H⟩ := H
      obtain ⟨h13, H⟩ := H
      refine q_iald dX10_findMore_113 s63 h12 h13 ?_
      refine q_icmp_le (tgt := 130) dX10_findMore_114 (by decide) (fun c114 => ?_) (fun c114 => ?_)
      · have H := H.1 c114
        obtain ⟨h14, H⟩ := H
        refine q_iinc dX10_findMore_130 rfl h14 rfl ?_
        refine q_goto (tgt := 53) dX10_findMore_133 (by decide) ?_
        exact H
      · have H := H.2 c114
        refine q_aload_n dX10_findMore_117 rfl ?_
        refine q_getr (r := 63) dX10_findMore_118 lf_RX10_75 s44 rfl rfl ?_
        refine q_aload_n dX10_findMore_121 rfl ?_
        refine q_getr (r := 61) dX10_findMore_122 lf_RX10_69 s44 rfl rfl ?_
        refine q_iload_n dX10_findMore_125 rfl ?_
        refine q_iald dX10_findMore_126 s61 h7 h8 ?_
        refine q_iload dX10_findMore_127 rfl ?_
        refine q_iast dX10_findMore_129 s63 h12 h13 ?_
        have H := H _ rfl
        obtain ⟨h16, H⟩ := H
        refine q_iinc dX10_findMore_130 rfl h16 rfl ?_
        refine q_goto (tgt := 53) dX10_findMore_133 (by decide) ?_
        exact H
set_option maxRecDepth 20000 in
theorem v_X10_findMore {hr : Int} {P : Mem → Prop} {mem : Mem}  (H : w_X10_findMore_2 hr P 0 (vJ 0) (vJ 0) mem) : Tot mX10_findMore 0 0 [vR 44, vI hr] SH mem (Pn SH P) := by
  refine Tot.of rfl (Nat.le_of_ble_eq_true rfl) (by simp [isJ]) (ls := [vR 44, vI hr, vJ 0, vJ 0, vJ 0]) rfl ?_
  refine q_iconst dX10_findMore_0 (by decide) ?_
  refine q_istore_n dX10_findMore_1 (by decide) rfl ?_
  exact H


theorem losF_congr {on on' ld ld' : Int → Int} {s : Int} : ∀ (k : Nat), (∀ c : Int, 0 ≤ c → c < k → on c = on' c ∧ ld c = ld' c) → losF on ld s k = losF on' ld' s k
  | 0, _ => rfl
  | k + 1, h => by
    obtain ⟨h1, h2⟩ := h k (by omega) (by omega)
    simp only [losF]
    rw [h1, h2, losF_congr k (fun c c0 ck => h c c0 (by omega))]
theorem losF_ge {on ld : Int → Int} {s j : Int} (j0 : 0 ≤ j) (hj : on j = s) : ∀ (k : Nat), j < k → ld j ≤ losF on ld s k
  | 0, h => by omega
  | k + 1, h => by
    simp only [losF]
    by_cases q : j = k
    · rw [← q, if_pos hj]; omega
    · have := losF_ge (ld := ld) j0 hj k (by omega)
      split <;> omega
theorem losF_same {on ld ld' : Int → Int} {s j : Int} (hne : ∀ c : Int, c ≠ j → ld' c = ld c) (hj : on j ≠ s) : ∀ (k : Nat), losF on ld' s k = losF on ld s k
  | 0 => rfl
  | k + 1 => by
    simp only [losF]
    rw [losF_same hne hj k]
    by_cases q : (k : Int) = j
    · rw [q, if_neg hj, if_neg hj]
    · rw [hne k q]
theorem losF_out {on ld ld' : Int → Int} {s j : Int} (hne : ∀ c : Int, c ≠ j → ld' c = ld c) : ∀ (k : Nat), k ≤ j → losF on ld' s k = losF on ld s k
  | 0, _ => rfl
  | k + 1, h => by
    simp only [losF]
    rw [losF_out hne k (by omega), hne k (by omega)]
theorem losF_up {on ld ld' : Int → Int} {s j : Int} (hne : ∀ c : Int, c ≠ j → ld' c = ld c) (hj : on j = s) (hle : ld j ≤ ld' j) : ∀ (k : Nat), 0 ≤ j → j < k → losF on ld' s k = max (losF on ld s k) (ld' j)
  | 0, j0, h => by omega
  | k + 1, j0, h => by
    simp only [losF]
    by_cases q : (k : Int) = j
    · rw [q, if_pos hj, if_pos hj, losF_out hne k (by omega)]
      omega
    · rw [losF_up hne hj hle k j0 (by omega), hne k q]
      split <;> omega
noncomputable abbrev lfM (m : Mem) (hr : Int) (k : Nat) (c : Int) : Int := loudF (mnA m) (mnB m) (mnS m) (mnC m) (DM m) c hr hr k
noncomputable abbrev mxM (m : Mem) (hr : Int) (k : Nat) (j : Int) : Int → Int := fun c => if c < j then lfM m hr (k + 1) c else lfM m hr k c
abbrev ocM (m : Mem) : Int → Int := fun c => m 61 c.toNat
/-- by how much sheets wear in an hour -/
noncomputable abbrev morM (m : Mem) (hr s : Int) : Int := losF (ocM m) (fun c => ldM m c hr hr) s (nM m).toNat / 10
def fmP (m0 : Mem) (hr : Int) (m : Mem) : Prop := Fr [62, 63] m0 m ∧ ∀ s : Int, 0 ≤ s → s < 4 → m 63 s.toNat = morM m0 hr s
def fmI (m0 : Mem) (hr k : Int) (m : Mem) : Prop := Fr [62, 63] m0 m ∧ ∀ s : Int, 0 ≤ s → s < 4 → m 63 s.toNat = losF (ocM m0) (lfM m0 hr k.toNat) s (nM m0).toNat / 10
theorem fm_in {m0 : Mem} {hr k : Int} {P : Mem → Prop} (hy : rdM m0) (k0 : 0 ≤ k) (kn : k < m0 44 3) (hso : mnA m0 k ≤ hr ∧ hr ≤ mnB m0 k) (K : ∀ (u3 u4 : Vl) (m : Mem), fmI m0 hr (k + 1) m → w_X10_findMore_22 hr P (k + 1) u3 u4 m) :
    ∀ (n : Nat) (a3 : Int) (u4 : Vl) (m : Mem), 0 ≤ a3 → a3 ≤ nM m0 → (nM m0 - a3).toNat ≤ n → Fr [62, 63] m0 m → (∀ c : Int, 0 ≤ c → c < nM m0 → m 62 c.toNat = DM m0 (mnC m0 k) c) → (∀ s : Int, 0 ≤ s → s < 4 → m 63 s.toNat = losF (ocM m0) (mxM m0 hr k.toNat a3) s (nM m0).toNat / 10) → w_X10_findMore_53 hr P k a3 u4 m := by
  have h3 := hy.1.2.2.2.2.1
  have hno := hy.1.2.2.2.2.2.2.2.1 k k0 kn
  have hn := okG_n hy.2
  have hn' : 1 ≤ nM m0 ∧ nM m0 ≤ 12 := hn
  have hstop : ∀ (a3 : Int) (m : Mem), nM m0 ≤ a3 → Fr [62, 63] m0 m → (∀ s : Int, 0 ≤ s → s < 4 → m 63 s.toNat = losF (ocM m0) (mxM m0 hr k.toNat a3) s (nM m0).toNat / 10) → fmI m0 hr (k + 1) m := by
    intro a3 m h hF hx
    refine ⟨hF, fun s s0 s1 => ?_⟩
    rw [hx s s0 s1, show (k + 1).toNat = k.toNat + 1 by omega]
    congr 1
    refine losF_congr _ (fun c c0 ck => ⟨rfl, ?_⟩)
    show (if c < a3 then _ else _) = _
    rw [if_pos (by omega)]
  intro n
  induction n with
  | zero =>
    intro a3 u4 m h0 h1 hk hF hd hx
    refine v_X10_findMore_53 ?_
    rw [hF.at 44]
    exact ⟨by omega, fun z => ⟨by omega, K _ _ _ (hstop a3 m z hF hx)⟩, fun z => absurd (show a3 < nM m0 from z) (by omega)⟩
  | succ n ih =>
    intro a3 u4 m h0 h1 hk hF hd hx
    refine v_X10_findMore_53 ?_
    rw [hF.at 44, hF.at 45, hF.at 61]
    refine ⟨by omega, fun z => ⟨by omega, K _ _ _ (hstop a3 m z hF hx)⟩, fun z => ?_⟩
    have z' : a3 < nM m0 := z
    have hdd := hd a3 h0 z'
    have hDb := DM_b hy hno.1.1 hno.1.2 h0 z'
    have hS : m0 45 (4 * k + 1).toNat = mnS m0 k := rfl
    have hSb := hno.2.1
    rw [hdd, hS]
    have hlf : lfM m0 hr (k.toNat + 1) a3 = max (lfM m0 hr k.toNat a3) (mnS m0 k - DM m0 (mnC m0 k) a3) := by
      show (if mnA m0 ((k.toNat : Nat) : Int) ≤ hr ∧ hr ≤ mnB m0 ((k.toNat : Nat) : Int) then max _ (mnS m0 ((k.toNat : Nat) : Int) - DM m0 (mnC m0 ((k.toNat : Nat) : Int)) a3) else _) = _
      rw [show ((k.toNat : Nat) : Int) = k by omega, if_pos hso]
    have hlb : ∀ c : Int, 0 ≤ c → c < nM m0 → ∀ j : Nat, (j : Int) ≤ m0 44 3 → 0 ≤ lfM m0 hr j c ∧ lfM m0 hr j c ≤ 99 := by
      intro c c0 cn j hj
      refine loudF_b _ (fun i i0 ik => ?_)
      have q1 := hy.1.2.2.2.2.2.2.2.1 i i0 (by omega)
      exact ⟨q1.2.1.2, (DM_b hy q1.1.1 q1.1.2 c0 cn).1⟩
    have hne : ∀ c : Int, c ≠ a3 → mxM m0 hr k.toNat (a3 + 1) c = mxM m0 hr k.toNat a3 c := by
      intro c hc
      show (if c < a3 + 1 then _ else _) = (if c < a3 then _ else _)
      by_cases q : c < a3
      · rw [if_pos (by omega), if_pos q]
      · rw [if_neg (by omega), if_neg q]
    have hnew : mxM m0 hr k.toNat (a3 + 1) a3 = lfM m0 hr (k.toNat + 1) a3 := if_pos (by omega)
    have hold : mxM m0 hr k.toNat a3 a3 = lfM m0 hr k.toNat a3 := if_neg (by omega)
    have hsame : ∀ s : Int, m0 61 a3.toNat ≠ s → losF (ocM m0) (mxM m0 hr k.toNat (a3 + 1)) s (nM m0).toNat = losF (ocM m0) (mxM m0 hr k.toNat a3) s (nM m0).toNat := fun s hs => losF_same hne hs _
    have hup : ∀ s : Int, m0 61 a3.toNat = s → losF (ocM m0) (mxM m0 hr k.toNat (a3 + 1)) s (nM m0).toNat = max (losF (ocM m0) (mxM m0 hr k.toNat a3) s (nM m0).toNat) (lfM m0 hr (k.toNat + 1) a3) ∧ lfM m0 hr k.toNat a3 ≤ losF (ocM m0) (mxM m0 hr k.toNat a3) s (nM m0).toNat := by
      intro s hs
      have h1 := losF_up (on := ocM m0) (s := s) hne hs (by rw [hnew, hold, hlf]; omega) (nM m0).toNat h0 (by omega)
      have h2 := losF_ge (on := ocM m0) (ld := mxM m0 hr k.toNat a3) (s := s) h0 hs (nM m0).toNat (by omega)
      rw [hnew] at h1
      rw [hold] at h2
      exact ⟨h1, h2⟩
    have hpos := (hlb a3 h0 z' k.toNat (by omega)).1
    have ho := hy.2.2.2.2.2.1 a3 h0 (by omega)
    generalize mnS m0 k = S at hlf hSb ⊢
    generalize DM m0 (mnC m0 k) a3 = d at hlf hDb ⊢
    refine ⟨by omega, by omega, by omega, by omega, h0, by omega, by omega, by omega, fun y => ⟨by omega, ih _ _ _ (by omega) (by omega) (by omega) hF hd (fun s s0 s1 => ?_)⟩, fun y => ⟨by omega, by omega, fun g => ⟨by omega, ih _ _ _ (by omega) (by omega) (by omega) hF hd (fun s s0 s1 => ?_)⟩, fun g m15 hm => ⟨by omega, ih _ _ _ (by omega) (by omega) (by omega) (by rw [hm]; exact hF.set (by decide)) (fun c c0 cn => by rw [hm]; exact hd c c0 cn) (fun s s0 s1 => ?_)⟩⟩⟩
    · rw [hx s s0 s1, hsame s (by omega)]
    · by_cases hs : m0 61 a3.toNat = s
      · have e := hup s hs
        have g' := hx s s0 s1
        rw [hs, g'] at g
        rw [g', e.1, hlf]
        have e2 := e.2
        generalize losF (ocM m0) (mxM m0 hr k.toNat a3) s (nM m0).toNat = L at g e2 ⊢
        generalize lfM m0 hr k.toNat a3 = l at hpos e2 ⊢
        omega
      · rw [hx s s0 s1, hsame s hs]
    · rw [hm, mset_at]
      by_cases hs : m0 61 a3.toNat = s
      · have e := hup s hs
        have g' := hx s s0 s1
        rw [hs, g'] at g
        rw [if_pos ⟨rfl, by rw [hs]⟩, e.1, hlf]
        have e2 := e.2
        generalize losF (ocM m0) (mxM m0 hr k.toNat a3) s (nM m0).toNat = L at g e2 ⊢
        generalize lfM m0 hr k.toNat a3 = l at hpos e2 ⊢
        omega
      · rw [if_neg (by omega), hx s s0 s1, hsame s hs]
theorem fm_out {m0 : Mem} {hr : Int} (hy : rdM m0) : ∀ (n : Nat) (a2 : Int) (u3 u4 : Vl) (m : Mem), 0 ≤ a2 → a2 ≤ m0 44 3 → (m0 44 3 - a2).toNat ≤ n → fmI m0 hr a2 m → w_X10_findMore_22 hr (fmP m0 hr) a2 u3 u4 m := by
  have h3 := hy.1.2.2.2.2.1
  intro n
  induction n with
  | zero =>
    intro a2 u3 u4 m h0 h1 hk hI
    refine v_X10_findMore_22 ?_
    rw [hI.1.at 44]
    exact ⟨fun z => ⟨hI.1, fun s s0 s1 => by rw [hI.2 s s0 s1, show a2 = m0 44 3 by omega]⟩, fun z => by omega⟩
  | succ n ih =>
    intro a2 u3 u4 m h0 h1 hk hI
    have hF := hI.1
    refine v_X10_findMore_22 ?_
    rw [hF.at 44, (mno_fr hF).1, (mno_fr hF).2.1, hF.at 45]
    have ekk : (a2 + 1).toNat = a2.toNat + 1 := by omega
    have eka : ((a2.toNat : Nat) : Int) = a2 := by omega
    refine ⟨fun z => ⟨hI.1, fun s s0 s1 => by rw [hI.2 s s0 s1, show a2 = m0 44 3 by omega]⟩, fun z => ⟨by omega, fun y => ⟨by omega, ih _ _ _ _ (by omega) (by omega) (by omega) ⟨hF, fun s s0 s1 => ?_⟩⟩, fun y => ?_⟩⟩
    · rw [hI.2 s s0 s1, ekk]
      congr 1
      refine losF_congr _ (fun c c0 ck => ⟨rfl, ?_⟩)
      show _ = (if mnA m0 ((a2.toNat : Nat) : Int) ≤ hr ∧ hr ≤ mnB m0 ((a2.toNat : Nat) : Int) then _ else _)
      rw [eka, if_neg y]
    · have hno := hy.1.2.2.2.2.2.2.2.1 a2 h0 z
      have hn := okG_n hy.2
      have hq := okGM_fr hF
      refine ⟨by omega, by omega, by omega, hq.2.2 hy.2, hno.1.1, by rw [hq.2.1]; exact hno.1.2, fun m9 h9 => ?_⟩
      have hF9 : Fr [62, 63] m0 m9 := hF.tr (h9.1.mono (by decide))
      refine fm_in hy h0 z y (fun u3 u4 m h => ih _ _ _ _ (by omega) (by omega) (by omega) h) _ 0 u4 m9 (by omega) (Int.le_trans (by decide) hn.1) (Nat.le_refl _) hF9 (fun c c0 cn => ?_) (fun s s0 s1 => ?_)
      · rw [h9.2 c c0 (by rw [hq.2.1]; exact cn)]
        show DM m (mnC m0 a2) c = _
        rw [DM_fr hF]
      · rw [h9.1.at 63, hI.2 s s0 s1]
        congr 1
        refine losF_congr _ (fun c c0 ck => ⟨rfl, ?_⟩)
        show _ = (if c < 0 then _ else _)
        rw [if_neg (by omega)]
theorem fm_fill {m0 : Mem} {hr : Int} {P : Mem → Prop} (K : ∀ (u3 u4 : Vl) m, Fr [63] m0 m → (∀ s : Int, 0 ≤ s → s < 4 → m 63 s.toNat = 0) → w_X10_findMore_22 hr P 0 u3 u4 m) :
    ∀ (n : Nat) (a2 : Int) (u3 u4 : Vl) (m : Mem), 0 ≤ a2 → (4 - a2).toNat ≤ n → Fr [63] m0 m → (∀ s : Int, 0 ≤ s → s < a2 → m 63 s.toNat = 0) → w_X10_findMore_2 hr P a2 u3 u4 m := by
  intro n
  induction n with
  | zero => intro a2 u3 u4 m h0 hk hF hx; exact v_X10_findMore_2 ⟨fun c => K _ _ m hF (fun x x0 x1 => hx x x0 (by omega)), fun c => by omega⟩
  | succ n ih =>
    intro a2 u3 u4 m h0 hk hF hx
    refine v_X10_findMore_2 ⟨fun c => K _ _ m hF (fun x x0 x1 => hx x x0 (by omega)), fun c => ⟨h0, fun m2 h2 => ⟨by omega, ih _ _ _ _ (by omega) (by omega) (by rw [h2]; exact hF.set (by decide)) (fun x x0 x1 => ?_)⟩⟩⟩
    rw [h2, mset_at]
    by_cases q : x = a2
    · rw [if_pos ⟨rfl, by rw [q]⟩]
    · rw [if_neg (by omega)]
      exact hx x x0 (by omega)
theorem losF_0 {on : Int → Int} {s : Int} : ∀ (k : Nat), losF on (fun _ => 0) s k = 0
  | 0 => rfl
  | k + 1 => by
    simp only [losF]
    rw [losF_0 k]
    split <;> rfl
theorem c_X10_findMore {m0 : Mem} {hr : Int} (hy : rdM m0) : Tot mX10_findMore 0 0 [vR 44, vI hr] SH m0 (Pn SH (fmP m0 hr)) :=
  v_X10_findMore (fm_fill (fun u3 u4 m hF hx => fm_out hy _ 0 u3 u4 m (by omega) hy.1.2.2.2.2.1.1 (Nat.le_refl _) ⟨hF.mono (by decide), fun s s0 s1 => by rw [hx s s0 s1]; show (0 : Int) = losF (ocM m0) (fun _ => 0) s _ / 10; rw [losF_0]; rfl⟩) _ 0 _ _ m0 (by omega) (Nat.le_refl _) Fr.rf (fun x x0 x1 => by omega))
