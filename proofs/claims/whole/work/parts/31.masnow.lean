/-! THE MODEL: mayLie, asNow, left, sounds, loudAt -/
theorem may_loop {m0 : Mem} {s c wi lo w : Int} (hh : hsM m0) (s0 : 0 ≤ s) (sn : s < m0 44 5) (ew : mW m0 s = wi) (el : mL m0 s = lo) (ew0 : m0 44 0 = w) (hf : fitsAt w (m0 44 1) wi lo c) :
    ∀ (k : Nat) (a3 a4 : Int) (u5 : Vl), 0 ≤ a4 → a4 ≤ 9 → (9 - a4).toNat ≤ k → ((a3 = 1 ∧ ∀ x : Int, 0 ≤ x → x < 12 → cov w wi lo c x → 3 * (x / w - c / w) + (x % w - c % w) < a4 → m0 61 x.toNat = -9) ∨ (a3 = 0 ∧ ¬ canP w (m0 44 1) wi lo c (m0 61))) → w_X10_mayLie_57 s c (canV w (m0 44 1) wi lo c (m0 61) m0) a3 a4 u5 m0 := by
  have h5 := hh.2.2.2.2.2.1
  have hw : w = 1 ∨ w = 2 ∨ w = 3 ∨ w = 4 := by rw [← ew0]; exact hh.1
  have hH := hh.2.1
  have hsh := hh.2.2.2.2.2.2.2.2.1 s s0 sn
  have hwi : 1 ≤ wi ∧ wi ≤ 3 := by rw [← ew]; exact hsh.2.1
  have hlo : 1 ≤ lo ∧ lo ≤ 3 := by rw [← el]; exact hsh.2.2.1
  obtain ⟨f1, f2, f3, f4⟩ := id hf
  have hmod : 0 ≤ c % w := Int.emod_nonneg _ (by omega)
  have hdiv : 0 ≤ c / w := Int.ediv_nonneg f1 (by omega)
  have hn12 : w * m0 44 1 ≤ 12 := by rcases hw with h | h | h | h <;> rcases hH with g | g | g <;> rw [h, g] <;> decide
  have hend : ∀ (a3 a4 : Int), 9 ≤ a4 → ((a3 = 1 ∧ ∀ x : Int, 0 ≤ x → x < 12 → cov w wi lo c x → 3 * (x / w - c / w) + (x % w - c % w) < a4 → m0 61 x.toNat = -9) ∨ (a3 = 0 ∧ ¬ canP w (m0 44 1) wi lo c (m0 61))) → (a3 = 0 ∨ a3 = 1) ∧ canV w (m0 44 1) wi lo c (m0 61) m0 a3 m0 := by
    intro a3 a4 h9 hI
    rcases hI with ⟨rfl, hx⟩ | ⟨rfl, hx⟩
    · exact ⟨Or.inr rfl, Or.inl ⟨⟨hf, fun x x0 x1 hc => hx x x0 x1 hc (by unfold cov at hc; omega)⟩, rfl⟩, rfl⟩
    · exact ⟨Or.inl rfl, Or.inr ⟨hx, rfl⟩, rfl⟩
  intro k
  induction k with
  | zero =>
    intro a3 a4 u5 h0 h1 hk hI
    exact v_X10_mayLie_57 ⟨fun z => hend a3 a4 z hI, fun z => by omega⟩
  | succ k ih =>
    intro a3 a4 u5 h0 h1 hk hI
    refine v_X10_mayLie_57 ?_
    rw [ew0]
    change (9 ≤ a4 → _) ∧ (a4 < 9 → (a3 = 0 → _) ∧ (¬ a3 = 0 → 0 ≤ a4 ∧ inR (4 * s) ∧ inR (4 * s + 1) ∧ 0 ≤ 4 * s + 1 ∧ 4 * s + 1 < 16 ∧ (mW m0 s ≤ a4 % 3 → _) ∧ (a4 % 3 < mW m0 s → inR (4 * s + 2) ∧ 0 ≤ 4 * s + 2 ∧ 4 * s + 2 < 16 ∧ (mL m0 s ≤ a4 / 3 → _) ∧ (a4 / 3 < mL m0 s → _))))
    rw [ew, el]
    refine ⟨fun z => hend a3 a4 z hI, fun z => ⟨fun z0 => ⟨Or.inl z0, by
      rcases hI with ⟨h, _⟩ | ⟨h, hx⟩
      · omega
      · exact ⟨Or.inr ⟨hx, z0⟩, rfl⟩⟩, fun z0 => ?_⟩⟩
    have hx : ∀ x : Int, 0 ≤ x → x < 12 → cov w wi lo c x → 3 * (x / w - c / w) + (x % w - c % w) < a4 → m0 61 x.toNat = -9 := by
      rcases hI with ⟨h, hx⟩ | ⟨h, _⟩
      · exact hx
      · exact absurd h z0
    have hskip : ¬ (a4 % 3 < wi ∧ a4 / 3 < lo) → (∀ x : Int, 0 ≤ x → x < 12 → cov w wi lo c x → 3 * (x / w - c / w) + (x % w - c % w) < a4 + 1 → m0 61 x.toNat = -9) := by
      intro hno x x0 x1 hc hlt
      exact hx x x0 x1 hc (by unfold cov at hc; omega)
    refine ⟨h0, by omega, by omega, by omega, by omega, fun y => ⟨by omega, ih _ _ _ (by omega) (by omega) (by omega) (Or.inl ⟨rfl, hskip (by omega)⟩)⟩, fun y => ⟨by omega, by omega, by omega, fun y2 => ⟨by omega, ih _ _ _ (by omega) (by omega) (by omega) (Or.inl ⟨rfl, hskip (by omega)⟩)⟩, fun y2 => ?_⟩⟩
    have hca := cell_at (r := a4 / 3) (k := a4 % 3) hw f1 (by omega) (by omega) (by omega)
    have hcomm : c + a4 / 3 * w + a4 % 3 = c + a4 % 3 + w * (a4 / 3) := by rw [Int.mul_comm w]; omega
    rw [hcomm] at hca
    have hwm : 0 ≤ w * (a4 / 3) ∧ w * (a4 / 3) ≤ 8 := by rcases hw with h | h | h | h <;> rw [h] <;> omega
    have hcn := (row_lt hw hH (x := c + a4 % 3 + w * (a4 / 3)) (by omega)).mp (by omega)
    refine ⟨by omega, by omega, by omega, by omega, by omega, fun g => ⟨by omega, ih _ _ _ (by omega) (by omega) (by omega) (Or.inr ⟨rfl, fun q => g (q.2 _ (by omega) (by omega) ?_)⟩)⟩, fun g => ⟨by omega, ih _ _ _ (by omega) (by omega) (by omega) (Or.inl ⟨rfl, fun x x0 x1 hc hlt => ?_⟩)⟩⟩
    · unfold cov
      rw [hca.1, hca.2]
      omega
    · have hxe := dm_eq (x := x) (y := c + a4 % 3 + w * (a4 / 3)) hw
      rw [hca.1, hca.2] at hxe
      by_cases hq : x = c + a4 % 3 + w * (a4 / 3)
      · rw [hq]; exact g
      · exact hx x x0 x1 hc (by unfold cov at hc; omega)
theorem c_X10_mayLie {m0 : Mem} {s c : Int} (hh : hsM m0) (s0 : 0 ≤ s) (sn : s < m0 44 5) (c0 : 0 ≤ c) (cn : c < m0 44 0 * m0 44 1) : Tot mX10_mayLie 0 0 [vR 44, vI s, vI c] SH m0 (Pr SH (canV (m0 44 0) (m0 44 1) (mW m0 s) (mL m0 s) c (m0 61) m0)) := by
  have h5 := hh.2.2.2.2.2.1
  have hw := hh.1
  have hH := hh.2.1
  have hsh := hh.2.2.2.2.2.2.2.2.1 s s0 sn
  generalize ew : mW m0 s = wi at hsh ⊢
  generalize el : mL m0 s = lo at hsh ⊢
  have hn12 : m0 44 0 * m0 44 1 ≤ 12 := by rcases hw with h | h | h | h <;> rcases hH with g | g | g <;> rw [h, g] <;> decide
  have hmd : 0 ≤ c % m0 44 0 ∧ c % m0 44 0 ≤ 3 ∧ 0 ≤ c / m0 44 0 ∧ c / m0 44 0 ≤ c := by
    rcases hw with h | h | h | h <;> rw [h] <;> omega
  have hno : ¬ fitsAt (m0 44 0) (m0 44 1) wi lo c → ∀ u5, w_X10_mayLie_57 s c (canV (m0 44 0) (m0 44 1) wi lo c (m0 61) m0) 0 0 u5 m0 := fun h u5 =>
    v_X10_mayLie_57 ⟨fun z => by omega, fun z => ⟨fun _ => ⟨Or.inl rfl, Or.inr ⟨fun q => h q.1, rfl⟩, rfl⟩, fun z0 => absurd rfl z0⟩⟩
  have ew2 : m0 46 (4 * s + 1).toNat = wi := ew
  have el2 : m0 46 (4 * s + 2).toNat = lo := el
  refine v_X10_mayLie ?_
  rw [ew2, el2]
  refine ⟨c0, by omega, by omega, by omega, by omega, by omega, by omega, fun z => hno (fun q => by have := q.2.2.1; omega) _, fun z => ⟨by omega, by omega, by omega, by omega, fun z2 => hno (fun q => by have := q.2.2.2; omega) _, fun z2 => ?_⟩⟩
  exact may_loop hh s0 sn ew el rfl ⟨c0, cn, z, z2⟩ _ 1 0 _ (by omega) (by omega) (Nat.le_refl _) (Or.inl ⟨rfl, fun x x0 x1 hc hlt => by unfold cov at hc; omega⟩)
/-- the model's moment can be -/
def moM (m : Mem) : Prop := ∀ s : Int, 0 ≤ s → s < m 44 5 → (m 48 (2 + s).toNat = -9 ∨ fitsAt (m 44 0) (m 44 1) (mW m s) (mL m s) (m 48 (2 + s).toNat)) ∧ 0 ≤ m 48 (6 + s).toNat ∧ m 48 (6 + s).toNat ≤ 100000
theorem moM_fr {ks : List Nat} {m m' : Mem} (h : Fr ks m m') (h4 : 44 ∉ ks := by decide) (h6 : 46 ∉ ks := by decide) (h8 : 48 ∉ ks := by decide) : moM m' ↔ moM m := by
  unfold moM mW mL
  rw [h 44 h4, h 46 h6, h 48 h8]
abbrev thM (m : Mem) (s wn : Int) : Int := max 0 (mT m s - wn / 10)
theorem c_X10_thickNow {m0 : Mem} {s wn : Int} (hh : hsM m0) (s0 : 0 ≤ s) (sn : s < m0 44 5) (w0 : 0 ≤ wn) (w1 : wn ≤ 100000) : Tot mX10_thickNow 0 0 [vR 44, vI s, vI wn] SH m0 (Pr SH (Pv (thM m0 s wn) m0)) := by
  have h5 := hh.2.2.2.2.2.1
  have hsh := (hh.2.2.2.2.2.2.2.2.1 s s0 sn).1
  have hT : 0 ≤ m0 46 (4 * s).toNat ∧ m0 46 (4 * s).toNat ≤ 30 := hsh
  refine v_X10_thickNow ⟨by omega, by omega, by omega, w0, by omega, fun z => ⟨?_, rfl⟩, fun z => ⟨?_, rfl⟩⟩
  · show (0 : Int) = max 0 (m0 46 (4 * s).toNat - wn / 10)
    omega
  · show m0 46 (4 * s).toNat - wn / 10 = max 0 (m0 46 (4 * s).toNat - wn / 10)
    omega
def w_X10_asNow_2 (P : Mem → Prop) (a1 : Int) (mem : Mem) : Prop := WP mX10_asNow none 0 0 (Pn SH P) 2 [vR 44, vI a1] [] SH mem
set_option maxRecDepth 20000 in
theorem v_X10_asNow_2 {P : Mem → Prop} {a1 : Int} {mem : Mem}  (H : (4 ≤ a1 → (hsM mem) ∧ ((liM mem) ∧ (∀ m3 : Mem, layP mem m3 → (P m3)))) ∧ (a1 < 4 → ((mem 44 5) ≤ a1 → (0 ≤ a1) ∧ (∀ m5 : Mem, m5 = mset mem 59 a1.toNat (-9) → (((m5 44 5) ≤ a1 → ∀ m6 : Mem, m6 = mset m5 60 a1.toNat 0 → ((inR (a1 + 1)) ∧ (w_X10_asNow_2 P (a1 + 1) m6))) ∧ (a1 < (m5 44 5) → (inR (6 + a1)) ∧ ((0 ≤ (6 + a1)) ∧ (((6 + a1) < 10) ∧ ((hsM m5) ∧ ((a1 < m5 44 5) ∧ ((0 ≤ (m5 48 (6 + a1).toNat)) ∧ (((m5 48 (6 + a1).toNat) ≤ 100000) ∧ (∀ m15 : Mem, m15 = mset m5 60 a1.toNat (thM m5 a1 (m5 48 (6 + a1).toNat)) → ((inR (a1 + 1)) ∧ (w_X10_asNow_2 P (a1 + 1) m15))))))))))))) ∧ (a1 < (mem 44 5) → (inR (2 + a1)) ∧ ((0 ≤ (2 + a1)) ∧ (((2 + a1) < 10) ∧ ((0 ≤ a1) ∧ (∀ m21 : Mem, m21 = mset mem 59 a1.toNat (mem 48 (2 + a1).toNat) → (((m21 44 5) ≤ a1 → ∀ m22 : Mem, m22 = mset m21 60 a1.toNat 0 → ((inR (a1 + 1)) ∧ (w_X10_asNow_2 P (a1 + 1) m22))) ∧ (a1 < (m21 44 5) → (inR (6 + a1)) ∧ ((0 ≤ (6 + a1)) ∧ (((6 + a1) < 10) ∧ ((hsM m21) ∧ ((a1 < m21 44 5) ∧ ((0 ≤ (m21 48 (6 + a1).toNat)) ∧ (((m21 48 (6 + a1).toNat) ≤ 100000) ∧ (∀ m31 : Mem, m31 = mset m21 60 a1.toNat (thM m21 a1 (m21 48 (6 + a1).toNat)) → ((inR (a1 + 1)) ∧ (w_X10_asNow_2 P (a1 + 1) m31)))))))))))))))))) : w_X10_asNow_2 P a1 mem := by
  unfold w_X10_asNow_2
  refine q_iload_n dX10_asNow_2 rfl ?_
  refine q_iconst dX10_asNow_3 (by decide) ?_
  refine q_icmp_ge (tgt := 72) dX10_asNow_4 (by decide) (fun c4 => ?_) (fun c4 => ?_)
  · have H := H.1 c4
    refine q_aload_n dX10_asNow_72 rfl ?_
    obtain ⟨h1, H⟩ := H
    obtain ⟨h2, H⟩ := H
    refine q_cVn (as := []) dX10_asNow_73 kmX10_layCells kvX10_layCells lm_RX10_184 ⟨by decide, by decide⟩ s44 ⟨by decide, rfl⟩ rfl rfl (Nat.le_of_ble_eq_true rfl) (c_X10_layCells h1 h2) (fun m1 hq => ?_)
    have H := H m1 hq
    exact q_vret dX10_asNow_76 rfl ⟨rfl, rfl, H⟩
  · have H := H.2 c4
    refine q_aload_n dX10_asNow_7 rfl ?_
    refine q_getr (r := 59) dX10_asNow_8 lf_RX10_63 s44 rfl rfl ?_
    refine q_iload_n dX10_asNow_11 rfl ?_
    refine q_iload_n dX10_asNow_12 rfl ?_
    refine q_aload_n dX10_asNow_13 rfl ?_
    refine q_geti dX10_asNow_14 lf_RX10_94 s44 rfl ?_
    refine q_icmp_ge (tgt := 31) dX10_asNow_17 (by decide) (fun c17 => ?_) (fun c17 => ?_)
    · have H := H.1 c17
      refine q_bipush dX10_asNow_31 rfl (by decide) ?_
      obtain ⟨h4, H⟩ := H
      refine q_iast dX10_asNow_33 s59 h4 c4 ?_
      have H := H _ rfl
      refine q_aload_n dX10_asNow_34 rfl ?_
      refine q_getr (r := 60) dX10_asNow_35 lf_RX10_66 s44 rfl rfl ?_
      refine q_iload_n dX10_asNow_38 rfl ?_
      refine q_iload_n dX10_asNow_39 rfl ?_
      refine q_aload_n dX10_asNow_40 rfl ?_
      refine q_geti dX10_asNow_41 lf_RX10_94 s44 rfl ?_
      refine q_icmp_ge (tgt := 64) dX10_asNow_44 (by decide) (fun c44 => ?_) (fun c44 => ?_)
      · have H := H.1 c44
        refine q_iconst dX10_asNow_64 (by decide) ?_
        refine q_iast dX10_asNow_65 s60 h4 c4 ?_
        have H := H _ rfl
        obtain ⟨h7, H⟩ := H
        refine q_iinc dX10_asNow_66 rfl h7 rfl ?_
        refine q_goto (tgt := 2) dX10_asNow_69 (by decide) ?_
        exact H
      · have H := H.2 c44
        refine q_aload_n dX10_asNow_47 rfl ?_
        refine q_iload_n dX10_asNow_48 rfl ?_
        refine q_aload_n dX10_asNow_49 rfl ?_
        refine q_getr (r := 48) dX10_asNow_50 lf_RX10_29 s44 rfl rfl ?_
        refine q_bipush dX10_asNow_53 rfl (by decide) ?_
        refine q_iload_n dX10_asNow_55 rfl ?_
        obtain ⟨h8, H⟩ := H
        refine q_iadd dX10_asNow_56 h8 ?_
        obtain ⟨h9, H⟩ := H
        obtain ⟨h10, H⟩ := H
        refine q_iald dX10_asNow_57 s48 h9 h10 ?_
        obtain ⟨h11, H⟩ := H
        obtain ⟨h12, H⟩ := H
        obtain ⟨h13, H⟩ := H
        obtain ⟨h14, H⟩ := H
        refine q_cVi (as := [vI _, vI _]) dX10_asNow_58 kmX10_thickNow kvX10_thickNow lm_RX10_180 ⟨by decide, by decide⟩ s44 ⟨by decide, rfl⟩ rfl rfl (Nat.le_of_ble_eq_true rfl) (c_X10_thickNow h11 h4 h12 h13 h14) (fun v m1 hq => ?_)
        obtain ⟨rfl, rfl⟩ := hq
        refine q_goto (tgt := 65) dX10_asNow_61 (by decide) ?_
        refine q_iast dX10_asNow_65 s60 h4 c4 ?_
        have H := H _ rfl
        obtain ⟨h16, H⟩ := H
        refine q_iinc dX10_asNow_66 rfl h16 rfl ?_
        refine q_goto (tgt := 2) dX10_asNow_69 (by decide) ?_
        exact H
    · have H := H.2 c17
      refine q_aload_n dX10_asNow_20 rfl ?_
      refine q_getr (r := 48) dX10_asNow_21 lf_RX10_29 s44 rfl rfl ?_
      refine q_iconst dX10_asNow_24 (by decide) ?_
      refine q_iload_n dX10_asNow_25 rfl ?_
      obtain ⟨h17, H⟩ := H
      refine q_iadd dX10_asNow_26 h17 ?_
      obtain ⟨h18, H⟩ := H
      obtain ⟨h19, H⟩ := H
      refine q_iald dX10_asNow_27 s48 h18 h19 ?_
      refine q_goto (tgt := 33) dX10_asNow_28 (by decide) ?_
      obtain ⟨h20, H⟩ := H
      refine q_iast dX10_asNow_33 s59 h20 c4 ?_
      have H := H _ rfl
      refine q_aload_n dX10_asNow_34 rfl ?_
      refine q_getr (r := 60) dX10_asNow_35 lf_RX10_66 s44 rfl rfl ?_
      refine q_iload_n dX10_asNow_38 rfl ?_
      refine q_iload_n dX10_asNow_39 rfl ?_
      refine q_aload_n dX10_asNow_40 rfl ?_
      refine q_geti dX10_asNow_41 lf_RX10_94 s44 rfl ?_
      refine q_icmp_ge (tgt := 64) dX10_asNow_44 (by decide) (fun c44 => ?_) (fun c44 => ?_)
      · have H := H.1 c44
        refine q_iconst dX10_asNow_64 (by decide) ?_
        refine q_iast dX10_asNow_65 s60 h20 c4 ?_
        have H := H _ rfl
        obtain ⟨h23, H⟩ := H
        refine q_iinc dX10_asNow_66 rfl h23 rfl ?_
        refine q_goto (tgt := 2) dX10_asNow_69 (by decide) ?_
        exact H
      · have H := H.2 c44
        refine q_aload_n dX10_asNow_47 rfl ?_
        refine q_iload_n dX10_asNow_48 rfl ?_
        refine q_aload_n dX10_asNow_49 rfl ?_
        refine q_getr (r := 48) dX10_asNow_50 lf_RX10_29 s44 rfl rfl ?_
        refine q_bipush dX10_asNow_53 rfl (by decide) ?_
        refine q_iload_n dX10_asNow_55 rfl ?_
        obtain ⟨h24, H⟩ := H
        refine q_iadd dX10_asNow_56 h24 ?_
        obtain ⟨h25, H⟩ := H
        obtain ⟨h26, H⟩ := H
        refine q_iald dX10_asNow_57 s48 h25 h26 ?_
        obtain ⟨h27, H⟩ := H
        obtain ⟨h28, H⟩ := H
        obtain ⟨h29, H⟩ := H
        obtain ⟨h30, H⟩ := H
        refine q_cVi (as := [vI _, vI _]) dX10_asNow_58 kmX10_thickNow kvX10_thickNow lm_RX10_180 ⟨by decide, by decide⟩ s44 ⟨by decide, rfl⟩ rfl rfl (Nat.le_of_ble_eq_true rfl) (c_X10_thickNow h27 h20 h28 h29 h30) (fun v m1 hq => ?_)
        obtain ⟨rfl, rfl⟩ := hq
        refine q_goto (tgt := 65) dX10_asNow_61 (by decide) ?_
        refine q_iast dX10_asNow_65 s60 h20 c4 ?_
        have H := H _ rfl
        obtain ⟨h32, H⟩ := H
        refine q_iinc dX10_asNow_66 rfl h32 rfl ?_
        refine q_goto (tgt := 2) dX10_asNow_69 (by decide) ?_
        exact H
set_option maxRecDepth 20000 in
theorem v_X10_asNow {P : Mem → Prop} {mem : Mem}  (H : w_X10_asNow_2 P 0 mem) : Tot mX10_asNow 0 0 [vR 44] SH mem (Pn SH P) := by
  refine Tot.of rfl (Nat.le_of_ble_eq_true rfl) (by simp [isJ]) (ls := [vR 44, vJ 0]) rfl ?_
  refine q_iconst dX10_asNow_0 (by decide) ?_
  refine q_istore_n dX10_asNow_1 (by decide) rfl ?_
  exact H


/-- left(n, k): what is left of a noise -/
def sprP (m0 : Mem) (f : Int) (m : Mem) : Prop := Fr [62] m0 m ∧ ∀ c : Int, 0 ≤ c → c < nM m0 → m 62 c.toNat = dist (nM m0) (m0 44 0) (ctM m0) f c
theorem c_spr {m0 : Mem} {f : Int} (hg : okGM m0) (f0 : 0 ≤ f) (fn : f < nM m0) : Tot mX10_spreads 0 0 [vR 44, vI f] SH m0 (Pn SH (sprP m0 f)) := c_X10_spreads hg f0 fn
theorem c_X10_sounds {m0 : Mem} {n hr : Int} (hn : 0 ≤ n ∧ n < 3) : Tot mX10_sounds 0 0 [vR 44, vI n, vI hr] SH m0 (Pr SH (Pv (if mnA m0 n ≤ hr ∧ hr ≤ mnB m0 n then 1 else 0) m0)) :=
  v_X10_sounds ⟨by omega, by omega, by omega, by omega, by omega, by omega, by omega, rfl, rfl⟩
def w_X10_loudAt_5 (c hr : Int) (P : Int → Mem → Prop) (a3 : Int) (a4 : Int) (u5 : Vl) (mem : Mem) : Prop := WP mX10_loudAt none 0 0 (Pr SH P) 5 [vR 44, vI c, vI hr, vI a3, vI a4, u5] [] SH mem
set_option maxRecDepth 20000 in
theorem v_X10_loudAt_5 {c hr : Int} {P : Int → Mem → Prop} {a3 : Int} {a4 : Int} {u5 : Vl} {mem : Mem}  (H : ((mem 44 3) ≤ a4 → P a3 mem) ∧ (a4 < (mem 44 3) → (0 ≤ a4 ∧ a4 < 3) ∧ ((¬ (mnA mem a4 ≤ hr ∧ hr ≤ mnB mem a4) → (inR (a4 + 1)) ∧ (w_X10_loudAt_5 c hr P a3 (a4 + 1) u5 mem)) ∧ ((mnA mem a4 ≤ hr ∧ hr ≤ mnB mem a4) → (inR (4 * a4)) ∧ ((0 ≤ (4 * a4)) ∧ (((4 * a4) < 12) ∧ ((okGM mem) ∧ ((0 ≤ (mem 45 (4 * a4).toNat)) ∧ (((mem 45 (4 * a4).toNat) < nM mem) ∧ (∀ m9 : Mem, sprP mem (mem 45 (4 * a4).toNat) m9 → ((inR ((4 * a4) + 1)) ∧ ((0 ≤ ((4 * a4) + 1)) ∧ ((((4 * a4) + 1) < 12) ∧ ((0 ≤ c) ∧ ((c < 12) ∧ ((inR ((m9 45 ((4 * a4) + 1).toNat) - (m9 62 c.toNat))) ∧ (((max 0 ((m9 45 ((4 * a4) + 1).toNat) - (m9 62 c.toNat))) ≤ a3 → (inR (a4 + 1)) ∧ (w_X10_loudAt_5 c hr P a3 (a4 + 1) (vI (max 0 ((m9 45 ((4 * a4) + 1).toNat) - (m9 62 c.toNat)))) m9)) ∧ (a3 < (max 0 ((m9 45 ((4 * a4) + 1).toNat) - (m9 62 c.toNat))) → (inR (a4 + 1)) ∧ (w_X10_loudAt_5 c hr P (max 0 ((m9 45 ((4 * a4) + 1).toNat) - (m9 62 c.toNat))) (a4 + 1) (vI (max 0 ((m9 45 ((4 * a4) + 1).toNat) - (m9 62 c.toNat)))) m9))))))))))))))))))) : w_X10_loudAt_5 c hr P a3 a4 u5 mem := by
  unfold w_X10_loudAt_5
  refine q_iload dX10_loudAt_5 rfl ?_
  refine q_aload_n dX10_loudAt_7 rfl ?_
  refine q_geti dX10_loudAt_8 lf_RX10_165 s44 rfl ?_
  refine q_icmp_ge (tgt := 78) dX10_loudAt_11 (by decide) (fun c11 => ?_) (fun c11 => ?_)
  · have H := H.1 c11
    refine q_iload_n dX10_loudAt_78 rfl ?_
    exact q_iret dX10_loudAt_79 rfl ⟨_, rfl, rfl, H⟩
  · have H := H.2 c11
    refine q_aload_n dX10_loudAt_14 rfl ?_
    refine q_iload dX10_loudAt_15 rfl ?_
    refine q_iload_n dX10_loudAt_17 rfl ?_
    obtain ⟨h1, H⟩ := H
    refine q_cVi (as := [vI _, vI _]) dX10_loudAt_18 kmX10_sounds kvX10_sounds lm_RX10_194 ⟨by decide, by decide⟩ s44 ⟨by decide, rfl⟩ rfl rfl (Nat.le_of_ble_eq_true rfl) (c_X10_sounds h1) (fun v m1 hq => ?_)
    obtain ⟨rfl, rfl⟩ := hq
    refine q_if_eq (tgt := 72) dX10_loudAt_21 (by decide) (fun c21 => ?_) (fun c21 => ?_)
    · have H := H.1 (b_no c21)
      obtain ⟨h2, H⟩ := H
      refine q_iinc dX10_loudAt_72 rfl h2 rfl ?_
      refine q_goto (tgt := 5) dX10_loudAt_75 (by decide) ?_
      exact H
    · have H := H.2 (b_yes c21)
      refine q_aload_n dX10_loudAt_24 rfl ?_
      refine q_aload_n dX10_loudAt_25 rfl ?_
      refine q_getr (r := 45) dX10_loudAt_26 lf_RX10_19 s44 rfl rfl ?_
      refine q_iconst dX10_loudAt_29 (by decide) ?_
      refine q_iload dX10_loudAt_30 rfl ?_
      obtain ⟨h3, H⟩ := H
      refine q_imul dX10_loudAt_32 h3 ?_
      obtain ⟨h4, H⟩ := H
      obtain ⟨h5, H⟩ := H
      refine q_iald dX10_loudAt_33 s45 h4 h5 ?_
      obtain ⟨h6, H⟩ := H
      obtain ⟨h7, H⟩ := H
      obtain ⟨h8, H⟩ := H
      refine q_cVn (as := [vI _]) dX10_loudAt_34 kmX10_spreads kvX10_spreads lm_RX10_197 ⟨by decide, by decide⟩ s44 ⟨by decide, rfl⟩ rfl rfl (Nat.le_of_ble_eq_true rfl) (c_spr h6 h7 h8) (fun m1 hq => ?_)
      have H := H m1 hq
      refine q_aload_n dX10_loudAt_37 rfl ?_
      refine q_getr (r := 45) dX10_loudAt_38 lf_RX10_19 s44 rfl rfl ?_
      refine q_iconst dX10_loudAt_41 (by decide) ?_
      refine q_iload dX10_loudAt_42 rfl ?_
      refine q_imul dX10_loudAt_44 h3 ?_
      refine q_iconst dX10_loudAt_45 (by decide) ?_
      obtain ⟨h10, H⟩ := H
      refine q_iadd dX10_loudAt_46 h10 ?_
      obtain ⟨h11, H⟩ := H
      obtain ⟨h12, H⟩ := H
      refine q_iald dX10_loudAt_47 s45 h11 h12 ?_
      refine q_aload_n dX10_loudAt_48 rfl ?_
      refine q_getr (r := 62) dX10_loudAt_49 lf_RX10_72 s44 rfl rfl ?_
      refine q_iload_n dX10_loudAt_52 rfl ?_
      obtain ⟨h13, H⟩ := H
      obtain ⟨h14, H⟩ := H
      refine q_iald dX10_loudAt_53 s62 h13 h14 ?_
      obtain ⟨h15, H⟩ := H
      refine q_cSi (as := [vI _, vI _]) dX10_loudAt_54 kmX10_left ktX10_left lm_RX10_201 ⟨by decide, by decide⟩ rfl rfl (Nat.le_of_ble_eq_true rfl) (c_X10_left h15) (fun v m1 hq => ?_)
      obtain ⟨rfl, rfl⟩ := hq
      refine q_istore dX10_loudAt_57 (by decide) rfl ?_
      refine q_iload dX10_loudAt_59 rfl ?_
      refine q_iload_n dX10_loudAt_61 rfl ?_
      refine q_icmp_le (tgt := 70) dX10_loudAt_62 (by decide) (fun c62 => ?_) (fun c62 => ?_)
      · have H := H.1 c62
        refine q_iload_n dX10_loudAt_70 rfl ?_
        refine q_istore_n dX10_loudAt_71 (by decide) rfl ?_
        obtain ⟨h16, H⟩ := H
        refine q_iinc dX10_loudAt_72 rfl h16 rfl ?_
        refine q_goto (tgt := 5) dX10_loudAt_75 (by decide) ?_
        exact H
      · have H := H.2 c62
        refine q_iload dX10_loudAt_65 rfl ?_
        refine q_goto (tgt := 71) dX10_loudAt_67 (by decide) ?_
        refine q_istore_n dX10_loudAt_71 (by decide) rfl ?_
        obtain ⟨h17, H⟩ := H
        refine q_iinc dX10_loudAt_72 rfl h17 rfl ?_
        refine q_goto (tgt := 5) dX10_loudAt_75 (by decide) ?_
        exact H
set_option maxRecDepth 20000 in
theorem v_X10_loudAt {c hr : Int} {P : Int → Mem → Prop} {mem : Mem}  (H : w_X10_loudAt_5 c hr P 0 0 (vJ 0) mem) : Tot mX10_loudAt 0 0 [vR 44, vI c, vI hr] SH mem (Pr SH P) := by
  refine Tot.of rfl (Nat.le_of_ble_eq_true rfl) (by simp [isJ]) (ls := [vR 44, vI c, vI hr, vJ 0, vJ 0, vJ 0]) rfl ?_
  refine q_iconst dX10_loudAt_0 (by decide) ?_
  refine q_istore_n dX10_loudAt_1 (by decide) rfl ?_
  refine q_iconst dX10_loudAt_2 (by decide) ?_
  refine q_istore dX10_loudAt_3 (by decide) rfl ?_
  exact H


