/-! THE MODEL'S TEXT: must, readInto -/
set_option maxRecDepth 20000 in
theorem v_X10_must {b : Int} {P : Mem → Prop} {mem : Mem}  (H : (¬ (mem 44 25) = 0 → ∀ m1 : Mem, m1 = (mset mem 44 25 1) → ((¬ (m1 44 25) = 0 → P m1) ∧ ((m1 44 25) = 0 → (nxQ m1) ∧ (∀ m3 : Mem, nxP m1 m3 → (P m3))))) ∧ ((mem 44 25) = 0 → (¬ b = 0 → ∀ m4 : Mem, m4 = (mset mem 44 25 0) → ((¬ (m4 44 25) = 0 → P m4) ∧ ((m4 44 25) = 0 → (nxQ m4) ∧ (∀ m6 : Mem, nxP m4 m6 → (P m6))))) ∧ (b = 0 → ∀ m7 : Mem, m7 = (mset mem 44 25 1) → ((¬ (m7 44 25) = 0 → P m7) ∧ ((m7 44 25) = 0 → (nxQ m7) ∧ (∀ m9 : Mem, nxP m7 m9 → (P m9))))))) : Tot mX10_must 0 0 [vR 44, vI b] SH mem (Pn SH P) := by
  refine Tot.of rfl (Nat.le_of_ble_eq_true rfl) (by simp [isJ]) (ls := [vR 44, vI b]) rfl ?_
  refine q_aload_n dX10_must_0 rfl ?_
  refine q_aload_n dX10_must_1 rfl ?_
  refine q_geti dX10_must_2 lf_RX10_116 s44 rfl ?_
  refine q_if_ne (tgt := 12) dX10_must_5 (by decide) (fun c5 => ?_) (fun c5 => ?_)
  · have H := H.1 c5
    refine q_iconst dX10_must_12 (by decide) ?_
    refine q_goto (tgt := 17) dX10_must_13 (by decide) ?_
    refine q_puti dX10_must_17 lf_RX10_116 s44 rfl (Or.inl rfl) (fun _ => by decide) ?_
    have H := H _ rfl
    refine q_aload_n dX10_must_20 rfl ?_
    refine q_geti dX10_must_21 lf_RX10_116 s44 rfl ?_
    refine q_if_ne (tgt := 31) dX10_must_24 (by decide) (fun c24 => ?_) (fun c24 => ?_)
    · have H := H.1 c24
      exact q_vret dX10_must_31 rfl ⟨rfl, rfl, H⟩
    · have H := H.2 c24
      refine q_aload_n dX10_must_27 rfl ?_
      obtain ⟨h2, H⟩ := H
      refine q_cVn (as := []) dX10_must_28 kmX10_next kvX10_next lm_RX10_120 ⟨by decide, by decide⟩ s44 ⟨by decide, rfl⟩ rfl rfl (Nat.le_of_ble_eq_true rfl) (c_X10_next h2) (fun m1 hq => ?_)
      have H := H m1 hq
      exact q_vret dX10_must_31 rfl ⟨rfl, rfl, H⟩
  · have H := H.2 c5
    refine q_iload_n dX10_must_8 rfl ?_
    refine q_if_ne (tgt := 16) dX10_must_9 (by decide) (fun c9 => ?_) (fun c9 => ?_)
    · have H := H.1 c9
      refine q_iconst dX10_must_16 (by decide) ?_
      refine q_puti dX10_must_17 lf_RX10_116 s44 rfl (Or.inl rfl) (fun _ => by decide) ?_
      have H := H _ rfl
      refine q_aload_n dX10_must_20 rfl ?_
      refine q_geti dX10_must_21 lf_RX10_116 s44 rfl ?_
      refine q_if_ne (tgt := 31) dX10_must_24 (by decide) (fun c24 => ?_) (fun c24 => ?_)
      · have H := H.1 c24
        exact q_vret dX10_must_31 rfl ⟨rfl, rfl, H⟩
      · have H := H.2 c24
        refine q_aload_n dX10_must_27 rfl ?_
        obtain ⟨h5, H⟩ := H
        refine q_cVn (as := []) dX10_must_28 kmX10_next kvX10_next lm_RX10_120 ⟨by decide, by decide⟩ s44 ⟨by decide, rfl⟩ rfl rfl (Nat.le_of_ble_eq_true rfl) (c_X10_next h5) (fun m1 hq => ?_)
        have H := H m1 hq
        exact q_vret dX10_must_31 rfl ⟨rfl, rfl, H⟩
    · have H := H.2 c9
      refine q_iconst dX10_must_12 (by decide) ?_
      refine q_goto (tgt := 17) dX10_must_13 (by decide) ?_
      refine q_puti dX10_must_17 lf_RX10_116 s44 rfl (Or.inl rfl) (fun _ => by decide) ?_
      have H := H _ rfl
      refine q_aload_n dX10_must_20 rfl ?_
      refine q_geti dX10_must_21 lf_RX10_116 s44 rfl ?_
      refine q_if_ne (tgt := 31) dX10_must_24 (by decide) (fun c24 => ?_) (fun c24 => ?_)
      · have H := H.1 c24
        exact q_vret dX10_must_31 rfl ⟨rfl, rfl, H⟩
      · have H := H.2 c24
        refine q_aload_n dX10_must_27 rfl ?_
        obtain ⟨h8, H⟩ := H
        refine q_cVn (as := []) dX10_must_28 kmX10_next kvX10_next lm_RX10_120 ⟨by decide, by decide⟩ s44 ⟨by decide, rfl⟩ rfl rfl (Nat.le_of_ble_eq_true rfl) (c_X10_next h8) (fun m1 hq => ?_)
        have H := H m1 hq
        exact q_vret dX10_must_31 rfl ⟨rfl, rfl, H⟩

set_option maxRecDepth 20000 in
theorem v_X10_cells {P : Int → Mem → Prop} {mem : Mem}  (H : (inR ((mem 55 0) * (mem 55 1))) ∧ (P ((mem 55 0) * (mem 55 1)) mem)) : Tot mX10_cells 0 0 [vR 44] SH mem (Pr SH P) := by
  refine Tot.of rfl (Nat.le_of_ble_eq_true rfl) (by simp [isJ]) (ls := [vR 44]) rfl ?_
  refine q_aload_n dX10_cells_0 rfl ?_
  refine q_getr (r := 55) dX10_cells_1 lf_RX10_51 s44 rfl rfl ?_
  refine q_iconst dX10_cells_4 (by decide) ?_
  refine q_iald dX10_cells_5 s55 (by decide) (by decide) ?_
  refine q_aload_n dX10_cells_6 rfl ?_
  refine q_getr (r := 55) dX10_cells_7 lf_RX10_51 s44 rfl rfl ?_
  refine q_iconst dX10_cells_10 (by decide) ?_
  refine q_iald dX10_cells_11 s55 (by decide) (by decide) ?_
  obtain ⟨h1, H⟩ := H
  refine q_imul dX10_cells_12 h1 ?_
  exact q_iret dX10_cells_13 rfl ⟨_, rfl, rfl, H⟩


def muP (m0 : Mem) (b : Int) (m : Mem) : Prop := ((m0 44 25 ≠ 0 ∨ b = 0) ∧ m = mset m0 44 25 1) ∨ ((m0 44 25 = 0 ∧ b ≠ 0) ∧ nxP m0 m)
theorem c_X10_must {m0 : Mem} {b : Int} (hq : nxQ m0) : Tot mX10_must 0 0 [vR 44, vI b] SH m0 (Pn SH (muP m0 b)) := by
  refine v_X10_must ⟨fun z m1 e1 => ⟨fun _ => Or.inl ⟨Or.inl z, e1⟩, fun y => ?_⟩, fun z => ⟨fun y m4 e4 => ?_, fun y m7 e7 => ⟨fun _ => Or.inl ⟨Or.inr y, e7⟩, fun w => ?_⟩⟩⟩
  · rw [e1, mset_eq] at y
    exact absurd y (by decide)
  · have e : m4 = m0 := by rw [e4, ← z, mset_id]
    rw [e]
    exact ⟨fun w => absurd z w, fun _ => ⟨hq, fun m6 h6 => Or.inr ⟨⟨z, y⟩, h6⟩⟩⟩
  · rw [e7, mset_eq] at w
    exact absurd w (by decide)
theorem c_X10_cells {m0 : Mem} (h : inR (m0 55 0 * m0 55 1)) : Tot mX10_cells 0 0 [vR 44] SH m0 (Pr SH (Pv (m0 55 0 * m0 55 1) m0)) := v_X10_cells ⟨h, rfl, rfl⟩
def riG (m0 : Mem) (lo hi : Int) : Prop := m0 44 25 = 0 ∧ m0 44 23 = 2 ∧ lo ≤ m0 44 24 ∧ m0 44 24 ≤ hi
def riP (row : Nat) (m0 : Mem) (k lo hi v : Int) (m : Mem) : Prop := v = m0 44 24 ∧ ((¬ riG m0 lo hi ∧ m = mset m0 44 25 1) ∨ (riG m0 lo hi ∧ ∃ m1, nxP m0 m1 ∧ m = mset m1 row k.toNat v))
set_option maxRecDepth 20000 in
theorem v_X10_readInto_55 {k lo hi : Int} {P : Int → Mem → Prop} {mem : Mem}  (H : (¬ (mem 44 23) = 2 → (nxQ mem) ∧ (∀ m2 : Mem, muP mem 0 m2 → ((¬ (m2 44 25) = 0 → P (mem 44 24) m2) ∧ ((m2 44 25) = 0 → (0 ≤ k) ∧ ((k < 3) ∧ (∀ m5 : Mem, m5 = mset m2 55 k.toNat (mem 44 24) → (P (mem 44 24) m5))))))) ∧ ((mem 44 23) = 2 → (¬ (lo ≤ (mem 44 24) ∧ (mem 44 24) ≤ hi) → (nxQ mem) ∧ (∀ m7 : Mem, muP mem 0 m7 → ((¬ (m7 44 25) = 0 → P (mem 44 24) m7) ∧ ((m7 44 25) = 0 → (0 ≤ k) ∧ ((k < 3) ∧ (∀ m10 : Mem, m10 = mset m7 55 k.toNat (mem 44 24) → (P (mem 44 24) m10))))))) ∧ ((lo ≤ (mem 44 24) ∧ (mem 44 24) ≤ hi) → (nxQ mem) ∧ (∀ m12 : Mem, muP mem 1 m12 → ((¬ (m12 44 25) = 0 → P (mem 44 24) m12) ∧ ((m12 44 25) = 0 → (0 ≤ k) ∧ ((k < 3) ∧ (∀ m15 : Mem, m15 = mset m12 55 k.toNat (mem 44 24) → (P (mem 44 24) m15))))))))) : Tot mX10_readInto 0 0 [vR 44, vR 55, vI k, vI lo, vI hi] SH mem (Pr SH P) := by
  refine Tot.of rfl (Nat.le_of_ble_eq_true rfl) (by simp [isJ]) (ls := [vR 44, vR 55, vI k, vI lo, vI hi, vJ 0]) rfl ?_
  refine q_aload_n dX10_readInto_0 rfl ?_
  refine q_geti dX10_readInto_1 lf_RX10_113 s44 rfl ?_
  refine q_istore dX10_readInto_4 (by decide) rfl ?_
  refine q_aload_n dX10_readInto_6 rfl ?_
  refine q_aload_n dX10_readInto_7 rfl ?_
  refine q_geti dX10_readInto_8 lf_RX10_110 s44 rfl ?_
  refine q_iconst dX10_readInto_11 (by decide) ?_
  refine q_icmp_ne (tgt := 30) dX10_readInto_12 (by decide) (fun c12 => ?_) (fun c12 => ?_)
  · have H := H.1 c12
    refine q_iconst dX10_readInto_30 (by decide) ?_
    obtain ⟨h1, H⟩ := H
    refine q_cVn (as := [vI _]) dX10_readInto_31 kmX10_must kvX10_must lm_RX10_123 ⟨by decide, by decide⟩ s44 ⟨by decide, rfl⟩ rfl rfl (Nat.le_of_ble_eq_true rfl) (c_X10_must h1) (fun m1 hq => ?_)
    have H := H m1 hq
    refine q_aload_n dX10_readInto_34 rfl ?_
    refine q_geti dX10_readInto_35 lf_RX10_116 s44 rfl ?_
    refine q_if_ne (tgt := 46) dX10_readInto_38 (by decide) (fun c38 => ?_) (fun c38 => ?_)
    · have H := H.1 c38
      refine q_iload dX10_readInto_46 rfl ?_
      exact q_iret dX10_readInto_48 rfl ⟨_, rfl, rfl, H⟩
    · have H := H.2 c38
      refine q_aload_n dX10_readInto_41 rfl ?_
      refine q_iload_n dX10_readInto_42 rfl ?_
      refine q_iload dX10_readInto_43 rfl ?_
      obtain ⟨h3, H⟩ := H
      obtain ⟨h4, H⟩ := H
      refine q_iast dX10_readInto_45 s55 h3 h4 ?_
      have H := H _ rfl
      refine q_iload dX10_readInto_46 rfl ?_
      exact q_iret dX10_readInto_48 rfl ⟨_, rfl, rfl, H⟩
  · have H := H.2 c12
    refine q_iload dX10_readInto_15 rfl ?_
    refine q_iload_n dX10_readInto_17 rfl ?_
    refine q_iload dX10_readInto_18 rfl ?_
    refine q_cSi (as := [vI _, vI _, vI _]) dX10_readInto_20 kmX10_in ktX10_in lm_RX10_90 ⟨by decide, by decide⟩ rfl rfl (Nat.le_of_ble_eq_true rfl) (c_X10_in) (fun v m1 hq => ?_)
    obtain ⟨rfl, rfl⟩ := hq
    refine q_if_eq (tgt := 30) dX10_readInto_23 (by decide) (fun c23 => ?_) (fun c23 => ?_)
    · have H := H.1 (b_no c23)
      refine q_iconst dX10_readInto_30 (by decide) ?_
      obtain ⟨h6, H⟩ := H
      refine q_cVn (as := [vI _]) dX10_readInto_31 kmX10_must kvX10_must lm_RX10_123 ⟨by decide, by decide⟩ s44 ⟨by decide, rfl⟩ rfl rfl (Nat.le_of_ble_eq_true rfl) (c_X10_must h6) (fun m1 hq => ?_)
      have H := H m1 hq
      refine q_aload_n dX10_readInto_34 rfl ?_
      refine q_geti dX10_readInto_35 lf_RX10_116 s44 rfl ?_
      refine q_if_ne (tgt := 46) dX10_readInto_38 (by decide) (fun c38 => ?_) (fun c38 => ?_)
      · have H := H.1 c38
        refine q_iload dX10_readInto_46 rfl ?_
        exact q_iret dX10_readInto_48 rfl ⟨_, rfl, rfl, H⟩
      · have H := H.2 c38
        refine q_aload_n dX10_readInto_41 rfl ?_
        refine q_iload_n dX10_readInto_42 rfl ?_
        refine q_iload dX10_readInto_43 rfl ?_
        obtain ⟨h8, H⟩ := H
        obtain ⟨h9, H⟩ := H
        refine q_iast dX10_readInto_45 s55 h8 h9 ?_
        have H := H _ rfl
        refine q_iload dX10_readInto_46 rfl ?_
        exact q_iret dX10_readInto_48 rfl ⟨_, rfl, rfl, H⟩
    · have H := H.2 (b_yes c23)
      refine q_iconst dX10_readInto_26 (by decide) ?_
      refine q_goto (tgt := 31) dX10_readInto_27 (by decide) ?_
      obtain ⟨h11, H⟩ := H
      refine q_cVn (as := [vI _]) dX10_readInto_31 kmX10_must kvX10_must lm_RX10_123 ⟨by decide, by decide⟩ s44 ⟨by decide, rfl⟩ rfl rfl (Nat.le_of_ble_eq_true rfl) (c_X10_must h11) (fun m1 hq => ?_)
      have H := H m1 hq
      refine q_aload_n dX10_readInto_34 rfl ?_
      refine q_geti dX10_readInto_35 lf_RX10_116 s44 rfl ?_
      refine q_if_ne (tgt := 46) dX10_readInto_38 (by decide) (fun c38 => ?_) (fun c38 => ?_)
      · have H := H.1 c38
        refine q_iload dX10_readInto_46 rfl ?_
        exact q_iret dX10_readInto_48 rfl ⟨_, rfl, rfl, H⟩
      · have H := H.2 c38
        refine q_aload_n dX10_readInto_41 rfl ?_
        refine q_iload_n dX10_readInto_42 rfl ?_
        refine q_iload dX10_readInto_43 rfl ?_
        obtain ⟨h13, H⟩ := H
        obtain ⟨h14, H⟩ := H
        refine q_iast dX10_readInto_45 s55 h13 h14 ?_
        have H := H _ rfl
        refine q_iload dX10_readInto_46 rfl ?_
        exact q_iret dX10_readInto_48 rfl ⟨_, rfl, rfl, H⟩

theorem c_ri_55 {m0 : Mem} {k lo hi : Int} (hq : nxQ m0) (k0 : 0 ≤ k) (k1 : k < 3) : Tot mX10_readInto 0 0 [vR 44, vR 55, vI k, vI lo, vI hi] SH m0 (Pr SH (riP 55 m0 k lo hi)) := by
  have hbad : ∀ (m2 : Mem), ¬ riG m0 lo hi → muP m0 0 m2 → (¬ m2 44 25 = 0 → riP 55 m0 k lo hi (m0 44 24) m2) ∧ (m2 44 25 = 0 → (0 ≤ k) ∧ ((k < 3) ∧ (∀ m5 : Mem, m5 = mset m2 55 k.toNat (m0 44 24) → (riP 55 m0 k lo hi (m0 44 24) m5)))) := by
    intro m2 hn h2
    have e2 : m2 = mset m0 44 25 1 := by
      rcases h2 with ⟨-, e⟩ | ⟨⟨-, e⟩, -⟩
      · exact e
      · exact absurd rfl e
    refine ⟨fun _ => ⟨rfl, Or.inl ⟨hn, e2⟩⟩, fun w => ?_⟩
    rw [e2, mset_eq] at w
    exact absurd w (by decide)
  refine v_X10_readInto_55 ⟨fun z => ⟨hq, fun m2 h2 => hbad m2 (fun y => z y.2.1) h2⟩, fun z => ⟨fun y => ⟨hq, fun m7 h7 => hbad m7 (fun w => y ⟨w.2.2.1, w.2.2.2⟩) h7⟩, fun y => ⟨hq, fun m12 h12 => ?_⟩⟩⟩
  rcases h12 with ⟨e, e2⟩ | ⟨⟨e, -⟩, h⟩
  · have h25 : m0 44 25 ≠ 0 := by
      rcases e with e | e
      · exact e
      · exact absurd e (by decide)
    refine ⟨fun _ => ⟨rfl, Or.inl ⟨fun w => h25 w.1, e2⟩⟩, fun w => ?_⟩
    rw [e2, mset_eq] at w
    exact absurd w (by decide)
  · have e25 : m12 44 25 = 0 := by rw [h.1.2 25 (by decide) (by decide) (by decide) (by decide)]; exact e
    exact ⟨fun w => absurd e25 w, fun _ => ⟨k0, k1, fun m15 e15 => ⟨rfl, Or.inr ⟨⟨e, z, y.1, y.2⟩, m12, h, e15⟩⟩⟩⟩
set_option maxRecDepth 20000 in
theorem v_X10_readInto_56 {k lo hi : Int} {P : Int → Mem → Prop} {mem : Mem}  (H : (¬ (mem 44 23) = 2 → (nxQ mem) ∧ (∀ m2 : Mem, muP mem 0 m2 → ((¬ (m2 44 25) = 0 → P (mem 44 24) m2) ∧ ((m2 44 25) = 0 → (0 ≤ k) ∧ ((k < 12) ∧ (∀ m5 : Mem, m5 = mset m2 56 k.toNat (mem 44 24) → (P (mem 44 24) m5))))))) ∧ ((mem 44 23) = 2 → (¬ (lo ≤ (mem 44 24) ∧ (mem 44 24) ≤ hi) → (nxQ mem) ∧ (∀ m7 : Mem, muP mem 0 m7 → ((¬ (m7 44 25) = 0 → P (mem 44 24) m7) ∧ ((m7 44 25) = 0 → (0 ≤ k) ∧ ((k < 12) ∧ (∀ m10 : Mem, m10 = mset m7 56 k.toNat (mem 44 24) → (P (mem 44 24) m10))))))) ∧ ((lo ≤ (mem 44 24) ∧ (mem 44 24) ≤ hi) → (nxQ mem) ∧ (∀ m12 : Mem, muP mem 1 m12 → ((¬ (m12 44 25) = 0 → P (mem 44 24) m12) ∧ ((m12 44 25) = 0 → (0 ≤ k) ∧ ((k < 12) ∧ (∀ m15 : Mem, m15 = mset m12 56 k.toNat (mem 44 24) → (P (mem 44 24) m15))))))))) : Tot mX10_readInto 0 0 [vR 44, vR 56, vI k, vI lo, vI hi] SH mem (Pr SH P) := by
  refine Tot.of rfl (Nat.le_of_ble_eq_true rfl) (by simp [isJ]) (ls := [vR 44, vR 56, vI k, vI lo, vI hi, vJ 0]) rfl ?_
  refine q_aload_n dX10_readInto_0 rfl ?_
  refine q_geti dX10_readInto_1 lf_RX10_113 s44 rfl ?_
  refine q_istore dX10_readInto_4 (by decide) rfl ?_
  refine q_aload_n dX10_readInto_6 rfl ?_
  refine q_aload_n dX10_readInto_7 rfl ?_
  refine q_geti dX10_readInto_8 lf_RX10_110 s44 rfl ?_
  refine q_iconst dX10_readInto_11 (by decide) ?_
  refine q_icmp_ne (tgt := 30) dX10_readInto_12 (by decide) (fun c12 => ?_) (fun c12 => ?_)
  · have H := H.1 c12
    refine q_iconst dX10_readInto_30 (by decide) ?_
    obtain ⟨h1, H⟩ := H
    refine q_cVn (as := [vI _]) dX10_readInto_31 kmX10_must kvX10_must lm_RX10_123 ⟨by decide, by decide⟩ s44 ⟨by decide, rfl⟩ rfl rfl (Nat.le_of_ble_eq_true rfl) (c_X10_must h1) (fun m1 hq => ?_)
    have H := H m1 hq
    refine q_aload_n dX10_readInto_34 rfl ?_
    refine q_geti dX10_readInto_35 lf_RX10_116 s44 rfl ?_
    refine q_if_ne (tgt := 46) dX10_readInto_38 (by decide) (fun c38 => ?_) (fun c38 => ?_)
    · have H := H.1 c38
      refine q_iload dX10_readInto_46 rfl ?_
      exact q_iret dX10_readInto_48 rfl ⟨_, rfl, rfl, H⟩
    · have H := H.2 c38
      refine q_aload_n dX10_readInto_41 rfl ?_
      refine q_iload_n dX10_readInto_42 rfl ?_
      refine q_iload dX10_readInto_43 rfl ?_
      obtain ⟨h3, H⟩ := H
      obtain ⟨h4, H⟩ := H
      refine q_iast dX10_readInto_45 s56 h3 h4 ?_
      have H := H _ rfl
      refine q_iload dX10_readInto_46 rfl ?_
      exact q_iret dX10_readInto_48 rfl ⟨_, rfl, rfl, H⟩
  · have H := H.2 c12
    refine q_iload dX10_readInto_15 rfl ?_
    refine q_iload_n dX10_readInto_17 rfl ?_
    refine q_iload dX10_readInto_18 rfl ?_
    refine q_cSi (as := [vI _, vI _, vI _]) dX10_readInto_20 kmX10_in ktX10_in lm_RX10_90 ⟨by decide, by decide⟩ rfl rfl (Nat.le_of_ble_eq_true rfl) (c_X10_in) (fun v m1 hq => ?_)
    obtain ⟨rfl, rfl⟩ := hq
    refine q_if_eq (tgt := 30) dX10_readInto_23 (by decide) (fun c23 => ?_) (fun c23 => ?_)
    · have H := H.1 (b_no c23)
      refine q_iconst dX10_readInto_30 (by decide) ?_
      obtain ⟨h6, H⟩ := H
      refine q_cVn (as := [vI _]) dX10_readInto_31 kmX10_must kvX10_must lm_RX10_123 ⟨by decide, by decide⟩ s44 ⟨by decide, rfl⟩ rfl rfl (Nat.le_of_ble_eq_true rfl) (c_X10_must h6) (fun m1 hq => ?_)
      have H := H m1 hq
      refine q_aload_n dX10_readInto_34 rfl ?_
      refine q_geti dX10_readInto_35 lf_RX10_116 s44 rfl ?_
      refine q_if_ne (tgt := 46) dX10_readInto_38 (by decide) (fun c38 => ?_) (fun c38 => ?_)
      · have H := H.1 c38
        refine q_iload dX10_readInto_46 rfl ?_
        exact q_iret dX10_readInto_48 rfl ⟨_, rfl, rfl, H⟩
      · have H := H.2 c38
        refine q_aload_n dX10_readInto_41 rfl ?_
        refine q_iload_n dX10_readInto_42 rfl ?_
        refine q_iload dX10_readInto_43 rfl ?_
        obtain ⟨h8, H⟩ := H
        obtain ⟨h9, H⟩ := H
        refine q_iast dX10_readInto_45 s56 h8 h9 ?_
        have H := H _ rfl
        refine q_iload dX10_readInto_46 rfl ?_
        exact q_iret dX10_readInto_48 rfl ⟨_, rfl, rfl, H⟩
    · have H := H.2 (b_yes c23)
      refine q_iconst dX10_readInto_26 (by decide) ?_
      refine q_goto (tgt := 31) dX10_readInto_27 (by decide) ?_
      obtain ⟨h11, H⟩ := H
      refine q_cVn (as := [vI _]) dX10_readInto_31 kmX10_must kvX10_must lm_RX10_123 ⟨by decide, by decide⟩ s44 ⟨by decide, rfl⟩ rfl rfl (Nat.le_of_ble_eq_true rfl) (c_X10_must h11) (fun m1 hq => ?_)
      have H := H m1 hq
      refine q_aload_n dX10_readInto_34 rfl ?_
      refine q_geti dX10_readInto_35 lf_RX10_116 s44 rfl ?_
      refine q_if_ne (tgt := 46) dX10_readInto_38 (by decide) (fun c38 => ?_) (fun c38 => ?_)
      · have H := H.1 c38
        refine q_iload dX10_readInto_46 rfl ?_
        exact q_iret dX10_readInto_48 rfl ⟨_, rfl, rfl, H⟩
      · have H := H.2 c38
        refine q_aload_n dX10_readInto_41 rfl ?_
        refine q_iload_n dX10_readInto_42 rfl ?_
        refine q_iload dX10_readInto_43 rfl ?_
        obtain ⟨h13, H⟩ := H
        obtain ⟨h14, H⟩ := H
        refine q_iast dX10_readInto_45 s56 h13 h14 ?_
        have H := H _ rfl
        refine q_iload dX10_readInto_46 rfl ?_
        exact q_iret dX10_readInto_48 rfl ⟨_, rfl, rfl, H⟩

theorem c_ri_56 {m0 : Mem} {k lo hi : Int} (hq : nxQ m0) (k0 : 0 ≤ k) (k1 : k < 12) : Tot mX10_readInto 0 0 [vR 44, vR 56, vI k, vI lo, vI hi] SH m0 (Pr SH (riP 56 m0 k lo hi)) := by
  have hbad : ∀ (m2 : Mem), ¬ riG m0 lo hi → muP m0 0 m2 → (¬ m2 44 25 = 0 → riP 56 m0 k lo hi (m0 44 24) m2) ∧ (m2 44 25 = 0 → (0 ≤ k) ∧ ((k < 12) ∧ (∀ m5 : Mem, m5 = mset m2 56 k.toNat (m0 44 24) → (riP 56 m0 k lo hi (m0 44 24) m5)))) := by
    intro m2 hn h2
    have e2 : m2 = mset m0 44 25 1 := by
      rcases h2 with ⟨-, e⟩ | ⟨⟨-, e⟩, -⟩
      · exact e
      · exact absurd rfl e
    refine ⟨fun _ => ⟨rfl, Or.inl ⟨hn, e2⟩⟩, fun w => ?_⟩
    rw [e2, mset_eq] at w
    exact absurd w (by decide)
  refine v_X10_readInto_56 ⟨fun z => ⟨hq, fun m2 h2 => hbad m2 (fun y => z y.2.1) h2⟩, fun z => ⟨fun y => ⟨hq, fun m7 h7 => hbad m7 (fun w => y ⟨w.2.2.1, w.2.2.2⟩) h7⟩, fun y => ⟨hq, fun m12 h12 => ?_⟩⟩⟩
  rcases h12 with ⟨e, e2⟩ | ⟨⟨e, -⟩, h⟩
  · have h25 : m0 44 25 ≠ 0 := by
      rcases e with e | e
      · exact e
      · exact absurd e (by decide)
    refine ⟨fun _ => ⟨rfl, Or.inl ⟨fun w => h25 w.1, e2⟩⟩, fun w => ?_⟩
    rw [e2, mset_eq] at w
    exact absurd w (by decide)
  · have e25 : m12 44 25 = 0 := by rw [h.1.2 25 (by decide) (by decide) (by decide) (by decide)]; exact e
    exact ⟨fun w => absurd e25 w, fun _ => ⟨k0, k1, fun m15 e15 => ⟨rfl, Or.inr ⟨⟨e, z, y.1, y.2⟩, m12, h, e15⟩⟩⟩⟩
set_option maxRecDepth 20000 in
theorem v_X10_readInto_57 {k lo hi : Int} {P : Int → Mem → Prop} {mem : Mem}  (H : (¬ (mem 44 23) = 2 → (nxQ mem) ∧ (∀ m2 : Mem, muP mem 0 m2 → ((¬ (m2 44 25) = 0 → P (mem 44 24) m2) ∧ ((m2 44 25) = 0 → (0 ≤ k) ∧ ((k < 16) ∧ (∀ m5 : Mem, m5 = mset m2 57 k.toNat (mem 44 24) → (P (mem 44 24) m5))))))) ∧ ((mem 44 23) = 2 → (¬ (lo ≤ (mem 44 24) ∧ (mem 44 24) ≤ hi) → (nxQ mem) ∧ (∀ m7 : Mem, muP mem 0 m7 → ((¬ (m7 44 25) = 0 → P (mem 44 24) m7) ∧ ((m7 44 25) = 0 → (0 ≤ k) ∧ ((k < 16) ∧ (∀ m10 : Mem, m10 = mset m7 57 k.toNat (mem 44 24) → (P (mem 44 24) m10))))))) ∧ ((lo ≤ (mem 44 24) ∧ (mem 44 24) ≤ hi) → (nxQ mem) ∧ (∀ m12 : Mem, muP mem 1 m12 → ((¬ (m12 44 25) = 0 → P (mem 44 24) m12) ∧ ((m12 44 25) = 0 → (0 ≤ k) ∧ ((k < 16) ∧ (∀ m15 : Mem, m15 = mset m12 57 k.toNat (mem 44 24) → (P (mem 44 24) m15))))))))) : Tot mX10_readInto 0 0 [vR 44, vR 57, vI k, vI lo, vI hi] SH mem (Pr SH P) := by
  refine Tot.of rfl (Nat.le_of_ble_eq_true rfl) (by simp [isJ]) (ls := [vR 44, vR 57, vI k, vI lo, vI hi, vJ 0]) rfl ?_
  refine q_aload_n dX10_readInto_0 rfl ?_
  refine q_geti dX10_readInto_1 lf_RX10_113 s44 rfl ?_
  refine q_istore dX10_readInto_4 (by decide) rfl ?_
  refine q_aload_n dX10_readInto_6 rfl ?_
  refine q_aload_n dX10_readInto_7 rfl ?_
  refine q_geti dX10_readInto_8 lf_RX10_110 s44 rfl ?_
  refine q_iconst dX10_readInto_11 (by decide) ?_
  refine q_icmp_ne (tgt := 30) dX10_readInto_12 (by decide) (fun c12 => ?_) (fun c12 => ?_)
  · have H := H.1 c12
    refine q_iconst dX10_readInto_30 (by decide) ?_
    obtain ⟨h1, H⟩ := H
    refine q_cVn (as := [vI _]) dX10_readInto_31 kmX10_must kvX10_must lm_RX10_123 ⟨by decide, by decide⟩ s44 ⟨by decide, rfl⟩ rfl rfl (Nat.le_of_ble_eq_true rfl) (c_X10_must h1) (fun m1 hq => ?_)
    have H := H m1 hq
    refine q_aload_n dX10_readInto_34 rfl ?_
    refine q_geti dX10_readInto_35 lf_RX10_116 s44 rfl ?_
    refine q_if_ne (tgt := 46) dX10_readInto_38 (by decide) (fun c38 => ?_) (fun c38 => ?_)
    · have H := H.1 c38
      refine q_iload dX10_readInto_46 rfl ?_
      exact q_iret dX10_readInto_48 rfl ⟨_, rfl, rfl, H⟩
    · have H := H.2 c38
      refine q_aload_n dX10_readInto_41 rfl ?_
      refine q_iload_n dX10_readInto_42 rfl ?_
      refine q_iload dX10_readInto_43 rfl ?_
      obtain ⟨h3, H⟩ := H
      obtain ⟨h4, H⟩ := H
      refine q_iast dX10_readInto_45 s57 h3 h4 ?_
      have H := H _ rfl
      refine q_iload dX10_readInto_46 rfl ?_
      exact q_iret dX10_readInto_48 rfl ⟨_, rfl, rfl, H⟩
  · have H := H.2 c12
    refine q_iload dX10_readInto_15 rfl ?_
    refine q_iload_n dX10_readInto_17 rfl ?_
    refine q_iload dX10_readInto_18 rfl ?_
    refine q_cSi (as := [vI _, vI _, vI _]) dX10_readInto_20 kmX10_in ktX10_in lm_RX10_90 ⟨by decide, by decide⟩ rfl rfl (Nat.le_of_ble_eq_true rfl) (c_X10_in) (fun v m1 hq => ?_)
    obtain ⟨rfl, rfl⟩ := hq
    refine q_if_eq (tgt := 30) dX10_readInto_23 (by decide) (fun c23 => ?_) (fun c23 => ?_)
    · have H := H.1 (b_no c23)
      refine q_iconst dX10_readInto_30 (by decide) ?_
      obtain ⟨h6, H⟩ := H
      refine q_cVn (as := [vI _]) dX10_readInto_31 kmX10_must kvX10_must lm_RX10_123 ⟨by decide, by decide⟩ s44 ⟨by decide, rfl⟩ rfl rfl (Nat.le_of_ble_eq_true rfl) (c_X10_must h6) (fun m1 hq => ?_)
      have H := H m1 hq
      refine q_aload_n dX10_readInto_34 rfl ?_
      refine q_geti dX10_readInto_35 lf_RX10_116 s44 rfl ?_
      refine q_if_ne (tgt := 46) dX10_readInto_38 (by decide) (fun c38 => ?_) (fun c38 => ?_)
      · have H := H.1 c38
        refine q_iload dX10_readInto_46 rfl ?_
        exact q_iret dX10_readInto_48 rfl ⟨_, rfl, rfl, H⟩
      · have H := H.2 c38
        refine q_aload_n dX10_readInto_41 rfl ?_
        refine q_iload_n dX10_readInto_42 rfl ?_
        refine q_iload dX10_readInto_43 rfl ?_
        obtain ⟨h8, H⟩ := H
        obtain ⟨h9, H⟩ := H
        refine q_iast dX10_readInto_45 s57 h8 h9 ?_
        have H := H _ rfl
        refine q_iload dX10_readInto_46 rfl ?_
        exact q_iret dX10_readInto_48 rfl ⟨_, rfl, rfl, H⟩
    · have H := H.2 (b_yes c23)
      refine q_iconst dX10_readInto_26 (by decide) ?_
      refine q_goto (tgt := 31) dX10_readInto_27 (by decide) ?_
      obtain ⟨h11, H⟩ := H
      refine q_cVn (as := [vI _]) dX10_readInto_31 kmX10_must kvX10_must lm_RX10_123 ⟨by decide, by decide⟩ s44 ⟨by decide, rfl⟩ rfl rfl (Nat.le_of_ble_eq_true rfl) (c_X10_must h11) (fun m1 hq => ?_)
      have H := H m1 hq
      refine q_aload_n dX10_readInto_34 rfl ?_
      refine q_geti dX10_readInto_35 lf_RX10_116 s44 rfl ?_
      refine q_if_ne (tgt := 46) dX10_readInto_38 (by decide) (fun c38 => ?_) (fun c38 => ?_)
      · have H := H.1 c38
        refine q_iload dX10_readInto_46 rfl ?_
        exact q_iret dX10_readInto_48 rfl ⟨_, rfl, rfl, H⟩
      · have H := H.2 c38
        refine q_aload_n dX10_readInto_41 rfl ?_
        refine q_iload_n dX10_readInto_42 rfl ?_
        refine q_iload dX10_readInto_43 rfl ?_
        obtain ⟨h13, H⟩ := H
        obtain ⟨h14, H⟩ := H
        refine q_iast dX10_readInto_45 s57 h13 h14 ?_
        have H := H _ rfl
        refine q_iload dX10_readInto_46 rfl ?_
        exact q_iret dX10_readInto_48 rfl ⟨_, rfl, rfl, H⟩

theorem c_ri_57 {m0 : Mem} {k lo hi : Int} (hq : nxQ m0) (k0 : 0 ≤ k) (k1 : k < 16) : Tot mX10_readInto 0 0 [vR 44, vR 57, vI k, vI lo, vI hi] SH m0 (Pr SH (riP 57 m0 k lo hi)) := by
  have hbad : ∀ (m2 : Mem), ¬ riG m0 lo hi → muP m0 0 m2 → (¬ m2 44 25 = 0 → riP 57 m0 k lo hi (m0 44 24) m2) ∧ (m2 44 25 = 0 → (0 ≤ k) ∧ ((k < 16) ∧ (∀ m5 : Mem, m5 = mset m2 57 k.toNat (m0 44 24) → (riP 57 m0 k lo hi (m0 44 24) m5)))) := by
    intro m2 hn h2
    have e2 : m2 = mset m0 44 25 1 := by
      rcases h2 with ⟨-, e⟩ | ⟨⟨-, e⟩, -⟩
      · exact e
      · exact absurd rfl e
    refine ⟨fun _ => ⟨rfl, Or.inl ⟨hn, e2⟩⟩, fun w => ?_⟩
    rw [e2, mset_eq] at w
    exact absurd w (by decide)
  refine v_X10_readInto_57 ⟨fun z => ⟨hq, fun m2 h2 => hbad m2 (fun y => z y.2.1) h2⟩, fun z => ⟨fun y => ⟨hq, fun m7 h7 => hbad m7 (fun w => y ⟨w.2.2.1, w.2.2.2⟩) h7⟩, fun y => ⟨hq, fun m12 h12 => ?_⟩⟩⟩
  rcases h12 with ⟨e, e2⟩ | ⟨⟨e, -⟩, h⟩
  · have h25 : m0 44 25 ≠ 0 := by
      rcases e with e | e
      · exact e
      · exact absurd e (by decide)
    refine ⟨fun _ => ⟨rfl, Or.inl ⟨fun w => h25 w.1, e2⟩⟩, fun w => ?_⟩
    rw [e2, mset_eq] at w
    exact absurd w (by decide)
  · have e25 : m12 44 25 = 0 := by rw [h.1.2 25 (by decide) (by decide) (by decide) (by decide)]; exact e
    exact ⟨fun w => absurd e25 w, fun _ => ⟨k0, k1, fun m15 e15 => ⟨rfl, Or.inr ⟨⟨e, z, y.1, y.2⟩, m12, h, e15⟩⟩⟩⟩
set_option maxRecDepth 20000 in
theorem v_X10_readInto_58 {k lo hi : Int} {P : Int → Mem → Prop} {mem : Mem}  (H : (¬ (mem 44 23) = 2 → (nxQ mem) ∧ (∀ m2 : Mem, muP mem 0 m2 → ((¬ (m2 44 25) = 0 → P (mem 44 24) m2) ∧ ((m2 44 25) = 0 → (0 ≤ k) ∧ ((k < 12) ∧ (∀ m5 : Mem, m5 = mset m2 58 k.toNat (mem 44 24) → (P (mem 44 24) m5))))))) ∧ ((mem 44 23) = 2 → (¬ (lo ≤ (mem 44 24) ∧ (mem 44 24) ≤ hi) → (nxQ mem) ∧ (∀ m7 : Mem, muP mem 0 m7 → ((¬ (m7 44 25) = 0 → P (mem 44 24) m7) ∧ ((m7 44 25) = 0 → (0 ≤ k) ∧ ((k < 12) ∧ (∀ m10 : Mem, m10 = mset m7 58 k.toNat (mem 44 24) → (P (mem 44 24) m10))))))) ∧ ((lo ≤ (mem 44 24) ∧ (mem 44 24) ≤ hi) → (nxQ mem) ∧ (∀ m12 : Mem, muP mem 1 m12 → ((¬ (m12 44 25) = 0 → P (mem 44 24) m12) ∧ ((m12 44 25) = 0 → (0 ≤ k) ∧ ((k < 12) ∧ (∀ m15 : Mem, m15 = mset m12 58 k.toNat (mem 44 24) → (P (mem 44 24) m15))))))))) : Tot mX10_readInto 0 0 [vR 44, vR 58, vI k, vI lo, vI hi] SH mem (Pr SH P) := by
  refine Tot.of rfl (Nat.le_of_ble_eq_true rfl) (by simp [isJ]) (ls := [vR 44, vR 58, vI k, vI lo, vI hi, vJ 0]) rfl ?_
  refine q_aload_n dX10_readInto_0 rfl ?_
  refine q_geti dX10_readInto_1 lf_RX10_113 s44 rfl ?_
  refine q_istore dX10_readInto_4 (by decide) rfl ?_
  refine q_aload_n dX10_readInto_6 rfl ?_
  refine q_aload_n dX10_readInto_7 rfl ?_
  refine q_geti dX10_readInto_8 lf_RX10_110 s44 rfl ?_
  refine q_iconst dX10_readInto_11 (by decide) ?_
  refine q_icmp_ne (tgt := 30) dX10_readInto_12 (by decide) (fun c12 => ?_) (fun c12 => ?_)
  · have H := H.1 c12
    refine q_iconst dX10_readInto_30 (by decide) ?_
    obtain ⟨h1, H⟩ := H
    refine q_cVn (as := [vI _]) dX10_readInto_31 kmX10_must kvX10_must lm_RX10_123 ⟨by decide, by decide⟩ s44 ⟨by decide, rfl⟩ rfl rfl (Nat.le_of_ble_eq_true rfl) (c_X10_must h1) (fun m1 hq => ?_)
    have H := H m1 hq
    refine q_aload_n dX10_readInto_34 rfl ?_
    refine q_geti dX10_readInto_35 lf_RX10_116 s44 rfl ?_
    refine q_if_ne (tgt := 46) dX10_readInto_38 (by decide) (fun c38 => ?_) (fun c38 => ?_)
    · have H := H.1 c38
      refine q_iload dX10_readInto_46 rfl ?_
      exact q_iret dX10_readInto_48 rfl ⟨_, rfl, rfl, H⟩
    · have H := H.2 c38
      refine q_aload_n dX10_readInto_41 rfl ?_
      refine q_iload_n dX10_readInto_42 rfl ?_
      refine q_iload dX10_readInto_43 rfl ?_
      obtain ⟨h3, H⟩ := H
      obtain ⟨h4, H⟩ := H
      refine q_iast dX10_readInto_45 s58 h3 h4 ?_
      have H := H _ rfl
      refine q_iload dX10_readInto_46 rfl ?_
      exact q_iret dX10_readInto_48 rfl ⟨_, rfl, rfl, H⟩
  · have H := H.2 c12
    refine q_iload dX10_readInto_15 rfl ?_
    refine q_iload_n dX10_readInto_17 rfl ?_
    refine q_iload dX10_readInto_18 rfl ?_
    refine q_cSi (as := [vI _, vI _, vI _]) dX10_readInto_20 kmX10_in ktX10_in lm_RX10_90 ⟨by decide, by decide⟩ rfl rfl (Nat.le_of_ble_eq_true rfl) (c_X10_in) (fun v m1 hq => ?_)
    obtain ⟨rfl, rfl⟩ := hq
    refine q_if_eq (tgt := 30) dX10_readInto_23 (by decide) (fun c23 => ?_) (fun c23 => ?_)
    · have H := H.1 (b_no c23)
      refine q_iconst dX10_readInto_30 (by decide) ?_
      obtain ⟨h6, H⟩ := H
      refine q_cVn (as := [vI _]) dX10_readInto_31 kmX10_must kvX10_must lm_RX10_123 ⟨by decide, by decide⟩ s44 ⟨by decide, rfl⟩ rfl rfl (Nat.le_of_ble_eq_true rfl) (c_X10_must h6) (fun m1 hq => ?_)
      have H := H m1 hq
      refine q_aload_n dX10_readInto_34 rfl ?_
      refine q_geti dX10_readInto_35 lf_RX10_116 s44 rfl ?_
      refine q_if_ne (tgt := 46) dX10_readInto_38 (by decide) (fun c38 => ?_) (fun c38 => ?_)
      · have H := H.1 c38
        refine q_iload dX10_readInto_46 rfl ?_
        exact q_iret dX10_readInto_48 rfl ⟨_, rfl, rfl, H⟩
      · have H := H.2 c38
        refine q_aload_n dX10_readInto_41 rfl ?_
        refine q_iload_n dX10_readInto_42 rfl ?_
        refine q_iload dX10_readInto_43 rfl ?_
        obtain ⟨h8, H⟩ := H
        obtain ⟨h9, H⟩ := H
        refine q_iast dX10_readInto_45 s58 h8 h9 ?_
        have H := H _ rfl
        refine q_iload dX10_readInto_46 rfl ?_
        exact q_iret dX10_readInto_48 rfl ⟨_, rfl, rfl, H⟩
    · have H := H.2 (b_yes c23)
      refine q_iconst dX10_readInto_26 (by decide) ?_
      refine q_goto (tgt := 31) dX10_readInto_27 (by decide) ?_
      obtain ⟨h11, H⟩ := H
      refine q_cVn (as := [vI _]) dX10_readInto_31 kmX10_must kvX10_must lm_RX10_123 ⟨by decide, by decide⟩ s44 ⟨by decide, rfl⟩ rfl rfl (Nat.le_of_ble_eq_true rfl) (c_X10_must h11) (fun m1 hq => ?_)
      have H := H m1 hq
      refine q_aload_n dX10_readInto_34 rfl ?_
      refine q_geti dX10_readInto_35 lf_RX10_116 s44 rfl ?_
      refine q_if_ne (tgt := 46) dX10_readInto_38 (by decide) (fun c38 => ?_) (fun c38 => ?_)
      · have H := H.1 c38
        refine q_iload dX10_readInto_46 rfl ?_
        exact q_iret dX10_readInto_48 rfl ⟨_, rfl, rfl, H⟩
      · have H := H.2 c38
        refine q_aload_n dX10_readInto_41 rfl ?_
        refine q_iload_n dX10_readInto_42 rfl ?_
        refine q_iload dX10_readInto_43 rfl ?_
        obtain ⟨h13, H⟩ := H
        obtain ⟨h14, H⟩ := H
        refine q_iast dX10_readInto_45 s58 h13 h14 ?_
        have H := H _ rfl
        refine q_iload dX10_readInto_46 rfl ?_
        exact q_iret dX10_readInto_48 rfl ⟨_, rfl, rfl, H⟩

theorem c_ri_58 {m0 : Mem} {k lo hi : Int} (hq : nxQ m0) (k0 : 0 ≤ k) (k1 : k < 12) : Tot mX10_readInto 0 0 [vR 44, vR 58, vI k, vI lo, vI hi] SH m0 (Pr SH (riP 58 m0 k lo hi)) := by
  have hbad : ∀ (m2 : Mem), ¬ riG m0 lo hi → muP m0 0 m2 → (¬ m2 44 25 = 0 → riP 58 m0 k lo hi (m0 44 24) m2) ∧ (m2 44 25 = 0 → (0 ≤ k) ∧ ((k < 12) ∧ (∀ m5 : Mem, m5 = mset m2 58 k.toNat (m0 44 24) → (riP 58 m0 k lo hi (m0 44 24) m5)))) := by
    intro m2 hn h2
    have e2 : m2 = mset m0 44 25 1 := by
      rcases h2 with ⟨-, e⟩ | ⟨⟨-, e⟩, -⟩
      · exact e
      · exact absurd rfl e
    refine ⟨fun _ => ⟨rfl, Or.inl ⟨hn, e2⟩⟩, fun w => ?_⟩
    rw [e2, mset_eq] at w
    exact absurd w (by decide)
  refine v_X10_readInto_58 ⟨fun z => ⟨hq, fun m2 h2 => hbad m2 (fun y => z y.2.1) h2⟩, fun z => ⟨fun y => ⟨hq, fun m7 h7 => hbad m7 (fun w => y ⟨w.2.2.1, w.2.2.2⟩) h7⟩, fun y => ⟨hq, fun m12 h12 => ?_⟩⟩⟩
  rcases h12 with ⟨e, e2⟩ | ⟨⟨e, -⟩, h⟩
  · have h25 : m0 44 25 ≠ 0 := by
      rcases e with e | e
      · exact e
      · exact absurd e (by decide)
    refine ⟨fun _ => ⟨rfl, Or.inl ⟨fun w => h25 w.1, e2⟩⟩, fun w => ?_⟩
    rw [e2, mset_eq] at w
    exact absurd w (by decide)
  · have e25 : m12 44 25 = 0 := by rw [h.1.2 25 (by decide) (by decide) (by decide) (by decide)]; exact e
    exact ⟨fun w => absurd e25 w, fun _ => ⟨k0, k1, fun m15 e15 => ⟨rfl, Or.inr ⟨⟨e, z, y.1, y.2⟩, m12, h, e15⟩⟩⟩⟩
set_option maxRecDepth 20000 in
theorem v_X10_readYard {b : Int} {P : Mem → Prop} {mem : Mem}  (H : (nxQ mem) ∧ (∀ m2 : Mem, muP mem b m2 → (((m2 44 25) = 0 → (nxQ m2) ∧ (((0 : Int) ≤ 0) ∧ ((0 < (3 : Int)) ∧ (∀ (v6 : Int) (m7 : Mem), riP 55 m2 0 1 4 v6 m7 → ((nxQ m7) ∧ (((0 : Int) ≤ 1) ∧ ((1 < (3 : Int)) ∧ (∀ (v11 : Int) (m12 : Mem), riP 55 m7 1 1 3 v11 m12 → ((¬ (m12 44 23) = 3 → (nxQ m12) ∧ (∀ m14 : Mem, muP m12 0 m14 → (P m14))) ∧ ((m12 44 23) = 3 → (nxQ m12) ∧ (∀ m16 : Mem, muP m12 1 m16 → (P m16)))))))))))) ∧ (¬ (m2 44 25) = 0 → P m2)))) : Tot mX10_readYard 0 0 [vR 44, vI b] SH mem (Pn SH P) := by
  refine Tot.of rfl (Nat.le_of_ble_eq_true rfl) (by simp [isJ]) (ls := [vR 44, vI b]) rfl ?_
  refine q_aload_n dX10_readYard_0 rfl ?_
  refine q_iload_n dX10_readYard_1 rfl ?_
  obtain ⟨h1, H⟩ := H
  refine q_cVn (as := [vI _]) dX10_readYard_2 kmX10_must kvX10_must lm_RX10_123 ⟨by decide, by decide⟩ s44 ⟨by decide, rfl⟩ rfl rfl (Nat.le_of_ble_eq_true rfl) (c_X10_must h1) (fun m1 hq => ?_)
  have H := H m1 hq
  refine q_aload_n dX10_readYard_5 rfl ?_
  refine q_geti dX10_readYard_6 lf_RX10_116 s44 rfl ?_
  refine q_if_eq (tgt := 13) dX10_readYard_9 (by decide) (fun c9 => ?_) (fun c9 => ?_)
  · have H := H.1 c9
    refine q_aload_n dX10_readYard_13 rfl ?_
    refine q_aload_n dX10_readYard_14 rfl ?_
    refine q_getr (r := 55) dX10_readYard_15 lf_RX10_51 s44 rfl rfl ?_
    refine q_iconst dX10_readYard_18 (by decide) ?_
    refine q_iconst dX10_readYard_19 (by decide) ?_
    refine q_iconst dX10_readYard_20 (by decide) ?_
    obtain ⟨h3, H⟩ := H
    obtain ⟨h4, H⟩ := H
    obtain ⟨h5, H⟩ := H
    refine q_cVi (as := [vR _, vI _, vI _, vI _]) dX10_readYard_21 kmX10_readInto kvX10_readInto lm_RX10_127 ⟨by decide, by decide⟩ s44 ⟨by decide, rfl⟩ rfl rfl (Nat.le_of_ble_eq_true rfl) (c_ri_55 h3 h4 h5) (fun v m1 hq => ?_)
    have H := H v m1 hq
    refine q_pop dX10_readYard_24 rfl ?_
    refine q_aload_n dX10_readYard_25 rfl ?_
    refine q_aload_n dX10_readYard_26 rfl ?_
    refine q_getr (r := 55) dX10_readYard_27 lf_RX10_51 s44 rfl rfl ?_
    refine q_iconst dX10_readYard_30 (by decide) ?_
    refine q_iconst dX10_readYard_31 (by decide) ?_
    refine q_iconst dX10_readYard_32 (by decide) ?_
    obtain ⟨h8, H⟩ := H
    obtain ⟨h9, H⟩ := H
    obtain ⟨h10, H⟩ := H
    refine q_cVi (as := [vR _, vI _, vI _, vI _]) dX10_readYard_33 kmX10_readInto kvX10_readInto lm_RX10_127 ⟨by decide, by decide⟩ s44 ⟨by decide, rfl⟩ rfl rfl (Nat.le_of_ble_eq_true rfl) (c_ri_55 h8 h9 h10) (fun v m1 hq => ?_)
    have H := H v m1 hq
    refine q_pop dX10_readYard_36 rfl ?_
    refine q_aload_n dX10_readYard_37 rfl ?_
    refine q_aload_n dX10_readYard_38 rfl ?_
    refine q_geti dX10_readYard_39 lf_RX10_110 s44 rfl ?_
    refine q_iconst dX10_readYard_42 (by decide) ?_
    refine q_icmp_ne (tgt := 50) dX10_readYard_43 (by decide) (fun c43 => ?_) (fun c43 => ?_)
    · have H := H.1 c43
      refine q_iconst dX10_readYard_50 (by decide) ?_
      obtain ⟨h13, H⟩ := H
      refine q_cVn (as := [vI _]) dX10_readYard_51 kmX10_must kvX10_must lm_RX10_123 ⟨by decide, by decide⟩ s44 ⟨by decide, rfl⟩ rfl rfl (Nat.le_of_ble_eq_true rfl) (c_X10_must h13) (fun m1 hq => ?_)
      have H := H m1 hq
      exact q_vret dX10_readYard_54 rfl ⟨rfl, rfl, H⟩
    · have H := H.2 c43
      refine q_iconst dX10_readYard_46 (by decide) ?_
      refine q_goto (tgt := 51) dX10_readYard_47 (by decide) ?_
      obtain ⟨h15, H⟩ := H
      refine q_cVn (as := [vI _]) dX10_readYard_51 kmX10_must kvX10_must lm_RX10_123 ⟨by decide, by decide⟩ s44 ⟨by decide, rfl⟩ rfl rfl (Nat.le_of_ble_eq_true rfl) (c_X10_must h15) (fun m1 hq => ?_)
      have H := H m1 hq
      exact q_vret dX10_readYard_54 rfl ⟨rfl, rfl, H⟩
  · have H := H.2 c9
    exact q_vret dX10_readYard_12 rfl ⟨rfl, rfl, H⟩

set_option maxRecDepth 20000 in
theorem v_X10_readFall {P : Mem → Prop} {mem : Mem}  (H : (¬ (mem 44 27) = 0 → (nxQ mem) ∧ (∀ m2 : Mem, muP mem 0 m2 → (((m2 44 25) = 0 → (nxQ m2) ∧ (((0 : Int) ≤ 2) ∧ ((2 < (3 : Int)) ∧ (∀ (v6 : Int) (m7 : Mem), riP 55 m2 2 1 20 v6 m7 → ((¬ (m7 44 23) = 3 → (nxQ m7) ∧ (∀ m9 : Mem, muP m7 0 m9 → (∀ m10 : Mem, m10 = (mset m9 44 27 1) → (P m10)))) ∧ ((m7 44 23) = 3 → (nxQ m7) ∧ (∀ m12 : Mem, muP m7 1 m12 → (∀ m13 : Mem, m13 = (mset m12 44 27 1) → (P m13))))))))) ∧ (¬ (m2 44 25) = 0 → P m2)))) ∧ ((mem 44 27) = 0 → (nxQ mem) ∧ (∀ m15 : Mem, muP mem 1 m15 → (((m15 44 25) = 0 → (nxQ m15) ∧ (((0 : Int) ≤ 2) ∧ ((2 < (3 : Int)) ∧ (∀ (v19 : Int) (m20 : Mem), riP 55 m15 2 1 20 v19 m20 → ((¬ (m20 44 23) = 3 → (nxQ m20) ∧ (∀ m22 : Mem, muP m20 0 m22 → (∀ m23 : Mem, m23 = (mset m22 44 27 1) → (P m23)))) ∧ ((m20 44 23) = 3 → (nxQ m20) ∧ (∀ m25 : Mem, muP m20 1 m25 → (∀ m26 : Mem, m26 = (mset m25 44 27 1) → (P m26))))))))) ∧ (¬ (m15 44 25) = 0 → P m15))))) : Tot mX10_readFall 0 0 [vR 44] SH mem (Pn SH P) := by
  refine Tot.of rfl (Nat.le_of_ble_eq_true rfl) (by simp [isJ]) (ls := [vR 44]) rfl ?_
  refine q_aload_n dX10_readFall_0 rfl ?_
  refine q_aload_n dX10_readFall_1 rfl ?_
  refine q_geti dX10_readFall_2 lf_RX10_131 s44 rfl ?_
  refine q_if_ne (tgt := 12) dX10_readFall_5 (by decide) (fun c5 => ?_) (fun c5 => ?_)
  · have H := H.1 c5
    refine q_iconst dX10_readFall_12 (by decide) ?_
    obtain ⟨h1, H⟩ := H
    refine q_cVn (as := [vI _]) dX10_readFall_13 kmX10_must kvX10_must lm_RX10_123 ⟨by decide, by decide⟩ s44 ⟨by decide, rfl⟩ rfl rfl (Nat.le_of_ble_eq_true rfl) (c_X10_must h1) (fun m1 hq => ?_)
    have H := H m1 hq
    refine q_aload_n dX10_readFall_16 rfl ?_
    refine q_geti dX10_readFall_17 lf_RX10_116 s44 rfl ?_
    refine q_if_eq (tgt := 24) dX10_readFall_20 (by decide) (fun c20 => ?_) (fun c20 => ?_)
    · have H := H.1 c20
      refine q_aload_n dX10_readFall_24 rfl ?_
      refine q_aload_n dX10_readFall_25 rfl ?_
      refine q_getr (r := 55) dX10_readFall_26 lf_RX10_51 s44 rfl rfl ?_
      refine q_iconst dX10_readFall_29 (by decide) ?_
      refine q_iconst dX10_readFall_30 (by decide) ?_
      refine q_bipush dX10_readFall_31 rfl (by decide) ?_
      obtain ⟨h3, H⟩ := H
      obtain ⟨h4, H⟩ := H
      obtain ⟨h5, H⟩ := H
      refine q_cVi (as := [vR _, vI _, vI _, vI _]) dX10_readFall_33 kmX10_readInto kvX10_readInto lm_RX10_127 ⟨by decide, by decide⟩ s44 ⟨by decide, rfl⟩ rfl rfl (Nat.le_of_ble_eq_true rfl) (c_ri_55 h3 h4 h5) (fun v m1 hq => ?_)
      have H := H v m1 hq
      refine q_pop dX10_readFall_36 rfl ?_
      refine q_aload_n dX10_readFall_37 rfl ?_
      refine q_aload_n dX10_readFall_38 rfl ?_
      refine q_geti dX10_readFall_39 lf_RX10_110 s44 rfl ?_
      refine q_iconst dX10_readFall_42 (by decide) ?_
      refine q_icmp_ne (tgt := 50) dX10_readFall_43 (by decide) (fun c43 => ?_) (fun c43 => ?_)
      · have H := H.1 c43
        refine q_iconst dX10_readFall_50 (by decide) ?_
        obtain ⟨h8, H⟩ := H
        refine q_cVn (as := [vI _]) dX10_readFall_51 kmX10_must kvX10_must lm_RX10_123 ⟨by decide, by decide⟩ s44 ⟨by decide, rfl⟩ rfl rfl (Nat.le_of_ble_eq_true rfl) (c_X10_must h8) (fun m1 hq => ?_)
        have H := H m1 hq
        refine q_aload_n dX10_readFall_54 rfl ?_
        refine q_iconst dX10_readFall_55 (by decide) ?_
        refine q_puti dX10_readFall_56 lf_RX10_131 s44 rfl (Or.inl rfl) (fun _ => by decide) ?_
        have H := H _ rfl
        exact q_vret dX10_readFall_59 rfl ⟨rfl, rfl, H⟩
      · have H := H.2 c43
        refine q_iconst dX10_readFall_46 (by decide) ?_
        refine q_goto (tgt := 51) dX10_readFall_47 (by decide) ?_
        obtain ⟨h11, H⟩ := H
        refine q_cVn (as := [vI _]) dX10_readFall_51 kmX10_must kvX10_must lm_RX10_123 ⟨by decide, by decide⟩ s44 ⟨by decide, rfl⟩ rfl rfl (Nat.le_of_ble_eq_true rfl) (c_X10_must h11) (fun m1 hq => ?_)
        have H := H m1 hq
        refine q_aload_n dX10_readFall_54 rfl ?_
        refine q_iconst dX10_readFall_55 (by decide) ?_
        refine q_puti dX10_readFall_56 lf_RX10_131 s44 rfl (Or.inl rfl) (fun _ => by decide) ?_
        have H := H _ rfl
        exact q_vret dX10_readFall_59 rfl ⟨rfl, rfl, H⟩
    · have H := H.2 c20
      exact q_vret dX10_readFall_23 rfl ⟨rfl, rfl, H⟩
  · have H := H.2 c5
    refine q_iconst dX10_readFall_8 (by decide) ?_
    refine q_goto (tgt := 13) dX10_readFall_9 (by decide) ?_
    obtain ⟨h14, H⟩ := H
    refine q_cVn (as := [vI _]) dX10_readFall_13 kmX10_must kvX10_must lm_RX10_123 ⟨by decide, by decide⟩ s44 ⟨by decide, rfl⟩ rfl rfl (Nat.le_of_ble_eq_true rfl) (c_X10_must h14) (fun m1 hq => ?_)
    have H := H m1 hq
    refine q_aload_n dX10_readFall_16 rfl ?_
    refine q_geti dX10_readFall_17 lf_RX10_116 s44 rfl ?_
    refine q_if_eq (tgt := 24) dX10_readFall_20 (by decide) (fun c20 => ?_) (fun c20 => ?_)
    · have H := H.1 c20
      refine q_aload_n dX10_readFall_24 rfl ?_
      refine q_aload_n dX10_readFall_25 rfl ?_
      refine q_getr (r := 55) dX10_readFall_26 lf_RX10_51 s44 rfl rfl ?_
      refine q_iconst dX10_readFall_29 (by decide) ?_
      refine q_iconst dX10_readFall_30 (by decide) ?_
      refine q_bipush dX10_readFall_31 rfl (by decide) ?_
      obtain ⟨h16, H⟩ := H
      obtain ⟨h17, H⟩ := H
      obtain ⟨h18, H⟩ := H
      refine q_cVi (as := [vR _, vI _, vI _, vI _]) dX10_readFall_33 kmX10_readInto kvX10_readInto lm_RX10_127 ⟨by decide, by decide⟩ s44 ⟨by decide, rfl⟩ rfl rfl (Nat.le_of_ble_eq_true rfl) (c_ri_55 h16 h17 h18) (fun v m1 hq => ?_)
      have H := H v m1 hq
      refine q_pop dX10_readFall_36 rfl ?_
      refine q_aload_n dX10_readFall_37 rfl ?_
      refine q_aload_n dX10_readFall_38 rfl ?_
      refine q_geti dX10_readFall_39 lf_RX10_110 s44 rfl ?_
      refine q_iconst dX10_readFall_42 (by decide) ?_
      refine q_icmp_ne (tgt := 50) dX10_readFall_43 (by decide) (fun c43 => ?_) (fun c43 => ?_)
      · have H := H.1 c43
        refine q_iconst dX10_readFall_50 (by decide) ?_
        obtain ⟨h21, H⟩ := H
        refine q_cVn (as := [vI _]) dX10_readFall_51 kmX10_must kvX10_must lm_RX10_123 ⟨by decide, by decide⟩ s44 ⟨by decide, rfl⟩ rfl rfl (Nat.le_of_ble_eq_true rfl) (c_X10_must h21) (fun m1 hq => ?_)
        have H := H m1 hq
        refine q_aload_n dX10_readFall_54 rfl ?_
        refine q_iconst dX10_readFall_55 (by decide) ?_
        refine q_puti dX10_readFall_56 lf_RX10_131 s44 rfl (Or.inl rfl) (fun _ => by decide) ?_
        have H := H _ rfl
        exact q_vret dX10_readFall_59 rfl ⟨rfl, rfl, H⟩
      · have H := H.2 c43
        refine q_iconst dX10_readFall_46 (by decide) ?_
        refine q_goto (tgt := 51) dX10_readFall_47 (by decide) ?_
        obtain ⟨h24, H⟩ := H
        refine q_cVn (as := [vI _]) dX10_readFall_51 kmX10_must kvX10_must lm_RX10_123 ⟨by decide, by decide⟩ s44 ⟨by decide, rfl⟩ rfl rfl (Nat.le_of_ble_eq_true rfl) (c_X10_must h24) (fun m1 hq => ?_)
        have H := H m1 hq
        refine q_aload_n dX10_readFall_54 rfl ?_
        refine q_iconst dX10_readFall_55 (by decide) ?_
        refine q_puti dX10_readFall_56 lf_RX10_131 s44 rfl (Or.inl rfl) (fun _ => by decide) ?_
        have H := H _ rfl
        exact q_vret dX10_readFall_59 rfl ⟨rfl, rfl, H⟩
    · have H := H.2 c20
      exact q_vret dX10_readFall_23 rfl ⟨rfl, rfl, H⟩

set_option maxRecDepth 20000 in
theorem v_X10_readNoise {P : Mem → Prop} {mem : Mem}  (H : (3 ≤ (mem 44 28) → (nxQ mem) ∧ (∀ m2 : Mem, muP mem 0 m2 → (((m2 44 25) = 0 → (inR (4 * (m2 44 28))) ∧ ((inR (m2 55 0 * m2 55 1)) ∧ ((inR ((m2 55 0 * m2 55 1) - 1)) ∧ ((nxQ m2) ∧ (((0 : Int) ≤ (4 * (m2 44 28))) ∧ (((4 * (m2 44 28)) < 12) ∧ (∀ (v9 : Int) (m10 : Mem), riP 56 m2 (4 * (m2 44 28)) 0 ((m2 55 0 * m2 55 1) - 1) v9 m10 → ((inR ((4 * (m2 44 28)) + 1)) ∧ ((nxQ m10) ∧ (((0 : Int) ≤ ((4 * (m2 44 28)) + 1)) ∧ ((((4 * (m2 44 28)) + 1) < 12) ∧ (∀ (v15 : Int) (m16 : Mem), riP 56 m10 ((4 * (m2 44 28)) + 1) 1 99 v15 m16 → ((inR ((4 * (m2 44 28)) + 2)) ∧ ((nxQ m16) ∧ (((0 : Int) ≤ ((4 * (m2 44 28)) + 2)) ∧ ((((4 * (m2 44 28)) + 2) < 12) ∧ (∀ (v21 : Int) (m22 : Mem), riP 56 m16 ((4 * (m2 44 28)) + 2) 0 23 v21 m22 → ((inR ((4 * (m2 44 28)) + 3)) ∧ ((nxQ m22) ∧ (((0 : Int) ≤ ((4 * (m2 44 28)) + 3)) ∧ ((((4 * (m2 44 28)) + 3) < 12) ∧ (∀ (v27 : Int) (m28 : Mem), riP 56 m22 ((4 * (m2 44 28)) + 3) v21 23 v27 m28 → ((¬ (m28 44 23) = 3 → (nxQ m28) ∧ (∀ m30 : Mem, muP m28 0 m30 → ((inR ((m30 44 28) + 1)) ∧ (∀ m32 : Mem, m32 = (mset m30 44 28 ((m30 44 28) + 1)) → (P m32))))) ∧ ((m28 44 23) = 3 → (nxQ m28) ∧ (∀ m34 : Mem, muP m28 1 m34 → ((inR ((m34 44 28) + 1)) ∧ (∀ m36 : Mem, m36 = (mset m34 44 28 ((m34 44 28) + 1)) → (P m36)))))))))))))))))))))))))))) ∧ (¬ (m2 44 25) = 0 → P m2)))) ∧ ((mem 44 28) < 3 → (nxQ mem) ∧ (∀ m38 : Mem, muP mem 1 m38 → (((m38 44 25) = 0 → (inR (4 * (m38 44 28))) ∧ ((inR (m38 55 0 * m38 55 1)) ∧ ((inR ((m38 55 0 * m38 55 1) - 1)) ∧ ((nxQ m38) ∧ (((0 : Int) ≤ (4 * (m38 44 28))) ∧ (((4 * (m38 44 28)) < 12) ∧ (∀ (v45 : Int) (m46 : Mem), riP 56 m38 (4 * (m38 44 28)) 0 ((m38 55 0 * m38 55 1) - 1) v45 m46 → ((inR ((4 * (m38 44 28)) + 1)) ∧ ((nxQ m46) ∧ (((0 : Int) ≤ ((4 * (m38 44 28)) + 1)) ∧ ((((4 * (m38 44 28)) + 1) < 12) ∧ (∀ (v51 : Int) (m52 : Mem), riP 56 m46 ((4 * (m38 44 28)) + 1) 1 99 v51 m52 → ((inR ((4 * (m38 44 28)) + 2)) ∧ ((nxQ m52) ∧ (((0 : Int) ≤ ((4 * (m38 44 28)) + 2)) ∧ ((((4 * (m38 44 28)) + 2) < 12) ∧ (∀ (v57 : Int) (m58 : Mem), riP 56 m52 ((4 * (m38 44 28)) + 2) 0 23 v57 m58 → ((inR ((4 * (m38 44 28)) + 3)) ∧ ((nxQ m58) ∧ (((0 : Int) ≤ ((4 * (m38 44 28)) + 3)) ∧ ((((4 * (m38 44 28)) + 3) < 12) ∧ (∀ (v63 : Int) (m64 : Mem), riP 56 m58 ((4 * (m38 44 28)) + 3) v57 23 v63 m64 → ((¬ (m64 44 23) = 3 → (nxQ m64) ∧ (∀ m66 : Mem, muP m64 0 m66 → ((inR ((m66 44 28) + 1)) ∧ (∀ m68 : Mem, m68 = (mset m66 44 28 ((m66 44 28) + 1)) → (P m68))))) ∧ ((m64 44 23) = 3 → (nxQ m64) ∧ (∀ m70 : Mem, muP m64 1 m70 → ((inR ((m70 44 28) + 1)) ∧ (∀ m72 : Mem, m72 = (mset m70 44 28 ((m70 44 28) + 1)) → (P m72)))))))))))))))))))))))))))) ∧ (¬ (m38 44 25) = 0 → P m38))))) : Tot mX10_readNoise 0 0 [vR 44] SH mem (Pn SH P) := by
  refine Tot.of rfl (Nat.le_of_ble_eq_true rfl) (by simp [isJ]) (ls := [vR 44, vJ 0, vJ 0]) rfl ?_
  refine q_aload_n dX10_readNoise_0 rfl ?_
  refine q_aload_n dX10_readNoise_1 rfl ?_
  refine q_geti dX10_readNoise_2 lf_RX10_134 s44 rfl ?_
  refine q_iconst dX10_readNoise_5 (by decide) ?_
  refine q_icmp_ge (tgt := 13) dX10_readNoise_6 (by decide) (fun c6 => ?_) (fun c6 => ?_)
  · have H := H.1 c6
    refine q_iconst dX10_readNoise_13 (by decide) ?_
    obtain ⟨h1, H⟩ := H
    refine q_cVn (as := [vI _]) dX10_readNoise_14 kmX10_must kvX10_must lm_RX10_123 ⟨by decide, by decide⟩ s44 ⟨by decide, rfl⟩ rfl rfl (Nat.le_of_ble_eq_true rfl) (c_X10_must h1) (fun m1 hq => ?_)
    have H := H m1 hq
    refine q_aload_n dX10_readNoise_17 rfl ?_
    refine q_geti dX10_readNoise_18 lf_RX10_116 s44 rfl ?_
    refine q_if_eq (tgt := 25) dX10_readNoise_21 (by decide) (fun c21 => ?_) (fun c21 => ?_)
    · have H := H.1 c21
      refine q_iconst dX10_readNoise_25 (by decide) ?_
      refine q_aload_n dX10_readNoise_26 rfl ?_
      refine q_geti dX10_readNoise_27 lf_RX10_134 s44 rfl ?_
      obtain ⟨h3, H⟩ := H
      refine q_imul dX10_readNoise_30 h3 ?_
      refine q_istore_n dX10_readNoise_31 (by decide) rfl ?_
      refine q_aload_n dX10_readNoise_32 rfl ?_
      refine q_aload_n dX10_readNoise_33 rfl ?_
      refine q_getr (r := 56) dX10_readNoise_34 lf_RX10_54 s44 rfl rfl ?_
      refine q_iload_n dX10_readNoise_37 rfl ?_
      refine q_iconst dX10_readNoise_38 (by decide) ?_
      refine q_aload_n dX10_readNoise_39 rfl ?_
      obtain ⟨h4, H⟩ := H
      refine q_cVi (as := []) dX10_readNoise_40 kmX10_cells kvX10_cells lm_RX10_137 ⟨by decide, by decide⟩ s44 ⟨by decide, rfl⟩ rfl rfl (Nat.le_of_ble_eq_true rfl) (c_X10_cells h4) (fun v m1 hq => ?_)
      obtain ⟨rfl, rfl⟩ := hq
      refine q_iconst dX10_readNoise_43 (by decide) ?_
      obtain ⟨h5, H⟩ := H
      refine q_isub dX10_readNoise_44 h5 ?_
      obtain ⟨h6, H⟩ := H
      obtain ⟨h7, H⟩ := H
      obtain ⟨h8, H⟩ := H
      refine q_cVi (as := [vR _, vI _, vI _, vI _]) dX10_readNoise_45 kmX10_readInto kvX10_readInto lm_RX10_127 ⟨by decide, by decide⟩ s44 ⟨by decide, rfl⟩ rfl rfl (Nat.le_of_ble_eq_true rfl) (c_ri_56 h6 h7 h8) (fun v m1 hq => ?_)
      have H := H v m1 hq
      refine q_pop dX10_readNoise_48 rfl ?_
      refine q_aload_n dX10_readNoise_49 rfl ?_
      refine q_aload_n dX10_readNoise_50 rfl ?_
      refine q_getr (r := 56) dX10_readNoise_51 lf_RX10_54 s44 rfl rfl ?_
      refine q_iload_n dX10_readNoise_54 rfl ?_
      refine q_iconst dX10_readNoise_55 (by decide) ?_
      obtain ⟨h11, H⟩ := H
      refine q_iadd dX10_readNoise_56 h11 ?_
      refine q_iconst dX10_readNoise_57 (by decide) ?_
      refine q_bipush dX10_readNoise_58 rfl (by decide) ?_
      obtain ⟨h12, H⟩ := H
      obtain ⟨h13, H⟩ := H
      obtain ⟨h14, H⟩ := H
      refine q_cVi (as := [vR _, vI _, vI _, vI _]) dX10_readNoise_60 kmX10_readInto kvX10_readInto lm_RX10_127 ⟨by decide, by decide⟩ s44 ⟨by decide, rfl⟩ rfl rfl (Nat.le_of_ble_eq_true rfl) (c_ri_56 h12 h13 h14) (fun v m1 hq => ?_)
      have H := H v m1 hq
      refine q_pop dX10_readNoise_63 rfl ?_
      refine q_aload_n dX10_readNoise_64 rfl ?_
      refine q_aload_n dX10_readNoise_65 rfl ?_
      refine q_getr (r := 56) dX10_readNoise_66 lf_RX10_54 s44 rfl rfl ?_
      refine q_iload_n dX10_readNoise_69 rfl ?_
      refine q_iconst dX10_readNoise_70 (by decide) ?_
      obtain ⟨h17, H⟩ := H
      refine q_iadd dX10_readNoise_71 h17 ?_
      refine q_iconst dX10_readNoise_72 (by decide) ?_
      refine q_bipush dX10_readNoise_73 rfl (by decide) ?_
      obtain ⟨h18, H⟩ := H
      obtain ⟨h19, H⟩ := H
      obtain ⟨h20, H⟩ := H
      refine q_cVi (as := [vR _, vI _, vI _, vI _]) dX10_readNoise_75 kmX10_readInto kvX10_readInto lm_RX10_127 ⟨by decide, by decide⟩ s44 ⟨by decide, rfl⟩ rfl rfl (Nat.le_of_ble_eq_true rfl) (c_ri_56 h18 h19 h20) (fun v m1 hq => ?_)
      have H := H v m1 hq
      refine q_istore_n dX10_readNoise_78 (by decide) rfl ?_
      refine q_aload_n dX10_readNoise_79 rfl ?_
      refine q_aload_n dX10_readNoise_80 rfl ?_
      refine q_getr (r := 56) dX10_readNoise_81 lf_RX10_54 s44 rfl rfl ?_
      refine q_iload_n dX10_readNoise_84 rfl ?_
      refine q_iconst dX10_readNoise_85 (by decide) ?_
      obtain ⟨h23, H⟩ := H
      refine q_iadd dX10_readNoise_86 h23 ?_
      refine q_iload_n dX10_readNoise_87 rfl ?_
      refine q_bipush dX10_readNoise_88 rfl (by decide) ?_
      obtain ⟨h24, H⟩ := H
      obtain ⟨h25, H⟩ := H
      obtain ⟨h26, H⟩ := H
      refine q_cVi (as := [vR _, vI _, vI _, vI _]) dX10_readNoise_90 kmX10_readInto kvX10_readInto lm_RX10_127 ⟨by decide, by decide⟩ s44 ⟨by decide, rfl⟩ rfl rfl (Nat.le_of_ble_eq_true rfl) (c_ri_56 h24 h25 h26) (fun v m1 hq => ?_)
      have H := H v m1 hq
      refine q_pop dX10_readNoise_93 rfl ?_
      refine q_aload_n dX10_readNoise_94 rfl ?_
      refine q_aload_n dX10_readNoise_95 rfl ?_
      refine q_geti dX10_readNoise_96 lf_RX10_110 s44 rfl ?_
      refine q_iconst dX10_readNoise_99 (by decide) ?_
      refine q_icmp_ne (tgt := 107) dX10_readNoise_100 (by decide) (fun c100 => ?_) (fun c100 => ?_)
      · have H := H.1 c100
        refine q_iconst dX10_readNoise_107 (by decide) ?_
        obtain ⟨h29, H⟩ := H
        refine q_cVn (as := [vI _]) dX10_readNoise_108 kmX10_must kvX10_must lm_RX10_123 ⟨by decide, by decide⟩ s44 ⟨by decide, rfl⟩ rfl rfl (Nat.le_of_ble_eq_true rfl) (c_X10_must h29) (fun m1 hq => ?_)
        have H := H m1 hq
        refine q_aload_n dX10_readNoise_111 rfl ?_
        refine q_dup dX10_readNoise_112 rfl ?_
        refine q_geti dX10_readNoise_113 lf_RX10_134 s44 rfl ?_
        refine q_iconst dX10_readNoise_116 (by decide) ?_
        obtain ⟨h31, H⟩ := H
        refine q_iadd dX10_readNoise_117 h31 ?_
        refine q_puti dX10_readNoise_118 lf_RX10_134 s44 rfl (Or.inl rfl) fit_int ?_
        have H := H _ rfl
        exact q_vret dX10_readNoise_121 rfl ⟨rfl, rfl, H⟩
      · have H := H.2 c100
        refine q_iconst dX10_readNoise_103 (by decide) ?_
        refine q_goto (tgt := 108) dX10_readNoise_104 (by decide) ?_
        obtain ⟨h33, H⟩ := H
        refine q_cVn (as := [vI _]) dX10_readNoise_108 kmX10_must kvX10_must lm_RX10_123 ⟨by decide, by decide⟩ s44 ⟨by decide, rfl⟩ rfl rfl (Nat.le_of_ble_eq_true rfl) (c_X10_must h33) (fun m1 hq => ?_)
        have H := H m1 hq
        refine q_aload_n dX10_readNoise_111 rfl ?_
        refine q_dup dX10_readNoise_112 rfl ?_
        refine q_geti dX10_readNoise_113 lf_RX10_134 s44 rfl ?_
        refine q_iconst dX10_readNoise_116 (by decide) ?_
        obtain ⟨h35, H⟩ := H
        refine q_iadd dX10_readNoise_117 h35 ?_
        refine q_puti dX10_readNoise_118 lf_RX10_134 s44 rfl (Or.inl rfl) fit_int ?_
        have H := H _ rfl
        exact q_vret dX10_readNoise_121 rfl ⟨rfl, rfl, H⟩
    · have H := H.2 c21
      exact q_vret dX10_readNoise_24 rfl ⟨rfl, rfl, H⟩
  · have H := H.2 c6
    refine q_iconst dX10_readNoise_9 (by decide) ?_
    refine q_goto (tgt := 14) dX10_readNoise_10 (by decide) ?_
    obtain ⟨h37, H⟩ := H
    refine q_cVn (as := [vI _]) dX10_readNoise_14 kmX10_must kvX10_must lm_RX10_123 ⟨by decide, by decide⟩ s44 ⟨by decide, rfl⟩ rfl rfl (Nat.le_of_ble_eq_true rfl) (c_X10_must h37) (fun m1 hq => ?_)
    have H := H m1 hq
    refine q_aload_n dX10_readNoise_17 rfl ?_
    refine q_geti dX10_readNoise_18 lf_RX10_116 s44 rfl ?_
    refine q_if_eq (tgt := 25) dX10_readNoise_21 (by decide) (fun c21 => ?_) (fun c21 => ?_)
    · have H := H.1 c21
      refine q_iconst dX10_readNoise_25 (by decide) ?_
      refine q_aload_n dX10_readNoise_26 rfl ?_
      refine q_geti dX10_readNoise_27 lf_RX10_134 s44 rfl ?_
      obtain ⟨h39, H⟩ := H
      refine q_imul dX10_readNoise_30 h39 ?_
      refine q_istore_n dX10_readNoise_31 (by decide) rfl ?_
      refine q_aload_n dX10_readNoise_32 rfl ?_
      refine q_aload_n dX10_readNoise_33 rfl ?_
      refine q_getr (r := 56) dX10_readNoise_34 lf_RX10_54 s44 rfl rfl ?_
      refine q_iload_n dX10_readNoise_37 rfl ?_
      refine q_iconst dX10_readNoise_38 (by decide) ?_
      refine q_aload_n dX10_readNoise_39 rfl ?_
      obtain ⟨h40, H⟩ := H
      refine q_cVi (as := []) dX10_readNoise_40 kmX10_cells kvX10_cells lm_RX10_137 ⟨by decide, by decide⟩ s44 ⟨by decide, rfl⟩ rfl rfl (Nat.le_of_ble_eq_true rfl) (c_X10_cells h40) (fun v m1 hq => ?_)
      obtain ⟨rfl, rfl⟩ := hq
      refine q_iconst dX10_readNoise_43 (by decide) ?_
      obtain ⟨h41, H⟩ := H
      refine q_isub dX10_readNoise_44 h41 ?_
      obtain ⟨h42, H⟩ := H
      obtain ⟨h43, H⟩ := H
      obtain ⟨h44, H⟩ := H
      refine q_cVi (as := [vR _, vI _, vI _, vI _]) dX10_readNoise_45 kmX10_readInto kvX10_readInto lm_RX10_127 ⟨by decide, by decide⟩ s44 ⟨by decide, rfl⟩ rfl rfl (Nat.le_of_ble_eq_true rfl) (c_ri_56 h42 h43 h44) (fun v m1 hq => ?_)
      have H := H v m1 hq
      refine q_pop dX10_readNoise_48 rfl ?_
      refine q_aload_n dX10_readNoise_49 rfl ?_
      refine q_aload_n dX10_readNoise_50 rfl ?_
      refine q_getr (r := 56) dX10_readNoise_51 lf_RX10_54 s44 rfl rfl ?_
      refine q_iload_n dX10_readNoise_54 rfl ?_
      refine q_iconst dX10_readNoise_55 (by decide) ?_
      obtain ⟨h47, H⟩ := H
      refine q_iadd dX10_readNoise_56 h47 ?_
      refine q_iconst dX10_readNoise_57 (by decide) ?_
      refine q_bipush dX10_readNoise_58 rfl (by decide) ?_
      obtain ⟨h48, H⟩ := H
      obtain ⟨h49, H⟩ := H
      obtain ⟨h50, H⟩ := H
      refine q_cVi (as := [vR _, vI _, vI _, vI _]) dX10_readNoise_60 kmX10_readInto kvX10_readInto lm_RX10_127 ⟨by decide, by decide⟩ s44 ⟨by decide, rfl⟩ rfl rfl (Nat.le_of_ble_eq_true rfl) (c_ri_56 h48 h49 h50) (fun v m1 hq => ?_)
      have H := H v m1 hq
      refine q_pop dX10_readNoise_63 rfl ?_
      refine q_aload_n dX10_readNoise_64 rfl ?_
      refine q_aload_n dX10_readNoise_65 rfl ?_
      refine q_getr (r := 56) dX10_readNoise_66 lf_RX10_54 s44 rfl rfl ?_
      refine q_iload_n dX10_readNoise_69 rfl ?_
      refine q_iconst dX10_readNoise_70 (by decide) ?_
      obtain ⟨h53, H⟩ := H
      refine q_iadd dX10_readNoise_71 h53 ?_
      refine q_iconst dX10_readNoise_72 (by decide) ?_
      refine q_bipush dX10_readNoise_73 rfl (by decide) ?_
      obtain ⟨h54, H⟩ := H
      obtain ⟨h55, H⟩ := H
      obtain ⟨h56, H⟩ := H
      refine q_cVi (as := [vR _, vI _, vI _, vI _]) dX10_readNoise_75 kmX10_readInto kvX10_readInto lm_RX10_127 ⟨by decide, by decide⟩ s44 ⟨by decide, rfl⟩ rfl rfl (Nat.le_of_ble_eq_true rfl) (c_ri_56 h54 h55 h56) (fun v m1 hq => ?_)
      have H := H v m1 hq
      refine q_istore_n dX10_readNoise_78 (by decide) rfl ?_
      refine q_aload_n dX10_readNoise_79 rfl ?_
      refine q_aload_n dX10_readNoise_80 rfl ?_
      refine q_getr (r := 56) dX10_readNoise_81 lf_RX10_54 s44 rfl rfl ?_
      refine q_iload_n dX10_readNoise_84 rfl ?_
      refine q_iconst dX10_readNoise_85 (by decide) ?_
      obtain ⟨h59, H⟩ := H
      refine q_iadd dX10_readNoise_86 h59 ?_
      refine q_iload_n dX10_readNoise_87 rfl ?_
      refine q_bipush dX10_readNoise_88 rfl (by decide) ?_
      obtain ⟨h60, H⟩ := H
      obtain ⟨h61, H⟩ := H
      obtain ⟨h62, H⟩ := H
      refine q_cVi (as := [vR _, vI _, vI _, vI _]) dX10_readNoise_90 kmX10_readInto kvX10_readInto lm_RX10_127 ⟨by decide, by decide⟩ s44 ⟨by decide, rfl⟩ rfl rfl (Nat.le_of_ble_eq_true rfl) (c_ri_56 h60 h61 h62) (fun v m1 hq => ?_)
      have H := H v m1 hq
      refine q_pop dX10_readNoise_93 rfl ?_
      refine q_aload_n dX10_readNoise_94 rfl ?_
      refine q_aload_n dX10_readNoise_95 rfl ?_
      refine q_geti dX10_readNoise_96 lf_RX10_110 s44 rfl ?_
      refine q_iconst dX10_readNoise_99 (by decide) ?_
      refine q_icmp_ne (tgt := 107) dX10_readNoise_100 (by decide) (fun c100 => ?_) (fun c100 => ?_)
      · have H := H.1 c100
        refine q_iconst dX10_readNoise_107 (by decide) ?_
        obtain ⟨h65, H⟩ := H
        refine q_cVn (as := [vI _]) dX10_readNoise_108 kmX10_must kvX10_must lm_RX10_123 ⟨by decide, by decide⟩ s44 ⟨by decide, rfl⟩ rfl rfl (Nat.le_of_ble_eq_true rfl) (c_X10_must h65) (fun m1 hq => ?_)
        have H := H m1 hq
        refine q_aload_n dX10_readNoise_111 rfl ?_
        refine q_dup dX10_readNoise_112 rfl ?_
        refine q_geti dX10_readNoise_113 lf_RX10_134 s44 rfl ?_
        refine q_iconst dX10_readNoise_116 (by decide) ?_
        obtain ⟨h67, H⟩ := H
        refine q_iadd dX10_readNoise_117 h67 ?_
        refine q_puti dX10_readNoise_118 lf_RX10_134 s44 rfl (Or.inl rfl) fit_int ?_
        have H := H _ rfl
        exact q_vret dX10_readNoise_121 rfl ⟨rfl, rfl, H⟩
      · have H := H.2 c100
        refine q_iconst dX10_readNoise_103 (by decide) ?_
        refine q_goto (tgt := 108) dX10_readNoise_104 (by decide) ?_
        obtain ⟨h69, H⟩ := H
        refine q_cVn (as := [vI _]) dX10_readNoise_108 kmX10_must kvX10_must lm_RX10_123 ⟨by decide, by decide⟩ s44 ⟨by decide, rfl⟩ rfl rfl (Nat.le_of_ble_eq_true rfl) (c_X10_must h69) (fun m1 hq => ?_)
        have H := H m1 hq
        refine q_aload_n dX10_readNoise_111 rfl ?_
        refine q_dup dX10_readNoise_112 rfl ?_
        refine q_geti dX10_readNoise_113 lf_RX10_134 s44 rfl ?_
        refine q_iconst dX10_readNoise_116 (by decide) ?_
        obtain ⟨h71, H⟩ := H
        refine q_iadd dX10_readNoise_117 h71 ?_
        refine q_puti dX10_readNoise_118 lf_RX10_134 s44 rfl (Or.inl rfl) fit_int ?_
        have H := H _ rfl
        exact q_vret dX10_readNoise_121 rfl ⟨rfl, rfl, H⟩
    · have H := H.2 c21
      exact q_vret dX10_readNoise_24 rfl ⟨rfl, rfl, H⟩

set_option maxRecDepth 20000 in
theorem v_X10_readSheet {P : Mem → Prop} {mem : Mem}  (H : (4 ≤ (mem 44 30) → (nxQ mem) ∧ (∀ m2 : Mem, muP mem 0 m2 → (((m2 44 25) = 0 → (inR (4 * (m2 44 30))) ∧ ((nxQ m2) ∧ (((0 : Int) ≤ (4 * (m2 44 30))) ∧ (((4 * (m2 44 30)) < 16) ∧ (∀ (v7 : Int) (m8 : Mem), riP 57 m2 (4 * (m2 44 30)) 0 30 v7 m8 → ((inR ((4 * (m2 44 30)) + 1)) ∧ ((nxQ m8) ∧ (((0 : Int) ≤ ((4 * (m2 44 30)) + 1)) ∧ ((((4 * (m2 44 30)) + 1) < 16) ∧ (∀ (v13 : Int) (m14 : Mem), riP 57 m8 ((4 * (m2 44 30)) + 1) 1 3 v13 m14 → ((inR ((4 * (m2 44 30)) + 2)) ∧ ((nxQ m14) ∧ (((0 : Int) ≤ ((4 * (m2 44 30)) + 2)) ∧ ((((4 * (m2 44 30)) + 2) < 16) ∧ (∀ (v19 : Int) (m20 : Mem), riP 57 m14 ((4 * (m2 44 30)) + 2) 1 3 v19 m20 → ((inR ((4 * (m2 44 30)) + 3)) ∧ ((nxQ m20) ∧ (((0 : Int) ≤ ((4 * (m2 44 30)) + 3)) ∧ ((((4 * (m2 44 30)) + 3) < 16) ∧ (∀ (v25 : Int) (m26 : Mem), riP 57 m20 ((4 * (m2 44 30)) + 3) 1 9 v25 m26 → ((¬ (m26 44 23) = 3 → (nxQ m26) ∧ (∀ m28 : Mem, muP m26 0 m28 → ((inR ((m28 44 30) + 1)) ∧ (∀ m30 : Mem, m30 = (mset m28 44 30 ((m28 44 30) + 1)) → (P m30))))) ∧ ((m26 44 23) = 3 → (nxQ m26) ∧ (∀ m32 : Mem, muP m26 1 m32 → ((inR ((m32 44 30) + 1)) ∧ (∀ m34 : Mem, m34 = (mset m32 44 30 ((m32 44 30) + 1)) → (P m34)))))))))))))))))))))))))) ∧ (¬ (m2 44 25) = 0 → P m2)))) ∧ ((mem 44 30) < 4 → (nxQ mem) ∧ (∀ m36 : Mem, muP mem 1 m36 → (((m36 44 25) = 0 → (inR (4 * (m36 44 30))) ∧ ((nxQ m36) ∧ (((0 : Int) ≤ (4 * (m36 44 30))) ∧ (((4 * (m36 44 30)) < 16) ∧ (∀ (v41 : Int) (m42 : Mem), riP 57 m36 (4 * (m36 44 30)) 0 30 v41 m42 → ((inR ((4 * (m36 44 30)) + 1)) ∧ ((nxQ m42) ∧ (((0 : Int) ≤ ((4 * (m36 44 30)) + 1)) ∧ ((((4 * (m36 44 30)) + 1) < 16) ∧ (∀ (v47 : Int) (m48 : Mem), riP 57 m42 ((4 * (m36 44 30)) + 1) 1 3 v47 m48 → ((inR ((4 * (m36 44 30)) + 2)) ∧ ((nxQ m48) ∧ (((0 : Int) ≤ ((4 * (m36 44 30)) + 2)) ∧ ((((4 * (m36 44 30)) + 2) < 16) ∧ (∀ (v53 : Int) (m54 : Mem), riP 57 m48 ((4 * (m36 44 30)) + 2) 1 3 v53 m54 → ((inR ((4 * (m36 44 30)) + 3)) ∧ ((nxQ m54) ∧ (((0 : Int) ≤ ((4 * (m36 44 30)) + 3)) ∧ ((((4 * (m36 44 30)) + 3) < 16) ∧ (∀ (v59 : Int) (m60 : Mem), riP 57 m54 ((4 * (m36 44 30)) + 3) 1 9 v59 m60 → ((¬ (m60 44 23) = 3 → (nxQ m60) ∧ (∀ m62 : Mem, muP m60 0 m62 → ((inR ((m62 44 30) + 1)) ∧ (∀ m64 : Mem, m64 = (mset m62 44 30 ((m62 44 30) + 1)) → (P m64))))) ∧ ((m60 44 23) = 3 → (nxQ m60) ∧ (∀ m66 : Mem, muP m60 1 m66 → ((inR ((m66 44 30) + 1)) ∧ (∀ m68 : Mem, m68 = (mset m66 44 30 ((m66 44 30) + 1)) → (P m68)))))))))))))))))))))))))) ∧ (¬ (m36 44 25) = 0 → P m36))))) : Tot mX10_readSheet 0 0 [vR 44] SH mem (Pn SH P) := by
  refine Tot.of rfl (Nat.le_of_ble_eq_true rfl) (by simp [isJ]) (ls := [vR 44, vJ 0]) rfl ?_
  refine q_aload_n dX10_readSheet_0 rfl ?_
  refine q_aload_n dX10_readSheet_1 rfl ?_
  refine q_geti dX10_readSheet_2 lf_RX10_141 s44 rfl ?_
  refine q_iconst dX10_readSheet_5 (by decide) ?_
  refine q_icmp_ge (tgt := 13) dX10_readSheet_6 (by decide) (fun c6 => ?_) (fun c6 => ?_)
  · have H := H.1 c6
    refine q_iconst dX10_readSheet_13 (by decide) ?_
    obtain ⟨h1, H⟩ := H
    refine q_cVn (as := [vI _]) dX10_readSheet_14 kmX10_must kvX10_must lm_RX10_123 ⟨by decide, by decide⟩ s44 ⟨by decide, rfl⟩ rfl rfl (Nat.le_of_ble_eq_true rfl) (c_X10_must h1) (fun m1 hq => ?_)
    have H := H m1 hq
    refine q_aload_n dX10_readSheet_17 rfl ?_
    refine q_geti dX10_readSheet_18 lf_RX10_116 s44 rfl ?_
    refine q_if_eq (tgt := 25) dX10_readSheet_21 (by decide) (fun c21 => ?_) (fun c21 => ?_)
    · have H := H.1 c21
      refine q_iconst dX10_readSheet_25 (by decide) ?_
      refine q_aload_n dX10_readSheet_26 rfl ?_
      refine q_geti dX10_readSheet_27 lf_RX10_141 s44 rfl ?_
      obtain ⟨h3, H⟩ := H
      refine q_imul dX10_readSheet_30 h3 ?_
      refine q_istore_n dX10_readSheet_31 (by decide) rfl ?_
      refine q_aload_n dX10_readSheet_32 rfl ?_
      refine q_aload_n dX10_readSheet_33 rfl ?_
      refine q_getr (r := 57) dX10_readSheet_34 lf_RX10_57 s44 rfl rfl ?_
      refine q_iload_n dX10_readSheet_37 rfl ?_
      refine q_iconst dX10_readSheet_38 (by decide) ?_
      refine q_bipush dX10_readSheet_39 rfl (by decide) ?_
      obtain ⟨h4, H⟩ := H
      obtain ⟨h5, H⟩ := H
      obtain ⟨h6, H⟩ := H
      refine q_cVi (as := [vR _, vI _, vI _, vI _]) dX10_readSheet_41 kmX10_readInto kvX10_readInto lm_RX10_127 ⟨by decide, by decide⟩ s44 ⟨by decide, rfl⟩ rfl rfl (Nat.le_of_ble_eq_true rfl) (c_ri_57 h4 h5 h6) (fun v m1 hq => ?_)
      have H := H v m1 hq
      refine q_pop dX10_readSheet_44 rfl ?_
      refine q_aload_n dX10_readSheet_45 rfl ?_
      refine q_aload_n dX10_readSheet_46 rfl ?_
      refine q_getr (r := 57) dX10_readSheet_47 lf_RX10_57 s44 rfl rfl ?_
      refine q_iload_n dX10_readSheet_50 rfl ?_
      refine q_iconst dX10_readSheet_51 (by decide) ?_
      obtain ⟨h9, H⟩ := H
      refine q_iadd dX10_readSheet_52 h9 ?_
      refine q_iconst dX10_readSheet_53 (by decide) ?_
      refine q_iconst dX10_readSheet_54 (by decide) ?_
      obtain ⟨h10, H⟩ := H
      obtain ⟨h11, H⟩ := H
      obtain ⟨h12, H⟩ := H
      refine q_cVi (as := [vR _, vI _, vI _, vI _]) dX10_readSheet_55 kmX10_readInto kvX10_readInto lm_RX10_127 ⟨by decide, by decide⟩ s44 ⟨by decide, rfl⟩ rfl rfl (Nat.le_of_ble_eq_true rfl) (c_ri_57 h10 h11 h12) (fun v m1 hq => ?_)
      have H := H v m1 hq
      refine q_pop dX10_readSheet_58 rfl ?_
      refine q_aload_n dX10_readSheet_59 rfl ?_
      refine q_aload_n dX10_readSheet_60 rfl ?_
      refine q_getr (r := 57) dX10_readSheet_61 lf_RX10_57 s44 rfl rfl ?_
      refine q_iload_n dX10_readSheet_64 rfl ?_
      refine q_iconst dX10_readSheet_65 (by decide) ?_
      obtain ⟨h15, H⟩ := H
      refine q_iadd dX10_readSheet_66 h15 ?_
      refine q_iconst dX10_readSheet_67 (by decide) ?_
      refine q_iconst dX10_readSheet_68 (by decide) ?_
      obtain ⟨h16, H⟩ := H
      obtain ⟨h17, H⟩ := H
      obtain ⟨h18, H⟩ := H
      refine q_cVi (as := [vR _, vI _, vI _, vI _]) dX10_readSheet_69 kmX10_readInto kvX10_readInto lm_RX10_127 ⟨by decide, by decide⟩ s44 ⟨by decide, rfl⟩ rfl rfl (Nat.le_of_ble_eq_true rfl) (c_ri_57 h16 h17 h18) (fun v m1 hq => ?_)
      have H := H v m1 hq
      refine q_pop dX10_readSheet_72 rfl ?_
      refine q_aload_n dX10_readSheet_73 rfl ?_
      refine q_aload_n dX10_readSheet_74 rfl ?_
      refine q_getr (r := 57) dX10_readSheet_75 lf_RX10_57 s44 rfl rfl ?_
      refine q_iload_n dX10_readSheet_78 rfl ?_
      refine q_iconst dX10_readSheet_79 (by decide) ?_
      obtain ⟨h21, H⟩ := H
      refine q_iadd dX10_readSheet_80 h21 ?_
      refine q_iconst dX10_readSheet_81 (by decide) ?_
      refine q_bipush dX10_readSheet_82 rfl (by decide) ?_
      obtain ⟨h22, H⟩ := H
      obtain ⟨h23, H⟩ := H
      obtain ⟨h24, H⟩ := H
      refine q_cVi (as := [vR _, vI _, vI _, vI _]) dX10_readSheet_84 kmX10_readInto kvX10_readInto lm_RX10_127 ⟨by decide, by decide⟩ s44 ⟨by decide, rfl⟩ rfl rfl (Nat.le_of_ble_eq_true rfl) (c_ri_57 h22 h23 h24) (fun v m1 hq => ?_)
      have H := H v m1 hq
      refine q_pop dX10_readSheet_87 rfl ?_
      refine q_aload_n dX10_readSheet_88 rfl ?_
      refine q_aload_n dX10_readSheet_89 rfl ?_
      refine q_geti dX10_readSheet_90 lf_RX10_110 s44 rfl ?_
      refine q_iconst dX10_readSheet_93 (by decide) ?_
      refine q_icmp_ne (tgt := 101) dX10_readSheet_94 (by decide) (fun c94 => ?_) (fun c94 => ?_)
      · have H := H.1 c94
        refine q_iconst dX10_readSheet_101 (by decide) ?_
        obtain ⟨h27, H⟩ := H
        refine q_cVn (as := [vI _]) dX10_readSheet_102 kmX10_must kvX10_must lm_RX10_123 ⟨by decide, by decide⟩ s44 ⟨by decide, rfl⟩ rfl rfl (Nat.le_of_ble_eq_true rfl) (c_X10_must h27) (fun m1 hq => ?_)
        have H := H m1 hq
        refine q_aload_n dX10_readSheet_105 rfl ?_
        refine q_dup dX10_readSheet_106 rfl ?_
        refine q_geti dX10_readSheet_107 lf_RX10_141 s44 rfl ?_
        refine q_iconst dX10_readSheet_110 (by decide) ?_
        obtain ⟨h29, H⟩ := H
        refine q_iadd dX10_readSheet_111 h29 ?_
        refine q_puti dX10_readSheet_112 lf_RX10_141 s44 rfl (Or.inl rfl) fit_int ?_
        have H := H _ rfl
        exact q_vret dX10_readSheet_115 rfl ⟨rfl, rfl, H⟩
      · have H := H.2 c94
        refine q_iconst dX10_readSheet_97 (by decide) ?_
        refine q_goto (tgt := 102) dX10_readSheet_98 (by decide) ?_
        obtain ⟨h31, H⟩ := H
        refine q_cVn (as := [vI _]) dX10_readSheet_102 kmX10_must kvX10_must lm_RX10_123 ⟨by decide, by decide⟩ s44 ⟨by decide, rfl⟩ rfl rfl (Nat.le_of_ble_eq_true rfl) (c_X10_must h31) (fun m1 hq => ?_)
        have H := H m1 hq
        refine q_aload_n dX10_readSheet_105 rfl ?_
        refine q_dup dX10_readSheet_106 rfl ?_
        refine q_geti dX10_readSheet_107 lf_RX10_141 s44 rfl ?_
        refine q_iconst dX10_readSheet_110 (by decide) ?_
        obtain ⟨h33, H⟩ := H
        refine q_iadd dX10_readSheet_111 h33 ?_
        refine q_puti dX10_readSheet_112 lf_RX10_141 s44 rfl (Or.inl rfl) fit_int ?_
        have H := H _ rfl
        exact q_vret dX10_readSheet_115 rfl ⟨rfl, rfl, H⟩
    · have H := H.2 c21
      exact q_vret dX10_readSheet_24 rfl ⟨rfl, rfl, H⟩
  · have H := H.2 c6
    refine q_iconst dX10_readSheet_9 (by decide) ?_
    refine q_goto (tgt := 14) dX10_readSheet_10 (by decide) ?_
    obtain ⟨h35, H⟩ := H
    refine q_cVn (as := [vI _]) dX10_readSheet_14 kmX10_must kvX10_must lm_RX10_123 ⟨by decide, by decide⟩ s44 ⟨by decide, rfl⟩ rfl rfl (Nat.le_of_ble_eq_true rfl) (c_X10_must h35) (fun m1 hq => ?_)
    have H := H m1 hq
    refine q_aload_n dX10_readSheet_17 rfl ?_
    refine q_geti dX10_readSheet_18 lf_RX10_116 s44 rfl ?_
    refine q_if_eq (tgt := 25) dX10_readSheet_21 (by decide) (fun c21 => ?_) (fun c21 => ?_)
    · have H := H.1 c21
      refine q_iconst dX10_readSheet_25 (by decide) ?_
      refine q_aload_n dX10_readSheet_26 rfl ?_
      refine q_geti dX10_readSheet_27 lf_RX10_141 s44 rfl ?_
      obtain ⟨h37, H⟩ := H
      refine q_imul dX10_readSheet_30 h37 ?_
      refine q_istore_n dX10_readSheet_31 (by decide) rfl ?_
      refine q_aload_n dX10_readSheet_32 rfl ?_
      refine q_aload_n dX10_readSheet_33 rfl ?_
      refine q_getr (r := 57) dX10_readSheet_34 lf_RX10_57 s44 rfl rfl ?_
      refine q_iload_n dX10_readSheet_37 rfl ?_
      refine q_iconst dX10_readSheet_38 (by decide) ?_
      refine q_bipush dX10_readSheet_39 rfl (by decide) ?_
      obtain ⟨h38, H⟩ := H
      obtain ⟨h39, H⟩ := H
      obtain ⟨h40, H⟩ := H
      refine q_cVi (as := [vR _, vI _, vI _, vI _]) dX10_readSheet_41 kmX10_readInto kvX10_readInto lm_RX10_127 ⟨by decide, by decide⟩ s44 ⟨by decide, rfl⟩ rfl rfl (Nat.le_of_ble_eq_true rfl) (c_ri_57 h38 h39 h40) (fun v m1 hq => ?_)
      have H := H v m1 hq
      refine q_pop dX10_readSheet_44 rfl ?_
      refine q_aload_n dX10_readSheet_45 rfl ?_
      refine q_aload_n dX10_readSheet_46 rfl ?_
      refine q_getr (r := 57) dX10_readSheet_47 lf_RX10_57 s44 rfl rfl ?_
      refine q_iload_n dX10_readSheet_50 rfl ?_
      refine q_iconst dX10_readSheet_51 (by decide) ?_
      obtain ⟨h43, H⟩ := H
      refine q_iadd dX10_readSheet_52 h43 ?_
      refine q_iconst dX10_readSheet_53 (by decide) ?_
      refine q_iconst dX10_readSheet_54 (by decide) ?_
      obtain ⟨h44, H⟩ := H
      obtain ⟨h45, H⟩ := H
      obtain ⟨h46, H⟩ := H
      refine q_cVi (as := [vR _, vI _, vI _, vI _]) dX10_readSheet_55 kmX10_readInto kvX10_readInto lm_RX10_127 ⟨by decide, by decide⟩ s44 ⟨by decide, rfl⟩ rfl rfl (Nat.le_of_ble_eq_true rfl) (c_ri_57 h44 h45 h46) (fun v m1 hq => ?_)
      have H := H v m1 hq
      refine q_pop dX10_readSheet_58 rfl ?_
      refine q_aload_n dX10_readSheet_59 rfl ?_
      refine q_aload_n dX10_readSheet_60 rfl ?_
      refine q_getr (r := 57) dX10_readSheet_61 lf_RX10_57 s44 rfl rfl ?_
      refine q_iload_n dX10_readSheet_64 rfl ?_
      refine q_iconst dX10_readSheet_65 (by decide) ?_
      obtain ⟨h49, H⟩ := H
      refine q_iadd dX10_readSheet_66 h49 ?_
      refine q_iconst dX10_readSheet_67 (by decide) ?_
      refine q_iconst dX10_readSheet_68 (by decide) ?_
      obtain ⟨h50, H⟩ := H
      obtain ⟨h51, H⟩ := H
      obtain ⟨h52, H⟩ := H
      refine q_cVi (as := [vR _, vI _, vI _, vI _]) dX10_readSheet_69 kmX10_readInto kvX10_readInto lm_RX10_127 ⟨by decide, by decide⟩ s44 ⟨by decide, rfl⟩ rfl rfl (Nat.le_of_ble_eq_true rfl) (c_ri_57 h50 h51 h52) (fun v m1 hq => ?_)
      have H := H v m1 hq
      refine q_pop dX10_readSheet_72 rfl ?_
      refine q_aload_n dX10_readSheet_73 rfl ?_
      refine q_aload_n dX10_readSheet_74 rfl ?_
      refine q_getr (r := 57) dX10_readSheet_75 lf_RX10_57 s44 rfl rfl ?_
      refine q_iload_n dX10_readSheet_78 rfl ?_
      refine q_iconst dX10_readSheet_79 (by decide) ?_
      obtain ⟨h55, H⟩ := H
      refine q_iadd dX10_readSheet_80 h55 ?_
      refine q_iconst dX10_readSheet_81 (by decide) ?_
      refine q_bipush dX10_readSheet_82 rfl (by decide) ?_
      obtain ⟨h56, H⟩ := H
      obtain ⟨h57, H⟩ := H
      obtain ⟨h58, H⟩ := H
      refine q_cVi (as := [vR _, vI _, vI _, vI _]) dX10_readSheet_84 kmX10_readInto kvX10_readInto lm_RX10_127 ⟨by decide, by decide⟩ s44 ⟨by decide, rfl⟩ rfl rfl (Nat.le_of_ble_eq_true rfl) (c_ri_57 h56 h57 h58) (fun v m1 hq => ?_)
      have H := H v m1 hq
      refine q_pop dX10_readSheet_87 rfl ?_
      refine q_aload_n dX10_readSheet_88 rfl ?_
      refine q_aload_n dX10_readSheet_89 rfl ?_
      refine q_geti dX10_readSheet_90 lf_RX10_110 s44 rfl ?_
      refine q_iconst dX10_readSheet_93 (by decide) ?_
      refine q_icmp_ne (tgt := 101) dX10_readSheet_94 (by decide) (fun c94 => ?_) (fun c94 => ?_)
      · have H := H.1 c94
        refine q_iconst dX10_readSheet_101 (by decide) ?_
        obtain ⟨h61, H⟩ := H
        refine q_cVn (as := [vI _]) dX10_readSheet_102 kmX10_must kvX10_must lm_RX10_123 ⟨by decide, by decide⟩ s44 ⟨by decide, rfl⟩ rfl rfl (Nat.le_of_ble_eq_true rfl) (c_X10_must h61) (fun m1 hq => ?_)
        have H := H m1 hq
        refine q_aload_n dX10_readSheet_105 rfl ?_
        refine q_dup dX10_readSheet_106 rfl ?_
        refine q_geti dX10_readSheet_107 lf_RX10_141 s44 rfl ?_
        refine q_iconst dX10_readSheet_110 (by decide) ?_
        obtain ⟨h63, H⟩ := H
        refine q_iadd dX10_readSheet_111 h63 ?_
        refine q_puti dX10_readSheet_112 lf_RX10_141 s44 rfl (Or.inl rfl) fit_int ?_
        have H := H _ rfl
        exact q_vret dX10_readSheet_115 rfl ⟨rfl, rfl, H⟩
      · have H := H.2 c94
        refine q_iconst dX10_readSheet_97 (by decide) ?_
        refine q_goto (tgt := 102) dX10_readSheet_98 (by decide) ?_
        obtain ⟨h65, H⟩ := H
        refine q_cVn (as := [vI _]) dX10_readSheet_102 kmX10_must kvX10_must lm_RX10_123 ⟨by decide, by decide⟩ s44 ⟨by decide, rfl⟩ rfl rfl (Nat.le_of_ble_eq_true rfl) (c_X10_must h65) (fun m1 hq => ?_)
        have H := H m1 hq
        refine q_aload_n dX10_readSheet_105 rfl ?_
        refine q_dup dX10_readSheet_106 rfl ?_
        refine q_geti dX10_readSheet_107 lf_RX10_141 s44 rfl ?_
        refine q_iconst dX10_readSheet_110 (by decide) ?_
        obtain ⟨h67, H⟩ := H
        refine q_iadd dX10_readSheet_111 h67 ?_
        refine q_puti dX10_readSheet_112 lf_RX10_141 s44 rfl (Or.inl rfl) fit_int ?_
        have H := H _ rfl
        exact q_vret dX10_readSheet_115 rfl ⟨rfl, rfl, H⟩
    · have H := H.2 c21
      exact q_vret dX10_readSheet_24 rfl ⟨rfl, rfl, H⟩

set_option maxRecDepth 20000 in
theorem v_X10_readRoom {P : Mem → Prop} {mem : Mem}  (H : (3 ≤ (mem 44 32) → (nxQ mem) ∧ (∀ m2 : Mem, muP mem 0 m2 → (((m2 44 25) = 0 → (inR (4 * (m2 44 32))) ∧ ((inR (m2 55 0 * m2 55 1)) ∧ ((inR ((m2 55 0 * m2 55 1) - 1)) ∧ ((nxQ m2) ∧ (((0 : Int) ≤ (4 * (m2 44 32))) ∧ (((4 * (m2 44 32)) < 12) ∧ (∀ (v9 : Int) (m10 : Mem), riP 58 m2 (4 * (m2 44 32)) 0 ((m2 55 0 * m2 55 1) - 1) v9 m10 → ((inR ((4 * (m2 44 32)) + 1)) ∧ ((nxQ m10) ∧ (((0 : Int) ≤ ((4 * (m2 44 32)) + 1)) ∧ ((((4 * (m2 44 32)) + 1) < 12) ∧ (∀ (v15 : Int) (m16 : Mem), riP 58 m10 ((4 * (m2 44 32)) + 1) 0 23 v15 m16 → ((inR ((4 * (m2 44 32)) + 2)) ∧ ((nxQ m16) ∧ (((0 : Int) ≤ ((4 * (m2 44 32)) + 2)) ∧ ((((4 * (m2 44 32)) + 2) < 12) ∧ (∀ (v21 : Int) (m22 : Mem), riP 58 m16 ((4 * (m2 44 32)) + 2) v15 23 v21 m22 → ((inR ((4 * (m2 44 32)) + 3)) ∧ ((nxQ m22) ∧ (((0 : Int) ≤ ((4 * (m2 44 32)) + 3)) ∧ ((((4 * (m2 44 32)) + 3) < 12) ∧ (∀ (v27 : Int) (m28 : Mem), riP 58 m22 ((4 * (m2 44 32)) + 3) 0 99 v27 m28 → ((¬ (m28 44 23) = 3 → (nxQ m28) ∧ (∀ m30 : Mem, muP m28 0 m30 → ((inR ((m30 44 32) + 1)) ∧ (∀ m32 : Mem, m32 = (mset m30 44 32 ((m30 44 32) + 1)) → (P m32))))) ∧ ((m28 44 23) = 3 → (nxQ m28) ∧ (∀ m34 : Mem, muP m28 1 m34 → ((inR ((m34 44 32) + 1)) ∧ (∀ m36 : Mem, m36 = (mset m34 44 32 ((m34 44 32) + 1)) → (P m36)))))))))))))))))))))))))))) ∧ (¬ (m2 44 25) = 0 → P m2)))) ∧ ((mem 44 32) < 3 → (nxQ mem) ∧ (∀ m38 : Mem, muP mem 1 m38 → (((m38 44 25) = 0 → (inR (4 * (m38 44 32))) ∧ ((inR (m38 55 0 * m38 55 1)) ∧ ((inR ((m38 55 0 * m38 55 1) - 1)) ∧ ((nxQ m38) ∧ (((0 : Int) ≤ (4 * (m38 44 32))) ∧ (((4 * (m38 44 32)) < 12) ∧ (∀ (v45 : Int) (m46 : Mem), riP 58 m38 (4 * (m38 44 32)) 0 ((m38 55 0 * m38 55 1) - 1) v45 m46 → ((inR ((4 * (m38 44 32)) + 1)) ∧ ((nxQ m46) ∧ (((0 : Int) ≤ ((4 * (m38 44 32)) + 1)) ∧ ((((4 * (m38 44 32)) + 1) < 12) ∧ (∀ (v51 : Int) (m52 : Mem), riP 58 m46 ((4 * (m38 44 32)) + 1) 0 23 v51 m52 → ((inR ((4 * (m38 44 32)) + 2)) ∧ ((nxQ m52) ∧ (((0 : Int) ≤ ((4 * (m38 44 32)) + 2)) ∧ ((((4 * (m38 44 32)) + 2) < 12) ∧ (∀ (v57 : Int) (m58 : Mem), riP 58 m52 ((4 * (m38 44 32)) + 2) v51 23 v57 m58 → ((inR ((4 * (m38 44 32)) + 3)) ∧ ((nxQ m58) ∧ (((0 : Int) ≤ ((4 * (m38 44 32)) + 3)) ∧ ((((4 * (m38 44 32)) + 3) < 12) ∧ (∀ (v63 : Int) (m64 : Mem), riP 58 m58 ((4 * (m38 44 32)) + 3) 0 99 v63 m64 → ((¬ (m64 44 23) = 3 → (nxQ m64) ∧ (∀ m66 : Mem, muP m64 0 m66 → ((inR ((m66 44 32) + 1)) ∧ (∀ m68 : Mem, m68 = (mset m66 44 32 ((m66 44 32) + 1)) → (P m68))))) ∧ ((m64 44 23) = 3 → (nxQ m64) ∧ (∀ m70 : Mem, muP m64 1 m70 → ((inR ((m70 44 32) + 1)) ∧ (∀ m72 : Mem, m72 = (mset m70 44 32 ((m70 44 32) + 1)) → (P m72)))))))))))))))))))))))))))) ∧ (¬ (m38 44 25) = 0 → P m38))))) : Tot mX10_readRoom 0 0 [vR 44] SH mem (Pn SH P) := by
  refine Tot.of rfl (Nat.le_of_ble_eq_true rfl) (by simp [isJ]) (ls := [vR 44, vJ 0, vJ 0]) rfl ?_
  refine q_aload_n dX10_readRoom_0 rfl ?_
  refine q_aload_n dX10_readRoom_1 rfl ?_
  refine q_geti dX10_readRoom_2 lf_RX10_144 s44 rfl ?_
  refine q_iconst dX10_readRoom_5 (by decide) ?_
  refine q_icmp_ge (tgt := 13) dX10_readRoom_6 (by decide) (fun c6 => ?_) (fun c6 => ?_)
  · have H := H.1 c6
    refine q_iconst dX10_readRoom_13 (by decide) ?_
    obtain ⟨h1, H⟩ := H
    refine q_cVn (as := [vI _]) dX10_readRoom_14 kmX10_must kvX10_must lm_RX10_123 ⟨by decide, by decide⟩ s44 ⟨by decide, rfl⟩ rfl rfl (Nat.le_of_ble_eq_true rfl) (c_X10_must h1) (fun m1 hq => ?_)
    have H := H m1 hq
    refine q_aload_n dX10_readRoom_17 rfl ?_
    refine q_geti dX10_readRoom_18 lf_RX10_116 s44 rfl ?_
    refine q_if_eq (tgt := 25) dX10_readRoom_21 (by decide) (fun c21 => ?_) (fun c21 => ?_)
    · have H := H.1 c21
      refine q_iconst dX10_readRoom_25 (by decide) ?_
      refine q_aload_n dX10_readRoom_26 rfl ?_
      refine q_geti dX10_readRoom_27 lf_RX10_144 s44 rfl ?_
      obtain ⟨h3, H⟩ := H
      refine q_imul dX10_readRoom_30 h3 ?_
      refine q_istore_n dX10_readRoom_31 (by decide) rfl ?_
      refine q_aload_n dX10_readRoom_32 rfl ?_
      refine q_aload_n dX10_readRoom_33 rfl ?_
      refine q_getr (r := 58) dX10_readRoom_34 lf_RX10_60 s44 rfl rfl ?_
      refine q_iload_n dX10_readRoom_37 rfl ?_
      refine q_iconst dX10_readRoom_38 (by decide) ?_
      refine q_aload_n dX10_readRoom_39 rfl ?_
      obtain ⟨h4, H⟩ := H
      refine q_cVi (as := []) dX10_readRoom_40 kmX10_cells kvX10_cells lm_RX10_137 ⟨by decide, by decide⟩ s44 ⟨by decide, rfl⟩ rfl rfl (Nat.le_of_ble_eq_true rfl) (c_X10_cells h4) (fun v m1 hq => ?_)
      obtain ⟨rfl, rfl⟩ := hq
      refine q_iconst dX10_readRoom_43 (by decide) ?_
      obtain ⟨h5, H⟩ := H
      refine q_isub dX10_readRoom_44 h5 ?_
      obtain ⟨h6, H⟩ := H
      obtain ⟨h7, H⟩ := H
      obtain ⟨h8, H⟩ := H
      refine q_cVi (as := [vR _, vI _, vI _, vI _]) dX10_readRoom_45 kmX10_readInto kvX10_readInto lm_RX10_127 ⟨by decide, by decide⟩ s44 ⟨by decide, rfl⟩ rfl rfl (Nat.le_of_ble_eq_true rfl) (c_ri_58 h6 h7 h8) (fun v m1 hq => ?_)
      have H := H v m1 hq
      refine q_pop dX10_readRoom_48 rfl ?_
      refine q_aload_n dX10_readRoom_49 rfl ?_
      refine q_aload_n dX10_readRoom_50 rfl ?_
      refine q_getr (r := 58) dX10_readRoom_51 lf_RX10_60 s44 rfl rfl ?_
      refine q_iload_n dX10_readRoom_54 rfl ?_
      refine q_iconst dX10_readRoom_55 (by decide) ?_
      obtain ⟨h11, H⟩ := H
      refine q_iadd dX10_readRoom_56 h11 ?_
      refine q_iconst dX10_readRoom_57 (by decide) ?_
      refine q_bipush dX10_readRoom_58 rfl (by decide) ?_
      obtain ⟨h12, H⟩ := H
      obtain ⟨h13, H⟩ := H
      obtain ⟨h14, H⟩ := H
      refine q_cVi (as := [vR _, vI _, vI _, vI _]) dX10_readRoom_60 kmX10_readInto kvX10_readInto lm_RX10_127 ⟨by decide, by decide⟩ s44 ⟨by decide, rfl⟩ rfl rfl (Nat.le_of_ble_eq_true rfl) (c_ri_58 h12 h13 h14) (fun v m1 hq => ?_)
      have H := H v m1 hq
      refine q_istore_n dX10_readRoom_63 (by decide) rfl ?_
      refine q_aload_n dX10_readRoom_64 rfl ?_
      refine q_aload_n dX10_readRoom_65 rfl ?_
      refine q_getr (r := 58) dX10_readRoom_66 lf_RX10_60 s44 rfl rfl ?_
      refine q_iload_n dX10_readRoom_69 rfl ?_
      refine q_iconst dX10_readRoom_70 (by decide) ?_
      obtain ⟨h17, H⟩ := H
      refine q_iadd dX10_readRoom_71 h17 ?_
      refine q_iload_n dX10_readRoom_72 rfl ?_
      refine q_bipush dX10_readRoom_73 rfl (by decide) ?_
      obtain ⟨h18, H⟩ := H
      obtain ⟨h19, H⟩ := H
      obtain ⟨h20, H⟩ := H
      refine q_cVi (as := [vR _, vI _, vI _, vI _]) dX10_readRoom_75 kmX10_readInto kvX10_readInto lm_RX10_127 ⟨by decide, by decide⟩ s44 ⟨by decide, rfl⟩ rfl rfl (Nat.le_of_ble_eq_true rfl) (c_ri_58 h18 h19 h20) (fun v m1 hq => ?_)
      have H := H v m1 hq
      refine q_pop dX10_readRoom_78 rfl ?_
      refine q_aload_n dX10_readRoom_79 rfl ?_
      refine q_aload_n dX10_readRoom_80 rfl ?_
      refine q_getr (r := 58) dX10_readRoom_81 lf_RX10_60 s44 rfl rfl ?_
      refine q_iload_n dX10_readRoom_84 rfl ?_
      refine q_iconst dX10_readRoom_85 (by decide) ?_
      obtain ⟨h23, H⟩ := H
      refine q_iadd dX10_readRoom_86 h23 ?_
      refine q_iconst dX10_readRoom_87 (by decide) ?_
      refine q_bipush dX10_readRoom_88 rfl (by decide) ?_
      obtain ⟨h24, H⟩ := H
      obtain ⟨h25, H⟩ := H
      obtain ⟨h26, H⟩ := H
      refine q_cVi (as := [vR _, vI _, vI _, vI _]) dX10_readRoom_90 kmX10_readInto kvX10_readInto lm_RX10_127 ⟨by decide, by decide⟩ s44 ⟨by decide, rfl⟩ rfl rfl (Nat.le_of_ble_eq_true rfl) (c_ri_58 h24 h25 h26) (fun v m1 hq => ?_)
      have H := H v m1 hq
      refine q_pop dX10_readRoom_93 rfl ?_
      refine q_aload_n dX10_readRoom_94 rfl ?_
      refine q_aload_n dX10_readRoom_95 rfl ?_
      refine q_geti dX10_readRoom_96 lf_RX10_110 s44 rfl ?_
      refine q_iconst dX10_readRoom_99 (by decide) ?_
      refine q_icmp_ne (tgt := 107) dX10_readRoom_100 (by decide) (fun c100 => ?_) (fun c100 => ?_)
      · have H := H.1 c100
        refine q_iconst dX10_readRoom_107 (by decide) ?_
        obtain ⟨h29, H⟩ := H
        refine q_cVn (as := [vI _]) dX10_readRoom_108 kmX10_must kvX10_must lm_RX10_123 ⟨by decide, by decide⟩ s44 ⟨by decide, rfl⟩ rfl rfl (Nat.le_of_ble_eq_true rfl) (c_X10_must h29) (fun m1 hq => ?_)
        have H := H m1 hq
        refine q_aload_n dX10_readRoom_111 rfl ?_
        refine q_dup dX10_readRoom_112 rfl ?_
        refine q_geti dX10_readRoom_113 lf_RX10_144 s44 rfl ?_
        refine q_iconst dX10_readRoom_116 (by decide) ?_
        obtain ⟨h31, H⟩ := H
        refine q_iadd dX10_readRoom_117 h31 ?_
        refine q_puti dX10_readRoom_118 lf_RX10_144 s44 rfl (Or.inl rfl) fit_int ?_
        have H := H _ rfl
        exact q_vret dX10_readRoom_121 rfl ⟨rfl, rfl, H⟩
      · have H := H.2 c100
        refine q_iconst dX10_readRoom_103 (by decide) ?_
        refine q_goto (tgt := 108) dX10_readRoom_104 (by decide) ?_
        obtain ⟨h33, H⟩ := H
        refine q_cVn (as := [vI _]) dX10_readRoom_108 kmX10_must kvX10_must lm_RX10_123 ⟨by decide, by decide⟩ s44 ⟨by decide, rfl⟩ rfl rfl (Nat.le_of_ble_eq_true rfl) (c_X10_must h33) (fun m1 hq => ?_)
        have H := H m1 hq
        refine q_aload_n dX10_readRoom_111 rfl ?_
        refine q_dup dX10_readRoom_112 rfl ?_
        refine q_geti dX10_readRoom_113 lf_RX10_144 s44 rfl ?_
        refine q_iconst dX10_readRoom_116 (by decide) ?_
        obtain ⟨h35, H⟩ := H
        refine q_iadd dX10_readRoom_117 h35 ?_
        refine q_puti dX10_readRoom_118 lf_RX10_144 s44 rfl (Or.inl rfl) fit_int ?_
        have H := H _ rfl
        exact q_vret dX10_readRoom_121 rfl ⟨rfl, rfl, H⟩
    · have H := H.2 c21
      exact q_vret dX10_readRoom_24 rfl ⟨rfl, rfl, H⟩
  · have H := H.2 c6
    refine q_iconst dX10_readRoom_9 (by decide) ?_
    refine q_goto (tgt := 14) dX10_readRoom_10 (by decide) ?_
    obtain ⟨h37, H⟩ := H
    refine q_cVn (as := [vI _]) dX10_readRoom_14 kmX10_must kvX10_must lm_RX10_123 ⟨by decide, by decide⟩ s44 ⟨by decide, rfl⟩ rfl rfl (Nat.le_of_ble_eq_true rfl) (c_X10_must h37) (fun m1 hq => ?_)
    have H := H m1 hq
    refine q_aload_n dX10_readRoom_17 rfl ?_
    refine q_geti dX10_readRoom_18 lf_RX10_116 s44 rfl ?_
    refine q_if_eq (tgt := 25) dX10_readRoom_21 (by decide) (fun c21 => ?_) (fun c21 => ?_)
    · have H := H.1 c21
      refine q_iconst dX10_readRoom_25 (by decide) ?_
      refine q_aload_n dX10_readRoom_26 rfl ?_
      refine q_geti dX10_readRoom_27 lf_RX10_144 s44 rfl ?_
      obtain ⟨h39, H⟩ := H
      refine q_imul dX10_readRoom_30 h39 ?_
      refine q_istore_n dX10_readRoom_31 (by decide) rfl ?_
      refine q_aload_n dX10_readRoom_32 rfl ?_
      refine q_aload_n dX10_readRoom_33 rfl ?_
      refine q_getr (r := 58) dX10_readRoom_34 lf_RX10_60 s44 rfl rfl ?_
      refine q_iload_n dX10_readRoom_37 rfl ?_
      refine q_iconst dX10_readRoom_38 (by decide) ?_
      refine q_aload_n dX10_readRoom_39 rfl ?_
      obtain ⟨h40, H⟩ := H
      refine q_cVi (as := []) dX10_readRoom_40 kmX10_cells kvX10_cells lm_RX10_137 ⟨by decide, by decide⟩ s44 ⟨by decide, rfl⟩ rfl rfl (Nat.le_of_ble_eq_true rfl) (c_X10_cells h40) (fun v m1 hq => ?_)
      obtain ⟨rfl, rfl⟩ := hq
      refine q_iconst dX10_readRoom_43 (by decide) ?_
      obtain ⟨h41, H⟩ := H
      refine q_isub dX10_readRoom_44 h41 ?_
      obtain ⟨h42, H⟩ := H
      obtain ⟨h43, H⟩ := H
      obtain ⟨h44, H⟩ := H
      refine q_cVi (as := [vR _, vI _, vI _, vI _]) dX10_readRoom_45 kmX10_readInto kvX10_readInto lm_RX10_127 ⟨by decide, by decide⟩ s44 ⟨by decide, rfl⟩ rfl rfl (Nat.le_of_ble_eq_true rfl) (c_ri_58 h42 h43 h44) (fun v m1 hq => ?_)
      have H := H v m1 hq
      refine q_pop dX10_readRoom_48 rfl ?_
      refine q_aload_n dX10_readRoom_49 rfl ?_
      refine q_aload_n dX10_readRoom_50 rfl ?_
      refine q_getr (r := 58) dX10_readRoom_51 lf_RX10_60 s44 rfl rfl ?_
      refine q_iload_n dX10_readRoom_54 rfl ?_
      refine q_iconst dX10_readRoom_55 (by decide) ?_
      obtain ⟨h47, H⟩ := H
      refine q_iadd dX10_readRoom_56 h47 ?_
      refine q_iconst dX10_readRoom_57 (by decide) ?_
      refine q_bipush dX10_readRoom_58 rfl (by decide) ?_
      obtain ⟨h48, H⟩ := H
      obtain ⟨h49, H⟩ := H
      obtain ⟨h50, H⟩ := H
      refine q_cVi (as := [vR _, vI _, vI _, vI _]) dX10_readRoom_60 kmX10_readInto kvX10_readInto lm_RX10_127 ⟨by decide, by decide⟩ s44 ⟨by decide, rfl⟩ rfl rfl (Nat.le_of_ble_eq_true rfl) (c_ri_58 h48 h49 h50) (fun v m1 hq => ?_)
      have H := H v m1 hq
      refine q_istore_n dX10_readRoom_63 (by decide) rfl ?_
      refine q_aload_n dX10_readRoom_64 rfl ?_
      refine q_aload_n dX10_readRoom_65 rfl ?_
      refine q_getr (r := 58) dX10_readRoom_66 lf_RX10_60 s44 rfl rfl ?_
      refine q_iload_n dX10_readRoom_69 rfl ?_
      refine q_iconst dX10_readRoom_70 (by decide) ?_
      obtain ⟨h53, H⟩ := H
      refine q_iadd dX10_readRoom_71 h53 ?_
      refine q_iload_n dX10_readRoom_72 rfl ?_
      refine q_bipush dX10_readRoom_73 rfl (by decide) ?_
      obtain ⟨h54, H⟩ := H
      obtain ⟨h55, H⟩ := H
      obtain ⟨h56, H⟩ := H
      refine q_cVi (as := [vR _, vI _, vI _, vI _]) dX10_readRoom_75 kmX10_readInto kvX10_readInto lm_RX10_127 ⟨by decide, by decide⟩ s44 ⟨by decide, rfl⟩ rfl rfl (Nat.le_of_ble_eq_true rfl) (c_ri_58 h54 h55 h56) (fun v m1 hq => ?_)
      have H := H v m1 hq
      refine q_pop dX10_readRoom_78 rfl ?_
      refine q_aload_n dX10_readRoom_79 rfl ?_
      refine q_aload_n dX10_readRoom_80 rfl ?_
      refine q_getr (r := 58) dX10_readRoom_81 lf_RX10_60 s44 rfl rfl ?_
      refine q_iload_n dX10_readRoom_84 rfl ?_
      refine q_iconst dX10_readRoom_85 (by decide) ?_
      obtain ⟨h59, H⟩ := H
      refine q_iadd dX10_readRoom_86 h59 ?_
      refine q_iconst dX10_readRoom_87 (by decide) ?_
      refine q_bipush dX10_readRoom_88 rfl (by decide) ?_
      obtain ⟨h60, H⟩ := H
      obtain ⟨h61, H⟩ := H
      obtain ⟨h62, H⟩ := H
      refine q_cVi (as := [vR _, vI _, vI _, vI _]) dX10_readRoom_90 kmX10_readInto kvX10_readInto lm_RX10_127 ⟨by decide, by decide⟩ s44 ⟨by decide, rfl⟩ rfl rfl (Nat.le_of_ble_eq_true rfl) (c_ri_58 h60 h61 h62) (fun v m1 hq => ?_)
      have H := H v m1 hq
      refine q_pop dX10_readRoom_93 rfl ?_
      refine q_aload_n dX10_readRoom_94 rfl ?_
      refine q_aload_n dX10_readRoom_95 rfl ?_
      refine q_geti dX10_readRoom_96 lf_RX10_110 s44 rfl ?_
      refine q_iconst dX10_readRoom_99 (by decide) ?_
      refine q_icmp_ne (tgt := 107) dX10_readRoom_100 (by decide) (fun c100 => ?_) (fun c100 => ?_)
      · have H := H.1 c100
        refine q_iconst dX10_readRoom_107 (by decide) ?_
        obtain ⟨h65, H⟩ := H
        refine q_cVn (as := [vI _]) dX10_readRoom_108 kmX10_must kvX10_must lm_RX10_123 ⟨by decide, by decide⟩ s44 ⟨by decide, rfl⟩ rfl rfl (Nat.le_of_ble_eq_true rfl) (c_X10_must h65) (fun m1 hq => ?_)
        have H := H m1 hq
        refine q_aload_n dX10_readRoom_111 rfl ?_
        refine q_dup dX10_readRoom_112 rfl ?_
        refine q_geti dX10_readRoom_113 lf_RX10_144 s44 rfl ?_
        refine q_iconst dX10_readRoom_116 (by decide) ?_
        obtain ⟨h67, H⟩ := H
        refine q_iadd dX10_readRoom_117 h67 ?_
        refine q_puti dX10_readRoom_118 lf_RX10_144 s44 rfl (Or.inl rfl) fit_int ?_
        have H := H _ rfl
        exact q_vret dX10_readRoom_121 rfl ⟨rfl, rfl, H⟩
      · have H := H.2 c100
        refine q_iconst dX10_readRoom_103 (by decide) ?_
        refine q_goto (tgt := 108) dX10_readRoom_104 (by decide) ?_
        obtain ⟨h69, H⟩ := H
        refine q_cVn (as := [vI _]) dX10_readRoom_108 kmX10_must kvX10_must lm_RX10_123 ⟨by decide, by decide⟩ s44 ⟨by decide, rfl⟩ rfl rfl (Nat.le_of_ble_eq_true rfl) (c_X10_must h69) (fun m1 hq => ?_)
        have H := H m1 hq
        refine q_aload_n dX10_readRoom_111 rfl ?_
        refine q_dup dX10_readRoom_112 rfl ?_
        refine q_geti dX10_readRoom_113 lf_RX10_144 s44 rfl ?_
        refine q_iconst dX10_readRoom_116 (by decide) ?_
        obtain ⟨h71, H⟩ := H
        refine q_iadd dX10_readRoom_117 h71 ?_
        refine q_puti dX10_readRoom_118 lf_RX10_144 s44 rfl (Or.inl rfl) fit_int ?_
        have H := H _ rfl
        exact q_vret dX10_readRoom_121 rfl ⟨rfl, rfl, H⟩
    · have H := H.2 c21
      exact q_vret dX10_readRoom_24 rfl ⟨rfl, rfl, H⟩


