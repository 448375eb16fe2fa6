/-! THE CLASS: house -/
def hfP (m : Mem) (P : PS) : Prop := (m 4 3 = P.w ∧ m 4 4 = P.h ∧ m 4 5 = P.w * P.h ∧ m 4 6 = P.fa) ∧ (m 5 2 = P.nn ∧ m 7 2 = P.ns ∧ m 9 2 = P.nr) ∧ eqR P.nn (m 6) P.N ∧ eqR P.ns (m 8) P.S ∧ eqR P.nr (m 10) P.R
def cpK (m : Mem) : Prop := m 5 0 = 3 ∧ m 7 0 = 4 ∧ m 9 0 = 3
def hcQ (m : Mem) : Prop := cpK m ∧ (m 11 7 = 0 ∨ m 11 7 = 1) ∧ ∃ (i : Int) (P : PS), dfP m P ∧ psOK i P
def hcP (m0 m : Mem) : Prop := Fr [4, 5, 6, 7, 8, 9, 10] m0 m ∧ cpK m ∧ ∀ (i : Int) (P : PS), dfP m0 P → psOK i P → hfP m P
theorem hf_ok {m : Mem} {i : Int} {P : PS} (hf : hfP m P) (hk : psOK i P) : hsD m := by
  obtain ⟨⟨f1, f2, f3, f4⟩, ⟨f5, f6, f7⟩, f8, f9, f10⟩ := hf
  obtain ⟨⟨h1, h2, h3, h4⟩, ⟨h5, h6, h7, -⟩, h9, h10, h11⟩ := hk
  have hN : ∀ (i : Int) (j : Nat), 0 ≤ i → i < m 5 2 → j < 4 → getF (m 6) (m 5 2) i j = P.N (4 * i.toNat + j) := by
    intro i j i0 i1 hj
    unfold getF
    rw [if_pos ⟨i0, i1, by omega, by omega⟩, show (4 * i + (j : Int)).toNat = 4 * i.toNat + j by omega]
    exact f8 _ (by omega)
  have hS : ∀ (i : Int) (j : Nat), 0 ≤ i → i < m 7 2 → j < 4 → getF (m 8) (m 7 2) i j = P.S (4 * i.toNat + j) := by
    intro i j i0 i1 hj
    unfold getF
    rw [if_pos ⟨i0, i1, by omega, by omega⟩, show (4 * i + (j : Int)).toNat = 4 * i.toNat + j by omega]
    exact f9 _ (by omega)
  have hR : ∀ (i : Int) (j : Nat), 0 ≤ i → i < m 9 2 → j < 4 → getF (m 10) (m 9 2) i j = P.R (4 * i.toNat + j) := by
    intro i j i0 i1 hj
    unfold getF
    rw [if_pos ⟨i0, i1, by omega, by omega⟩, show (4 * i + (j : Int)).toNat = 4 * i.toNat + j by omega]
    exact f10 _ (by omega)
  unfold hsD noC noS noA noB shT shW shL shP roC roA roB roM
  rw [f1, f2, f3, f4]
  refine ⟨h1, h2, rfl, h3.1, h3.2, by omega, by omega, by omega, fun i i0 i1 => ?_, fun i i0 i1 => ?_, fun i i0 i1 => ?_⟩
  · have q := h9 i.toNat (by omega)
    have a0 := hN i 0 i0 i1 (by decide)
    have a1 := hN i 1 i0 i1 (by decide)
    have a2 := hN i 2 i0 i1 (by decide)
    have a3 := hN i 3 i0 i1 (by decide)
    simp only [Nat.add_zero] at a0
    rw [show ((0 : Nat) : Int) = 0 from rfl] at a0
    rw [show ((1 : Nat) : Int) = 1 from rfl] at a1
    rw [show ((2 : Nat) : Int) = 2 from rfl] at a2
    rw [show ((3 : Nat) : Int) = 3 from rfl] at a3
    rw [a0, a1, a2, a3]
    exact q
  · have q := h10 i.toNat (by omega)
    have a0 := hS i 0 i0 i1 (by decide)
    have a1 := hS i 1 i0 i1 (by decide)
    have a2 := hS i 2 i0 i1 (by decide)
    have a3 := hS i 3 i0 i1 (by decide)
    simp only [Nat.add_zero] at a0
    rw [show ((0 : Nat) : Int) = 0 from rfl] at a0
    rw [show ((1 : Nat) : Int) = 1 from rfl] at a1
    rw [show ((2 : Nat) : Int) = 2 from rfl] at a2
    rw [show ((3 : Nat) : Int) = 3 from rfl] at a3
    rw [a0, a1, a2, a3]
    exact q
  · have q := h11 i.toNat (by omega)
    have a0 := hR i 0 i0 i1 (by decide)
    have a1 := hR i 1 i0 i1 (by decide)
    have a2 := hR i 2 i0 i1 (by decide)
    have a3 := hR i 3 i0 i1 (by decide)
    simp only [Nat.add_zero] at a0
    rw [show ((0 : Nat) : Int) = 0 from rfl] at a0
    rw [show ((1 : Nat) : Int) = 1 from rfl] at a1
    rw [show ((2 : Nat) : Int) = 2 from rfl] at a2
    rw [show ((3 : Nat) : Int) = 3 from rfl] at a3
    rw [a0, a1, a2, a3]
    exact q
theorem c_X3_copyFrom {m0 : Mem} (hq : hcQ m0) : Tot mX3_copyFrom 0 0 [vR 4, vR 11] SH m0 (Pn SH (hcP m0)) := by
  obtain ⟨hc, hft, i, P, hd, hk⟩ := hq
  have hd' := hd
  obtain ⟨-, ⟨d3, d4, -, -, -⟩, ⟨n1, n2, n3⟩, -⟩ := hd'
  have hn := ps_n hk
  obtain ⟨-, ⟨b5, b6, b7, -⟩, -⟩ := hk
  refine v_X3_copyFrom ⟨by rw [d3, d4]; unfold inR; omega, fun m2 e2 m3 e3 => ?_⟩
  have hF3 : Fr [4] m0 m3 := by
    rw [e3, e2]
    exact (((Fr.rf.set (by decide)).set (by decide)).set (by decide)).set (by decide)
  refine ⟨by rw [hF3.at 11]; exact hft, fun m5 e5 => ?_⟩
  have hF5 : Fr [4] m0 m5 := by rw [e5]; exact hF3.set (by decide)
  refine ⟨by rw [hF5.at 5]; exact hc.1, by rw [hF5.at 12]; omega, fun m8 h8 => ?_⟩
  obtain ⟨p1, p2, p3, p4⟩ := h8
  have hF8 : Fr [4, 5, 6] m0 m8 := (hF5.mono (by decide)).tr (p1.mono (by decide))
  refine ⟨by rw [hF8.at 7]; exact hc.2.1, by rw [hF8.at 14]; omega, fun m11 h11 => ?_⟩
  obtain ⟨q1, q2, q3, q4⟩ := h11
  have hF11 : Fr [4, 5, 6, 7, 8] m0 m11 := (hF8.mono (by decide)).tr (q1.mono (by decide))
  refine ⟨by rw [hF11.at 9]; exact hc.2.2, by rw [hF11.at 16]; omega, fun m14 h14 => ?_⟩
  obtain ⟨r1, r2, r3, r4⟩ := h14
  have hF14 : Fr [4, 5, 6, 7, 8, 9, 10] m0 m14 := (hF11.mono (by decide)).tr (r1.mono (by decide))
  have e4 : m14 4 = m5 4 := by rw [r1.at 4, q1.at 4, p1.at 4]
  have g3 : m5 4 3 = m0 11 3 := by rw [e5, mset_at, if_neg (by omega), e3, mset_at, if_neg (by omega), e2, mset_at, if_neg (by omega), mset_at, if_neg (by omega), mset_eq]
  have g4 : m5 4 4 = m0 11 4 := by rw [e5, mset_at, if_neg (by omega), e3, mset_at, if_neg (by omega), e2, mset_at, if_neg (by omega), mset_eq]
  have g5 : m5 4 5 = min 12 (m0 11 3 * m0 11 4) := by rw [e5, mset_at, if_neg (by omega), e3, mset_at, if_neg (by omega), e2, mset_eq]
  have g6 : m5 4 6 = m0 11 6 := by rw [e5, mset_at, if_neg (by omega), e3, mset_eq, e2, mset_at, if_neg (by omega), mset_at, if_neg (by omega), mset_at, if_neg (by omega)]
  refine ⟨hF14, ⟨?_, ?_, ?_⟩, fun i' Q hdQ hkQ => ?_⟩
  · rw [r1.at 5, q1.at 5, p2, hF5.at 5]; exact hc.1
  · rw [r1.at 7, q2, hF8.at 7]; exact hc.2.1
  · rw [r2, hF11.at 9]; exact hc.2.2
  · obtain ⟨-, ⟨d3, d4, d5, d6, d7⟩, ⟨n1, n2, n3⟩, s1, s2, s3⟩ := hdQ
    have hn := ps_n hkQ
    obtain ⟨-, ⟨b5, b6, b7, -⟩, -⟩ := hkQ
    refine ⟨⟨by rw [e4, g3, d3], by rw [e4, g4, d4], by rw [e4, g5, d3, d4]; omega, by rw [e4, g6, d6]⟩, ⟨?_, ?_, ?_⟩, fun e he => ?_, fun e he => ?_, fun e he => ?_⟩
    · rw [r1.at 5, q1.at 5, p3, hF5.at 12, n1]
    · rw [r1.at 7, q3, hF8.at 14, n2]
    · rw [r3, hF11.at 16, n3]
    · have := p4 e (by omega) (by rw [hF5.at 12, n1]; omega)
      rw [show ((e : Int)).toNat = e by omega] at this
      rw [r1.at 6, q1.at 6, this, hF5.at 13]
      exact s1 e he
    · have := q4 e (by omega) (by rw [hF8.at 14, n2]; omega)
      rw [show ((e : Int)).toNat = e by omega] at this
      rw [r1.at 8, this, hF8.at 15]
      exact s2 e he
    · have := r4 e (by omega) (by rw [hF11.at 16, n3]; omega)
      rw [show ((e : Int)).toNat = e by omega] at this
      rw [this, hF11.at 17]
      exact s3 e he
def okW (m : Mem) : Prop := 1 ≤ m 4 3 ∧ m 4 3 ≤ 4 ∧ m 4 5 ≤ 12
theorem c_mea {m0 : Mem} (h : okW m0) : Tot mX1_measure 0 0 [vR 34] SH m0 (Pn SH (meaP m0)) := c_X1_measure s34 s4 s37 h.1 h.2.1 h.2.2
set_option maxRecDepth 20000 in
theorem v_X9_house {P : Int → Mem → Prop} {mem : Mem}  (H : (txOK mem) ∧ ((mem 12 0 = 3 ∧ mem 14 0 = 4 ∧ mem 16 0 = 3) ∧ (∀ (v3 : Int) (m4 : Mem), tlP mem v3 m4 → ((0 ≤ v3 → (hcQ m4) ∧ (∀ m6 : Mem, hcP m4 m6 → ((okW m6) ∧ (∀ m8 : Mem, meaP m6 m8 → (∀ m9 : Mem, m9 = mset m8 1 2 0 → (∀ m10 : Mem, saP m9 m10 → (P v3 m10))))))) ∧ (v3 < 0 → P v3 m4))))) : Tot mX9_house 0 0 [vR 0] SH mem (Pr SH P) := by
  refine Tot.of rfl (Nat.le_of_ble_eq_true rfl) (by simp [isJ]) (ls := [vR 0, vJ 0]) rfl ?_
  refine q_aload_n dX9_house_0 rfl ?_
  refine q_getr (r := 1) dX9_house_1 lf_RX9_10 s0 rfl rfl ?_
  refine q_aload_n dX9_house_4 rfl ?_
  refine q_getr (r := 11) dX9_house_5 lf_RX9_23 s0 rfl rfl ?_
  obtain ⟨h1, H⟩ := H
  obtain ⟨h2, H⟩ := H
  refine q_cVi (as := [vR _]) dX9_house_8 kmX8_tell kvX8_tell lm_RX9_115 ⟨by decide, by decide⟩ s1 ⟨by decide, rfl⟩ rfl rfl (Nat.le_of_ble_eq_true rfl) (c_X8_tell h1 h2) (fun v m1 hq => ?_)
  have H := H v m1 hq
  refine q_istore_n dX9_house_11 (by decide) rfl ?_
  refine q_iload_n dX9_house_12 rfl ?_
  refine q_if_ge (tgt := 18) dX9_house_13 (by decide) (fun c13 => ?_) (fun c13 => ?_)
  · have H := H.1 c13
    refine q_aload_n dX9_house_18 rfl ?_
    refine q_getr (r := 4) dX9_house_19 lf_RX9_19 s0 rfl rfl ?_
    refine q_aload_n dX9_house_22 rfl ?_
    refine q_getr (r := 11) dX9_house_23 lf_RX9_23 s0 rfl rfl ?_
    obtain ⟨h5, H⟩ := H
    refine q_cVn (as := [vR _]) dX9_house_26 kmX3_copyFrom kvX3_copyFrom lm_RX9_119 ⟨by decide, by decide⟩ s4 ⟨by decide, rfl⟩ rfl rfl (Nat.le_of_ble_eq_true rfl) (c_X3_copyFrom h5) (fun m1 hq => ?_)
    have H := H m1 hq
    refine q_aload_n dX9_house_29 rfl ?_
    refine q_getr (r := 34) dX9_house_30 lf_RX9_71 s0 rfl rfl ?_
    obtain ⟨h7, H⟩ := H
    refine q_cVn (as := []) dX9_house_33 kmX1_measure kvX1_measure lm_RX9_122 ⟨by decide, by decide⟩ s34 ⟨by decide, rfl⟩ rfl rfl (Nat.le_of_ble_eq_true rfl) (c_mea h7) (fun m1 hq => ?_)
    have H := H m1 hq
    refine q_aload_n dX9_house_36 rfl ?_
    refine q_getr (r := 1) dX9_house_37 lf_RX9_10 s0 rfl rfl ?_
    refine q_cVn (as := []) dX9_house_40 kmX8_drop kvX8_drop lm_RX9_112 ⟨by decide, by decide⟩ s1 ⟨by decide, rfl⟩ rfl rfl (Nat.le_of_ble_eq_true rfl) (c_X8_drop) (fun m1 hq => ?_)
    have H := H m1 hq
    refine q_aload_n dX9_house_43 rfl ?_
    refine q_cVn (as := []) dX9_house_44 kmX9_startAnew kvX9_startAnew lm_RX9_125 ⟨by decide, by decide⟩ s0 ⟨by decide, rfl⟩ rfl rfl (Nat.le_of_ble_eq_true rfl) (c_X9_startAnew) (fun m1 hq => ?_)
    have H := H m1 hq
    refine q_iload_n dX9_house_47 rfl ?_
    exact q_iret dX9_house_48 rfl ⟨_, rfl, rfl, H⟩
  · have H := H.2 c13
    refine q_iload_n dX9_house_16 rfl ?_
    exact q_iret dX9_house_17 rfl ⟨_, rfl, rfl, H⟩


def newP (m : Mem) : Prop := (m 1 2 = 0 ∧ m 18 2 = 0 ∧ m 18 3 = 0 ∧ ∀ s : Int, 0 ≤ s → s < 4 → m 19 s.toNat = -9 ∧ m 20 s.toNat = 0) ∧ m 24 2 = 0 ∧ m 30 2 = 0 ∧ m 32 2 = 0 ∧ ∀ i : Int, 0 ≤ i → i < 2 → m 29 i.toNat = 0
def haQ (m0 : Mem) (v : Int) (m : Mem) : Prop := ∃ P' : PS, prP (m0 2) (m0 1 2) 13 0 0 begP v P' ∧ (m 12 0 = 3 ∧ m 14 0 = 4 ∧ m 16 0 = 3) ∧ ((v < 0 ∧ Fr [1, 3, 11, 12, 13, 14, 15, 16, 17] m0 m ∧ m 1 2 = m0 1 2) ∨ (0 ≤ v ∧ psOK v P' ∧ hfP m P' ∧ cpK m ∧ nextOK (m 4 5) (m 4 3) (m 37) ∧ newP m ∧ (m 24 1 = m0 24 1 ∧ m 30 0 = m0 30 0 ∧ m 32 0 = m0 32 0) ∧ Fr [1, 3, 4, 5, 6, 7, 8, 9, 10, 11, 12, 13, 14, 15, 16, 17, 18, 19, 20, 24, 29, 30, 32, 37] m0 m))
theorem c_X9_house {m0 : Mem} (ht : txOK m0) (hc : m0 12 0 = 3 ∧ m0 14 0 = 4 ∧ m0 16 0 = 3) (hk : cpK m0) : Tot mX9_house 0 0 [vR 0] SH m0 (Pr SH (haQ m0)) := by
  refine v_X9_house ⟨ht, hc, fun v3 m4 h4 => ?_⟩
  obtain ⟨P', hpr, hF4, e2, hc4, hyes⟩ := h4
  refine ⟨fun q => ?_, fun q => ⟨P', hpr, hc4, Or.inl ⟨q, hF4, e2⟩⟩⟩
  obtain ⟨hd, hok⟩ := hyes q
  refine ⟨⟨?_, ?_, v3, P', hd, hok⟩, fun m6 h6 => ?_⟩
  · exact ⟨by rw [hF4.at 5]; exact hk.1, by rw [hF4.at 7]; exact hk.2.1, by rw [hF4.at 9]; exact hk.2.2⟩
  · rw [hd.2.1.2.2.2.2]
    exact hok.1.2.2.2
  · obtain ⟨hF6, hk6, hf6⟩ := h6
    have hf := hf6 v3 P' hd hok
    have hs := hf_ok hf hok
    have hn := nD_b hs
    have hw := hs.1
    refine ⟨⟨by omega, by omega, hn.2⟩, fun m8 h8 m9 e9 m10 h10 => ?_⟩
    have hF9 : Fr [1] m8 m9 := by rw [e9]; exact Fr.rf.set (by decide)
    obtain ⟨m11, hb, hFs, s1, s2, s3, s4, s5, s6, s7⟩ := h10
    have hL9 : Fr [1, 37] m6 m9 := (h8.1.mono (by decide)).tr (hF9.mono (by decide))
    have hLa : Fr [1, 18, 19, 20, 37] m6 m11 := (hL9.mono (by decide)).tr (hb.1.mono (by decide))
    have hL : Fr [1, 18, 19, 20, 24, 29, 30, 32, 37] m6 m10 := (hLa.mono (by decide)).tr (hFs.mono (by decide))
    refine ⟨P', hpr, ?_, Or.inr ⟨q, hok, ?_, ?_, ?_, ⟨⟨?_, ?_, ?_, fun s s0 s1 => ?_⟩, s1, s3, s5, s7⟩, ⟨?_, ?_, ?_⟩, ?_⟩⟩
    · rw [hL.at 12, hL.at 14, hL.at 16, hF6.at 12, hF6.at 14, hF6.at 16]
      exact hc4
    · unfold hfP at *
      rw [hL.at 4, hL.at 5, hL.at 6, hL.at 7, hL.at 8, hL.at 9, hL.at 10]
      exact hf
    · unfold cpK at *
      rw [hL.at 5, hL.at 7, hL.at 9]
      exact hk6
    · have e37 : m10 37 = m8 37 := by rw [hFs.at 37, hb.1.at 37, hF9.at 37]
      rw [hL.at 4, e37, hs.2.2.1]
      refine mea_next hs.1 hs.2.1 (fun e e0 e1 => ?_)
      rw [h8.2 e e0 e1, hs.2.2.1]
    · rw [hFs.at 1, hb.1.at 1, e9, mset_eq]
    · rw [hFs.at 18]; exact hb.2.1
    · rw [hFs.at 18]; exact hb.2.2.1
    · rw [hFs.at 19, hFs.at 20]; exact hb.2.2.2 s s0 s1
    · rw [s2, hLa.at 24, hF6.at 24, hF4.at 24]
    · rw [s4, hLa.at 30, hF6.at 30, hF4.at 30]
    · rw [s6, hLa.at 32, hF6.at 32, hF4.at 32]
    · exact ((hF4.mono (by decide)).tr (hF6.mono (by decide))).tr (hL.mono (by decide))
