/-! THE MODEL'S BUYER: all ways are tried -/
def c1M (m : Mem) (s c : Int) : Prop := (0 ≤ s ∧ s < m 44 5) ∧ (0 ≤ c ∧ c < 12) ∧ m 48 (2 + s).toNat = -9 ∧ legM m (li0M m) s c
def q1M (m : Mem) (s c : Int) : Prop := c1M m s c ∧ qzM m (fupd (li0M m) s c)
def q2M (m : Mem) (s c t d : Int) : Prop := c1M m s c ∧ (s < t ∧ t < m 44 5) ∧ (0 ≤ d ∧ d < 12) ∧ m 48 (2 + t).toNat = -9 ∧ legM m (fupd (li0M m) s c) t d ∧ qzM m (fupd (fupd (li0M m) s c) t d)
theorem mP_b {m : Mem} (hh : hsM m) {s : Int} (s0 : 0 ≤ s) (sn : s < m 44 5) : 1 ≤ mP m s ∧ mP m s ≤ 9 := (hh.2.2.2.2.2.2.2.2.1 s s0 sn).2.2.2
theorem li0_at {m : Mem} {i : Int} : li0M m i = if i < m 44 5 then m 48 (2 + i).toNat else -9 := rfl
theorem enc0 {m0 : Mem} : encL m0 0 0 (li0M m0) := by
  have hd : ∀ i : Int, digF 0 i = 0 := fun i => by unfold digF; simp
  refine ⟨fun i _ _ _ => hd i, ⟨by decide, by decide⟩, by decide, fun i i0 i1 => ?_⟩
  rw [li0_at]
  by_cases c : i < m0 44 5 ∧ m0 48 (2 + i).toNat ≠ -9
  · rw [lie_la c, if_pos c.1]
  · rw [lie_no c, if_pos (hd i)]
    by_cases c2 : i < m0 44 5
    · rw [if_pos c2]
      exact Classical.byContradiction fun z => c ⟨c2, z⟩
    · rw [if_neg c2]
theorem enc1 {m0 : Mem} (hh : hsM m0) {s c : Int} (s0 : 0 ≤ s) (sn : s < m0 44 5) (c0 : 0 ≤ c) (c1 : c < 12) (hl : m0 48 (2 + s).toNat = -9) : encL m0 (r1F (mP m0) s c) (mP m0 s) (fupd (li0M m0) s c) := by
  have h5 := hh.2.2.2.2.2.1
  have hp := mP_b hh s0 sn
  have hb := r1F_b (pr := mP m0) hp c0 c1
  have hd := fun i (i0 : (0 : Int) ≤ i) (i1 : i < 4) => dig_one (p := mP m0 s) (s := s) (c := c) (i := i) (by omega) s0 (by omega) c0 c1 i0 i1
  refine ⟨fun i i0 i1 hn => (hd i i0 i1).2.2 (fun e => hn (by rw [e]; exact ⟨sn, hl⟩)), by omega, (hd 0 (by decide) (by decide)).1.symm, fun i i0 i1 => ?_⟩
  unfold fupd
  by_cases e : i = s
  · have h1 := (hd i i0 i1).2.1 e
    have h1' : digF (r1F (mP m0) s c) i = c + 1 := h1
    rw [if_pos e, lie_no (fun z => z.2 (by rw [e]; exact hl)), h1', if_neg (by omega)]
    omega
  · have h1' : digF (r1F (mP m0) s c) i = 0 := (hd i i0 i1).2.2 e
    rw [if_neg e, li0_at]
    by_cases c : i < m0 44 5 ∧ m0 48 (2 + i).toNat ≠ -9
    · rw [lie_la c, if_pos c.1]
    · rw [lie_no c, if_pos h1']
      by_cases c2 : i < m0 44 5
      · rw [if_pos c2]
        exact Classical.byContradiction fun z => c ⟨c2, z⟩
      · rw [if_neg c2]
theorem enc2 {m0 : Mem} (hh : hsM m0) {s c t d : Int} (s0 : 0 ≤ s) (st : s < t) (tn : t < m0 44 5) (c0 : 0 ≤ c) (c1 : c < 12) (d0 : 0 ≤ d) (d1 : d < 12) (hl : m0 48 (2 + s).toNat = -9) (hl2 : m0 48 (2 + t).toNat = -9) : encL m0 (r1F (mP m0) s c + r1F (mP m0) t d) (mP m0 s + mP m0 t) (fupd (fupd (li0M m0) s c) t d) := by
  have h5 := hh.2.2.2.2.2.1
  have hp := mP_b hh s0 (show s < m0 44 5 by omega)
  have hq := mP_b hh (show 0 ≤ t by omega) tn
  have hb := r1F_b (pr := mP m0) hp c0 c1
  have hb2 := r1F_b (pr := mP m0) hq d0 d1
  have hd := fun i (i0 : (0 : Int) ≤ i) (i1 : i < 4) => dig_two (p := mP m0 s) (q := mP m0 t) (s := s) (c := c) (t := t) (d := d) (i := i) (by omega) (by omega) s0 st (by omega) c0 c1 d0 d1 i0 i1
  refine ⟨fun i i0 i1 hn => (hd i i0 i1).2.2.2 (fun e => hn (by rw [e]; exact ⟨by omega, hl⟩)) (fun e => hn (by rw [e]; exact ⟨tn, hl2⟩)), by omega, (hd 0 (by decide) (by decide)).1.symm, fun i i0 i1 => ?_⟩
  unfold fupd
  by_cases e2 : i = t
  · have h1' : digF (r1F (mP m0) s c + r1F (mP m0) t d) i = d + 1 := (hd i i0 i1).2.2.1 e2
    rw [if_pos e2, lie_no (fun z => z.2 (by rw [e2]; exact hl2)), h1', if_neg (by omega)]
    omega
  · by_cases e : i = s
    · have h1' : digF (r1F (mP m0) s c + r1F (mP m0) t d) i = c + 1 := (hd i i0 i1).2.1 e
      rw [if_neg e2, if_pos e, lie_no (fun z => z.2 (by rw [e]; exact hl)), h1', if_neg (by omega)]
      omega
    · have h1' : digF (r1F (mP m0) s c + r1F (mP m0) t d) i = 0 := (hd i i0 i1).2.2.2 e e2
      rw [if_neg e2, if_neg e, li0_at]
      by_cases c : i < m0 44 5 ∧ m0 48 (2 + i).toNat ≠ -9
      · rw [lie_la c, if_pos c.1]
      · rw [lie_no c, if_pos h1']
        by_cases c2 : i < m0 44 5
        · rw [if_pos c2]
          exact Classical.byContradiction fun z => c ⟨c2, z⟩
        · rw [if_neg c2]
theorem mrg_no {D : Int → Prop} {be : Int} (h : ∀ r : Int, ¬ D r) : mrg D be be := ⟨Or.inl rfl, Int.le_refl _, fun r hr => absurd hr (h r)⟩
theorem mrg_tr {D E : Int → Prop} {a b c : Int} (h1 : mrg D a b) (h2 : mrg E b c) : mrg (fun r => D r ∨ E r) a c := by
  refine ⟨?_, Int.le_trans h2.2.1 h1.2.1, fun r hr => ?_⟩
  · rcases h2.1 with e | e
    · rcases h1.1 with f | f
      · exact Or.inl (by rw [e, f])
      · exact Or.inr (Or.inl (by rw [e]; exact f))
    · exact Or.inr (Or.inr e)
  · rcases hr with h | h
    · exact Int.le_trans h2.2.1 (h1.2.2 r h)
    · exact h2.2.2 r h
theorem mrg_eqv {D E : Int → Prop} {a b : Int} (h : ∀ r : Int, D r ↔ E r) (hm : mrg D a b) : mrg E a b :=
  ⟨hm.1.elim Or.inl (fun z => Or.inr ((h b).mp z)), hm.2.1, fun r hr => hm.2.2 r ((h r).mpr hr)⟩
def w_X10_offersMore_3 (m0 : Mem) (r be : Int) (li : Int → Int) (s p b : Int) (P : Mem → Prop) (a4 : Int) (mem : Mem) : Prop := WP mX10_offersMore none 0 0 (Pn SH P) 3 [vR 44, vI s, vI p, vI b, vI a4] [] SH mem
set_option maxRecDepth 20000 in
theorem v_X10_offersMore_3 {m0 : Mem} {r be : Int} {li : Int → Int} {s p b : Int} {P : Mem → Prop} {a4 : Int} {mem : Mem}  (H : (inR ((mem 44 0) * (mem 44 1))) ∧ ((((mem 44 0) * (mem 44 1)) ≤ a4 → P mem) ∧ (a4 < ((mem 44 0) * (mem 44 1)) → (hsM mem) ∧ ((moM mem) ∧ (∀ m4 : Mem, asnP mem m4 → ((b = 0 → (inR (a4 + 1)) ∧ (w_X10_offersMore_3 m0 r be li s p b P (a4 + 1) m4)) ∧ (¬ b = 0 → (hsM m4) ∧ ((0 ≤ s) ∧ ((s < m4 44 5) ∧ ((0 ≤ a4) ∧ ((a4 < m4 44 0 * m4 44 1) ∧ (∀ (v11 : Int) (m12 : Mem), canV (m4 44 0) (m4 44 1) (mW m4 s) (mL m4 s) a4 (m4 61) m4 v11 m12 → ((v11 = 0 → (inR (a4 + 1)) ∧ (w_X10_offersMore_3 m0 r be li s p b P (a4 + 1) m12)) ∧ (¬ v11 = 0 → (s < 4) ∧ (∀ m15 : Mem, m15 = mset m12 59 s.toNat a4 → ((hsM m15) ∧ ((liM m15) ∧ (∀ m18 : Mem, layP m15 m18 → ((ofQ m0 r be li m18 p) ∧ (∀ m20 : Mem, ofP m0 r be li m20 → ((inR (a4 + 1)) ∧ (w_X10_offersMore_3 m0 r be li s p b P (a4 + 1) m20)))))))))))))))))))))) : w_X10_offersMore_3 m0 r be li s p b P a4 mem := by
  unfold w_X10_offersMore_3
  refine q_iload dX10_offersMore_3 rfl ?_
  refine q_aload_n dX10_offersMore_5 rfl ?_
  refine q_geti dX10_offersMore_6 lf_RX10_7 s44 rfl ?_
  refine q_aload_n dX10_offersMore_9 rfl ?_
  refine q_geti dX10_offersMore_10 lf_RX10_13 s44 rfl ?_
  obtain ⟨h1, H⟩ := H
  refine q_imul dX10_offersMore_13 h1 ?_
  refine q_icmp_ge (tgt := 58) dX10_offersMore_14 (by decide) (fun c14 => ?_) (fun c14 => ?_)
  · have H := H.1 c14
    exact q_vret dX10_offersMore_58 rfl ⟨rfl, rfl, H⟩
  · have H := H.2 c14
    refine q_aload_n dX10_offersMore_17 rfl ?_
    obtain ⟨h2, H⟩ := H
    obtain ⟨h3, H⟩ := H
    refine q_cVn (as := []) dX10_offersMore_18 kmX10_asNow kvX10_asNow lm_RX10_211 ⟨by decide, by decide⟩ s44 ⟨by decide, rfl⟩ rfl rfl (Nat.le_of_ble_eq_true rfl) (c_X10_asNow h2 h3) (fun m1 hq => ?_)
    have H := H m1 hq
    refine q_iload_n dX10_offersMore_21 rfl ?_
    refine q_if_eq (tgt := 52) dX10_offersMore_22 (by decide) (fun c22 => ?_) (fun c22 => ?_)
    · have H := H.1 c22
      obtain ⟨h5, H⟩ := H
      refine q_iinc dX10_offersMore_52 rfl h5 rfl ?_
      refine q_goto (tgt := 3) dX10_offersMore_55 (by decide) ?_
      exact H
    · have H := H.2 c22
      refine q_aload_n dX10_offersMore_25 rfl ?_
      refine q_iload_n dX10_offersMore_26 rfl ?_
      refine q_iload dX10_offersMore_27 rfl ?_
      obtain ⟨h6, H⟩ := H
      obtain ⟨h7, H⟩ := H
      obtain ⟨h8, H⟩ := H
      obtain ⟨h9, H⟩ := H
      obtain ⟨h10, H⟩ := H
      refine q_cVi (as := [vI _, vI _]) dX10_offersMore_29 kmX10_mayLie kvX10_mayLie lm_RX10_220 ⟨by decide, by decide⟩ s44 ⟨by decide, rfl⟩ rfl rfl (Nat.le_of_ble_eq_true rfl) (c_X10_mayLie h6 h7 h8 h9 h10) (fun v m1 hq => ?_)
      have H := H v m1 hq
      refine q_if_eq (tgt := 52) dX10_offersMore_32 (by decide) (fun c32 => ?_) (fun c32 => ?_)
      · have H := H.1 c32
        obtain ⟨h13, H⟩ := H
        refine q_iinc dX10_offersMore_52 rfl h13 rfl ?_
        refine q_goto (tgt := 3) dX10_offersMore_55 (by decide) ?_
        exact H
      · have H := H.2 c32
        refine q_aload_n dX10_offersMore_35 rfl ?_
        refine q_getr (r := 59) dX10_offersMore_36 lf_RX10_63 s44 rfl rfl ?_
        refine q_iload_n dX10_offersMore_39 rfl ?_
        refine q_iload dX10_offersMore_40 rfl ?_
        obtain ⟨h14, H⟩ := H
        refine q_iast dX10_offersMore_42 s59 h7 h14 ?_
        have H := H _ rfl
        refine q_aload_n dX10_offersMore_43 rfl ?_
        obtain ⟨h16, H⟩ := H
        obtain ⟨h17, H⟩ := H
        refine q_cVn (as := []) dX10_offersMore_44 kmX10_layCells kvX10_layCells lm_RX10_184 ⟨by decide, by decide⟩ s44 ⟨by decide, rfl⟩ rfl rfl (Nat.le_of_ble_eq_true rfl) (c_X10_layCells h16 h17) (fun m1 hq => ?_)
        have H := H m1 hq
        refine q_aload_n dX10_offersMore_47 rfl ?_
        refine q_iload_n dX10_offersMore_48 rfl ?_
        obtain ⟨h19, H⟩ := H
        refine q_cVn (as := [vI _]) dX10_offersMore_49 kmX10_offers kvX10_offers lm_RX10_248 ⟨by decide, by decide⟩ s44 ⟨by decide, rfl⟩ rfl rfl (Nat.le_of_ble_eq_true rfl) (c_X10_offers h19) (fun m1 hq => ?_)
        have H := H m1 hq
        obtain ⟨h21, H⟩ := H
        refine q_iinc dX10_offersMore_52 rfl h21 rfl ?_
        refine q_goto (tgt := 3) dX10_offersMore_55 (by decide) ?_
        exact H
set_option maxRecDepth 20000 in
theorem v_X10_offersMore {m0 : Mem} {r be : Int} {li : Int → Int} {s p b : Int} {P : Mem → Prop} {mem : Mem}  (H : w_X10_offersMore_3 m0 r be li s p b P 0 mem) : Tot mX10_offersMore 0 0 [vR 44, vI s, vI p, vI b] SH mem (Pn SH P) := by
  refine Tot.of rfl (Nat.le_of_ble_eq_true rfl) (by simp [isJ]) (ls := [vR 44, vI s, vI p, vI b, vJ 0]) rfl ?_
  refine q_iconst dX10_offersMore_0 (by decide) ?_
  refine q_istore dX10_offersMore_1 (by decide) rfl ?_
  exact H

def w_X10_offersTwo_13 (m0 : Mem) (r be : Int) (li : Int → Int) (s t : Int) (P : Mem → Prop) (a3 : Int) (a4 : Int) (mem : Mem) : Prop := WP mX10_offersTwo none 0 0 (Pn SH P) 13 [vR 44, vI s, vI t, vI a3, vI a4] [] SH mem
set_option maxRecDepth 20000 in
theorem v_X10_offersTwo_13 {m0 : Mem} {r be : Int} {li : Int → Int} {s t : Int} {P : Mem → Prop} {a3 : Int} {a4 : Int} {mem : Mem}  (H : (inR (a3 * a3)) ∧ (((a3 * a3) ≤ a4 → P mem) ∧ (a4 < (a3 * a3) → (hsM mem) ∧ ((moM mem) ∧ (∀ m4 : Mem, asnP mem m4 → ((0 ≤ a4) ∧ ((0 < a3) ∧ ((hsM m4) ∧ ((0 ≤ s) ∧ ((s < m4 44 5) ∧ ((0 ≤ (a4 / a3)) ∧ (((a4 / a3) < m4 44 0 * m4 44 1) ∧ (∀ (v12 : Int) (m13 : Mem), canV (m4 44 0) (m4 44 1) (mW m4 s) (mL m4 s) (a4 / a3) (m4 61) m4 v12 m13 → ((v12 = 0 → (inR (a4 + 1)) ∧ (w_X10_offersTwo_13 m0 r be li s t P a3 (a4 + 1) m13)) ∧ (¬ v12 = 0 → (s < 4) ∧ (∀ m16 : Mem, m16 = mset m13 59 s.toNat (a4 / a3) → ((hsM m16) ∧ ((liM m16) ∧ (∀ m19 : Mem, layP m16 m19 → ((hsM m19) ∧ ((0 ≤ t) ∧ ((t < m19 44 5) ∧ ((0 ≤ (a4 % a3)) ∧ (((a4 % a3) < m19 44 0 * m19 44 1) ∧ (∀ (v25 : Int) (m26 : Mem), canV (m19 44 0) (m19 44 1) (mW m19 t) (mL m19 t) (a4 % a3) (m19 61) m19 v25 m26 → ((v25 = 0 → (inR (a4 + 1)) ∧ (w_X10_offersTwo_13 m0 r be li s t P a3 (a4 + 1) m26)) ∧ (¬ v25 = 0 → (t < 4) ∧ (∀ m29 : Mem, m29 = mset m26 59 t.toNat (a4 % a3) → ((hsM m29) ∧ ((liM m29) ∧ (∀ m32 : Mem, layP m29 m32 → ((inR (4 * s)) ∧ ((inR ((4 * s) + 3)) ∧ ((0 ≤ ((4 * s) + 3)) ∧ ((((4 * s) + 3) < 16) ∧ ((inR (4 * t)) ∧ ((inR ((4 * t) + 3)) ∧ ((0 ≤ ((4 * t) + 3)) ∧ ((((4 * t) + 3) < 16) ∧ ((inR ((m32 46 ((4 * s) + 3).toNat) + (m32 46 ((4 * t) + 3).toNat))) ∧ ((ofQ m0 r be li m32 ((m32 46 ((4 * s) + 3).toNat) + (m32 46 ((4 * t) + 3).toNat))) ∧ (∀ m43 : Mem, ofP m0 r be li m43 → ((inR (a4 + 1)) ∧ (w_X10_offersTwo_13 m0 r be li s t P a3 (a4 + 1) m43)))))))))))))))))))))))))))))))))))))))))))) : w_X10_offersTwo_13 m0 r be li s t P a3 a4 mem := by
  unfold w_X10_offersTwo_13
  refine q_iload dX10_offersTwo_13 rfl ?_
  refine q_iload_n dX10_offersTwo_15 rfl ?_
  refine q_iload_n dX10_offersTwo_16 rfl ?_
  obtain ⟨h1, H⟩ := H
  refine q_imul dX10_offersTwo_17 h1 ?_
  refine q_icmp_ge (tgt := 108) dX10_offersTwo_18 (by decide) (fun c18 => ?_) (fun c18 => ?_)
  · have H := H.1 c18
    exact q_vret dX10_offersTwo_108 rfl ⟨rfl, rfl, H⟩
  · have H := H.2 c18
    refine q_aload_n dX10_offersTwo_21 rfl ?_
    obtain ⟨h2, H⟩ := H
    obtain ⟨h3, H⟩ := H
    refine q_cVn (as := []) dX10_offersTwo_22 kmX10_asNow kvX10_asNow lm_RX10_211 ⟨by decide, by decide⟩ s44 ⟨by decide, rfl⟩ rfl rfl (Nat.le_of_ble_eq_true rfl) (c_X10_asNow h2 h3) (fun m1 hq => ?_)
    have H := H m1 hq
    refine q_aload_n dX10_offersTwo_25 rfl ?_
    refine q_iload_n dX10_offersTwo_26 rfl ?_
    refine q_iload dX10_offersTwo_27 rfl ?_
    refine q_iload_n dX10_offersTwo_29 rfl ?_
    obtain ⟨h5, H⟩ := H
    obtain ⟨h6, H⟩ := H
    refine q_idiv dX10_offersTwo_30 h5 h6 ?_
    obtain ⟨h7, H⟩ := H
    obtain ⟨h8, H⟩ := H
    obtain ⟨h9, H⟩ := H
    obtain ⟨h10, H⟩ := H
    obtain ⟨h11, H⟩ := H
    refine q_cVi (as := [vI _, vI _]) dX10_offersTwo_31 kmX10_mayLie kvX10_mayLie lm_RX10_220 ⟨by decide, by decide⟩ s44 ⟨by decide, rfl⟩ rfl rfl (Nat.le_of_ble_eq_true rfl) (c_X10_mayLie h7 h8 h9 h10 h11) (fun v m1 hq => ?_)
    have H := H v m1 hq
    refine q_if_eq (tgt := 102) dX10_offersTwo_34 (by decide) (fun c34 => ?_) (fun c34 => ?_)
    · have H := H.1 c34
      obtain ⟨h14, H⟩ := H
      refine q_iinc dX10_offersTwo_102 rfl h14 rfl ?_
      refine q_goto (tgt := 13) dX10_offersTwo_105 (by decide) ?_
      exact H
    · have H := H.2 c34
      refine q_aload_n dX10_offersTwo_37 rfl ?_
      refine q_getr (r := 59) dX10_offersTwo_38 lf_RX10_63 s44 rfl rfl ?_
      refine q_iload_n dX10_offersTwo_41 rfl ?_
      refine q_iload dX10_offersTwo_42 rfl ?_
      refine q_iload_n dX10_offersTwo_44 rfl ?_
      refine q_idiv dX10_offersTwo_45 h5 h6 ?_
      obtain ⟨h15, H⟩ := H
      refine q_iast dX10_offersTwo_46 s59 h8 h15 ?_
      have H := H _ rfl
      refine q_aload_n dX10_offersTwo_47 rfl ?_
      obtain ⟨h17, H⟩ := H
      obtain ⟨h18, H⟩ := H
      refine q_cVn (as := []) dX10_offersTwo_48 kmX10_layCells kvX10_layCells lm_RX10_184 ⟨by decide, by decide⟩ s44 ⟨by decide, rfl⟩ rfl rfl (Nat.le_of_ble_eq_true rfl) (c_X10_layCells h17 h18) (fun m1 hq => ?_)
      have H := H m1 hq
      refine q_aload_n dX10_offersTwo_51 rfl ?_
      refine q_iload_n dX10_offersTwo_52 rfl ?_
      refine q_iload dX10_offersTwo_53 rfl ?_
      refine q_iload_n dX10_offersTwo_55 rfl ?_
      refine q_irem dX10_offersTwo_56 h5 h6 ?_
      obtain ⟨h20, H⟩ := H
      obtain ⟨h21, H⟩ := H
      obtain ⟨h22, H⟩ := H
      obtain ⟨h23, H⟩ := H
      obtain ⟨h24, H⟩ := H
      refine q_cVi (as := [vI _, vI _]) dX10_offersTwo_57 kmX10_mayLie kvX10_mayLie lm_RX10_220 ⟨by decide, by decide⟩ s44 ⟨by decide, rfl⟩ rfl rfl (Nat.le_of_ble_eq_true rfl) (c_X10_mayLie h20 h21 h22 h23 h24) (fun v m1 hq => ?_)
      have H := H v m1 hq
      refine q_if_eq (tgt := 102) dX10_offersTwo_60 (by decide) (fun c60 => ?_) (fun c60 => ?_)
      · have H := H.1 c60
        obtain ⟨h27, H⟩ := H
        refine q_iinc dX10_offersTwo_102 rfl h27 rfl ?_
        refine q_goto (tgt := 13) dX10_offersTwo_105 (by decide) ?_
        exact H
      · have H := H.2 c60
        refine q_aload_n dX10_offersTwo_63 rfl ?_
        refine q_getr (r := 59) dX10_offersTwo_64 lf_RX10_63 s44 rfl rfl ?_
        refine q_iload_n dX10_offersTwo_67 rfl ?_
        refine q_iload dX10_offersTwo_68 rfl ?_
        refine q_iload_n dX10_offersTwo_70 rfl ?_
        refine q_irem dX10_offersTwo_71 h5 h6 ?_
        obtain ⟨h28, H⟩ := H
        refine q_iast dX10_offersTwo_72 s59 h21 h28 ?_
        have H := H _ rfl
        refine q_aload_n dX10_offersTwo_73 rfl ?_
        obtain ⟨h30, H⟩ := H
        obtain ⟨h31, H⟩ := H
        refine q_cVn (as := []) dX10_offersTwo_74 kmX10_layCells kvX10_layCells lm_RX10_184 ⟨by decide, by decide⟩ s44 ⟨by decide, rfl⟩ rfl rfl (Nat.le_of_ble_eq_true rfl) (c_X10_layCells h30 h31) (fun m1 hq => ?_)
        have H := H m1 hq
        refine q_aload_n dX10_offersTwo_77 rfl ?_
        refine q_aload_n dX10_offersTwo_78 rfl ?_
        refine q_getr (r := 46) dX10_offersTwo_79 lf_RX10_23 s44 rfl rfl ?_
        refine q_iconst dX10_offersTwo_82 (by decide) ?_
        refine q_iload_n dX10_offersTwo_83 rfl ?_
        obtain ⟨h33, H⟩ := H
        refine q_imul dX10_offersTwo_84 h33 ?_
        refine q_iconst dX10_offersTwo_85 (by decide) ?_
        obtain ⟨h34, H⟩ := H
        refine q_iadd dX10_offersTwo_86 h34 ?_
        obtain ⟨h35, H⟩ := H
        obtain ⟨h36, H⟩ := H
        refine q_iald dX10_offersTwo_87 s46 h35 h36 ?_
        refine q_aload_n dX10_offersTwo_88 rfl ?_
        refine q_getr (r := 46) dX10_offersTwo_89 lf_RX10_23 s44 rfl rfl ?_
        refine q_iconst dX10_offersTwo_92 (by decide) ?_
        refine q_iload_n dX10_offersTwo_93 rfl ?_
        obtain ⟨h37, H⟩ := H
        refine q_imul dX10_offersTwo_94 h37 ?_
        refine q_iconst dX10_offersTwo_95 (by decide) ?_
        obtain ⟨h38, H⟩ := H
        refine q_iadd dX10_offersTwo_96 h38 ?_
        obtain ⟨h39, H⟩ := H
        obtain ⟨h40, H⟩ := H
        refine q_iald dX10_offersTwo_97 s46 h39 h40 ?_
        obtain ⟨h41, H⟩ := H
        refine q_iadd dX10_offersTwo_98 h41 ?_
        obtain ⟨h42, H⟩ := H
        refine q_cVn (as := [vI _]) dX10_offersTwo_99 kmX10_offers kvX10_offers lm_RX10_248 ⟨by decide, by decide⟩ s44 ⟨by decide, rfl⟩ rfl rfl (Nat.le_of_ble_eq_true rfl) (c_X10_offers h42) (fun m1 hq => ?_)
        have H := H m1 hq
        obtain ⟨h44, H⟩ := H
        refine q_iinc dX10_offersTwo_102 rfl h44 rfl ?_
        refine q_goto (tgt := 13) dX10_offersTwo_105 (by decide) ?_
        exact H
set_option maxRecDepth 20000 in
theorem v_X10_offersTwo {m0 : Mem} {r be : Int} {li : Int → Int} {s t : Int} {P : Mem → Prop} {mem : Mem}  (H : (inR ((mem 44 0) * (mem 44 1))) ∧ (w_X10_offersTwo_13 m0 r be li s t P ((mem 44 0) * (mem 44 1)) 0 mem)) : Tot mX10_offersTwo 0 0 [vR 44, vI s, vI t] SH mem (Pn SH P) := by
  refine Tot.of rfl (Nat.le_of_ble_eq_true rfl) (by simp [isJ]) (ls := [vR 44, vI s, vI t, vJ 0, vJ 0]) rfl ?_
  refine q_aload_n dX10_offersTwo_0 rfl ?_
  refine q_geti dX10_offersTwo_1 lf_RX10_7 s44 rfl ?_
  refine q_aload_n dX10_offersTwo_4 rfl ?_
  refine q_geti dX10_offersTwo_5 lf_RX10_13 s44 rfl ?_
  obtain ⟨h1, H⟩ := H
  refine q_imul dX10_offersTwo_8 h1 ?_
  refine q_istore_n dX10_offersTwo_9 (by decide) rfl ?_
  refine q_iconst dX10_offersTwo_10 (by decide) ?_
  refine q_istore dX10_offersTwo_11 (by decide) rfl ?_
  exact H


def omQ (m0 : Mem) (be : Int) (m : Mem) (s p b : Int) : Prop := (hsM m0 ∧ moM m0) ∧ bmF m0 m ∧ isB m0 be m ∧ (0 ≤ s ∧ s < m0 44 5) ∧ p = mP m0 s ∧ ((b = 1 ∧ m0 48 (2 + s).toNat = -9) ∨ (b = 0 ∧ m0 48 (2 + s).toNat ≠ -9))
def omP (m0 : Mem) (be s : Int) (m : Mem) : Prop := ∃ be', isB m0 be' m ∧ bmF m0 m ∧ mrg (fun x => ∃ c, q1M m0 s c ∧ x = r1F (mP m0) s c) be be'
theorem leg_cn {m : Mem} {li : Int → Int} {s c : Int} (h : legM m li s c) : 0 ≤ c ∧ c < nM m := ⟨h.1.1, h.1.2.1⟩
theorem om_loop {m0 : Mem} {r be s p b : Int} {li : Int → Int} (hh : hsM m0) (hm : moM m0) (s0 : 0 ≤ s) (sn : s < m0 44 5) (hp : p = mP m0 s) (hb : (b = 1 ∧ m0 48 (2 + s).toNat = -9) ∨ (b = 0 ∧ m0 48 (2 + s).toNat ≠ -9)) : ∀ (k : Nat) (a4 be1 : Int) (m : Mem), 0 ≤ a4 → a4 ≤ nM m0 → (nM m0 - a4).toNat ≤ k → bmF m0 m → isB m0 be1 m → mrg (fun x => ∃ c, c < a4 ∧ q1M m0 s c ∧ x = r1F (mP m0) s c) be be1 → w_X10_offersMore_3 m0 r be li s p b (omP m0 be s) a4 m := by
  have hn := nM_b hh
  have h5 := hh.2.2.2.2.2.1
  have e44 : ∀ m : Mem, bmF m0 m → m 44 0 * m 44 1 = nM m0 := fun m h => bm_nM h
  have hfin : ∀ (a4 be1 : Int) (m : Mem), a4 = nM m0 → bmF m0 m → isB m0 be1 m → mrg (fun x => ∃ c, c < a4 ∧ q1M m0 s c ∧ x = r1F (mP m0) s c) be be1 → omP m0 be s m := by
    intro a4 be1 m e hF hB hg
    refine ⟨be1, hB, hF, mrg_eqv (fun x => ⟨fun ⟨c, _, h⟩ => ⟨c, h⟩, fun ⟨c, h⟩ => ⟨c, by rw [e]; exact (leg_cn h.1.1.2.2.2).2, h⟩⟩) hg⟩
  intro k
  induction k with
  | zero =>
    intro a4 be1 m h0 h1 hk hF hB hg
    refine v_X10_offersMore_3 (m0 := m0) (r := r) (be := be) (li := li) ?_
    rw [e44 m hF]
    exact ⟨by unfold inR; omega, fun _ => hfin a4 be1 m (by omega) hF hB hg, fun q => by omega⟩
  | succ k ih =>
    intro a4 be1 m h0 h1 hk hF hB hg
    refine v_X10_offersMore_3 (m0 := m0) (r := r1F (mP m0) s a4) (be := be1) (li := fupd (li0M m0) s a4) ?_
    rw [e44 m hF]
    refine ⟨by unfold inR; omega, fun _ => hfin a4 be1 m (by omega) hF hB hg, fun q => ⟨(bm_hs hF).mpr hh, (bm_mo hF).mpr hm, fun m4 h4 => ?_⟩⟩
    have hf4 := fl0M hh hF h4
    have hb4 := hf4.1
    have hB4 : isB m0 be1 m4 := isB_fr hB h4.1
    have hskip : (¬ q1M m0 s a4) → mrg (fun x => ∃ c, c < a4 + 1 ∧ q1M m0 s c ∧ x = r1F (mP m0) s c) be be1 := by
      intro hno
      refine mrg_eqv (fun x => ⟨fun ⟨c, c1, h⟩ => ⟨c, by omega, h⟩, fun ⟨c, c1, h⟩ => ⟨c, ?_, h⟩⟩) hg
      refine Classical.byContradiction fun z => hno ?_
      rw [show a4 = c by omega]
      exact h.1
    refine ⟨fun z => ⟨by unfold inR; omega, ih _ _ _ (by omega) (by omega) (by omega) hb4 hB4 (hskip (fun y => ?_))⟩, fun z => ⟨(bm_hs hb4).mpr hh, s0, by rw [hb4.2 5 (by decide)]; exact sn, h0, by rw [e44 m4 hb4]; exact q, fun v11 m12 h12 => ?_⟩⟩
    · rcases hb with ⟨e, -⟩ | ⟨-, e⟩
      · omega
      · exact e y.1.2.2.1
    obtain ⟨hv, e12⟩ := h12
    have e12 := e12.symm
    subst e12
    rw [fm_can hf4] at hv
    have hla : m0 48 (2 + s).toNat = -9 := by
      rcases hb with ⟨-, e⟩ | ⟨e, -⟩
      · exact e
      · exact absurd e z
    refine ⟨fun y => ⟨by unfold inR; omega, ih _ _ _ (by omega) (by omega) (by omega) hb4 hB4 (hskip (fun x => ?_))⟩, fun y => ⟨by omega, fun m15 e15 => ?_⟩⟩
    · rcases hv with ⟨-, e⟩ | ⟨e, -⟩
      · omega
      · exact e x.1.2.2.2
    have hleg : legM m0 (li0M m0) s a4 := by
      rcases hv with ⟨e, -⟩ | ⟨-, e⟩
      · exact e
      · exact absurd e y
    obtain ⟨⟨g1, g2⟩, g3⟩ := fm_set hh hf4 (li0_K hm) s0 sn hleg.1 e15
    refine ⟨g1, g2, fun m18 h18 => ?_⟩
    have hf18 := g3 m18 h18
    have hF15 : Fr [59] m4 m15 := by rw [e15]; exact Fr.rf.set (by decide)
    have hB18 : isB m0 be1 m18 := isB_fr (isB_fr hB4 hF15) h18.1
    have he := enc1 hh s0 sn h0 (show a4 < 12 by omega) hla
    rw [← hp] at he
    refine ⟨⟨hh, hf18, he, hB18⟩, fun m20 h20 => ⟨by unfold inR; omega, ?_⟩⟩
    obtain ⟨be2, hB2, hF2, hg2⟩ := h20
    refine ih _ be2 m20 (by omega) (by omega) (by omega) hF2 hB2 (mrg_eqv (fun x => ?_) (mrg_tr hg hg2))
    constructor
    · rintro (⟨c, c1, h⟩ | ⟨h, e⟩)
      · exact ⟨c, by omega, h⟩
      · exact ⟨a4, by omega, ⟨⟨⟨s0, sn⟩, ⟨h0, by omega⟩, hla, hleg⟩, h⟩, e⟩
    · rintro ⟨c, c1, h, e⟩
      by_cases w : c = a4
      · rw [w] at h e
        exact Or.inr ⟨h.2, e⟩
      · exact Or.inl ⟨c, by omega, h, e⟩
theorem c_X10_offersMore {m0 m : Mem} {be s p b : Int} (hq : omQ m0 be m s p b) : Tot mX10_offersMore 0 0 [vR 44, vI s, vI p, vI b] SH m (Pn SH (omP m0 be s)) := by
  obtain ⟨⟨hh, hm⟩, hF, hB, hs, hp, hb⟩ := hq
  have hn := nM_b hh
  exact v_X10_offersMore (m0 := m0) (r := 0) (be := be) (li := li0M m0) (om_loop hh hm hs.1 hs.2 hp hb _ 0 be m (by omega) (by omega) (Nat.le_refl _) hF hB (mrg_no (fun r ⟨c, c1, h, _⟩ => by have := h.1.2.1.1; omega)))
def otQ (m0 : Mem) (be : Int) (m : Mem) (s t : Int) : Prop := (hsM m0 ∧ moM m0) ∧ bmF m0 m ∧ isB m0 be m ∧ (0 ≤ s ∧ s < t ∧ t < m0 44 5) ∧ m0 48 (2 + s).toNat = -9 ∧ m0 48 (2 + t).toNat = -9
def otP (m0 : Mem) (be s t : Int) (m : Mem) : Prop := ∃ be', isB m0 be' m ∧ bmF m0 m ∧ mrg (fun x => ∃ c d, q2M m0 s c t d ∧ x = r1F (mP m0) s c + r1F (mP m0) t d) be be'
theorem ot_loop {m0 : Mem} {r be s t : Int} {li : Int → Int} (hh : hsM m0) (hm : moM m0) (s0 : 0 ≤ s) (st : s < t) (tn : t < m0 44 5) (hla : m0 48 (2 + s).toNat = -9) (hla2 : m0 48 (2 + t).toNat = -9) : ∀ (k : Nat) (a4 be1 : Int) (m : Mem), 0 ≤ a4 → a4 ≤ nM m0 * nM m0 → (nM m0 * nM m0 - a4).toNat ≤ k → bmF m0 m → isB m0 be1 m → mrg (fun x => ∃ c d, c * nM m0 + d < a4 ∧ q2M m0 s c t d ∧ x = r1F (mP m0) s c + r1F (mP m0) t d) be be1 → w_X10_offersTwo_13 m0 r be li s t (otP m0 be s t) (nM m0) a4 m := by
  have hn := nM_b hh
  have h5 := hh.2.2.2.2.2.1
  have hnn : 1 ≤ nM m0 * nM m0 ∧ nM m0 * nM m0 ≤ 12 * 12 := ⟨Int.mul_le_mul hn.1 hn.1 (by decide) (by omega), Int.mul_le_mul hn.2 hn.2 (by omega) (by decide)⟩
  have e44 : ∀ m : Mem, bmF m0 m → m 44 0 * m 44 1 = nM m0 := fun m h => bm_nM h
  have hpair : ∀ c d : Int, 0 ≤ c → c < nM m0 → 0 ≤ d → d < nM m0 → c * nM m0 + d < nM m0 * nM m0 ∧ (c * nM m0 + d) / nM m0 = c ∧ (c * nM m0 + d) % nM m0 = d := by
    intro c d c0 c1 d0 d1
    have h1 : (c + 1) * nM m0 ≤ nM m0 * nM m0 := Int.mul_le_mul_of_nonneg_right (by omega) (by omega)
    rw [Int.add_mul, Int.one_mul] at h1
    refine ⟨by omega, ?_, ?_⟩
    · rw [Int.add_comm, Int.add_mul_ediv_right _ _ (by omega), Int.ediv_eq_zero_of_lt d0 d1]
      omega
    · rw [Int.add_comm, Int.add_mul_emod_self_right, Int.emod_eq_of_lt d0 d1]
  have hfin : ∀ (a4 be1 : Int) (m : Mem), a4 = nM m0 * nM m0 → bmF m0 m → isB m0 be1 m → mrg (fun x => ∃ c d, c * nM m0 + d < a4 ∧ q2M m0 s c t d ∧ x = r1F (mP m0) s c + r1F (mP m0) t d) be be1 → otP m0 be s t m := by
    intro a4 be1 m e hF hB hg
    refine ⟨be1, hB, hF, mrg_eqv (fun x => ⟨fun ⟨c, d, _, h⟩ => ⟨c, d, h⟩, fun ⟨c, d, h⟩ => ⟨c, d, ?_, h⟩⟩) hg⟩
    have h1 := leg_cn h.1.1.2.2.2
    have h2 := leg_cn h.1.2.2.2.2.1
    rw [e]
    exact (hpair c d h1.1 h1.2 h2.1 h2.2).1
  intro k
  induction k with
  | zero =>
    intro a4 be1 m h0 h1 hk hF hB hg
    exact v_X10_offersTwo_13 (m0 := m0) (r := r) (be := be) (li := li) ⟨by unfold inR; omega, fun _ => hfin a4 be1 m (by omega) hF hB hg, fun q => by omega⟩
  | succ k ih =>
    intro a4 be1 m h0 h1 hk hF hB hg
    refine v_X10_offersTwo_13 (m0 := m0) (r := r1F (mP m0) s (a4 / nM m0) + r1F (mP m0) t (a4 % nM m0)) (be := be1) (li := fupd (fupd (li0M m0) s (a4 / nM m0)) t (a4 % nM m0)) ⟨by unfold inR; omega, fun _ => hfin a4 be1 m (by omega) hF hB hg, fun q => ⟨(bm_hs hF).mpr hh, (bm_mo hF).mpr hm, fun m4 h4 => ?_⟩⟩
    obtain ⟨ha, hb⟩ := pr_b h0 q hn.1
    have hf4 := fl0M hh hF h4
    have hb4 := hf4.1
    have hB4 : isB m0 be1 m4 := isB_fr hB h4.1
    have hself : a4 / nM m0 * nM m0 + a4 % nM m0 = a4 := by
      rw [Int.mul_comm]
      exact Int.mul_ediv_add_emod a4 (nM m0)
    have hsplit : ∀ c d : Int, 0 ≤ c → c < nM m0 → 0 ≤ d → d < nM m0 → c * nM m0 + d < a4 + 1 → c * nM m0 + d < a4 ∨ (c = a4 / nM m0 ∧ d = a4 % nM m0) := by
      intro c d c0 c1 d0 d1 hlt
      by_cases w : c * nM m0 + d < a4
      · exact Or.inl w
      · have e : c * nM m0 + d = a4 := by omega
        have := (hpair c d c0 c1 d0 d1).2
        rw [e] at this
        exact Or.inr ⟨this.1.symm, this.2.symm⟩
    have hskip : (¬ q2M m0 s (a4 / nM m0) t (a4 % nM m0)) → mrg (fun x => ∃ c d, c * nM m0 + d < a4 + 1 ∧ q2M m0 s c t d ∧ x = r1F (mP m0) s c + r1F (mP m0) t d) be be1 := by
      intro hno
      refine mrg_eqv (fun x => ⟨fun ⟨c, d, c1, h⟩ => ⟨c, d, by omega, h⟩, fun ⟨c, d, c1, h⟩ => ⟨c, d, ?_, h⟩⟩) hg
      have h1 := leg_cn h.1.1.2.2.2
      have h2 := leg_cn h.1.2.2.2.2.1
      rcases hsplit c d h1.1 h1.2 h2.1 h2.2 c1 with w | ⟨w1, w2⟩
      · exact w
      · rw [w1, w2] at h
        exact absurd h.1 hno
    have hh4 : hsM m4 := (bm_hs hb4).mpr hh
    refine ⟨h0, by omega, hh4, s0, by rw [hb4.2 5 (by decide)]; omega, ha.1, by rw [e44 m4 hb4]; exact ha.2, fun v12 m13 h13 => ?_⟩
    obtain ⟨hv, e13⟩ := h13
    have e13 := e13.symm
    subst e13
    rw [fm_can hf4] at hv
    refine ⟨fun y => ⟨by unfold inR; omega, ih _ _ _ (by omega) (by omega) (by omega) hb4 hB4 (hskip (fun x => ?_))⟩, fun y => ⟨by omega, fun m16 e16 => ?_⟩⟩
    · rcases hv with ⟨-, e⟩ | ⟨e, -⟩
      · omega
      · exact e x.1.2.2.2
    have hleg : legM m0 (li0M m0) s (a4 / nM m0) := by
      rcases hv with ⟨e, -⟩ | ⟨-, e⟩
      · exact e
      · exact absurd e y
    have hc1 : c1M m0 s (a4 / nM m0) := ⟨⟨s0, by omega⟩, ⟨ha.1, by omega⟩, hla, hleg⟩
    obtain ⟨⟨g1, g2⟩, g3⟩ := fm_set hh hf4 (li0_K hm) s0 (by omega) hleg.1 e16
    refine ⟨g1, g2, fun m19 h19 => ?_⟩
    have hf19 := g3 m19 h19
    have hb19 := hf19.1
    have hF16 : Fr [59] m4 m16 := by rw [e16]; exact Fr.rf.set (by decide)
    have hB19 : isB m0 be1 m19 := isB_fr (isB_fr hB4 hF16) h19.1
    refine ⟨(bm_hs hb19).mpr hh, by omega, by rw [hb19.2 5 (by decide)]; exact tn, hb.1, by rw [e44 m19 hb19]; exact hb.2, fun v25 m26 h26 => ?_⟩
    obtain ⟨hv2, e26⟩ := h26
    have e26 := e26.symm
    subst e26
    rw [fm_can hf19] at hv2
    refine ⟨fun z => ⟨by unfold inR; omega, ih _ _ _ (by omega) (by omega) (by omega) hb19 hB19 (hskip (fun x => ?_))⟩, fun z => ⟨by omega, fun m29 e29 => ?_⟩⟩
    · rcases hv2 with ⟨-, e⟩ | ⟨e, -⟩
      · omega
      · exact e x.2.2.2.2.1
    have hleg2 : legM m0 (fupd (li0M m0) s (a4 / nM m0)) t (a4 % nM m0) := by
      rcases hv2 with ⟨e, -⟩ | ⟨-, e⟩
      · exact e
      · exact absurd e z
    obtain ⟨⟨g4, g5⟩, g6⟩ := fm_set hh hf19 (liK_put (li0_K hm) hleg.1) (by omega) tn hleg2.1 e29
    refine ⟨g4, g5, fun m32 h32 => ?_⟩
    have hf32 := g6 m32 h32
    have hb32 := hf32.1
    have hF29 : Fr [59] m19 m29 := by rw [e29]; exact Fr.rf.set (by decide)
    have hB32 : isB m0 be1 m32 := isB_fr (isB_fr hB19 hF29) h32.1
    have hp1 := mP_b hh s0 (show s < m0 44 5 by omega)
    have hp2 := mP_b hh (show 0 ≤ t by omega) tn
    have q1 : m32 46 (4 * s + 3).toNat = mP m0 s := by rw [hb32.1.at 46]
    have q2 : m32 46 (4 * t + 3).toNat = mP m0 t := by rw [hb32.1.at 46]
    rw [q1, q2]
    have he := enc2 hh s0 st tn ha.1 (show a4 / nM m0 < 12 by omega) hb.1 (show a4 % nM m0 < 12 by omega) hla hla2
    refine ⟨by unfold inR; omega, by unfold inR; omega, by omega, by omega, by unfold inR; omega, by unfold inR; omega, by omega, by omega, by unfold inR; omega, ⟨hh, hf32, he, hB32⟩, fun m43 h43 => ⟨by unfold inR; omega, ?_⟩⟩
    obtain ⟨be2, hB2, hF2, hg2⟩ := h43
    refine ih _ be2 m43 (by omega) (by omega) (by omega) hF2 hB2 (mrg_eqv (fun x => ?_) (mrg_tr hg hg2))
    constructor
    · rintro (⟨c, d, c1, h⟩ | ⟨h, e⟩)
      · exact ⟨c, d, by omega, h⟩
      · exact ⟨a4 / nM m0, a4 % nM m0, by omega, ⟨hc1, ⟨st, tn⟩, ⟨hb.1, by omega⟩, hla2, hleg2, h⟩, e⟩
    · rintro ⟨c, d, c1, h, e⟩
      have h1 := leg_cn h.1.2.2.2
      have h2 := leg_cn h.2.2.2.2.1
      rcases hsplit c d h1.1 h1.2 h2.1 h2.2 c1 with w | ⟨w1, w2⟩
      · exact Or.inl ⟨c, d, w, h, e⟩
      · rw [w1, w2] at h e
        exact Or.inr ⟨h.2.2.2.2.2, e⟩
theorem c_X10_offersTwo {m0 m : Mem} {be s t : Int} (hq : otQ m0 be m s t) : Tot mX10_offersTwo 0 0 [vR 44, vI s, vI t] SH m (Pn SH (otP m0 be s t)) := by
  obtain ⟨⟨hh, hm⟩, hF, hB, hs, hl, hl2⟩ := hq
  have hn := nM_b hh
  have hnn : 1 ≤ nM m0 * nM m0 := Int.mul_le_mul hn.1 hn.1 (by decide) (by omega)
  have e : m 44 0 * m 44 1 = nM m0 := bm_nM hF
  refine v_X10_offersTwo (m0 := m0) (r := 0) (be := be) (li := li0M m0) ?_
  rw [e]
  refine ⟨by unfold inR; omega, ot_loop hh hm hs.1 hs.2.1 hs.2.2 hl hl2 _ 0 be m (by omega) (by omega) (Nat.le_refl _) hF hB (mrg_no (fun r ⟨c, d, c1, h, _⟩ => ?_))⟩
  have h1 := h.1.2.1.1
  have h2 := h.2.2.1.1
  have := Int.mul_nonneg h1 (show 0 ≤ nM m0 by omega)
  omega
