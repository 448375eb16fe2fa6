/-! THE MODEL'S BUYER: findBought, toBuy -/
def w_X10_findBought_17 (m0 : Mem) (r be : Int) (li : Int → Int)  (P : Mem → Prop) (a1 : Int) (u2 : Vl) (mem : Mem) : Prop := WP mX10_findBought none 0 0 (Pn SH P) 17 [vR 44, vI a1, u2] [] SH mem
def w_X10_findBought_62 (m0 : Mem) (r be : Int) (li : Int → Int)  (P : Mem → Prop) (a1 : Int) (a2 : Int) (mem : Mem) : Prop := WP mX10_findBought none 0 0 (Pn SH P) 62 [vR 44, vI a1, vI a2] [] SH mem
set_option maxRecDepth 20000 in
theorem v_X10_findBought_17 {m0 : Mem} {r be : Int} {li : Int → Int}  {P : Mem → Prop} {a1 : Int} {u2 : Vl} {mem : Mem}  (H : ((mem 44 5) ≤ a1 → P mem) ∧ (a1 < (mem 44 5) → (inR (4 * a1)) ∧ ((inR ((4 * a1) + 3)) ∧ ((0 ≤ ((4 * a1) + 3)) ∧ ((((4 * a1) + 3) < 16) ∧ ((inR (2 + a1)) ∧ ((0 ≤ (2 + a1)) ∧ (((2 + a1) < 10) ∧ ((¬ (mem 48 (2 + a1).toNat) = (-9) → (omQ m0 be mem a1 (mem 46 ((4 * a1) + 3).toNat) 0) ∧ (∀ m9 : Mem, omP m0 be a1 m9 → ((inR (a1 + 1)) ∧ (w_X10_findBought_62 m0 r be li P a1 (a1 + 1) m9)))) ∧ ((mem 48 (2 + a1).toNat) = (-9) → (omQ m0 be mem a1 (mem 46 ((4 * a1) + 3).toNat) 1) ∧ (∀ m12 : Mem, omP m0 be a1 m12 → ((inR (a1 + 1)) ∧ (w_X10_findBought_62 m0 r be li P a1 (a1 + 1) m12))))))))))))) : w_X10_findBought_17 m0 r be li P a1 u2 mem := by
  unfold w_X10_findBought_17
  refine q_iload_n dX10_findBought_17 rfl ?_
  refine q_aload_n dX10_findBought_18 rfl ?_
  refine q_geti dX10_findBought_19 lf_RX10_94 s44 rfl ?_
  refine q_icmp_ge (tgt := 114) dX10_findBought_22 (by decide) (fun c22 => ?_) (fun c22 => ?_)
  · have H := H.1 c22
    exact q_vret dX10_findBought_114 rfl ⟨rfl, rfl, H⟩
  · have H := H.2 c22
    refine q_aload_n dX10_findBought_25 rfl ?_
    refine q_iload_n dX10_findBought_26 rfl ?_
    refine q_aload_n dX10_findBought_27 rfl ?_
    refine q_getr (r := 46) dX10_findBought_28 lf_RX10_23 s44 rfl rfl ?_
    refine q_iconst dX10_findBought_31 (by decide) ?_
    refine q_iload_n dX10_findBought_32 rfl ?_
    obtain ⟨h1, H⟩ := H
    refine q_imul dX10_findBought_33 h1 ?_
    refine q_iconst dX10_findBought_34 (by decide) ?_
    obtain ⟨h2, H⟩ := H
    refine q_iadd dX10_findBought_35 h2 ?_
    obtain ⟨h3, H⟩ := H
    obtain ⟨h4, H⟩ := H
    refine q_iald dX10_findBought_36 s46 h3 h4 ?_
    refine q_aload_n dX10_findBought_37 rfl ?_
    refine q_getr (r := 48) dX10_findBought_38 lf_RX10_29 s44 rfl rfl ?_
    refine q_iconst dX10_findBought_41 (by decide) ?_
    refine q_iload_n dX10_findBought_42 rfl ?_
    obtain ⟨h5, H⟩ := H
    refine q_iadd dX10_findBought_43 h5 ?_
    obtain ⟨h6, H⟩ := H
    obtain ⟨h7, H⟩ := H
    refine q_iald dX10_findBought_44 s48 h6 h7 ?_
    refine q_bipush dX10_findBought_45 rfl (by decide) ?_
    refine q_icmp_ne (tgt := 54) dX10_findBought_47 (by decide) (fun c47 => ?_) (fun c47 => ?_)
    · have H := H.1 c47
      refine q_iconst dX10_findBought_54 (by decide) ?_
      obtain ⟨h8, H⟩ := H
      refine q_cVn (as := [vI _, vI _, vI _]) dX10_findBought_55 kmX10_offersMore kvX10_offersMore lm_RX10_251 ⟨by decide, by decide⟩ s44 ⟨by decide, rfl⟩ rfl rfl (Nat.le_of_ble_eq_true rfl) (c_X10_offersMore h8) (fun m1 hq => ?_)
      have H := H m1 hq
      refine q_iload_n dX10_findBought_58 rfl ?_
      refine q_iconst dX10_findBought_59 (by decide) ?_
      obtain ⟨h10, H⟩ := H
      refine q_iadd dX10_findBought_60 h10 ?_
      refine q_istore_n dX10_findBought_61 (by decide) rfl ?_
      exact H
    · have H := H.2 c47
      refine q_iconst dX10_findBought_50 (by decide) ?_
      refine q_goto (tgt := 55) dX10_findBought_51 (by decide) ?_
      obtain ⟨h11, H⟩ := H
      refine q_cVn (as := [vI _, vI _, vI _]) dX10_findBought_55 kmX10_offersMore kvX10_offersMore lm_RX10_251 ⟨by decide, by decide⟩ s44 ⟨by decide, rfl⟩ rfl rfl (Nat.le_of_ble_eq_true rfl) (c_X10_offersMore h11) (fun m1 hq => ?_)
      have H := H m1 hq
      refine q_iload_n dX10_findBought_58 rfl ?_
      refine q_iconst dX10_findBought_59 (by decide) ?_
      obtain ⟨h13, H⟩ := H
      refine q_iadd dX10_findBought_60 h13 ?_
      refine q_istore_n dX10_findBought_61 (by decide) rfl ?_
      exact H
set_option maxRecDepth 20000 in
theorem v_X10_findBought_62 {m0 : Mem} {r be : Int} {li : Int → Int}  {P : Mem → Prop} {a1 : Int} {a2 : Int} {mem : Mem}  (H : ((mem 44 5) ≤ a2 → (inR (a1 + 1)) ∧ (w_X10_findBought_17 m0 r be li P (a1 + 1) (vI a2) mem)) ∧ (a2 < (mem 44 5) → (inR (2 + a1)) ∧ ((0 ≤ (2 + a1)) ∧ (((2 + a1) < 10) ∧ ((¬ (mem 48 (2 + a1).toNat) = (-9) → (inR (a2 + 1)) ∧ (w_X10_findBought_62 m0 r be li P a1 (a2 + 1) mem)) ∧ ((mem 48 (2 + a1).toNat) = (-9) → (inR (2 + a2)) ∧ ((0 ≤ (2 + a2)) ∧ (((2 + a2) < 10) ∧ ((¬ (mem 48 (2 + a2).toNat) = (-9) → (inR (a2 + 1)) ∧ (w_X10_findBought_62 m0 r be li P a1 (a2 + 1) mem)) ∧ ((mem 48 (2 + a2).toNat) = (-9) → (otQ m0 be mem a1 a2) ∧ (∀ m11 : Mem, otP m0 be a1 a2 m11 → ((inR (a2 + 1)) ∧ (w_X10_findBought_62 m0 r be li P a1 (a2 + 1) m11))))))))))))) : w_X10_findBought_62 m0 r be li P a1 a2 mem := by
  unfold w_X10_findBought_62
  refine q_iload_n dX10_findBought_62 rfl ?_
  refine q_aload_n dX10_findBought_63 rfl ?_
  refine q_geti dX10_findBought_64 lf_RX10_94 s44 rfl ?_
  refine q_icmp_ge (tgt := 108) dX10_findBought_67 (by decide) (fun c67 => ?_) (fun c67 => ?_)
  · have H := H.1 c67
    obtain ⟨h1, H⟩ := H
    refine q_iinc dX10_findBought_108 rfl h1 rfl ?_
    refine q_goto (tgt := 17) dX10_findBought_111 (by decide) ?_
    exact H
  · have H := H.2 c67
    refine q_aload_n dX10_findBought_70 rfl ?_
    refine q_getr (r := 48) dX10_findBought_71 lf_RX10_29 s44 rfl rfl ?_
    refine q_iconst dX10_findBought_74 (by decide) ?_
    refine q_iload_n dX10_findBought_75 rfl ?_
    obtain ⟨h2, H⟩ := H
    refine q_iadd dX10_findBought_76 h2 ?_
    obtain ⟨h3, H⟩ := H
    obtain ⟨h4, H⟩ := H
    refine q_iald dX10_findBought_77 s48 h3 h4 ?_
    refine q_bipush dX10_findBought_78 rfl (by decide) ?_
    refine q_icmp_ne (tgt := 102) dX10_findBought_80 (by decide) (fun c80 => ?_) (fun c80 => ?_)
    · have H := H.1 c80
      obtain ⟨h5, H⟩ := H
      refine q_iinc dX10_findBought_102 rfl h5 rfl ?_
      refine q_goto (tgt := 62) dX10_findBought_105 (by decide) ?_
      exact H
    · have H := H.2 c80
      refine q_aload_n dX10_findBought_83 rfl ?_
      refine q_getr (r := 48) dX10_findBought_84 lf_RX10_29 s44 rfl rfl ?_
      refine q_iconst dX10_findBought_87 (by decide) ?_
      refine q_iload_n dX10_findBought_88 rfl ?_
      obtain ⟨h6, H⟩ := H
      refine q_iadd dX10_findBought_89 h6 ?_
      obtain ⟨h7, H⟩ := H
      obtain ⟨h8, H⟩ := H
      refine q_iald dX10_findBought_90 s48 h7 h8 ?_
      refine q_bipush dX10_findBought_91 rfl (by decide) ?_
      refine q_icmp_ne (tgt := 102) dX10_findBought_93 (by decide) (fun c93 => ?_) (fun c93 => ?_)
      · have H := H.1 c93
        obtain ⟨h9, H⟩ := H
        refine q_iinc dX10_findBought_102 rfl h9 rfl ?_
        refine q_goto (tgt := 62) dX10_findBought_105 (by decide) ?_
        exact H
      · have H := H.2 c93
        refine q_aload_n dX10_findBought_96 rfl ?_
        refine q_iload_n dX10_findBought_97 rfl ?_
        refine q_iload_n dX10_findBought_98 rfl ?_
        obtain ⟨h10, H⟩ := H
        refine q_cVn (as := [vI _, vI _]) dX10_findBought_99 kmX10_offersTwo kvX10_offersTwo lm_RX10_255 ⟨by decide, by decide⟩ s44 ⟨by decide, rfl⟩ rfl rfl (Nat.le_of_ble_eq_true rfl) (c_X10_offersTwo h10) (fun m1 hq => ?_)
        have H := H m1 hq
        obtain ⟨h12, H⟩ := H
        refine q_iinc dX10_findBought_102 rfl h12 rfl ?_
        refine q_goto (tgt := 62) dX10_findBought_105 (by decide) ?_
        exact H
set_option maxRecDepth 20000 in
theorem v_X10_findBought {m0 : Mem} {r be : Int} {li : Int → Int}  {P : Mem → Prop} {mem : Mem}  (H : ∀ m1 : Mem, m1 = (mset mem 44 40 (-9)) → ((hsM m1) ∧ ((moM m1) ∧ (∀ m4 : Mem, asnP m1 m4 → ((ofQ m0 r be li m4 0) ∧ (∀ m6 : Mem, ofP m0 r be li m6 → (w_X10_findBought_17 m0 r be li P 0 (vJ 0) m6))))))) : Tot mX10_findBought 0 0 [vR 44] SH mem (Pn SH P) := by
  refine Tot.of rfl (Nat.le_of_ble_eq_true rfl) (by simp [isJ]) (ls := [vR 44, vJ 0, vJ 0]) rfl ?_
  refine q_aload_n dX10_findBought_0 rfl ?_
  refine q_bipush dX10_findBought_1 rfl (by decide) ?_
  refine q_puti dX10_findBought_3 lf_RX10_241 s44 rfl (Or.inl rfl) fit_int ?_
  have H := H _ rfl
  refine q_aload_n dX10_findBought_6 rfl ?_
  obtain ⟨h2, H⟩ := H
  obtain ⟨h3, H⟩ := H
  refine q_cVn (as := []) dX10_findBought_7 kmX10_asNow kvX10_asNow lm_RX10_211 ⟨by decide, by decide⟩ s44 ⟨by decide, rfl⟩ rfl rfl (Nat.le_of_ble_eq_true rfl) (c_X10_asNow h2 h3) (fun m1 hq => ?_)
  have H := H m1 hq
  refine q_aload_n dX10_findBought_10 rfl ?_
  refine q_iconst dX10_findBought_11 (by decide) ?_
  obtain ⟨h5, H⟩ := H
  refine q_cVn (as := [vI _]) dX10_findBought_12 kmX10_offers kvX10_offers lm_RX10_248 ⟨by decide, by decide⟩ s44 ⟨by decide, rfl⟩ rfl rfl (Nat.le_of_ble_eq_true rfl) (c_X10_offers h5) (fun m1 hq => ?_)
  have H := H m1 hq
  refine q_iconst dX10_findBought_15 (by decide) ?_
  refine q_istore_n dX10_findBought_16 (by decide) rfl ?_
  exact H


def cdE (m : Mem) (r : Int) : Prop := (qzM m (li0M m) ∧ r = 0) ∨ (∃ s c : Int, q1M m s c ∧ r = r1F (mP m) s c) ∨ ∃ s c t d : Int, q2M m s c t d ∧ r = r1F (mP m) s c + r1F (mP m) t d
def cdS (m : Mem) (A r : Int) : Prop := (qzM m (li0M m) ∧ r = 0) ∨ (∃ s c : Int, s < A ∧ q1M m s c ∧ r = r1F (mP m) s c) ∨ ∃ s c t d : Int, s < A ∧ q2M m s c t d ∧ r = r1F (mP m) s c + r1F (mP m) t d
def cdT (m : Mem) (A B r : Int) : Prop := cdS m A r ∨ (∃ c : Int, q1M m A c ∧ r = r1F (mP m) A c) ∨ ∃ c t d : Int, t < B ∧ q2M m A c t d ∧ r = r1F (mP m) A c + r1F (mP m) t d
theorem bsP_mrg {C D E : Int → Prop} {a b : Int} (hb : bsP C a) (hm : mrg D a b) (b0 : 0 ≤ b ∧ b ≤ 28561000) (h : ∀ r : Int, (C r ∨ D r) ↔ E r) : bsP E b := by
  refine ⟨?_, b0, fun r hr => ?_⟩
  · rcases hm.1 with e | e
    · rcases hb.1 with f | f
      · exact Or.inl (by rw [e, f])
      · exact Or.inr ((h b).mp (Or.inl (by rw [e]; exact f)))
    · exact Or.inr ((h b).mp (Or.inr e))
  · rcases (h r).mpr hr with q | q
    · exact Int.le_trans hm.2.1 (hb.2.2 r q)
    · exact hm.2.2 r q
theorem isB_b {m0 m : Mem} {b : Int} (h : isB m0 b m) : 0 ≤ b ∧ b ≤ 28561000 := by
  rcases h with ⟨e, -⟩ | ⟨e, -⟩ <;> omega
def fbP (m0 m : Mem) : Prop := ∃ b, isB m0 b m ∧ bmF m0 m ∧ bsP (cdE m0) b
theorem fb_in {m0 : Mem} {P : Mem → Prop} {r0 b0 : Int} {l0 : Int → Int} (hh : hsM m0) (hm : moM m0) {A : Int} (A0 : 0 ≤ A) (An : A < m0 44 5) (K : ∀ (u2 : Vl) (b : Int) (m : Mem), bmF m0 m → isB m0 b m → bsP (cdS m0 (A + 1)) b → w_X10_findBought_17 m0 r0 b0 l0 P (A + 1) u2 m) : ∀ (k : Nat) (a2 b : Int) (m : Mem), A + 1 ≤ a2 → a2 ≤ m0 44 5 → (m0 44 5 - a2).toNat ≤ k → bmF m0 m → isB m0 b m → bsP (cdT m0 A a2) b → w_X10_findBought_62 m0 r0 b0 l0 P A a2 m := by
  have h5 := hh.2.2.2.2.2.1
  have hfin : ∀ (a2 b : Int) (m : Mem), a2 = m0 44 5 → bmF m0 m → isB m0 b m → bsP (cdT m0 A a2) b → (inR (A + 1)) ∧ (w_X10_findBought_17 m0 r0 b0 l0 P (A + 1) (vI a2) m) := by
    intro a2 b m e hF hB hS
    refine ⟨by unfold inR; omega, K _ b m hF hB (bsP_eqv (fun x => ?_) hS)⟩
    constructor
    · rintro ((h | ⟨s, c, s1, h⟩ | ⟨s, c, t, d, s1, h⟩) | ⟨c, h⟩ | ⟨c, t, d, t1, h⟩)
      · exact Or.inl h
      · exact Or.inr (Or.inl ⟨s, c, by omega, h⟩)
      · exact Or.inr (Or.inr ⟨s, c, t, d, by omega, h⟩)
      · exact Or.inr (Or.inl ⟨A, c, by omega, h⟩)
      · exact Or.inr (Or.inr ⟨A, c, t, d, by omega, h⟩)
    · rintro (h | ⟨s, c, s1, h⟩ | ⟨s, c, t, d, s1, h⟩)
      · exact Or.inl (Or.inl h)
      · by_cases w : s = A
        · rw [w] at h
          exact Or.inr (Or.inl ⟨c, h⟩)
        · exact Or.inl (Or.inr (Or.inl ⟨s, c, by omega, h⟩))
      · by_cases w : s = A
        · rw [w] at h
          have := h.1.2.1.2
          exact Or.inr (Or.inr ⟨c, t, d, by omega, h⟩)
        · exact Or.inl (Or.inr (Or.inr ⟨s, c, t, d, by omega, h⟩))
  intro k
  induction k with
  | zero =>
    intro a2 b m h0 h1 hk hF hB hS
    refine v_X10_findBought_62 (m0 := m0) (r := r0) (be := b0) (li := l0) ⟨fun _ => hfin a2 b m (by omega) hF hB hS, fun q => ?_⟩
    rw [hF.2 5 (by decide)] at q
    omega
  | succ k ih =>
    intro a2 b m h0 h1 hk hF hB hS
    refine v_X10_findBought_62 (m0 := m0) (r := r0) (be := b) (li := l0) ⟨fun q => hfin a2 b m (by rw [hF.2 5 (by decide)] at q; omega) hF hB hS, fun q => ?_⟩
    rw [hF.2 5 (by decide)] at q
    rw [hF.1.at 48]
    have hskip : (∀ c d : Int, ¬ q2M m0 A c a2 d) → bsP (cdT m0 A (a2 + 1)) b := by
      intro hno
      refine bsP_eqv (fun x => ?_) hS
      constructor
      · rintro (h | h | ⟨c, t, d, t1, h⟩)
        · exact Or.inl h
        · exact Or.inr (Or.inl h)
        · exact Or.inr (Or.inr ⟨c, t, d, by omega, h⟩)
      · rintro (h | h | ⟨c, t, d, t1, h⟩)
        · exact Or.inl h
        · exact Or.inr (Or.inl h)
        · by_cases w : t = a2
          · rw [w] at h
            exact absurd h.1 (hno c d)
          · exact Or.inr (Or.inr ⟨c, t, d, by omega, h⟩)
    refine ⟨by unfold inR; omega, by omega, by omega, fun z => ⟨by unfold inR; omega, ih _ b m (by omega) (by omega) (by omega) hF hB (hskip (fun c d y => z y.1.2.2.1))⟩, fun z => ⟨by unfold inR; omega, by omega, by omega, fun y => ⟨by unfold inR; omega, ih _ b m (by omega) (by omega) (by omega) hF hB (hskip (fun c d x => y x.2.2.2.1))⟩, fun y => ⟨⟨⟨hh, hm⟩, hF, hB, ⟨A0, by omega, q⟩, z, y⟩, fun m11 h11 => ⟨by unfold inR; omega, ?_⟩⟩⟩⟩
    obtain ⟨b2, hB2, hF2, hg⟩ := h11
    refine ih _ b2 m11 (by omega) (by omega) (by omega) hF2 hB2 (bsP_mrg hS hg (isB_b hB2) (fun x => ?_))
    constructor
    · rintro ((h | h | ⟨c, t, d, t1, h⟩) | ⟨c, d, h⟩)
      · exact Or.inl h
      · exact Or.inr (Or.inl h)
      · exact Or.inr (Or.inr ⟨c, t, d, by omega, h⟩)
      · exact Or.inr (Or.inr ⟨c, a2, d, by omega, h⟩)
    · rintro (h | h | ⟨c, t, d, t1, h⟩)
      · exact Or.inl (Or.inl h)
      · exact Or.inl (Or.inr (Or.inl h))
      · by_cases w : t = a2
        · rw [w] at h
          exact Or.inr ⟨c, d, h⟩
        · exact Or.inl (Or.inr (Or.inr ⟨c, t, d, by omega, h⟩))
theorem fb_out {m0 : Mem} {r0 b0 : Int} {l0 : Int → Int} (hh : hsM m0) (hm : moM m0) : ∀ (k : Nat) (a1 b : Int) (u2 : Vl) (m : Mem), 0 ≤ a1 → a1 ≤ m0 44 5 → (m0 44 5 - a1).toNat ≤ k → bmF m0 m → isB m0 b m → bsP (cdS m0 a1) b → w_X10_findBought_17 m0 r0 b0 l0 (fbP m0) a1 u2 m := by
  have h5 := hh.2.2.2.2.2.1
  have hfin : ∀ (a1 b : Int) (m : Mem), a1 = m0 44 5 → bmF m0 m → isB m0 b m → bsP (cdS m0 a1) b → fbP m0 m := by
    intro a1 b m e hF hB hS
    refine ⟨b, hB, hF, bsP_eqv (fun x => ?_) hS⟩
    constructor
    · rintro (h | ⟨s, c, s1, h⟩ | ⟨s, c, t, d, s1, h⟩)
      · exact Or.inl h
      · exact Or.inr (Or.inl ⟨s, c, h⟩)
      · exact Or.inr (Or.inr ⟨s, c, t, d, h⟩)
    · rintro (h | ⟨s, c, h⟩ | ⟨s, c, t, d, h⟩)
      · exact Or.inl h
      · exact Or.inr (Or.inl ⟨s, c, by rw [e]; exact h.1.1.1.2, h⟩)
      · exact Or.inr (Or.inr ⟨s, c, t, d, by rw [e]; exact h.1.1.1.2, h⟩)
  intro k
  induction k with
  | zero =>
    intro a1 b u2 m h0 h1 hk hF hB hS
    refine v_X10_findBought_17 (m0 := m0) (r := r0) (be := b0) (li := l0) ⟨fun _ => hfin a1 b m (by omega) hF hB hS, fun q => ?_⟩
    rw [hF.2 5 (by decide)] at q
    omega
  | succ k ih =>
    intro a1 b u2 m h0 h1 hk hF hB hS
    refine v_X10_findBought_17 (m0 := m0) (r := r0) (be := b) (li := l0) ⟨fun q => hfin a1 b m (by rw [hF.2 5 (by decide)] at q; omega) hF hB hS, fun q => ?_⟩
    rw [hF.2 5 (by decide)] at q
    rw [hF.1.at 48, hF.1.at 46]
    have hnext : ∀ m9 : Mem, omP m0 b a1 m9 → (inR (a1 + 1)) ∧ (w_X10_findBought_62 m0 r0 b l0 (fbP m0) a1 (a1 + 1) m9) := by
      rintro m9 ⟨b2, hB2, hF2, hg⟩
      refine ⟨by unfold inR; omega, fb_in hh hm h0 q (fun u2 b m hF hB hS => ih (a1 + 1) b u2 m (by omega) (by omega) (by omega) hF hB hS) _ (a1 + 1) b2 m9 (by omega) (by omega) (Nat.le_refl _) hF2 hB2 (bsP_mrg hS hg (isB_b hB2) (fun x => ?_))⟩
      constructor
      · rintro (h | ⟨c, h⟩)
        · exact Or.inl h
        · exact Or.inr (Or.inl ⟨c, h⟩)
      · rintro (h | ⟨c, h⟩ | ⟨c, t, d, t1, h⟩)
        · exact Or.inl h
        · exact Or.inr ⟨c, h⟩
        · have := h.1.2.1.1
          omega
    exact ⟨by unfold inR; omega, by unfold inR; omega, by omega, by omega, by unfold inR; omega, by omega, by omega, fun z => ⟨⟨⟨hh, hm⟩, hF, hB, ⟨h0, q⟩, rfl, Or.inr ⟨rfl, z⟩⟩, fun m9 h9 => hnext m9 h9⟩, fun z => ⟨⟨⟨hh, hm⟩, hF, hB, ⟨h0, q⟩, rfl, Or.inl ⟨rfl, z⟩⟩, fun m12 h12 => hnext m12 h12⟩⟩
theorem c_X10_findBought {m0 : Mem} (hh : hsM m0) (hm : moM m0) : Tot mX10_findBought 0 0 [vR 44] SH m0 (Pn SH (fbP m0)) := by
  have h5 := hh.2.2.2.2.2.1
  refine v_X10_findBought (m0 := m0) (r := 0) (be := 28561000) (li := li0M m0) (fun m1 e1 => ?_)
  have hb1 : bmF m0 m1 := by
    rw [e1]
    exact ⟨Fr.rf.set (by decide), fun k hk => by rw [mset_at, if_neg (by omega)]⟩
  refine ⟨(bm_hs hb1).mpr hh, (bm_mo hb1).mpr hm, fun m4 h4 => ?_⟩
  have hf4 := fl0M hh hb1 h4
  have hB4 : isB m0 28561000 m4 := Or.inl ⟨rfl, by rw [h4.1.at 44, e1, mset_eq]⟩
  refine ⟨⟨hh, hf4, enc0, hB4⟩, fun m6 h6 => ?_⟩
  obtain ⟨b, hB, hF, hg⟩ := h6
  refine fb_out hh hm _ 0 b _ m6 (by omega) h5.1 (Nat.le_refl _) hF hB (bsP_mrg (C := fun _ => False) ⟨Or.inl rfl, by decide, fun r hr => hr.elim⟩ hg (isB_b hB) (fun x => ?_))
  constructor
  · rintro (h | h)
    · exact h.elim
    · exact Or.inl h
  · rintro (h | ⟨s, c, s1, h⟩ | ⟨s, c, t, d, s1, h⟩)
    · exact Or.inr h
    · have := h.1.1.1.1
      omega
    · have := h.1.1.1.1
      omega
set_option maxRecDepth 20000 in
theorem v_X10_toBuy {s : Int} {P : Int → Mem → Prop} {mem : Mem}  (H : (s = (-9) → (hsM mem) ∧ ((moM mem) ∧ (∀ m3 : Mem, fbP mem m3 → (((m3 44 40) = (-9) → P (m3 44 40) m3) ∧ (¬ (m3 44 40) = (-9) → P (m3 44 40) m3))))) ∧ (¬ s = (-9) → (hsM mem) ∧ ((¬ (0 ≤ s ∧ s < mem 44 5) → P (-1) mem) ∧ ((0 ≤ s ∧ s < mem 44 5) → (inR (2 + s)) ∧ ((0 ≤ (2 + s)) ∧ (((2 + s) < 10) ∧ (((mem 48 (2 + s).toNat) = (-9) → (moM mem) ∧ (∀ m9 : Mem, fbP mem m9 → (((m9 44 40) = (-9) → P (m9 44 40) m9) ∧ (¬ (m9 44 40) = (-9) → (s < 4) ∧ ((¬ (m9 65 s.toNat) = (-9) → P (m9 65 s.toNat) m9) ∧ ((m9 65 s.toNat) = (-9) → P (-5) m9)))))) ∧ (¬ (mem 48 (2 + s).toNat) = (-9) → P (-1) mem)))))))) : Tot mX10_toBuy 0 0 [vR 44, vI s] SH mem (Pr SH P) := by
  refine Tot.of rfl (Nat.le_of_ble_eq_true rfl) (by simp [isJ]) (ls := [vR 44, vI s]) rfl ?_
  refine q_iload_n dX10_toBuy_0 rfl ?_
  refine q_bipush dX10_toBuy_1 rfl (by decide) ?_
  refine q_icmp_eq (tgt := 29) dX10_toBuy_3 (by decide) (fun c3 => ?_) (fun c3 => ?_)
  · have H := H.1 c3
    refine q_aload_n dX10_toBuy_29 rfl ?_
    obtain ⟨h1, H⟩ := H
    obtain ⟨h2, H⟩ := H
    refine q_cVn (as := []) dX10_toBuy_30 kmX10_findBought kvX10_findBought lm_RX10_259 ⟨by decide, by decide⟩ s44 ⟨by decide, rfl⟩ rfl rfl (Nat.le_of_ble_eq_true rfl) (c_X10_findBought h1 h2) (fun m1 hq => ?_)
    have H := H m1 hq
    refine q_aload_n dX10_toBuy_33 rfl ?_
    refine q_geti dX10_toBuy_34 lf_RX10_241 s44 rfl ?_
    refine q_bipush dX10_toBuy_37 rfl (by decide) ?_
    refine q_icmp_eq (tgt := 48) dX10_toBuy_39 (by decide) (fun c39 => ?_) (fun c39 => ?_)
    · have H := H.1 c39
      refine q_aload_n dX10_toBuy_48 rfl ?_
      refine q_geti dX10_toBuy_49 lf_RX10_241 s44 rfl ?_
      exact q_iret dX10_toBuy_52 rfl ⟨_, rfl, rfl, H⟩
    · have H := H.2 c39
      refine q_iload_n dX10_toBuy_42 rfl ?_
      refine q_bipush dX10_toBuy_43 rfl (by decide) ?_
      refine q_icmp_ne (tgt := 53) dX10_toBuy_45 (by decide) (fun c => absurd c3 (by omega)) (fun _ => ?_)
      refine q_aload_n dX10_toBuy_48 rfl ?_
      refine q_geti dX10_toBuy_49 lf_RX10_241 s44 rfl ?_
      exact q_iret dX10_toBuy_52 rfl ⟨_, rfl, rfl, H⟩
  · have H := H.2 c3
    refine q_aload_n dX10_toBuy_6 rfl ?_
    refine q_iload_n dX10_toBuy_7 rfl ?_
    obtain ⟨h4, H⟩ := H
    refine q_cVi (as := [vI _]) dX10_toBuy_8 kmX10_isSheet kvX10_isSheet lm_RX10_204 ⟨by decide, by decide⟩ s44 ⟨by decide, rfl⟩ rfl rfl (Nat.le_of_ble_eq_true rfl) (c_X10_isSheet h4) (fun v m1 hq => ?_)
    obtain ⟨rfl, rfl⟩ := hq
    refine q_if_eq (tgt := 27) dX10_toBuy_11 (by decide) (fun c11 => ?_) (fun c11 => ?_)
    · have H := H.1 (b_no c11)
      refine q_iconst dX10_toBuy_27 (by decide) ?_
      exact q_iret dX10_toBuy_28 rfl ⟨_, rfl, rfl, H⟩
    · have H := H.2 (b_yes c11)
      refine q_aload_n dX10_toBuy_14 rfl ?_
      refine q_getr (r := 48) dX10_toBuy_15 lf_RX10_29 s44 rfl rfl ?_
      refine q_iconst dX10_toBuy_18 (by decide) ?_
      refine q_iload_n dX10_toBuy_19 rfl ?_
      obtain ⟨h5, H⟩ := H
      refine q_iadd dX10_toBuy_20 h5 ?_
      obtain ⟨h6, H⟩ := H
      obtain ⟨h7, H⟩ := H
      refine q_iald dX10_toBuy_21 s48 h6 h7 ?_
      refine q_bipush dX10_toBuy_22 rfl (by decide) ?_
      refine q_icmp_eq (tgt := 29) dX10_toBuy_24 (by decide) (fun c24 => ?_) (fun c24 => ?_)
      · have H := H.1 c24
        refine q_aload_n dX10_toBuy_29 rfl ?_
        obtain ⟨h8, H⟩ := H
        refine q_cVn (as := []) dX10_toBuy_30 kmX10_findBought kvX10_findBought lm_RX10_259 ⟨by decide, by decide⟩ s44 ⟨by decide, rfl⟩ rfl rfl (Nat.le_of_ble_eq_true rfl) (c_X10_findBought h4 h8) (fun m1 hq => ?_)
        have H := H m1 hq
        refine q_aload_n dX10_toBuy_33 rfl ?_
        refine q_geti dX10_toBuy_34 lf_RX10_241 s44 rfl ?_
        refine q_bipush dX10_toBuy_37 rfl (by decide) ?_
        refine q_icmp_eq (tgt := 48) dX10_toBuy_39 (by decide) (fun c39 => ?_) (fun c39 => ?_)
        · have H := H.1 c39
          refine q_aload_n dX10_toBuy_48 rfl ?_
          refine q_geti dX10_toBuy_49 lf_RX10_241 s44 rfl ?_
          exact q_iret dX10_toBuy_52 rfl ⟨_, rfl, rfl, H⟩
        · have H := H.2 c39
          refine q_iload_n dX10_toBuy_42 rfl ?_
          refine q_bipush dX10_toBuy_43 rfl (by decide) ?_
          refine q_icmp_ne (tgt := 53) dX10_toBuy_45 (by decide) (fun _ => ?_) (fun c => absurd c3 (by omega))
          refine q_aload_n dX10_toBuy_53 rfl ?_
          refine q_getr (r := 65) dX10_toBuy_54 lf_RX10_81 s44 rfl rfl ?_
          refine q_iload_n dX10_toBuy_57 rfl ?_
          obtain ⟨h10, H⟩ := H
          refine q_iald dX10_toBuy_58 s65 (b_yes c11).1 h10 ?_
          refine q_bipush dX10_toBuy_59 rfl (by decide) ?_
          refine q_icmp_ne (tgt := 69) dX10_toBuy_61 (by decide) (fun c61 => ?_) (fun c61 => ?_)
          · have H := H.1 c61
            refine q_aload_n dX10_toBuy_69 rfl ?_
            refine q_getr (r := 65) dX10_toBuy_70 lf_RX10_81 s44 rfl rfl ?_
            refine q_iload_n dX10_toBuy_73 rfl ?_
            refine q_iald dX10_toBuy_74 s65 (b_yes c11).1 h10 ?_
            exact q_iret dX10_toBuy_75 rfl ⟨_, rfl, rfl, H⟩
          · have H := H.2 c61
            refine q_bipush dX10_toBuy_64 rfl (by decide) ?_
            refine q_goto (tgt := 75) dX10_toBuy_66 (by decide) ?_
            exact q_iret dX10_toBuy_75 rfl ⟨_, rfl, rfl, H⟩
      · have H := H.2 c24
        refine q_iconst dX10_toBuy_27 (by decide) ?_
        exact q_iret dX10_toBuy_28 rfl ⟨_, rfl, rfl, H⟩


def tbC (m : Mem) (s : Int) : Prop := s = -9 ∨ ((0 ≤ s ∧ s < m 44 5) ∧ m 48 (2 + s).toNat = -9)
def tbM (m0 : Mem) (s v : Int) (m : Mem) : Prop := (tbC m0 s ∧ (∃ b, bsP (cdE m0) b ∧ v = if b = 28561000 then -9 else if s = -9 then b / 28561 else ceV b s) ∧ bmF m0 m) ∨ (¬ tbC m0 s ∧ v = -1 ∧ m = m0)
theorem c_X10_toBuy {m0 : Mem} {s : Int} (hh : hsM m0) (hm : moM m0) : Tot mX10_toBuy 0 0 [vR 44, vI s] SH m0 (Pr SH (tbM m0 s)) := by
  have h5 := hh.2.2.2.2.2.1
  have h40 : ∀ (b : Int) (m : Mem), isB m0 b m → (m 44 40 = -9 ↔ b = 28561000) ∧ (b ≠ 28561000 → m 44 40 = b / 28561) := by
    intro b m hB
    rcases hB with ⟨e, e2⟩ | ⟨e, e2⟩
    · exact ⟨⟨fun _ => e, fun _ => e2⟩, fun z => absurd e z⟩
    · exact ⟨⟨fun z => by have := e2.2.1; omega, fun z => by omega⟩, fun _ => e2.2.1⟩
  refine v_X10_toBuy ⟨fun q => ⟨hh, hm, fun m2 h2 => ?_⟩, fun q => ⟨hh, fun q2 => Or.inr ⟨fun z => z.elim q (fun y => q2 y.1), rfl, rfl⟩, fun q2 => ⟨by unfold inR; omega, by omega, by omega, fun z => ⟨hm, fun m8 h8 => ?_⟩, fun z => Or.inr ⟨fun y => y.elim q (fun x => z x.2), rfl, rfl⟩⟩⟩⟩
  · obtain ⟨b, hB, hF, hS⟩ := h2
    have h4 := h40 b m2 hB
    refine ⟨fun z => Or.inl ⟨Or.inl q, ⟨b, hS, ?_⟩, hF⟩, fun z => Or.inl ⟨Or.inl q, ⟨b, hS, ?_⟩, hF⟩⟩
    · rw [if_pos (h4.1.mp z)]; exact z
    · rw [if_neg (fun y => z (h4.1.mpr y)), if_pos q]
      exact h4.2 (fun y => z (h4.1.mpr y))
  · obtain ⟨b, hB, hF, hS⟩ := h8
    have h4 := h40 b m8 hB
    refine ⟨fun y => Or.inl ⟨Or.inr ⟨q2, z⟩, ⟨b, hS, ?_⟩, hF⟩, fun y => ⟨by omega, ?_⟩⟩
    · rw [if_pos (h4.1.mp y)]; exact y
    · have hne : ¬ b = 28561000 := fun x => y (h4.1.mpr x)
      have h65 : m8 65 s.toNat = if digF b s = 0 then -9 else digF b s - 1 := by
        rcases hB with ⟨e, -⟩ | ⟨-, e⟩
        · exact absurd e hne
        · rw [e.2.2 s q2.1 (by omega), lie_no (fun x => x.2 z)]
      have hce : ceV b s = if digF b s = 0 then -5 else digF b s - 1 := rfl
      have hd := dig_b (r := b) (i := s)
      refine ⟨fun x => Or.inl ⟨Or.inr ⟨q2, z⟩, ⟨b, hS, ?_⟩, hF⟩, fun x => Or.inl ⟨Or.inr ⟨q2, z⟩, ⟨b, hS, ?_⟩, hF⟩⟩
      · rw [if_neg hne, if_neg q, hce]
        rw [h65] at x ⊢
        by_cases c : digF b s = 0
        · rw [if_pos c] at x
          exact absurd rfl x
        · rw [if_neg c, if_neg c]
      · rw [if_neg hne, if_neg q, hce]
        rw [h65] at x
        by_cases c : digF b s = 0
        · rw [if_pos c]
        · rw [if_neg c] at x
          omega
