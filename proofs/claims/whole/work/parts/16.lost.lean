/-! sound(from): a row of losses is settled; lost(from, to) -/
/-- what a method of the class needs of the floor, and the loss that it tells -/
def flOK (m : Mem) : Prop := okGD m ∧ nextOK (m 4 5) (m 4 3) (m 37) ∧ stepOK (m 4 5) (ctD m) (m 37) (m 38)
noncomputable abbrev DD (m : Mem) : Int → Int → Int := dist (m 4 5) (m 4 3) (ctD m)

/-- what passOn asks -/
def pasQ (m0 : Mem) (f : Int) (m : Mem) (row c n : Int) : Prop := n = m0 4 5 ∧ row = 12 * f ∧ flOK m0 ∧ 0 ≤ f ∧ f < n ∧ 0 ≤ c ∧ c < n ∧ m 37 = m0 37 ∧ m 38 = m0 38 ∧ tight n (m0 4 3) 1000000 (ctD m0) f (rowD m row)
theorem okGD_g {m : Mem} (h : okGD m) : grid (m 4 5) (m 4 3) ∧ costs (m 4 5) (ctD m) := by
  obtain ⟨h1, h2⟩ := h
  rw [h2]
  exact ⟨okG_grid h1, okG_costs h1⟩
theorem c_pas {m0 m : Mem} {f row c n : Int} (h : pasQ m0 f m row c n) : Tot mX1_passOn 0 0 [vR 34, vI row, vI c, vI n] SH m (Pr SH (pasP m (m0 4 5) (m0 4 3) (ctD m0) f row c)) := by
  obtain ⟨rfl, rfl, hfl, f0, fn, c0, cn, e37, e38, ht⟩ := h
  obtain ⟨hg, hcs⟩ := okGD_g hfl.1
  have hn := grid_n hg
  exact c_X1_passOn hg hcs (by rw [e37]; exact hfl.2.1) (by rw [e37, e38]; exact hfl.2.2) (by omega) (by omega) f0 c0 cn ht
def w_X1_sound_16 (m0 : Mem) (f : Int) (P : Mem → Prop) (a2 : Int) (a3 : Int) (a4 : Int) (u5 : Vl) (u6 : Vl) (u7 : Vl) (mem : Mem) : Prop := WP mX1_sound none 0 0 (Pn SH P) 16 [vR 34, vI f, vI a2, vI a3, vI a4, u5, u6, u7] [] SH mem
def w_X1_sound_55 (m0 : Mem) (f : Int) (P : Mem → Prop) (a2 : Int) (a3 : Int) (a4 : Int) (a5 : Int) (u6 : Vl) (u7 : Vl) (mem : Mem) : Prop := WP mX1_sound none 0 0 (Pn SH P) 55 [vR 34, vI f, vI a2, vI a3, vI a4, vI a5, u6, u7] [] SH mem
def w_X1_sound_72 (m0 : Mem) (f : Int) (P : Mem → Prop) (a2 : Int) (a3 : Int) (a4 : Int) (a5 : Int) (a6 : Int) (u7 : Vl) (mem : Mem) : Prop := WP mX1_sound none 0 0 (Pn SH P) 72 [vR 34, vI f, vI a2, vI a3, vI a4, vI a5, vI a6, u7] [] SH mem
set_option maxRecDepth 20000 in
theorem v_X1_sound_16 {m0 : Mem} {f : Int} {P : Mem → Prop} {a2 : Int} {a3 : Int} {a4 : Int} {u5 : Vl} {u6 : Vl} {u7 : Vl} {mem : Mem}  (H : (a2 ≤ a4 → w_X1_sound_55 m0 f P a2 a3 1 0 u6 u7 mem) ∧ (a4 < a2 → (inR (a3 + a4)) ∧ ((¬ a4 = f → (0 ≤ (a3 + a4)) ∧ (((a3 + a4) < 144) ∧ (∀ m4 : Mem, m4 = mset mem 39 (a3 + a4).toNat 1000000 → ((inR (a4 + 1)) ∧ (w_X1_sound_16 m0 f P a2 a3 (a4 + 1) u5 u6 u7 m4))))) ∧ (a4 = f → (0 ≤ (a3 + a4)) ∧ (((a3 + a4) < 144) ∧ (∀ m8 : Mem, m8 = mset mem 39 (a3 + a4).toNat 0 → ((inR (a4 + 1)) ∧ (w_X1_sound_16 m0 f P a2 a3 (a4 + 1) u5 u6 u7 m8)))))))) : w_X1_sound_16 m0 f P a2 a3 a4 u5 u6 u7 mem := by
  unfold w_X1_sound_16
  refine q_iload dX1_sound_16 rfl ?_
  refine q_iload_n dX1_sound_18 rfl ?_
  refine q_icmp_ge (tgt := 49) dX1_sound_19 (by decide) (fun c19 => ?_) (fun c19 => ?_)
  · have H := H.1 c19
    refine q_iconst dX1_sound_49 (by decide) ?_
    refine q_istore dX1_sound_50 (by decide) rfl ?_
    refine q_iconst dX1_sound_52 (by decide) ?_
    refine q_istore dX1_sound_53 (by decide) rfl ?_
    exact H
  · have H := H.2 c19
    refine q_aload_n dX1_sound_22 rfl ?_
    refine q_getr (r := 39) dX1_sound_23 lf_RX1_24 s34 rfl rfl ?_
    refine q_iload_n dX1_sound_26 rfl ?_
    refine q_iload dX1_sound_27 rfl ?_
    obtain ⟨h1, H⟩ := H
    refine q_iadd dX1_sound_29 h1 ?_
    refine q_iload dX1_sound_30 rfl ?_
    refine q_iload_n dX1_sound_32 rfl ?_
    refine q_icmp_ne (tgt := 40) dX1_sound_33 (by decide) (fun c33 => ?_) (fun c33 => ?_)
    · have H := H.1 c33
      refine q_ldc (n := 1000000) dX1_sound_40 lk_RX1_99 (by decide) ?_
      obtain ⟨h2, H⟩ := H
      obtain ⟨h3, H⟩ := H
      refine q_iast dX1_sound_42 s39 h2 h3 ?_
      have H := H _ rfl
      obtain ⟨h5, H⟩ := H
      refine q_iinc dX1_sound_43 rfl h5 rfl ?_
      refine q_goto (tgt := 16) dX1_sound_46 (by decide) ?_
      exact H
    · have H := H.2 c33
      refine q_iconst dX1_sound_36 (by decide) ?_
      refine q_goto (tgt := 42) dX1_sound_37 (by decide) ?_
      obtain ⟨h6, H⟩ := H
      obtain ⟨h7, H⟩ := H
      refine q_iast dX1_sound_42 s39 h6 h7 ?_
      have H := H _ rfl
      obtain ⟨h9, H⟩ := H
      refine q_iinc dX1_sound_43 rfl h9 rfl ?_
      refine q_goto (tgt := 16) dX1_sound_46 (by decide) ?_
      exact H
set_option maxRecDepth 20000 in
theorem v_X1_sound_55 {m0 : Mem} {f : Int} {P : Mem → Prop} {a2 : Int} {a3 : Int} {a4 : Int} {a5 : Int} {u6 : Vl} {u7 : Vl} {mem : Mem}  (H : (a2 ≤ a5 → (0 ≤ f) ∧ ((f < 12) ∧ (∀ m3 : Mem, m3 = mset mem 40 f.toNat 1 → (P m3)))) ∧ (a5 < a2 → (a4 = 0 → (0 ≤ f) ∧ ((f < 12) ∧ (∀ m6 : Mem, m6 = mset mem 40 f.toNat 1 → (P m6)))) ∧ (¬ a4 = 0 → w_X1_sound_72 m0 f P a2 a3 0 a5 0 u7 mem))) : w_X1_sound_55 m0 f P a2 a3 a4 a5 u6 u7 mem := by
  unfold w_X1_sound_55
  refine q_iload dX1_sound_55 rfl ?_
  refine q_iload_n dX1_sound_57 rfl ?_
  refine q_icmp_ge (tgt := 123) dX1_sound_58 (by decide) (fun c58 => ?_) (fun c58 => ?_)
  · have H := H.1 c58
    refine q_aload_n dX1_sound_123 rfl ?_
    refine q_getr (r := 40) dX1_sound_124 lf_RX1_27 s34 rfl rfl ?_
    refine q_iload_n dX1_sound_127 rfl ?_
    refine q_iconst dX1_sound_128 (by decide) ?_
    obtain ⟨h1, H⟩ := H
    obtain ⟨h2, H⟩ := H
    refine q_zast dX1_sound_129 s40 h1 h2 (by decide) ?_
    have H := H _ rfl
    exact q_vret dX1_sound_130 rfl ⟨rfl, rfl, H⟩
  · have H := H.2 c58
    refine q_iload dX1_sound_61 rfl ?_
    refine q_if_eq (tgt := 123) dX1_sound_63 (by decide) (fun c63 => ?_) (fun c63 => ?_)
    · have H := H.1 c63
      refine q_aload_n dX1_sound_123 rfl ?_
      refine q_getr (r := 40) dX1_sound_124 lf_RX1_27 s34 rfl rfl ?_
      refine q_iload_n dX1_sound_127 rfl ?_
      refine q_iconst dX1_sound_128 (by decide) ?_
      obtain ⟨h4, H⟩ := H
      obtain ⟨h5, H⟩ := H
      refine q_zast dX1_sound_129 s40 h4 h5 (by decide) ?_
      have H := H _ rfl
      exact q_vret dX1_sound_130 rfl ⟨rfl, rfl, H⟩
    · have H := H.2 c63
      refine q_iconst dX1_sound_66 (by decide) ?_
      refine q_istore dX1_sound_67 (by decide) rfl ?_
      refine q_iconst dX1_sound_69 (by decide) ?_
      refine q_istore dX1_sound_70 (by decide) rfl ?_
      exact H
set_option maxRecDepth 20000 in
theorem v_X1_sound_72 {m0 : Mem} {f : Int} {P : Mem → Prop} {a2 : Int} {a3 : Int} {a4 : Int} {a5 : Int} {a6 : Int} {u7 : Vl} {mem : Mem}  (H : (a2 ≤ a6 → (inR (a5 + 1)) ∧ (w_X1_sound_55 m0 f P a2 a3 a4 (a5 + 1) (vI a6) u7 mem)) ∧ (a6 < a2 → (0 ≤ a5) ∧ ((¬ (a5 % 2) = 0 → (inR (a2 - 1)) ∧ ((inR ((a2 - 1) - a6)) ∧ ((pasQ m0 f mem a3 ((a2 - 1) - a6) a2) ∧ (∀ (v6 : Int) (m7 : Mem), pasP mem (m0 4 5) (m0 4 3) (ctD m0) f a3 ((a2 - 1) - a6) v6 m7 → ((0 ≤ a4) ∧ ((0 ≤ v6) ∧ ((inR (a6 + 1)) ∧ (w_X1_sound_72 m0 f P a2 a3 (((a4).toNat ||| (v6).toNat : Nat) : Int) a5 (a6 + 1) (vI ((a2 - 1) - a6)) m7)))))))) ∧ ((a5 % 2) = 0 → (pasQ m0 f mem a3 a6 a2) ∧ (∀ (v12 : Int) (m13 : Mem), pasP mem (m0 4 5) (m0 4 3) (ctD m0) f a3 a6 v12 m13 → ((0 ≤ a4) ∧ ((0 ≤ v12) ∧ ((inR (a6 + 1)) ∧ (w_X1_sound_72 m0 f P a2 a3 (((a4).toNat ||| (v12).toNat : Nat) : Int) a5 (a6 + 1) (vI a6) m13))))))))) : w_X1_sound_72 m0 f P a2 a3 a4 a5 a6 u7 mem := by
  unfold w_X1_sound_72
  refine q_iload dX1_sound_72 rfl ?_
  refine q_iload_n dX1_sound_74 rfl ?_
  refine q_icmp_ge (tgt := 117) dX1_sound_75 (by decide) (fun c75 => ?_) (fun c75 => ?_)
  · have H := H.1 c75
    obtain ⟨h1, H⟩ := H
    refine q_iinc dX1_sound_117 rfl h1 rfl ?_
    refine q_goto (tgt := 55) dX1_sound_120 (by decide) ?_
    exact H
  · have H := H.2 c75
    refine q_iload dX1_sound_78 rfl ?_
    refine q_iconst dX1_sound_80 (by decide) ?_
    obtain ⟨h2, H⟩ := H
    refine q_irem dX1_sound_81 h2 (by decide) ?_
    refine q_if_ne (tgt := 90) dX1_sound_82 (by decide) (fun c82 => ?_) (fun c82 => ?_)
    · have H := H.1 c82
      refine q_iload_n dX1_sound_90 rfl ?_
      refine q_iconst dX1_sound_91 (by decide) ?_
      obtain ⟨h3, H⟩ := H
      refine q_isub dX1_sound_92 h3 ?_
      refine q_iload dX1_sound_93 rfl ?_
      obtain ⟨h4, H⟩ := H
      refine q_isub dX1_sound_95 h4 ?_
      refine q_istore dX1_sound_96 (by decide) rfl ?_
      refine q_iload dX1_sound_98 rfl ?_
      refine q_aload_n dX1_sound_100 rfl ?_
      refine q_iload_n dX1_sound_101 rfl ?_
      refine q_iload dX1_sound_102 rfl ?_
      refine q_iload_n dX1_sound_104 rfl ?_
      obtain ⟨h5, H⟩ := H
      refine q_cVi (as := [vI _, vI _, vI _]) dX1_sound_105 kmX1_passOn kvX1_passOn lm_RX1_104 ⟨by decide, by decide⟩ s34 ⟨by decide, rfl⟩ rfl rfl (Nat.le_of_ble_eq_true rfl) (c_pas h5) (fun v m1 hq => ?_)
      have H := H v m1 hq
      obtain ⟨h8, H⟩ := H
      obtain ⟨h9, H⟩ := H
      refine q_ior dX1_sound_108 h8 h9 ?_
      refine q_istore dX1_sound_109 (by decide) rfl ?_
      obtain ⟨h10, H⟩ := H
      refine q_iinc dX1_sound_111 rfl h10 rfl ?_
      refine q_goto (tgt := 72) dX1_sound_114 (by decide) ?_
      exact H
    · have H := H.2 c82
      refine q_iload dX1_sound_85 rfl ?_
      refine q_goto (tgt := 96) dX1_sound_87 (by decide) ?_
      refine q_istore dX1_sound_96 (by decide) rfl ?_
      refine q_iload dX1_sound_98 rfl ?_
      refine q_aload_n dX1_sound_100 rfl ?_
      refine q_iload_n dX1_sound_101 rfl ?_
      refine q_iload dX1_sound_102 rfl ?_
      refine q_iload_n dX1_sound_104 rfl ?_
      obtain ⟨h11, H⟩ := H
      refine q_cVi (as := [vI _, vI _, vI _]) dX1_sound_105 kmX1_passOn kvX1_passOn lm_RX1_104 ⟨by decide, by decide⟩ s34 ⟨by decide, rfl⟩ rfl rfl (Nat.le_of_ble_eq_true rfl) (c_pas h11) (fun v m1 hq => ?_)
      have H := H v m1 hq
      obtain ⟨h14, H⟩ := H
      obtain ⟨h15, H⟩ := H
      refine q_ior dX1_sound_108 h14 h15 ?_
      refine q_istore dX1_sound_109 (by decide) rfl ?_
      obtain ⟨h16, H⟩ := H
      refine q_iinc dX1_sound_111 rfl h16 rfl ?_
      refine q_goto (tgt := 72) dX1_sound_114 (by decide) ?_
      exact H
set_option maxRecDepth 20000 in
theorem v_X1_sound {m0 : Mem} {f : Int} {P : Mem → Prop} {mem : Mem}  (H : (inR (f * 12)) ∧ (w_X1_sound_16 m0 f P (mem 4 5) (f * 12) 0 (vJ 0) (vJ 0) (vJ 0) mem)) : Tot mX1_sound 0 0 [vR 34, vI f] SH mem (Pn SH P) := by
  refine Tot.of rfl (Nat.le_of_ble_eq_true rfl) (by simp [isJ]) (ls := [vR 34, vI f, vJ 0, vJ 0, vJ 0, vJ 0, vJ 0, vJ 0]) rfl ?_
  refine q_aload_n dX1_sound_0 rfl ?_
  refine q_getr (r := 4) dX1_sound_1 lf_RX1_31 s34 rfl rfl ?_
  refine q_geti dX1_sound_4 lf_RX1_82 s4 rfl ?_
  refine q_istore_n dX1_sound_7 (by decide) rfl ?_
  refine q_iload_n dX1_sound_8 rfl ?_
  refine q_bipush dX1_sound_9 rfl (by decide) ?_
  obtain ⟨h1, H⟩ := H
  refine q_imul dX1_sound_11 h1 ?_
  refine q_istore_n dX1_sound_12 (by decide) rfl ?_
  refine q_iconst dX1_sound_13 (by decide) ?_
  refine q_istore dX1_sound_14 (by decide) rfl ?_
  exact H


theorem tight_ge {n w far : Int} {ct : Int → Int → Int} {f : Int} {d D : Int → Int} (hc : costs n ct) (hf : 1100 ≤ far) (h : isD n w ct f D) (ht : tight n w far ct f d) : ∀ (k : Nat) (b : Int), 0 ≤ b → b < n → (d b).toNat ≤ k → D b ≤ d b := by
  intro k
  induction k with
  | zero =>
    intro b b0 bn hk
    by_cases hb : b = f
    · rw [hb, h.1, ht.1]; exact Int.le_refl _
    · have hb2 := h.2.1 b b0 bn
      rcases ht.2.2 b b0 bn hb with q | ⟨a, a0, an, hn, ha⟩
      · omega
      · have h1 := (hc a b a0 an b0 bn).1
        have h2 := (ht.2.1 a a0 an).1
        omega
  | succ k ih =>
    intro b b0 bn hk
    by_cases hb : b = f
    · rw [hb, h.1, ht.1]; exact Int.le_refl _
    · have hb2 := h.2.1 b b0 bn
      rcases ht.2.2 b b0 bn hb with q | ⟨a, a0, an, hn, ha⟩
      · omega
      · have h1 := (hc a b a0 an b0 bn).1
        have h2 := (ht.2.1 a a0 an).1
        have h3 := ih a a0 an (by omega)
        have h4 := h.2.2.1 a b a0 an b0 bn hn
        omega
def settled (n : Int) (D d : Int → Int) (r : Int) : Prop := ∀ b : Int, 0 ≤ b → b < n → (rk D (D b) n.toNat : Int) ≤ r → d b = D b
theorem settled_0 {n w : Int} {ct : Int → Int → Int} {f : Int} {d D : Int → Int} (hc : costs n ct) (f0 : 0 ≤ f) (fn : f < n) (h : isD n w ct f D) (hd : d f = 0) : settled n D d 0 := by
  intro b b0 bn hr
  by_cases hb : b = f
  · rw [hb, hd, h.1]
  · obtain ⟨a, a0, an, hn, ha⟩ := h.2.2.2 b b0 bn hb
    have h1 := (hc a b a0 an b0 bn).1
    have h2 := (h.2.1 a a0 an).1
    have h3 := rk_lt (d := D) (u := 0) (v := D b) (a := f) (by omega) f0 (by rw [h.1]; exact Int.le_refl _) (by rw [h.1]; omega) n.toNat (by omega)
    omega
theorem settled_1 {n w far : Int} {ct : Int → Int → Int} {f r : Int} {d d' D : Int → Int} (hc : costs n ct) (hf : 1100 ≤ far) (h : isD n w ct f D) (ht : tight n w far ct f d') (hs : settled n D d r) (hp : ∀ a b : Int, 0 ≤ a → a < n → 0 ≤ b → b < n → nbr w a b → d' b ≤ d a + ct a b) : settled n D d' (r + 1) := by
  intro b b0 bn hr
  have hge := tight_ge hc hf h ht _ b b0 bn (Nat.le_refl _)
  by_cases hb : b = f
  · rw [hb, ht.1, h.1]
  · obtain ⟨a, a0, an, hn, ha⟩ := h.2.2.2 b b0 bn hb
    have h1 := (hc a b a0 an b0 bn).1
    have h3 := rk_lt (d := D) (u := D a) (v := D b) (a := a) (by omega) a0 (Int.le_refl _) (by omega) n.toNat (by omega)
    have h4 := hs a a0 an (by omega)
    have h5 := hp a b a0 an b0 bn hn
    omega
/-- in a round: what stands behind some of its cells -/
def rndI (m0 : Mem) (f r : Int) (d0 : Int → Int) (a4 a6 : Int) (m : Mem) : Prop := Fr [39] m0 m ∧ rowFr m0 m (12 * f) (m0 4 5) ∧ tight (m0 4 5) (m0 4 3) 1000000 (ctD m0) f (rowD m (12 * f)) ∧ (∀ b : Int, 0 ≤ b → b < m0 4 5 → rowD m (12 * f) b ≤ d0 b) ∧ (∀ i : Int, 0 ≤ i → i < a6 → ∀ b : Int, 0 ≤ b → b < m0 4 5 → nbr (m0 4 3) (if r % 2 = 0 then i else m0 4 5 - 1 - i) b → rowD m (12 * f) b ≤ d0 (if r % 2 = 0 then i else m0 4 5 - 1 - i) + ctD m0 (if r % 2 = 0 then i else m0 4 5 - 1 - i) b) ∧ ((a4 = 0 ∧ ∀ b : Int, 0 ≤ b → b < m0 4 5 → rowD m (12 * f) b = d0 b) ∨ a4 = 1)
theorem rnd_put {m0 : Mem} {f r : Int} {d0 : Int → Int} {a4 a6 c v : Int} {m m2 : Mem} (hc : c = if r % 2 = 0 then a6 else m0 4 5 - 1 - a6) (c0 : 0 ≤ c) (cn : c < m0 4 5) (hI : rndI m0 f r d0 a4 a6 m) (hp : pasP m (m0 4 5) (m0 4 3) (ctD m0) f (12 * f) c v m2) : rndI m0 f r d0 (((a4).toNat ||| (v).toNat : Nat) : Int) (a6 + 1) m2 := by
  obtain ⟨h1, h2, h3, h4, h5, h6⟩ := hI
  obtain ⟨g1, g2, g3, g4, g5, g6⟩ := hp
  refine ⟨h1.tr g1, h2.tr g2, g3, fun b b0 bn => Int.le_trans (g4 b b0 bn) (h4 b b0 bn), fun i i0 i1 b b0 bn hb => ?_, ?_⟩
  · by_cases hi : i = a6
    · rw [hi, ← hc] at hb ⊢
      have := g5 b b0 bn hb
      have := h4 c c0 cn
      omega
    · exact Int.le_trans (g4 b b0 bn) (h5 i i0 (by omega) b b0 bn hb)
  · rcases h6 with ⟨q1, q2⟩ | q1 <;> rcases g6 with ⟨p1, p2⟩ | p1
    · rw [q1, p1]
      exact Or.inl ⟨rfl, fun b b0 bn => (p2 b b0 bn).trans (q2 b b0 bn)⟩
    · rw [q1, p1]; exact Or.inr rfl
    · rw [q1, p1]; exact Or.inr rfl
    · rw [q1, p1]; exact Or.inr rfl
theorem rnd_loop {m0 : Mem} {f r : Int} {d0 : Int → Int} {P : Mem → Prop} (hfl : flOK m0) (f0 : 0 ≤ f) (fn : f < m0 4 5) (r0 : 0 ≤ r) (r1 : r < 1000)
    (Kout : ∀ (a4 : Int) (u6 u7 : Vl) (m : Mem), rndI m0 f r d0 a4 (m0 4 5) m → w_X1_sound_55 m0 f P (m0 4 5) (12 * f) a4 (r + 1) u6 u7 m) :
    ∀ (k : Nat) (a4 a6 : Int) (u7 : Vl) (m : Mem), 0 ≤ a6 → a6 ≤ m0 4 5 → (m0 4 5 - a6).toNat ≤ k → rndI m0 f r d0 a4 a6 m → w_X1_sound_72 m0 f P (m0 4 5) (12 * f) a4 r a6 u7 m := by
  have hn := grid_n (okGD_g hfl.1).1
  intro k
  induction k with
  | zero =>
    intro a4 a6 u7 m h0 h1 hk hI
    refine v_X1_sound_72 ⟨fun c => ⟨by omega, Kout _ _ _ _ (by rw [show a6 = m0 4 5 by omega] at hI; exact hI)⟩, fun c => by omega⟩
  | succ k ih =>
    intro a4 a6 u7 m h0 h1 hk hI
    have ha4 : 0 ≤ a4 := by rcases hI.2.2.2.2.2 with h | h <;> omega
    have hv : ∀ {c v : Int} {m2 : Mem}, pasP m (m0 4 5) (m0 4 3) (ctD m0) f (12 * f) c v m2 → 0 ≤ v := fun hp => by rcases hp.2.2.2.2.2 with h | h <;> omega
    refine v_X1_sound_72 ⟨fun c => ⟨by omega, Kout _ _ _ _ (by rw [show a6 = m0 4 5 by omega] at hI; exact hI)⟩, fun c => ⟨r0, fun c2 => ?_, fun c2 => ?_⟩⟩
    · refine ⟨by omega, by omega, ⟨rfl, rfl, hfl, f0, fn, by omega, by omega, hI.1.at 37, hI.1.at 38, hI.2.2.1⟩, fun v m7 hp => ⟨ha4, hv hp, by omega, ih _ _ _ _ (by omega) (by omega) (by omega) (rnd_put (by rw [if_neg c2]) (by omega) (by omega) hI hp)⟩⟩
    · refine ⟨⟨rfl, rfl, hfl, f0, fn, h0, c, hI.1.at 37, hI.1.at 38, hI.2.2.1⟩, fun v m7 hp => ⟨ha4, hv hp, by omega, ih _ _ _ _ (by omega) (by omega) (by omega) (rnd_put (by rw [if_pos c2]) (by omega) (by omega) hI hp)⟩⟩
/-- between rounds -/
def souI (m0 : Mem) (f r a4 : Int) (m : Mem) : Prop := Fr [39] m0 m ∧ rowFr m0 m (12 * f) (m0 4 5) ∧ tight (m0 4 5) (m0 4 3) 1000000 (ctD m0) f (rowD m (12 * f)) ∧ settled (m0 4 5) (DD m0 f) (rowD m (12 * f)) r ∧ (a4 = 0 → stable (m0 4 5) (m0 4 3) (ctD m0) (rowD m (12 * f)))
/-- what sound(f) does -/
def souP (m0 : Mem) (f : Int) (m : Mem) : Prop := ∃ m1 : Mem, m = mset m1 40 f.toNat 1 ∧ Fr [39] m0 m1 ∧ rowFr m0 m1 (12 * f) (m0 4 5) ∧ ∀ c : Int, 0 ≤ c → c < m0 4 5 → rowD m1 (12 * f) c = DD m0 f c
theorem sou_loop {m0 : Mem} {f : Int} {P : Mem → Prop} (hfl : flOK m0) (f0 : 0 ≤ f) (fn : f < m0 4 5) (K : ∀ m, souP m0 f m → P m) :
    ∀ (k : Nat) (a4 a5 : Int) (u6 u7 : Vl) (m : Mem), 0 ≤ a5 → a5 ≤ m0 4 5 → (m0 4 5 - a5).toNat ≤ k → souI m0 f a5 a4 m → w_X1_sound_55 m0 f P (m0 4 5) (12 * f) a4 a5 u6 u7 m := by
  obtain ⟨hg, hcs⟩ := okGD_g hfl.1
  have hn := grid_n hg
  have hD := dist_isD hg hcs f0 fn
  have fin1 : ∀ (a5 : Int) (m : Mem), m0 4 5 ≤ a5 → ∀ a4, souI m0 f a5 a4 m → souP m0 f (mset m 40 f.toNat 1) := by
    intro a5 m h a4 hI
    refine ⟨m, rfl, hI.1, hI.2.1, fun c c0 cn => hI.2.2.2.1 c c0 cn ?_⟩
    have := rk_le (d := DD m0 f) (v := DD m0 f c) (m0 4 5).toNat
    omega
  have fin2 : ∀ (a5 : Int) (m : Mem), souI m0 f a5 0 m → souP m0 f (mset m 40 f.toNat 1) := by
    intro a5 m hI
    refine ⟨m, rfl, hI.1, hI.2.1, fun c c0 cn => dist_eq hg hcs f0 fn (isD_of hg hcs (by omega) f0 fn hI.2.2.1 (hI.2.2.2.2 rfl)) c0 cn⟩
  intro k
  induction k with
  | zero =>
    intro a4 a5 u6 u7 m h0 h1 hk hI
    refine v_X1_sound_55 ⟨fun c => ⟨f0, by omega, fun m3 hm => by rw [hm]; exact K _ (fin1 a5 m c a4 hI)⟩, fun c => by omega⟩
  | succ k ih =>
    intro a4 a5 u6 u7 m h0 h1 hk hI
    refine v_X1_sound_55 ⟨fun c => ⟨f0, by omega, fun m3 hm => by rw [hm]; exact K _ (fin1 a5 m c a4 hI)⟩, fun c => ⟨fun c2 => ⟨f0, by omega, fun m6 hm => by rw [hm]; rw [c2] at hI; exact K _ (fin2 a5 m hI)⟩, fun c2 => ?_⟩⟩
    refine rnd_loop (d0 := rowD m (12 * f)) hfl f0 fn h0 (by omega) (fun a4 u6 u7 m' hI' => ih a4 (a5 + 1) u6 u7 m' (by omega) (by omega) (by omega) ?_) _ 0 0 u7 m (by omega) (by omega) (Nat.le_refl _) ⟨hI.1, hI.2.1, hI.2.2.1, fun _ _ _ => Int.le_refl _, fun i i0 i1 => by omega, Or.inl ⟨rfl, fun _ _ _ => rfl⟩⟩
    obtain ⟨g1, g2, g3, g4, g5, g6⟩ := hI'
    have hall : ∀ a b : Int, 0 ≤ a → a < m0 4 5 → 0 ≤ b → b < m0 4 5 → nbr (m0 4 3) a b → rowD m' (12 * f) b ≤ rowD m (12 * f) a + ctD m0 a b := by
      intro a b a0 an b0 bn hab
      by_cases hp : a5 % 2 = 0
      · have := g5 a a0 an b b0 bn
        rw [if_pos hp] at this
        exact this hab
      · have := g5 (m0 4 5 - 1 - a) (by omega) (by omega) b b0 bn
        rw [if_neg hp, show m0 4 5 - 1 - (m0 4 5 - 1 - a) = a by omega] at this
        exact this hab
    refine ⟨g1, g2, g3, settled_1 hcs (by omega) hD g3 hI.2.2.2.1 hall, fun h => ?_⟩
    intro a b a0 an b0 bn hab
    have h1 := hall a b a0 an b0 bn hab
    rcases g6 with ⟨-, q⟩ | q
    · rw [q a a0 an]; exact h1
    · omega
theorem sou_fill {m0 : Mem} {f : Int} {P : Mem → Prop} (hfl : flOK m0) (f0 : 0 ≤ f) (fn : f < m0 4 5)
    (K : ∀ (u6 u7 : Vl) (m : Mem), Fr [39] m0 m → rowFr m0 m (12 * f) (m0 4 5) → (∀ c : Int, 0 ≤ c → c < m0 4 5 → rowD m (12 * f) c = if c = f then 0 else 1000000) → w_X1_sound_55 m0 f P (m0 4 5) (12 * f) 1 0 u6 u7 m) :
    ∀ (k : Nat) (a4 : Int) (u5 u6 u7 : Vl) (m : Mem), 0 ≤ a4 → (m0 4 5 - a4).toNat ≤ k → Fr [39] m0 m → rowFr m0 m (12 * f) (m0 4 5) → (∀ c : Int, 0 ≤ c → c < a4 → rowD m (12 * f) c = if c = f then 0 else 1000000) → w_X1_sound_16 m0 f P (m0 4 5) (12 * f) a4 u5 u6 u7 m := by
  have hn := grid_n (okGD_g hfl.1).1
  intro k
  induction k with
  | zero =>
    intro a4 u5 u6 u7 m h0 hk hF hR hd
    exact v_X1_sound_16 ⟨fun c => K _ _ _ hF hR (fun x x0 xn => hd x x0 (by omega)), fun c => by omega⟩
  | succ k ih =>
    intro a4 u5 u6 u7 m h0 hk hF hR hd
    have hnext : ∀ v : Int, (v = if a4 = f then 0 else 1000000) → ∀ x : Int, 0 ≤ x → x < a4 + 1 → rowD (mset m 39 (12 * f + a4).toNat v) (12 * f) x = if x = f then 0 else 1000000 := by
      intro v hv x x0 x1
      rw [rowD_set (by omega) h0 x x0]
      simp only [dset]
      by_cases hx : x = a4
      · rw [if_pos hx, hv, hx]
      · rw [if_neg hx]
        exact hd x x0 (by omega)
    refine v_X1_sound_16 ⟨fun c => K _ _ _ hF hR (fun x x0 xn => hd x x0 (by omega)), fun c => ⟨by omega, fun c2 => ⟨by omega, by omega, fun m4 hm => ⟨by omega, ?_⟩⟩, fun c2 => ⟨by omega, by omega, fun m8 hm => ⟨by omega, ?_⟩⟩⟩⟩
    · rw [hm]
      exact ih _ _ _ _ _ (by omega) (by omega) (hF.set (by decide)) (rowFr_set hR (by omega) h0 c) (hnext _ (by rw [if_neg c2]))
    · rw [hm]
      exact ih _ _ _ _ _ (by omega) (by omega) (hF.set (by decide)) (rowFr_set hR (by omega) h0 c) (hnext _ (by rw [if_pos c2]))
theorem c_X1_sound {m0 : Mem} {f : Int} (hfl : flOK m0) (f0 : 0 ≤ f) (fn : f < m0 4 5) : Tot mX1_sound 0 0 [vR 34, vI f] SH m0 (Pn SH (souP m0 f)) := by
  obtain ⟨hg, hcs⟩ := okGD_g hfl.1
  have hn := grid_n hg
  have hD := dist_isD hg hcs f0 fn
  refine v_X1_sound (m0 := m0) ⟨by omega, ?_⟩
  rw [Int.mul_comm f 12]
  refine sou_fill hfl f0 fn (fun u6 u7 m hF hR hd => ?_) _ 0 _ _ _ m0 (by omega) (Nat.le_refl _) Fr.rf (fun _ _ => rfl) (fun c c0 c1 => by omega)
  refine sou_loop hfl f0 fn (fun m h => h) _ 1 0 u6 u7 m (by omega) (by omega) (Nat.le_refl _) ⟨hF, hR, ?_, settled_0 hcs f0 fn hD ?_, fun h => by omega⟩
  · refine ⟨by rw [hd f f0 fn, if_pos rfl], fun b b0 bn => ?_, fun b b0 bn hb => Or.inl (by rw [hd b b0 bn, if_neg hb])⟩
    rw [hd b b0 bn]
    split <;> omega
  · rw [hd f f0 fn, if_pos rfl]
/-- what is known of losses is right -/
def losOK (m : Mem) : Prop := ∀ f : Int, 0 ≤ f → f < m 4 5 → m 40 f.toNat ≠ 0 → ∀ c : Int, 0 ≤ c → c < m 4 5 → rowD m (12 * f) c = DD m f c
def losP (m0 : Mem) (f t v : Int) (m : Mem) : Prop := v = DD m0 f t ∧ Fr [39, 40] m0 m ∧ losOK m
theorem flOK_fr {ks : List Nat} {m m' : Mem} (h : Fr ks m m') (h4 : 4 ∉ ks := by decide) (h35 : 35 ∉ ks := by decide) (h36 : 36 ∉ ks := by decide) (h37 : 37 ∉ ks := by decide) (h38 : 38 ∉ ks := by decide) : flOK m' ↔ flOK m := by
  unfold flOK okGD ctD
  rw [h 4 h4, h 35 h35, h 36 h36, h 37 h37, h 38 h38]
theorem DD_fr {ks : List Nat} {m m' : Mem} (h : Fr ks m m') (h4 : 4 ∉ ks := by decide) (h35 : 35 ∉ ks := by decide) (h36 : 36 ∉ ks := by decide) : DD m' = DD m := by
  unfold DD ctD
  rw [h 4 h4, h 35 h35, h 36 h36]
theorem sou_los {m0 m : Mem} {f : Int} (hn : m0 4 5 ≤ 12) (f0 : 0 ≤ f) (fn : f < m0 4 5) (hl : losOK m0) (h : souP m0 f m) : Fr [39, 40] m0 m ∧ losOK m := by
  obtain ⟨m1, rfl, hF, hR, hd⟩ := h
  have hF2 : Fr [39, 40] m0 (mset m1 40 f.toNat 1) := (hF.mono (by decide)).set (by decide)
  refine ⟨hF2, ?_⟩
  intro g g0 gn hk c c0 cn
  rw [DD_fr hF2]
  have e4 : (mset m1 40 f.toNat 1) 4 = m0 4 := hF2.at 4
  rw [e4] at gn cn
  have e39 : rowD (mset m1 40 f.toNat 1) (12 * g) c = rowD m1 (12 * g) c := rfl
  rw [e39]
  by_cases hg : g = f
  · rw [hg]
    exact hd c c0 cn
  · have h1 : rowD m1 (12 * g) c = rowD m0 (12 * g) c := hR _ (by omega)
    rw [h1]
    refine hl g g0 gn ?_ c c0 cn
    rw [mset_at, if_neg (by omega), hF.at 40] at hk
    exact hk
set_option maxRecDepth 20000 in
theorem v_X1_lost {f t : Int} {P : Int → Mem → Prop} {mem : Mem}  (H : (¬ (0 ≤ f ∧ f < mem 4 5) → P 1000000 mem) ∧ ((0 ≤ f ∧ f < mem 4 5) → ((0 ≤ t ∧ t < mem 4 5) → (f < 12) ∧ ((¬ (mem 40 f.toNat) = 0 → (inR (f * 12)) ∧ ((inR ((f * 12) + t)) ∧ ((0 ≤ ((f * 12) + t)) ∧ ((((f * 12) + t) < 144) ∧ (P (mem 39 ((f * 12) + t).toNat) mem))))) ∧ ((mem 40 f.toNat) = 0 → (flOK mem) ∧ (∀ m7 : Mem, souP mem f m7 → ((inR (f * 12)) ∧ ((inR ((f * 12) + t)) ∧ ((0 ≤ ((f * 12) + t)) ∧ ((((f * 12) + t) < 144) ∧ (P (m7 39 ((f * 12) + t).toNat) m7))))))))) ∧ (¬ (0 ≤ t ∧ t < mem 4 5) → P 1000000 mem))) : Tot mX1_lost 0 0 [vR 34, vI f, vI t] SH mem (Pr SH P) := by
  refine Tot.of rfl (Nat.le_of_ble_eq_true rfl) (by simp [isJ]) (ls := [vR 34, vI f, vI t]) rfl ?_
  refine q_aload_n dX1_lost_0 rfl ?_
  refine q_getr (r := 4) dX1_lost_1 lf_RX1_31 s34 rfl rfl ?_
  refine q_iload_n dX1_lost_4 rfl ?_
  refine q_cVi (as := [vI _]) dX1_lost_5 kmX3_hasCell kvX3_hasCell lm_RX1_38 ⟨by decide, by decide⟩ s4 ⟨by decide, rfl⟩ rfl rfl (Nat.le_of_ble_eq_true rfl) (c_X3_hasCell s4) (fun v m1 hq => ?_)
  obtain ⟨rfl, rfl⟩ := hq
  refine q_if_eq (tgt := 22) dX1_lost_8 (by decide) (fun c8 => ?_) (fun c8 => ?_)
  · have H := H.1 (b_no c8)
    refine q_ldc (n := 1000000) dX1_lost_22 lk_RX1_99 (by decide) ?_
    exact q_iret dX1_lost_24 rfl ⟨_, rfl, rfl, H⟩
  · have H := H.2 (b_yes c8)
    refine q_aload_n dX1_lost_11 rfl ?_
    refine q_getr (r := 4) dX1_lost_12 lf_RX1_31 s34 rfl rfl ?_
    refine q_iload_n dX1_lost_15 rfl ?_
    refine q_cVi (as := [vI _]) dX1_lost_16 kmX3_hasCell kvX3_hasCell lm_RX1_38 ⟨by decide, by decide⟩ s4 ⟨by decide, rfl⟩ rfl rfl (Nat.le_of_ble_eq_true rfl) (c_X3_hasCell s4) (fun v m1 hq => ?_)
    obtain ⟨rfl, rfl⟩ := hq
    refine q_if_ne (tgt := 25) dX1_lost_19 (by decide) (fun c19 => ?_) (fun c19 => ?_)
    · have H := H.1 (b_yes c19)
      refine q_aload_n dX1_lost_25 rfl ?_
      refine q_getr (r := 40) dX1_lost_26 lf_RX1_27 s34 rfl rfl ?_
      refine q_iload_n dX1_lost_29 rfl ?_
      obtain ⟨h1, H⟩ := H
      refine q_zald dX1_lost_30 s40 (b_yes c8).1 h1 ?_
      refine q_if_ne (tgt := 39) dX1_lost_31 (by decide) (fun c31 => ?_) (fun c31 => ?_)
      · have H := H.1 c31
        refine q_aload_n dX1_lost_39 rfl ?_
        refine q_getr (r := 39) dX1_lost_40 lf_RX1_24 s34 rfl rfl ?_
        refine q_iload_n dX1_lost_43 rfl ?_
        refine q_bipush dX1_lost_44 rfl (by decide) ?_
        obtain ⟨h2, H⟩ := H
        refine q_imul dX1_lost_46 h2 ?_
        refine q_iload_n dX1_lost_47 rfl ?_
        obtain ⟨h3, H⟩ := H
        refine q_iadd dX1_lost_48 h3 ?_
        obtain ⟨h4, H⟩ := H
        obtain ⟨h5, H⟩ := H
        refine q_iald dX1_lost_49 s39 h4 h5 ?_
        exact q_iret dX1_lost_50 rfl ⟨_, rfl, rfl, H⟩
      · have H := H.2 c31
        refine q_aload_n dX1_lost_34 rfl ?_
        refine q_iload_n dX1_lost_35 rfl ?_
        obtain ⟨h6, H⟩ := H
        refine q_cVn (as := [vI _]) dX1_lost_36 kmX1_sound kvX1_sound lm_RX1_100 ⟨by decide, by decide⟩ s34 ⟨by decide, rfl⟩ rfl rfl (Nat.le_of_ble_eq_true rfl) (c_X1_sound h6 (b_yes c8).1 (b_yes c8).2) (fun m1 hq => ?_)
        have H := H m1 hq
        refine q_aload_n dX1_lost_39 rfl ?_
        refine q_getr (r := 39) dX1_lost_40 lf_RX1_24 s34 rfl rfl ?_
        refine q_iload_n dX1_lost_43 rfl ?_
        refine q_bipush dX1_lost_44 rfl (by decide) ?_
        obtain ⟨h8, H⟩ := H
        refine q_imul dX1_lost_46 h8 ?_
        refine q_iload_n dX1_lost_47 rfl ?_
        obtain ⟨h9, H⟩ := H
        refine q_iadd dX1_lost_48 h9 ?_
        obtain ⟨h10, H⟩ := H
        obtain ⟨h11, H⟩ := H
        refine q_iald dX1_lost_49 s39 h10 h11 ?_
        exact q_iret dX1_lost_50 rfl ⟨_, rfl, rfl, H⟩
    · have H := H.2 (b_no c19)
      refine q_ldc (n := 1000000) dX1_lost_22 lk_RX1_99 (by decide) ?_
      exact q_iret dX1_lost_24 rfl ⟨_, rfl, rfl, H⟩


theorem c_X1_lost {m0 : Mem} {f t : Int} (hfl : flOK m0) (hl : losOK m0) (f0 : 0 ≤ f) (fn : f < m0 4 5) (t0 : 0 ≤ t) (tn : t < m0 4 5) : Tot mX1_lost 0 0 [vR 34, vI f, vI t] SH m0 (Pr SH (losP m0 f t)) := by
  have hn := grid_n (okGD_g hfl.1).1
  refine v_X1_lost ⟨fun c => absurd ⟨f0, fn⟩ c, fun _ => ⟨fun _ => ⟨by omega, fun c => ⟨by omega, by omega, by omega, by omega, ?_, Fr.rf, hl⟩, fun c => ⟨hfl, fun m7 hs => ⟨by omega, by omega, by omega, by omega, ?_, sou_los hn.2 f0 fn hl hs⟩⟩⟩, fun c => absurd ⟨t0, tn⟩ c⟩⟩
  · rw [Int.mul_comm f 12]
    exact hl f f0 fn c t t0 tn
  · rw [Int.mul_comm f 12]
    obtain ⟨m1, rfl, hF, hR, hd⟩ := hs
    exact hd t t0 tn
