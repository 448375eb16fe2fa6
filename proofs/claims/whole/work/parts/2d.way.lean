/-! THE CLASS: a way that nobody hears -/
theorem unh_fr {ks : List Nat} {m m' : Mem} (h : Fr ks m m') (h4 : 4 ∉ ks := by decide) (h35 : 35 ∉ ks := by decide) (h36 : 36 ∉ ks := by decide) (h9 : 9 ∉ ks := by decide) (h10 : 10 ∉ ks := by decide) : unhP m' = unhP m := by
  funext c n
  unfold unhP
  rw [DD_fr h h4 h35 h36, (ro_fr h h9 h10).2.2.1, (ro_fr h h9 h10).2.2.2, h 9 h9]
/-- a step costs 1 onto a cell that is quiet, else too much -/
noncomputable def qct (q : Int → Prop) (_a b : Int) : Int := @ite Int (q b) (Classical.propDecidable _) 1 50
theorem qct_t {q : Int → Prop} {a b : Int} (h : q b) : qct q a b = 1 := if_pos h
theorem qct_f {q : Int → Prop} {a b : Int} (h : ¬ q b) : qct q a b = 50 := if_neg h
theorem qct_c {q : Int → Prop} {n : Int} : costs n (qct q) := fun a b _ _ _ _ => by
  by_cases c : q b
  · rw [qct_t c]; decide
  · rw [qct_f c]; decide
theorem way_back {n w f : Int} {q : Int → Prop} {D : Int → Int} (hD : isD n w (qct q) f D) {b : Int} (b0 : 0 ≤ b) (bn : b < n) (hb : D b < 50) (hne : b ≠ f) : q b ∧ ∃ a : Int, 0 ≤ a ∧ a < n ∧ nbr w a b ∧ D b = D a + 1 := by
  obtain ⟨a, a0, an, hn, hl⟩ := hD.2.2.2 b b0 bn hne
  have ha := hD.2.1 a a0 an
  have hs := hD.2.2.1 a b a0 an b0 bn hn
  by_cases c : q b
  · rw [qct_t c] at hl hs
    exact ⟨c, a, a0, an, hn, by omega⟩
  · rw [qct_f c] at hl
    omega
theorem way_rk {n w f : Int} {q : Int → Prop} {D : Int → Int} (hD : isD n w (qct q) f D) : ∀ (k : Nat) (b : Int), 0 ≤ b → b < n → D b < 50 → (D b).toNat ≤ k → D b ≤ rk D (D b) n.toNat := by
  intro k
  induction k with
  | zero =>
    intro b b0 bn hb hk
    omega
  | succ k ih =>
    intro b b0 bn hb hk
    by_cases e : b = f
    · rw [e, hD.1]
      omega
    · obtain ⟨-, a, a0, an, -, ea⟩ := way_back hD b0 bn hb e
      have h1 := ih a a0 an (by omega) (by omega)
      have h2 := rk_lt (d := D) (u := D a) (v := D b) (by omega) a0 (Int.le_refl _) (by omega) n.toNat (by omega)
      omega
theorem way_lt {n w f : Int} {q : Int → Prop} {D : Int → Int} (hD : isD n w (qct q) f D) {b : Int} (b0 : 0 ≤ b) (bn : b < n) (hb : D b < 50) : D b < n := by
  have h1 := way_rk hD _ b b0 bn hb (Nat.le_refl _)
  have h2 := rk_lt (d := D) (u := D b) (v := D b + 1) (by omega) b0 (Int.le_refl _) (by omega) n.toNat (by omega)
  have h3 := rk_le (d := D) (v := D b + 1) n.toNat
  omega
def wayV (n w : Int) (q : Int → Prop) (f t v : Int) : Prop := (q f ∧ dist n w (qct q) f t < 50 ∧ v = dist n w (qct q) f t) ∨ (¬ (q f ∧ dist n w (qct q) f t < 50) ∧ v = -9)
def w_X9_walkOn_2 (d n : Int) (P : Mem → Prop) (a3 : Int) (u4 : Vl) (u5 : Vl) (mem : Mem) : Prop := WP mX9_walkOn none 0 0 (Pn SH P) 2 [vR 0, vI d, vI n, vI a3, u4, u5] [] SH mem
def w_X9_walkOn_16 (d n : Int) (P : Mem → Prop) (a3 : Int) (a4 : Int) (u5 : Vl) (mem : Mem) : Prop := WP mX9_walkOn none 0 0 (Pn SH P) 16 [vR 0, vI d, vI n, vI a3, vI a4, u5] [] SH mem
set_option maxRecDepth 20000 in
theorem v_X9_walkOn_2 {d n : Int} {P : Mem → Prop} {a3 : Int} {u4 : Vl} {u5 : Vl} {mem : Mem}  (H : ((mem 4 5) ≤ a3 → P mem) ∧ (a3 < (mem 4 5) → w_X9_walkOn_16 d n P a3 0 u5 mem)) : w_X9_walkOn_2 d n P a3 u4 u5 mem := by
  unfold w_X9_walkOn_2
  refine q_iload_n dX9_walkOn_2 rfl ?_
  refine q_aload_n dX9_walkOn_3 rfl ?_
  refine q_getr (r := 4) dX9_walkOn_4 lf_RX9_19 s0 rfl rfl ?_
  refine q_geti dX9_walkOn_7 lf_RX9_262 s4 rfl ?_
  refine q_icmp_ge (tgt := 103) dX9_walkOn_10 (by decide) (fun c10 => ?_) (fun c10 => ?_)
  · have H := H.1 c10
    exact q_vret dX9_walkOn_103 rfl ⟨rfl, rfl, H⟩
  · have H := H.2 c10
    refine q_iconst dX9_walkOn_13 (by decide) ?_
    refine q_istore dX9_walkOn_14 (by decide) rfl ?_
    exact H
set_option maxRecDepth 20000 in
theorem v_X9_walkOn_16 {d n : Int} {P : Mem → Prop} {a3 : Int} {a4 : Int} {u5 : Vl} {mem : Mem}  (H : (4 ≤ a4 → (inR (a3 + 1)) ∧ (w_X9_walkOn_2 d n P (a3 + 1) (vI a4) u5 mem)) ∧ (a4 < 4 → (0 ≤ a3) ∧ ((a3 < 12) ∧ ((¬ (mem 43 a3.toNat) = d → (inR (a3 + 1)) ∧ (w_X9_walkOn_2 d n P (a3 + 1) (vI a4) u5 mem)) ∧ ((mem 43 a3.toNat) = d → (mem 4 5 ≤ 12) ∧ ((¬ (0 ≤ (if (0 ≤ a3 ∧ a3 < mem 4 5) ∧ 0 ≤ a4 ∧ a4 < 4 then mem 37 (a3 * 4 + a4).toNat else -9) ∧ (if (0 ≤ a3 ∧ a3 < mem 4 5) ∧ 0 ≤ a4 ∧ a4 < 4 then mem 37 (a3 * 4 + a4).toNat else -9) < mem 4 5) → (inR (a4 + 1)) ∧ (w_X9_walkOn_16 d n P a3 (a4 + 1) (vI (if (0 ≤ a3 ∧ a3 < mem 4 5) ∧ 0 ≤ a4 ∧ a4 < 4 then mem 37 (a3 * 4 + a4).toNat else -9)) mem)) ∧ ((0 ≤ (if (0 ≤ a3 ∧ a3 < mem 4 5) ∧ 0 ≤ a4 ∧ a4 < 4 then mem 37 (a3 * 4 + a4).toNat else -9) ∧ (if (0 ≤ a3 ∧ a3 < mem 4 5) ∧ 0 ≤ a4 ∧ a4 < 4 then mem 37 (a3 * 4 + a4).toNat else -9) < mem 4 5) → ((if (0 ≤ a3 ∧ a3 < mem 4 5) ∧ 0 ≤ a4 ∧ a4 < 4 then mem 37 (a3 * 4 + a4).toNat else -9) < 12) ∧ ((¬ (mem 43 (if (0 ≤ a3 ∧ a3 < mem 4 5) ∧ 0 ≤ a4 ∧ a4 < 4 then mem 37 (a3 * 4 + a4).toNat else -9).toNat) = (-9) → (inR (a4 + 1)) ∧ (w_X9_walkOn_16 d n P a3 (a4 + 1) (vI (if (0 ≤ a3 ∧ a3 < mem 4 5) ∧ 0 ≤ a4 ∧ a4 < 4 then mem 37 (a3 * 4 + a4).toNat else -9)) mem)) ∧ ((mem 43 (if (0 ≤ a3 ∧ a3 < mem 4 5) ∧ 0 ≤ a4 ∧ a4 < 4 then mem 37 (a3 * 4 + a4).toNat else -9).toNat) = (-9) → (rdy mem) ∧ ((0 ≤ n) ∧ ((n ≤ 99) ∧ (∀ (v12 : Int) (m13 : Mem), anQ mem (fun v => (unhP mem (if (0 ≤ a3 ∧ a3 < mem 4 5) ∧ 0 ≤ a4 ∧ a4 < 4 then mem 37 (a3 * 4 + a4).toNat else -9) n ∧ v = 1) ∨ (¬ unhP mem (if (0 ≤ a3 ∧ a3 < mem 4 5) ∧ 0 ≤ a4 ∧ a4 < 4 then mem 37 (a3 * 4 + a4).toNat else -9) n ∧ v = 0)) v12 m13 → ((v12 = 0 → (inR (a4 + 1)) ∧ (w_X9_walkOn_16 d n P a3 (a4 + 1) (vI (if (0 ≤ a3 ∧ a3 < mem 4 5) ∧ 0 ≤ a4 ∧ a4 < 4 then mem 37 (a3 * 4 + a4).toNat else -9)) m13)) ∧ (¬ v12 = 0 → (inR (d + 1)) ∧ (∀ m16 : Mem, m16 = mset m13 43 (if (0 ≤ a3 ∧ a3 < mem 4 5) ∧ 0 ≤ a4 ∧ a4 < 4 then mem 37 (a3 * 4 + a4).toNat else -9).toNat (d + 1) → ((inR (a4 + 1)) ∧ (w_X9_walkOn_16 d n P a3 (a4 + 1) (vI (if (0 ≤ a3 ∧ a3 < mem 4 5) ∧ 0 ≤ a4 ∧ a4 < 4 then mem 37 (a3 * 4 + a4).toNat else -9)) m16))))))))))))))))) : w_X9_walkOn_16 d n P a3 a4 u5 mem := by
  unfold w_X9_walkOn_16
  refine q_iload dX9_walkOn_16 rfl ?_
  refine q_iconst dX9_walkOn_18 (by decide) ?_
  refine q_icmp_ge (tgt := 97) dX9_walkOn_19 (by decide) (fun c19 => ?_) (fun c19 => ?_)
  · have H := H.1 c19
    obtain ⟨h1, H⟩ := H
    refine q_iinc dX9_walkOn_97 rfl h1 rfl ?_
    refine q_goto (tgt := 2) dX9_walkOn_100 (by decide) ?_
    exact H
  · have H := H.2 c19
    refine q_aload_n dX9_walkOn_22 rfl ?_
    refine q_getr (r := 43) dX9_walkOn_23 lf_RX9_93 s0 rfl rfl ?_
    refine q_iload_n dX9_walkOn_26 rfl ?_
    obtain ⟨h2, H⟩ := H
    obtain ⟨h3, H⟩ := H
    refine q_iald dX9_walkOn_27 s43 h2 h3 ?_
    refine q_iload_n dX9_walkOn_28 rfl ?_
    refine q_icmp_ne (tgt := 97) dX9_walkOn_29 (by decide) (fun c29 => ?_) (fun c29 => ?_)
    · have H := H.1 c29
      obtain ⟨h4, H⟩ := H
      refine q_iinc dX9_walkOn_97 rfl h4 rfl ?_
      refine q_goto (tgt := 2) dX9_walkOn_100 (by decide) ?_
      exact H
    · have H := H.2 c29
      refine q_aload_n dX9_walkOn_32 rfl ?_
      refine q_getr (r := 34) dX9_walkOn_33 lf_RX9_71 s0 rfl rfl ?_
      refine q_iload_n dX9_walkOn_36 rfl ?_
      refine q_iload dX9_walkOn_37 rfl ?_
      obtain ⟨h5, H⟩ := H
      refine q_cVi (as := [vI _, vI _]) dX9_walkOn_39 kmX1_nextTo kvX1_nextTo lm_RX9_285 ⟨by decide, by decide⟩ s34 ⟨by decide, rfl⟩ rfl rfl (Nat.le_of_ble_eq_true rfl) (c_X1_nextTo h5) (fun v m1 hq => ?_)
      obtain ⟨rfl, rfl⟩ := hq
      refine q_istore dX9_walkOn_42 (by decide) rfl ?_
      refine q_aload_n dX9_walkOn_44 rfl ?_
      refine q_getr (r := 4) dX9_walkOn_45 lf_RX9_19 s0 rfl rfl ?_
      refine q_iload dX9_walkOn_48 rfl ?_
      refine q_cVi (as := [vI _]) dX9_walkOn_50 kmX3_hasCell kvX3_hasCell lm_RX9_161 ⟨by decide, by decide⟩ s4 ⟨by decide, rfl⟩ rfl rfl (Nat.le_of_ble_eq_true rfl) (c_X3_hasCell s4) (fun v m1 hq => ?_)
      obtain ⟨rfl, rfl⟩ := hq
      refine q_if_eq (tgt := 91) dX9_walkOn_53 (by decide) (fun c53 => ?_) (fun c53 => ?_)
      · have H := H.1 (b_no c53)
        obtain ⟨h6, H⟩ := H
        refine q_iinc dX9_walkOn_91 rfl h6 rfl ?_
        refine q_goto (tgt := 16) dX9_walkOn_94 (by decide) ?_
        exact H
      · have H := H.2 (b_yes c53)
        refine q_aload_n dX9_walkOn_56 rfl ?_
        refine q_getr (r := 43) dX9_walkOn_57 lf_RX9_93 s0 rfl rfl ?_
        refine q_iload dX9_walkOn_60 rfl ?_
        obtain ⟨h7, H⟩ := H
        refine q_iald dX9_walkOn_62 s43 (b_yes c53).1 h7 ?_
        refine q_bipush dX9_walkOn_63 rfl (by decide) ?_
        refine q_icmp_ne (tgt := 91) dX9_walkOn_65 (by decide) (fun c65 => ?_) (fun c65 => ?_)
        · have H := H.1 c65
          obtain ⟨h8, H⟩ := H
          refine q_iinc dX9_walkOn_91 rfl h8 rfl ?_
          refine q_goto (tgt := 16) dX9_walkOn_94 (by decide) ?_
          exact H
        · have H := H.2 c65
          refine q_aload_n dX9_walkOn_68 rfl ?_
          refine q_getr (r := 41) dX9_walkOn_69 lf_RX9_80 s0 rfl rfl ?_
          refine q_iload dX9_walkOn_72 rfl ?_
          refine q_iload_n dX9_walkOn_74 rfl ?_
          obtain ⟨h9, H⟩ := H
          obtain ⟨h10, H⟩ := H
          obtain ⟨h11, H⟩ := H
          refine q_cVi (as := [vI _, vI _]) dX9_walkOn_75 kmX2_isUnheard kvX2_isUnheard lm_RX9_279 ⟨by decide, by decide⟩ s41 ⟨by decide, rfl⟩ rfl rfl (Nat.le_of_ble_eq_true rfl) (c_X2_isUnheard h9 (b_yes c53).1 (b_yes c53).2 h10 h11) (fun v m1 hq => ?_)
          have H := H v m1 hq
          refine q_if_eq (tgt := 91) dX9_walkOn_78 (by decide) (fun c78 => ?_) (fun c78 => ?_)
          · have H := H.1 c78
            obtain ⟨h14, H⟩ := H
            refine q_iinc dX9_walkOn_91 rfl h14 rfl ?_
            refine q_goto (tgt := 16) dX9_walkOn_94 (by decide) ?_
            exact H
          · have H := H.2 c78
            refine q_aload_n dX9_walkOn_81 rfl ?_
            refine q_getr (r := 43) dX9_walkOn_82 lf_RX9_93 s0 rfl rfl ?_
            refine q_iload dX9_walkOn_85 rfl ?_
            refine q_iload_n dX9_walkOn_87 rfl ?_
            refine q_iconst dX9_walkOn_88 (by decide) ?_
            obtain ⟨h15, H⟩ := H
            refine q_iadd dX9_walkOn_89 h15 ?_
            refine q_iast dX9_walkOn_90 s43 (b_yes c53).1 h7 ?_
            have H := H _ rfl
            obtain ⟨h17, H⟩ := H
            refine q_iinc dX9_walkOn_91 rfl h17 rfl ?_
            refine q_goto (tgt := 16) dX9_walkOn_94 (by decide) ?_
            exact H
set_option maxRecDepth 20000 in
theorem v_X9_walkOn {d n : Int} {P : Mem → Prop} {mem : Mem}  (H : w_X9_walkOn_2 d n P 0 (vJ 0) (vJ 0) mem) : Tot mX9_walkOn 0 0 [vR 0, vI d, vI n] SH mem (Pn SH P) := by
  refine Tot.of rfl (Nat.le_of_ble_eq_true rfl) (by simp [isJ]) (ls := [vR 0, vI d, vI n, vJ 0, vJ 0, vJ 0]) rfl ?_
  refine q_iconst dX9_walkOn_0 (by decide) ?_
  refine q_istore_n dX9_walkOn_1 (by decide) rfl ?_
  exact H


/-- what is reached now: by one of the first E ways on -/
def woC (m0 : Mem) (d n E b : Int) : Prop := m0 43 b.toNat = -9 ∧ unhP m0 b n ∧ ∃ e : Int, 0 ≤ e ∧ e < E ∧ m0 43 (e / 4).toNat = d ∧ m0 37 e.toNat = b
def woI (m0 : Mem) (d n E : Int) (m : Mem) : Prop := Fr [39, 40, 43] m0 m ∧ losOK m ∧ ∀ b : Int, 0 ≤ b → b < m0 4 5 → (woC m0 d n E b → m 43 b.toNat = d + 1) ∧ (¬ woC m0 d n E b → m 43 b.toNat = m0 43 b.toNat)
theorem woI_skip {m0 m : Mem} {d n E E' : Int} (h : woI m0 d n E m) (hE : E ≤ E') (hx : ∀ e : Int, E ≤ e → e < E' → m0 43 (e / 4).toNat ≠ d) : woI m0 d n E' m := by
  have hc : ∀ b : Int, woC m0 d n E' b ↔ woC m0 d n E b := by
    intro b
    refine ⟨fun ⟨q1, q2, e, e0, e1, e2, e3⟩ => ⟨q1, q2, e, e0, ?_, e2, e3⟩, fun ⟨q1, q2, e, e0, e1, e2, e3⟩ => ⟨q1, q2, e, e0, by omega, e2, e3⟩⟩
    exact Int.not_le.mp (fun z => hx e z e1 e2)
  refine ⟨h.1, h.2.1, fun b b0 bn => ?_⟩
  rw [hc b]
  exact h.2.2 b b0 bn
theorem wo_in {m0 : Mem} {d n c : Int} {P : Mem → Prop} (hy : rdy m0) (d0 : 0 ≤ d) (d1 : d ≤ 100) (n0 : 0 ≤ n) (n1 : n ≤ 99) (c0 : 0 ≤ c) (cn : c < m0 4 5)
    (K : ∀ (u4 u5 : Vl) (m : Mem), woI m0 d n (4 * (c + 1)) m → w_X9_walkOn_2 d n P (c + 1) u4 u5 m) :
    ∀ (k : Nat) (a4 : Int) (u5 : Vl) (m : Mem), 0 ≤ a4 → a4 ≤ 4 → (4 - a4).toNat ≤ k → woI m0 d n (4 * c + a4) m → w_X9_walkOn_16 d n P c a4 u5 m := by
  have hn := nD_b hy.1
  have hnx := hy.2.1.2.1
  intro k
  induction k with
  | zero =>
    intro a4 u5 m h0 h1 hk hI
    refine v_X9_walkOn_16 ⟨fun _ => ⟨by unfold inR; omega, K _ _ _ ?_⟩, fun q => by omega⟩
    rw [show 4 * (c + 1) = 4 * c + a4 by omega]
    exact hI
  | succ k ih =>
    intro a4 u5 m h0 h1 hk hI
    refine v_X9_walkOn_16 ⟨fun q => ⟨by unfold inR; omega, K _ _ _ ?_⟩, fun q => ?_⟩
    · rw [show 4 * (c + 1) = 4 * c + a4 by omega]
      exact hI
    obtain ⟨hF, hl, hx⟩ := hI
    have hlen : ∀ b : Int, 0 ≤ b → b < m0 4 5 → (m 43 b.toNat = d ↔ m0 43 b.toNat = d) := by
      intro b b0 bn
      have q := hx b b0 bn
      by_cases hc : woC m0 d n (4 * c + a4) b
      · rw [q.1 hc, hc.1]; omega
      · rw [q.2 hc]
    rw [hF.at 4, hF.at 37, if_pos ⟨⟨c0, cn⟩, h0, q⟩]
    refine ⟨c0, by omega, fun z => ⟨by unfold inR; omega, K _ _ _ (woI_skip ⟨hF, hl, hx⟩ (by omega) (fun e e0 e1 => ?_))⟩, fun z => ⟨hn.2, ?_⟩⟩
    · rw [show e / 4 = c by omega]
      exact fun y => z ((hlen c c0 cn).mpr y)
    have z' := (hlen c c0 cn).mp z
    have ee : (c * 4 + a4).toNat = (4 * c + a4).toNat := by rw [Int.mul_comm]
    rw [ee]
    generalize hto : m0 37 (4 * c + a4).toNat = t
    -- one way on more
    have hC : ∀ b : Int, woC m0 d n (4 * c + a4 + 1) b ↔ (woC m0 d n (4 * c + a4) b ∨ (b = t ∧ m0 43 b.toNat = -9 ∧ unhP m0 b n)) := by
      intro b
      constructor
      · rintro ⟨q1, q2, e, e0, e1, e2, e3⟩
        by_cases he : e = 4 * c + a4
        · rw [he, hto] at e3
          exact Or.inr ⟨e3.symm, q1, q2⟩
        · exact Or.inl ⟨q1, q2, e, e0, by omega, e2, e3⟩
      · rintro (⟨q1, q2, e, e0, e1, e2, e3⟩ | ⟨e, q1, q2⟩)
        · exact ⟨q1, q2, e, e0, by omega, e2, e3⟩
        · refine ⟨q1, q2, 4 * c + a4, by omega, by omega, ?_, by rw [hto, e]⟩
          rw [show (4 * c + a4) / 4 = c by omega]
          exact z'
    have hsame : (∀ b : Int, 0 ≤ b → b < m0 4 5 → b = t → m0 43 b.toNat = -9 → unhP m0 b n → woC m0 d n (4 * c + a4) b) → woI m0 d n (4 * c + (a4 + 1)) m := by
      intro hs
      refine ⟨hF, hl, fun b b0 bn => ?_⟩
      have hq : woC m0 d n (4 * c + (a4 + 1)) b ↔ woC m0 d n (4 * c + a4) b := by
        rw [show 4 * c + (a4 + 1) = 4 * c + a4 + 1 by omega, hC b]
        exact ⟨fun y => y.elim id (fun ⟨y1, y2, y3⟩ => hs b b0 bn y1 y2 y3), Or.inl⟩
      rw [hq]
      exact hx b b0 bn
    refine ⟨fun y => ⟨by unfold inR; omega, ih _ _ _ (by omega) (by omega) (by omega) (hsame (fun b b0 bn e => ?_))⟩, fun y => ⟨by omega, fun x => ⟨by unfold inR; omega, ih _ _ _ (by omega) (by omega) (by omega) (hsame (fun b b0 bn e q1 q2 => ?_))⟩, fun x => ?_⟩⟩
    · rw [e] at b0 bn
      exact absurd ⟨b0, bn⟩ y
    · refine Classical.byContradiction fun hc => x ?_
      rw [← e, (hx b b0 bn).2 hc]
      exact q1
    · have hxt := hx t y.1 y.2
      have hnc : ¬ woC m0 d n (4 * c + a4) t := fun hc => by
        have := hxt.1 hc
        omega
      have e43 : m0 43 t.toNat = -9 := by rw [← hxt.2 hnc]; exact x
      have hFs : Fr [39, 40, 43] m0 m := hF
      have hym : rdy m := ⟨(hsD_fr hF).mpr hy.1, (flOK_fr hF).mpr hy.2.1, hl⟩
      refine ⟨hym, n0, n1, fun v12 m13 h13 => ?_⟩
      rw [unh_fr hF] at h13
      have hF13 : Fr [39, 40, 43] m0 m13 := hF.tr (h13.2.1.mono (by decide))
      have e13 : m13 43 = m 43 := h13.2.1.at 43
      refine ⟨fun w => ⟨by unfold inR; omega, ih _ _ _ (by omega) (by omega) (by omega) ?_⟩, fun w => ⟨by unfold inR; omega, fun m16 h16 => ⟨by unfold inR; omega, ih _ _ _ (by omega) (by omega) (by omega) ?_⟩⟩⟩
      · have hnu : ¬ unhP m0 t n := by
          rcases h13.1 with ⟨-, r⟩ | ⟨r, -⟩
          · omega
          · exact r
        refine ⟨hF13, h13.2.2, ?_⟩
        rw [e13]
        exact (hsame (fun b b0 bn e q1 q2 => absurd (by rw [← e]; exact q2) hnu)).2.2
      · have hu : unhP m0 t n := by
          rcases h13.1 with ⟨r, -⟩ | ⟨-, r⟩
          · exact r
          · exact absurd r w
        rw [h16]
        refine ⟨hF13.set (by decide), ?_, fun b b0 bn => ?_⟩
        · have hFm : Fr [43] m13 (mset m13 43 t.toNat (d + 1)) := Fr.rf.set (by decide)
          unfold losOK rowD
          rw [DD_fr hFm, hFm.at 4, hFm.at 39, hFm.at 40]
          exact h13.2.2
        · rw [show 4 * c + (a4 + 1) = 4 * c + a4 + 1 by omega, hC b, mset_at]
          by_cases e : b = t
          · rw [e, if_pos ⟨rfl, rfl⟩]
            exact ⟨fun _ => rfl, fun r => absurd (Or.inr ⟨rfl, e43, hu⟩) r⟩
          · rw [if_neg (fun r => e (by omega)), e13]
            have q := hx b b0 bn
            exact ⟨fun r => q.1 (r.elim id (fun r => absurd r.1 e)), fun r => q.2 (fun r2 => r (Or.inl r2))⟩
def woP (m0 : Mem) (d n : Int) (m : Mem) : Prop := woI m0 d n (4 * m0 4 5) m
theorem wo_out {m0 : Mem} {d n : Int} (hy : rdy m0) (d0 : 0 ≤ d) (d1 : d ≤ 100) (n0 : 0 ≤ n) (n1 : n ≤ 99) : ∀ (k : Nat) (a3 : Int) (u4 u5 : Vl) (m : Mem), 0 ≤ a3 → a3 ≤ m0 4 5 → (m0 4 5 - a3).toNat ≤ k → woI m0 d n (4 * a3) m → w_X9_walkOn_2 d n (woP m0 d n) a3 u4 u5 m := by
  have hn := nD_b hy.1
  intro k
  induction k with
  | zero =>
    intro a3 u4 u5 m h0 h1 hk hI
    refine v_X9_walkOn_2 ⟨fun q => ?_, fun q => ?_⟩
    · rw [show a3 = m0 4 5 by omega] at hI
      exact hI
    · rw [hI.1.at 4] at q
      omega
  | succ k ih =>
    intro a3 u4 u5 m h0 h1 hk hI
    refine v_X9_walkOn_2 ⟨fun q => ?_, fun q => ?_⟩
    · rw [hI.1.at 4] at q
      rw [show a3 = m0 4 5 by omega] at hI
      exact hI
    · rw [hI.1.at 4] at q
      refine wo_in hy d0 d1 n0 n1 h0 q (fun u4 u5 m hI => ih _ _ _ _ (by omega) (by omega) (by omega) hI) 4 0 _ m (by omega) (by omega) (by omega) ?_
      rw [Int.add_zero]
      exact hI
theorem c_X9_walkOn {m0 : Mem} {d n : Int} (hy : rdy m0) (hd : 0 ≤ d ∧ d ≤ 100) (hn : 0 ≤ n ∧ n ≤ 99) : Tot mX9_walkOn 0 0 [vR 0, vI d, vI n] SH m0 (Pn SH (woP m0 d n)) := by
  have hnn := nD_b hy.1
  refine v_X9_walkOn (wo_out hy hd.1 hd.2 hn.1 hn.2 _ 0 _ _ m0 (by omega) (by omega) (Nat.le_refl _) ⟨Fr.rf, hy.2.2, fun b b0 bn => ⟨fun ⟨_, _, e, e0, e1, _⟩ => by omega, fun _ => rfl⟩⟩)
def w_X9_way_48 (f t n : Int) (P : Int → Mem → Prop) (a4 : Int) (mem : Mem) : Prop := WP mX9_way none 0 0 (Pr SH P) 48 [vR 0, vI f, vI t, vI n, vI a4] [] SH mem
def w_X9_way_92 (f t n : Int) (P : Int → Mem → Prop) (a4 : Int) (mem : Mem) : Prop := WP mX9_way none 0 0 (Pr SH P) 92 [vR 0, vI f, vI t, vI n, vI a4] [] SH mem
set_option maxRecDepth 20000 in
theorem v_X9_way_48 {f t n : Int} {P : Int → Mem → Prop} {a4 : Int} {mem : Mem}  (H : (12 ≤ a4 → (rdy mem) ∧ ((0 ≤ f) ∧ ((f < mem 4 5) ∧ ((0 ≤ n) ∧ ((n ≤ 99) ∧ (∀ (v6 : Int) (m7 : Mem), anQ mem (fun v => (unhP mem f n ∧ v = 1) ∨ (¬ unhP mem f n ∧ v = 0)) v6 m7 → ((v6 = 0 → w_X9_way_92 f t n P 0 m7) ∧ (¬ v6 = 0 → (f < 12) ∧ (∀ m9 : Mem, m9 = mset m7 43 f.toNat 0 → (w_X9_way_92 f t n P 0 m9)))))))))) ∧ (a4 < 12 → (0 ≤ a4) ∧ (∀ m11 : Mem, m11 = mset mem 43 a4.toNat (-9) → ((inR (a4 + 1)) ∧ (w_X9_way_48 f t n P (a4 + 1) m11))))) : w_X9_way_48 f t n P a4 mem := by
  unfold w_X9_way_48
  refine q_iload dX9_way_48 rfl ?_
  refine q_bipush dX9_way_50 rfl (by decide) ?_
  refine q_icmp_ge (tgt := 70) dX9_way_52 (by decide) (fun c52 => ?_) (fun c52 => ?_)
  · have H := H.1 c52
    refine q_aload_n dX9_way_70 rfl ?_
    refine q_getr (r := 41) dX9_way_71 lf_RX9_80 s0 rfl rfl ?_
    refine q_iload_n dX9_way_74 rfl ?_
    refine q_iload_n dX9_way_75 rfl ?_
    obtain ⟨h1, H⟩ := H
    obtain ⟨h2, H⟩ := H
    obtain ⟨h3, H⟩ := H
    obtain ⟨h4, H⟩ := H
    obtain ⟨h5, H⟩ := H
    refine q_cVi (as := [vI _, vI _]) dX9_way_76 kmX2_isUnheard kvX2_isUnheard lm_RX9_279 ⟨by decide, by decide⟩ s41 ⟨by decide, rfl⟩ rfl rfl (Nat.le_of_ble_eq_true rfl) (c_X2_isUnheard h1 h2 h3 h4 h5) (fun v m1 hq => ?_)
    have H := H v m1 hq
    refine q_if_eq (tgt := 89) dX9_way_79 (by decide) (fun c79 => ?_) (fun c79 => ?_)
    · have H := H.1 c79
      refine q_iconst dX9_way_89 (by decide) ?_
      refine q_istore dX9_way_90 (by decide) rfl ?_
      exact H
    · have H := H.2 c79
      refine q_aload_n dX9_way_82 rfl ?_
      refine q_getr (r := 43) dX9_way_83 lf_RX9_93 s0 rfl rfl ?_
      refine q_iload_n dX9_way_86 rfl ?_
      refine q_iconst dX9_way_87 (by decide) ?_
      obtain ⟨h8, H⟩ := H
      refine q_iast dX9_way_88 s43 h2 h8 ?_
      have H := H _ rfl
      refine q_iconst dX9_way_89 (by decide) ?_
      refine q_istore dX9_way_90 (by decide) rfl ?_
      exact H
  · have H := H.2 c52
    refine q_aload_n dX9_way_55 rfl ?_
    refine q_getr (r := 43) dX9_way_56 lf_RX9_93 s0 rfl rfl ?_
    refine q_iload dX9_way_59 rfl ?_
    refine q_bipush dX9_way_61 rfl (by decide) ?_
    obtain ⟨h10, H⟩ := H
    refine q_iast dX9_way_63 s43 h10 c52 ?_
    have H := H _ rfl
    obtain ⟨h12, H⟩ := H
    refine q_iinc dX9_way_64 rfl h12 rfl ?_
    refine q_goto (tgt := 48) dX9_way_67 (by decide) ?_
    exact H
set_option maxRecDepth 20000 in
theorem v_X9_way_92 {f t n : Int} {P : Int → Mem → Prop} {a4 : Int} {mem : Mem}  (H : ((mem 4 5) ≤ a4 → (0 ≤ t) ∧ ((t < 12) ∧ (P (mem 43 t.toNat) mem))) ∧ (a4 < (mem 4 5) → (0 ≤ t) ∧ ((t < 12) ∧ ((¬ (mem 43 t.toNat) = (-9) → P (mem 43 t.toNat) mem) ∧ ((mem 43 t.toNat) = (-9) → (rdy mem) ∧ ((0 ≤ a4 ∧ a4 ≤ 100) ∧ ((0 ≤ n ∧ n ≤ 99) ∧ (∀ m8 : Mem, woP mem a4 n m8 → ((inR (a4 + 1)) ∧ (w_X9_way_92 f t n P (a4 + 1) m8)))))))))) : w_X9_way_92 f t n P a4 mem := by
  unfold w_X9_way_92
  refine q_iload dX9_way_92 rfl ?_
  refine q_aload_n dX9_way_94 rfl ?_
  refine q_getr (r := 4) dX9_way_95 lf_RX9_19 s0 rfl rfl ?_
  refine q_geti dX9_way_98 lf_RX9_262 s4 rfl ?_
  refine q_icmp_ge (tgt := 128) dX9_way_101 (by decide) (fun c101 => ?_) (fun c101 => ?_)
  · have H := H.1 c101
    refine q_aload_n dX9_way_128 rfl ?_
    refine q_getr (r := 43) dX9_way_129 lf_RX9_93 s0 rfl rfl ?_
    refine q_iload_n dX9_way_132 rfl ?_
    obtain ⟨h1, H⟩ := H
    obtain ⟨h2, H⟩ := H
    refine q_iald dX9_way_133 s43 h1 h2 ?_
    exact q_iret dX9_way_134 rfl ⟨_, rfl, rfl, H⟩
  · have H := H.2 c101
    refine q_aload_n dX9_way_104 rfl ?_
    refine q_getr (r := 43) dX9_way_105 lf_RX9_93 s0 rfl rfl ?_
    refine q_iload_n dX9_way_108 rfl ?_
    obtain ⟨h3, H⟩ := H
    obtain ⟨h4, H⟩ := H
    refine q_iald dX9_way_109 s43 h3 h4 ?_
    refine q_bipush dX9_way_110 rfl (by decide) ?_
    refine q_icmp_ne (tgt := 128) dX9_way_112 (by decide) (fun c112 => ?_) (fun c112 => ?_)
    · have H := H.1 c112
      refine q_aload_n dX9_way_128 rfl ?_
      refine q_getr (r := 43) dX9_way_129 lf_RX9_93 s0 rfl rfl ?_
      refine q_iload_n dX9_way_132 rfl ?_
      refine q_iald dX9_way_133 s43 h3 h4 ?_
      exact q_iret dX9_way_134 rfl ⟨_, rfl, rfl, H⟩
    · have H := H.2 c112
      refine q_aload_n dX9_way_115 rfl ?_
      refine q_iload dX9_way_116 rfl ?_
      refine q_iload_n dX9_way_118 rfl ?_
      obtain ⟨h5, H⟩ := H
      obtain ⟨h6, H⟩ := H
      obtain ⟨h7, H⟩ := H
      refine q_cVn (as := [vI _, vI _]) dX9_way_119 kmX9_walkOn kvX9_walkOn lm_RX9_282 ⟨by decide, by decide⟩ s0 ⟨by decide, rfl⟩ rfl rfl (Nat.le_of_ble_eq_true rfl) (c_X9_walkOn h5 h6 h7) (fun m1 hq => ?_)
      have H := H m1 hq
      obtain ⟨h9, H⟩ := H
      refine q_iinc dX9_way_122 rfl h9 rfl ?_
      refine q_goto (tgt := 92) dX9_way_125 (by decide) ?_
      exact H
set_option maxRecDepth 20000 in
theorem v_X9_way {f t n : Int} {P : Int → Mem → Prop} {mem : Mem}  (H : (¬ (0 ≤ f ∧ f < mem 4 5) → P (-1) mem) ∧ ((0 ≤ f ∧ f < mem 4 5) → (¬ (0 ≤ t ∧ t < mem 4 5) → P (-1) mem) ∧ ((0 ≤ t ∧ t < mem 4 5) → ((1 ≤ n ∧ n ≤ 99) → (hsD mem) ∧ ((moD mem 19 20) ∧ ((nextOK (mem 4 5) (mem 4 3) (mem 37)) ∧ ((thOK mem) ∧ (∀ m5 : Mem, shoP mem 19 20 m5 → (w_X9_way_48 f t n P 0 m5)))))) ∧ (¬ (1 ≤ n ∧ n ≤ 99) → P (-1) mem)))) : Tot mX9_way 0 0 [vR 0, vI f, vI t, vI n] SH mem (Pr SH P) := by
  refine Tot.of rfl (Nat.le_of_ble_eq_true rfl) (by simp [isJ]) (ls := [vR 0, vI f, vI t, vI n, vJ 0]) rfl ?_
  refine q_aload_n dX9_way_0 rfl ?_
  refine q_getr (r := 4) dX9_way_1 lf_RX9_19 s0 rfl rfl ?_
  refine q_iload_n dX9_way_4 rfl ?_
  refine q_cVi (as := [vI _]) dX9_way_5 kmX3_hasCell kvX3_hasCell lm_RX9_161 ⟨by decide, by decide⟩ s4 ⟨by decide, rfl⟩ rfl rfl (Nat.le_of_ble_eq_true rfl) (c_X3_hasCell s4) (fun v m1 hq => ?_)
  obtain ⟨rfl, rfl⟩ := hq
  refine q_if_eq (tgt := 32) dX9_way_8 (by decide) (fun c8 => ?_) (fun c8 => ?_)
  · have H := H.1 (b_no c8)
    refine q_iconst dX9_way_32 (by decide) ?_
    exact q_iret dX9_way_33 rfl ⟨_, rfl, rfl, H⟩
  · have H := H.2 (b_yes c8)
    refine q_aload_n dX9_way_11 rfl ?_
    refine q_getr (r := 4) dX9_way_12 lf_RX9_19 s0 rfl rfl ?_
    refine q_iload_n dX9_way_15 rfl ?_
    refine q_cVi (as := [vI _]) dX9_way_16 kmX3_hasCell kvX3_hasCell lm_RX9_161 ⟨by decide, by decide⟩ s4 ⟨by decide, rfl⟩ rfl rfl (Nat.le_of_ble_eq_true rfl) (c_X3_hasCell s4) (fun v m1 hq => ?_)
    obtain ⟨rfl, rfl⟩ := hq
    refine q_if_eq (tgt := 32) dX9_way_19 (by decide) (fun c19 => ?_) (fun c19 => ?_)
    · have H := H.1 (b_no c19)
      refine q_iconst dX9_way_32 (by decide) ?_
      exact q_iret dX9_way_33 rfl ⟨_, rfl, rfl, H⟩
    · have H := H.2 (b_yes c19)
      refine q_iload_n dX9_way_22 rfl ?_
      refine q_iconst dX9_way_23 (by decide) ?_
      refine q_bipush dX9_way_24 rfl (by decide) ?_
      refine q_cSi (as := [vI _, vI _, vI _]) dX9_way_26 kmX9_isWithin ktX9_isWithin lm_RX9_97 ⟨by decide, by decide⟩ rfl rfl (Nat.le_of_ble_eq_true rfl) (c_X9_isWithin) (fun v m1 hq => ?_)
      obtain ⟨rfl, rfl⟩ := hq
      refine q_if_ne (tgt := 34) dX9_way_29 (by decide) (fun c29 => ?_) (fun c29 => ?_)
      · have H := H.1 (b_yes c29)
        refine q_aload_n dX9_way_34 rfl ?_
        refine q_getr (r := 34) dX9_way_35 lf_RX9_71 s0 rfl rfl ?_
        refine q_aload_n dX9_way_38 rfl ?_
        refine q_getr (r := 18) dX9_way_39 lf_RX9_29 s0 rfl rfl ?_
        obtain ⟨h1, H⟩ := H
        obtain ⟨h2, H⟩ := H
        obtain ⟨h3, H⟩ := H
        obtain ⟨h4, H⟩ := H
        refine q_cVn (as := [vR _]) dX9_way_42 kmX1_show kvX1_show lm_RX9_164 ⟨by decide, by decide⟩ s34 ⟨by decide, rfl⟩ rfl rfl (Nat.le_of_ble_eq_true rfl) (c_X1_show s18 s19 s20 (by decide) h1 h2 h3 h4) (fun m1 hq => ?_)
        have H := H m1 hq
        refine q_iconst dX9_way_45 (by decide) ?_
        refine q_istore dX9_way_46 (by decide) rfl ?_
        exact H
      · have H := H.2 (b_no c29)
        refine q_iconst dX9_way_32 (by decide) ?_
        exact q_iret dX9_way_33 rfl ⟨_, rfl, rfl, H⟩


def wyQ (m0 : Mem) (f t n v : Int) (m : Mem) : Prop := (((0 ≤ f ∧ f < m0 4 5) ∧ (0 ≤ t ∧ t < m0 4 5) ∧ (1 ≤ n ∧ n ≤ 99)) ∧ (∃ m5, shoP m0 19 20 m5 ∧ wayV (m0 4 5) (m0 4 3) (fun c => unhP m5 c n) f t v) ∧ Fr [35, 36, 38, 39, 40, 43] m0 m ∧ okD m) ∨ (¬ ((0 ≤ f ∧ f < m0 4 5) ∧ (0 ≤ t ∧ t < m0 4 5) ∧ (1 ≤ n ∧ n ≤ 99)) ∧ v = -1 ∧ m = m0)
noncomputable abbrev wyD (m5 : Mem) (f n : Int) : Int → Int := dist (m5 4 5) (m5 4 3) (qct (fun c => unhP m5 c n)) f
def wyI (m5 : Mem) (f n d : Int) (m : Mem) : Prop := Fr [39, 40, 43] m5 m ∧ losOK m ∧ ∀ c : Int, 0 ≤ c → c < m5 4 5 → (unhP m5 f n ∧ wyD m5 f n c ≤ d → m 43 c.toNat = wyD m5 f n c) ∧ (¬ (unhP m5 f n ∧ wyD m5 f n c ≤ d) → m 43 c.toNat = -9)
theorem wy_step {m5 m m6 : Mem} {f n d : Int} (hy : rdy m5) (f0 : 0 ≤ f) (fn : f < m5 4 5) (d0 : 0 ≤ d) (dn : d < m5 4 5) (hI : wyI m5 f n d m) (hw : woP m d n m6) : wyI m5 f n (d + 1) m6 := by
  obtain ⟨hg, -⟩ := okGD_g hy.2.1.1
  have hn := grid_n hg
  have hD : isD (m5 4 5) (m5 4 3) (qct (fun c => unhP m5 c n)) f (wyD m5 f n) := dist_isD hg qct_c f0 fn
  obtain ⟨hF, hl, hx⟩ := hI
  obtain ⟨hF6, hl6, hx6⟩ := hw
  have hnx := hy.2.1.2.1
  refine ⟨hF.tr hF6, hl6, fun c c0 cn => ?_⟩
  have q := hx6 c c0 (by rw [hF.at 4]; exact cn)
  have qc := hx c c0 cn
  have hC : woC m d n (4 * m 4 5) c ↔ (m 43 c.toNat = -9 ∧ unhP m5 c n ∧ ∃ e : Int, 0 ≤ e ∧ e < 4 * m5 4 5 ∧ m 43 (e / 4).toNat = d ∧ m5 37 e.toNat = c) := by
    unfold woC
    rw [unh_fr hF, hF.at 37, hF.at 4]
  rw [hC] at q
  generalize hDD : wyD m5 f n = D at *
  have hb := hD.2.1
  by_cases hu : unhP m5 f n
  · by_cases h1 : D c ≤ d
    · have e := qc.1 ⟨hu, h1⟩
      refine ⟨fun _ => ?_, fun r => absurd ⟨hu, by omega⟩ r⟩
      rw [q.2 (fun r => by have := (hb c c0 cn).1; omega), e]
    · by_cases h2 : D c = d + 1
      · have hne : c ≠ f := fun e => by rw [e, hD.1] at h2; omega
        obtain ⟨hq, a, a0, an, hnb, ea⟩ := way_back hD c0 cn (by omega) hne
        obtain ⟨e, e0, e1, e2⟩ := hnx.2 a c a0 an c0 cn hnb
        refine ⟨fun _ => ?_, fun r => absurd ⟨hu, by omega⟩ r⟩
        rw [q.1 ⟨qc.2 (fun r => h1 r.2), hq, e, by omega, by omega, ?_, e2⟩, h2]
        rw [show e / 4 = a by omega, (hx a a0 an).1 ⟨hu, by omega⟩]
        omega
      · refine ⟨fun r => by omega, fun _ => ?_⟩
        rw [q.2 ?_, qc.2 (fun r => h1 r.2)]
        rintro ⟨q1, q2, e, e0, e1, e2, e3⟩
        have a0 : 0 ≤ e / 4 := by omega
        have an : e / 4 < m5 4 5 := by omega
        have ha := hx (e / 4) a0 an
        have hda : D (e / 4) = d := by
          by_cases r : D (e / 4) ≤ d
          · rw [← ha.1 ⟨hu, r⟩]; exact e2
          · have := ha.2 (fun z => r z.2)
            omega
        rcases hnx.1 e e0 e1 with r | ⟨-, -, r⟩
        · omega
        · rw [e3] at r
          have := hD.2.2.1 (e / 4) c a0 an c0 cn r
          rw [qct_t (q := fun c => unhP m5 c n) q2] at this
          omega
  · refine ⟨fun r => absurd r.1 hu, fun _ => ?_⟩
    rw [q.2 ?_, qc.2 (fun r => hu r.1)]
    rintro ⟨q1, q2, e, e0, e1, e2, e3⟩
    have := (hx (e / 4) (by omega) (by omega)).2 (fun r => hu r.1)
    omega
theorem wy_loop {m0 m5 : Mem} {f t n : Int} (ho : okD m0) (h5 : shoP m0 19 20 m5) (f0 : 0 ≤ f) (fn : f < m0 4 5) (t0 : 0 ≤ t) (tn : t < m0 4 5) (n1 : 1 ≤ n) (n2 : n ≤ 99) : ∀ (k : Nat) (a4 : Int) (m : Mem), 0 ≤ a4 → a4 ≤ m0 4 5 → (m0 4 5 - a4).toNat ≤ k → wyI m5 f n a4 m → w_X9_way_92 f t n (wyQ m0 f t n) a4 m := by
  have hn := nD_b ho.1
  have e4 : m5 4 = m0 4 := h5.1.at 4
  have hok := sho_ok ho h5
  obtain ⟨hg, -⟩ := okGD_g hok.2.2.1.1
  have hD : isD (m5 4 5) (m5 4 3) (qct (fun c => unhP m5 c n)) f (wyD m5 f n) := dist_isD hg qct_c f0 (by rw [e4]; exact fn)
  have hfin : ∀ (a4 : Int) (m : Mem), 0 ≤ a4 → a4 ≤ m0 4 5 → wyI m5 f n a4 m → (a4 = m0 4 5 ∨ m 43 t.toNat ≠ -9) → wyQ m0 f t n (m 43 t.toNat) m := by
    intro a4 m h0 h1 hI hz
    have hL : Fr [35, 36, 38, 39, 40, 43] m0 m := (h5.1.mono (by decide)).tr (hI.1.mono (by decide))
    have hom : okD m := okD_fr hI.1 hok.1
    refine Or.inl ⟨⟨⟨f0, fn⟩, ⟨t0, tn⟩, n1, n2⟩, ⟨m5, h5, ?_⟩, hL, hom⟩
    have q := hI.2.2 t t0 (by rw [e4]; exact tn)
    rw [← e4]
    by_cases c : unhP m5 f n ∧ wyD m5 f n t ≤ a4
    · rw [q.1 c]
      have h : wyD m5 f n t < 50 := by have := c.2; omega
      exact Or.inl ⟨c.1, h, rfl⟩
    · rw [q.2 c]
      refine Or.inr ⟨fun r => ?_, rfl⟩
      rcases hz with hz | hz
      · have h := way_lt hD t0 (by rw [e4]; exact tn) r.2
        rw [e4] at h
        have h' : wyD m5 f n t < m0 4 5 := h
        exact c ⟨r.1, by omega⟩
      · exact hz (q.2 c)
  intro k
  induction k with
  | zero =>
    intro a4 m h0 h1 hk hI
    refine v_X9_way_92 ⟨fun q => ⟨t0, by omega, hfin a4 m h0 h1 hI (Or.inl (by omega))⟩, fun q => ?_⟩
    rw [hI.1.at 4, e4] at q
    omega
  | succ k ih =>
    intro a4 m h0 h1 hk hI
    refine v_X9_way_92 ⟨fun q => ⟨t0, by omega, hfin a4 m h0 h1 hI (Or.inl (by rw [hI.1.at 4, e4] at q; omega))⟩, fun q => ⟨t0, by omega, fun z => hfin a4 m h0 h1 hI (Or.inr z), fun z => ⟨?_, by omega, by omega, fun m6 h6 => ⟨by unfold inR; omega, ?_⟩⟩⟩⟩
    · exact ⟨(hsD_fr hI.1).mpr hok.2.1, (flOK_fr hI.1).mpr hok.2.2.1, hI.2.1⟩
    · rw [hI.1.at 4, e4] at q
      exact ih _ _ (by omega) (by omega) (by omega) (wy_step hok.2 f0 (by rw [e4]; exact fn) h0 (by rw [e4]; exact q) hI h6)
theorem rdy_43 {m m' : Mem} (h : Fr [43] m m') (hy : rdy m) : rdy m' := by
  refine ⟨(hsD_fr h).mpr hy.1, (flOK_fr h).mpr hy.2.1, ?_⟩
  unfold losOK rowD
  rw [DD_fr h, h.at 4, h.at 39, h.at 40]
  exact hy.2.2
theorem wy_0 {m5 m : Mem} {f n : Int} (hy : rdy m5) (f0 : 0 ≤ f) (fn : f < m5 4 5) (hF : Fr [39, 40, 43] m5 m) (hl : losOK m) (hx : ∀ c : Int, 0 ≤ c → c < 12 → (c = f ∧ unhP m5 f n → m 43 c.toNat = 0) ∧ (¬ (c = f ∧ unhP m5 f n) → m 43 c.toNat = -9)) : wyI m5 f n 0 m := by
  obtain ⟨hg, -⟩ := okGD_g hy.2.1.1
  have hn := grid_n hg
  have hD : isD (m5 4 5) (m5 4 3) (qct (fun c => unhP m5 c n)) f (wyD m5 f n) := dist_isD hg qct_c f0 fn
  refine ⟨hF, hl, fun c c0 cn => ?_⟩
  have hxc := hx c c0 (by omega)
  generalize wyD m5 f n = D at *
  have hz : D c ≤ 0 → c = f := fun h => Classical.byContradiction fun e => by
    obtain ⟨a, a0, an, hn, hl⟩ := hD.2.2.2 c c0 cn e
    have h1 := hD.2.1 a a0 an
    have h2 := (qct_c (q := fun c => unhP m5 c n) (n := m5 4 5) a c a0 an c0 cn).1
    omega
  refine ⟨fun r => ?_, fun r => ?_⟩
  · rw [hxc.1 ⟨hz r.2, r.1⟩, hz r.2, hD.1]
  · exact hxc.2 (fun z => r ⟨z.2, by rw [z.1, hD.1]; omega⟩)
theorem wy_fill {m0 m5 : Mem} {f t n : Int} (ho : okD m0) (h5 : shoP m0 19 20 m5) (f0 : 0 ≤ f) (fn : f < m0 4 5) (t0 : 0 ≤ t) (tn : t < m0 4 5) (n1 : 1 ≤ n) (n2 : n ≤ 99) : ∀ (k : Nat) (a4 : Int) (m : Mem), 0 ≤ a4 → a4 ≤ 12 → (12 - a4).toNat ≤ k → Fr [43] m5 m → (∀ c : Int, 0 ≤ c → c < a4 → m 43 c.toNat = -9) → w_X9_way_48 f t n (wyQ m0 f t n) a4 m := by
  have hn := nD_b ho.1
  have e4 : m5 4 = m0 4 := h5.1.at 4
  have hok := sho_ok ho h5
  have hfin : ∀ (m : Mem), Fr [43] m5 m → (∀ c : Int, 0 ≤ c → c < 12 → m 43 c.toNat = -9) → (rdy m) ∧ ((0 ≤ f) ∧ ((f < m 4 5) ∧ ((0 ≤ n) ∧ ((n ≤ 99) ∧ (∀ (v6 : Int) (m7 : Mem), anQ m (fun v => (unhP m f n ∧ v = 1) ∨ (¬ unhP m f n ∧ v = 0)) v6 m7 → ((v6 = 0 → w_X9_way_92 f t n (wyQ m0 f t n) 0 m7) ∧ (¬ v6 = 0 → (f < 12) ∧ (∀ m9 : Mem, m9 = mset m7 43 f.toNat 0 → (w_X9_way_92 f t n (wyQ m0 f t n) 0 m9))))))))) := by
    intro m hF hx
    refine ⟨rdy_43 hF hok.2, f0, by rw [hF.at 4, e4]; exact fn, by omega, n2, fun v6 m7 h7 => ?_⟩
    rw [unh_fr hF] at h7
    have hF7 : Fr [39, 40, 43] m5 m7 := (hF.mono (by decide)).tr (h7.2.1.mono (by decide))
    have e7 : m7 43 = m 43 := h7.2.1.at 43
    have fn5 : f < m5 4 5 := by rw [e4]; exact fn
    refine ⟨fun z => ?_, fun z => ⟨by omega, fun m9 h9 => ?_⟩⟩
    · refine wy_loop ho h5 f0 fn t0 tn n1 n2 _ 0 m7 (by omega) (by omega) (Nat.le_refl _) (wy_0 hok.2 f0 fn5 hF7 h7.2.2 (fun c c0 c1 => ?_))
      rw [e7, hx c c0 c1]
      refine ⟨fun q => absurd q.2 ?_, fun _ => rfl⟩
      intro q
      rcases h7.1 with ⟨-, r⟩ | ⟨r, -⟩
      · omega
      · exact r q
    · have hu : unhP m5 f n := by
        rcases h7.1 with ⟨r, -⟩ | ⟨-, r⟩
        · exact r
        · exact absurd r z
      have hFm : Fr [43] m7 m9 := by rw [h9]; exact Fr.rf.set (by decide)
      refine wy_loop ho h5 f0 fn t0 tn n1 n2 _ 0 m9 (by omega) (by omega) (Nat.le_refl _) (wy_0 hok.2 f0 fn5 (hF7.tr (hFm.mono (by decide))) ?_ (fun c c0 c1 => ?_))
      · unfold losOK rowD
        rw [DD_fr hFm, hFm.at 4, hFm.at 39, hFm.at 40]
        exact h7.2.2
      · rw [h9, mset_at]
        by_cases e : c = f
        · rw [e, if_pos ⟨rfl, rfl⟩]
          exact ⟨fun _ => rfl, fun r => absurd ⟨rfl, hu⟩ r⟩
        · rw [if_neg (fun r => e (by omega)), e7]
          exact ⟨fun r => absurd r.1 e, fun _ => hx c c0 c1⟩
  intro k
  induction k with
  | zero =>
    intro a4 m h0 h1 hk hF hx
    exact v_X9_way_48 ⟨fun _ => hfin m hF (fun c c0 c1 => hx c c0 (by omega)), fun q => by omega⟩
  | succ k ih =>
    intro a4 m h0 h1 hk hF hx
    refine v_X9_way_48 ⟨fun q => hfin m hF (fun c c0 c1 => hx c c0 (by omega)), fun q => ⟨h0, fun m11 h11 => ⟨by unfold inR; omega, ?_⟩⟩⟩
    rw [h11]
    refine ih _ _ (by omega) (by omega) (by omega) (hF.set (by decide)) (fun c c0 c1 => ?_)
    rw [mset_at]
    by_cases e : c = a4
    · rw [e, if_pos ⟨rfl, rfl⟩]
    · rw [if_neg (fun r => e (by omega))]
      exact hx c c0 (by omega)
theorem c_X9_way {m0 : Mem} {f t n : Int} (ho : okD m0) : Tot mX9_way 0 0 [vR 0, vI f, vI t, vI n] SH m0 (Pr SH (wyQ m0 f t n)) := by
  refine v_X9_way ⟨fun q => Or.inr ⟨fun z => q z.1, rfl, rfl⟩, fun q => ⟨fun q2 => Or.inr ⟨fun z => q2 z.2.1, rfl, rfl⟩, fun q2 => ⟨fun q3 => ⟨ho.1, ho.2.1, ho.2.2.1, ho.2.2.2.1, fun m5 h5 => ?_⟩, fun q3 => Or.inr ⟨fun z => q3 z.2.2, rfl, rfl⟩⟩⟩⟩
  exact wy_fill ho h5 q.1 q.2 q2.1 q2.2 q3.1 q3.2 12 0 m5 (by omega) (by omega) (by omega) Fr.rf (fun c c0 c1 => by omega)
