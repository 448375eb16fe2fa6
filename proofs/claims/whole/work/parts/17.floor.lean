/-! THE FLOOR: taken, weighSteps, setThick, uncover, sheetOn, nextTo -/
def takF2 (on th : Nat → Int) (a b : Int) : Int := if on b.toNat = -9 then 0 else if on a.toNat = -9 ∨ on a.toNat = on b.toNat then th (on b.toNat).toNat else th (on b.toNat).toNat / 2
theorem takF2_eq {fall : Int} {on th : Nat → Int} {a b : Int} : fall + takF2 on th a b = takeF fall on th a b := by
  unfold takF2 takeF
  split
  · omega
  · split <;> rfl
theorem c_X1_taken {a b : Int} {mem : Mem} (hg : okGD mem) (a0 : 0 ≤ a) (a1 : a < 12) (b0 : 0 ≤ b) (b1 : b < 12) : Tot mX1_taken 0 0 [vR 34, vI a, vI b] SH mem (Pr SH (Pv (takF2 (mem 35) (mem 36) a b) mem)) := by
  obtain ⟨⟨-, -, f1, f2, ho, ht⟩, -⟩ := hg
  have h1 := ho b b0 b1
  refine v_X1_taken ⟨b0, b1, fun c => ⟨by unfold takF2; rw [if_pos (by omega)], rfl⟩, fun c => ⟨fun c2 => ⟨a0, a1, ?_⟩, fun c2 => by omega⟩⟩
  have h2 := ht (mem 35 b.toNat) (by omega) (by omega)
  unfold takF2
  rw [if_neg (by omega)]
  exact ⟨fun c3 => ⟨by rw [if_pos (Or.inl c3)], rfl⟩, fun c3 => ⟨fun c4 => ⟨by rw [if_pos (Or.inr c4)], rfl⟩, fun c4 => ⟨h2.1, by rw [if_neg (by omega)], rfl⟩⟩⟩
def w_X1_weighSteps_2 (P : Mem → Prop) (a1 : Int) (u2 : Vl) (u3 : Vl) (mem : Mem) : Prop := WP mX1_weighSteps none 0 0 (Pn SH P) 2 [vR 34, vI a1, u2, u3] [] SH mem
def w_X1_weighSteps_22 (P : Mem → Prop) (a1 : Int) (a2 : Int) (u3 : Vl) (mem : Mem) : Prop := WP mX1_weighSteps none 0 0 (Pn SH P) 22 [vR 34, vI a1, vI a2, u3] [] SH mem
set_option maxRecDepth 20000 in
theorem v_X1_weighSteps_2 {P : Mem → Prop} {a1 : Int} {u2 : Vl} {u3 : Vl} {mem : Mem}  (H : ((mem 4 5) ≤ a1 → P mem) ∧ (a1 < (mem 4 5) → (0 ≤ a1) ∧ ((a1 < 12) ∧ (∀ m3 : Mem, m3 = mset mem 40 a1.toNat 0 → (w_X1_weighSteps_22 P a1 0 u3 m3))))) : w_X1_weighSteps_2 P a1 u2 u3 mem := by
  unfold w_X1_weighSteps_2
  refine q_iload_n dX1_weighSteps_2 rfl ?_
  refine q_aload_n dX1_weighSteps_3 rfl ?_
  refine q_getr (r := 4) dX1_weighSteps_4 lf_RX1_31 s34 rfl rfl ?_
  refine q_geti dX1_weighSteps_7 lf_RX1_82 s4 rfl ?_
  refine q_icmp_ge (tgt := 85) dX1_weighSteps_10 (by decide) (fun c10 => ?_) (fun c10 => ?_)
  · have H := H.1 c10
    exact q_vret dX1_weighSteps_85 rfl ⟨rfl, rfl, H⟩
  · have H := H.2 c10
    refine q_aload_n dX1_weighSteps_13 rfl ?_
    refine q_getr (r := 40) dX1_weighSteps_14 lf_RX1_27 s34 rfl rfl ?_
    refine q_iload_n dX1_weighSteps_17 rfl ?_
    refine q_iconst dX1_weighSteps_18 (by decide) ?_
    obtain ⟨h1, H⟩ := H
    obtain ⟨h2, H⟩ := H
    refine q_zast dX1_weighSteps_19 s40 h1 h2 (by decide) ?_
    have H := H _ rfl
    refine q_iconst dX1_weighSteps_20 (by decide) ?_
    refine q_istore_n dX1_weighSteps_21 (by decide) rfl ?_
    exact H
set_option maxRecDepth 20000 in
theorem v_X1_weighSteps_22 {P : Mem → Prop} {a1 : Int} {a2 : Int} {u3 : Vl} {mem : Mem}  (H : (4 ≤ a2 → (inR (a1 + 1)) ∧ (w_X1_weighSteps_2 P (a1 + 1) (vI a2) u3 mem)) ∧ (a2 < 4 → (inR (a1 * 4)) ∧ ((inR ((a1 * 4) + a2)) ∧ ((0 ≤ ((a1 * 4) + a2)) ∧ ((((a1 * 4) + a2) < 48) ∧ ((¬ (0 ≤ (mem 37 ((a1 * 4) + a2).toNat) ∧ (mem 37 ((a1 * 4) + a2).toNat) < mem 4 5) → (inR (a2 + 1)) ∧ (w_X1_weighSteps_22 P a1 (a2 + 1) (vI (mem 37 ((a1 * 4) + a2).toNat)) mem)) ∧ ((0 ≤ (mem 37 ((a1 * 4) + a2).toNat) ∧ (mem 37 ((a1 * 4) + a2).toNat) < mem 4 5) → (okGD mem) ∧ ((0 ≤ a1) ∧ ((a1 < 12) ∧ (((mem 37 ((a1 * 4) + a2).toNat) < 12) ∧ ((inR ((mem 4 6) + (takF2 (mem 35) (mem 36) a1 (mem 37 ((a1 * 4) + a2).toNat)))) ∧ (∀ m12 : Mem, m12 = mset mem 38 ((a1 * 4) + a2).toNat ((mem 4 6) + (takF2 (mem 35) (mem 36) a1 (mem 37 ((a1 * 4) + a2).toNat))) → ((inR (a2 + 1)) ∧ (w_X1_weighSteps_22 P a1 (a2 + 1) (vI (mem 37 ((a1 * 4) + a2).toNat)) m12)))))))))))))) : w_X1_weighSteps_22 P a1 a2 u3 mem := by
  unfold w_X1_weighSteps_22
  refine q_iload_n dX1_weighSteps_22 rfl ?_
  refine q_iconst dX1_weighSteps_23 (by decide) ?_
  refine q_icmp_ge (tgt := 79) dX1_weighSteps_24 (by decide) (fun c24 => ?_) (fun c24 => ?_)
  · have H := H.1 c24
    obtain ⟨h1, H⟩ := H
    refine q_iinc dX1_weighSteps_79 rfl h1 rfl ?_
    refine q_goto (tgt := 2) dX1_weighSteps_82 (by decide) ?_
    exact H
  · have H := H.2 c24
    refine q_aload_n dX1_weighSteps_27 rfl ?_
    refine q_getr (r := 37) dX1_weighSteps_28 lf_RX1_18 s34 rfl rfl ?_
    refine q_iload_n dX1_weighSteps_31 rfl ?_
    refine q_iconst dX1_weighSteps_32 (by decide) ?_
    obtain ⟨h2, H⟩ := H
    refine q_imul dX1_weighSteps_33 h2 ?_
    refine q_iload_n dX1_weighSteps_34 rfl ?_
    obtain ⟨h3, H⟩ := H
    refine q_iadd dX1_weighSteps_35 h3 ?_
    obtain ⟨h4, H⟩ := H
    obtain ⟨h5, H⟩ := H
    refine q_iald dX1_weighSteps_36 s37 h4 h5 ?_
    refine q_istore_n dX1_weighSteps_37 (by decide) rfl ?_
    refine q_aload_n dX1_weighSteps_38 rfl ?_
    refine q_getr (r := 4) dX1_weighSteps_39 lf_RX1_31 s34 rfl rfl ?_
    refine q_iload_n dX1_weighSteps_42 rfl ?_
    refine q_cVi (as := [vI _]) dX1_weighSteps_43 kmX3_hasCell kvX3_hasCell lm_RX1_38 ⟨by decide, by decide⟩ s4 ⟨by decide, rfl⟩ rfl rfl (Nat.le_of_ble_eq_true rfl) (c_X3_hasCell s4) (fun v m1 hq => ?_)
    obtain ⟨rfl, rfl⟩ := hq
    refine q_if_eq (tgt := 73) dX1_weighSteps_46 (by decide) (fun c46 => ?_) (fun c46 => ?_)
    · have H := H.1 (b_no c46)
      obtain ⟨h6, H⟩ := H
      refine q_iinc dX1_weighSteps_73 rfl h6 rfl ?_
      refine q_goto (tgt := 22) dX1_weighSteps_76 (by decide) ?_
      exact H
    · have H := H.2 (b_yes c46)
      refine q_aload_n dX1_weighSteps_49 rfl ?_
      refine q_getr (r := 38) dX1_weighSteps_50 lf_RX1_21 s34 rfl rfl ?_
      refine q_iload_n dX1_weighSteps_53 rfl ?_
      refine q_iconst dX1_weighSteps_54 (by decide) ?_
      refine q_imul dX1_weighSteps_55 h2 ?_
      refine q_iload_n dX1_weighSteps_56 rfl ?_
      refine q_iadd dX1_weighSteps_57 h3 ?_
      refine q_aload_n dX1_weighSteps_58 rfl ?_
      refine q_getr (r := 4) dX1_weighSteps_59 lf_RX1_31 s34 rfl rfl ?_
      refine q_geti dX1_weighSteps_62 lf_RX1_85 s4 rfl ?_
      refine q_aload_n dX1_weighSteps_65 rfl ?_
      refine q_iload_n dX1_weighSteps_66 rfl ?_
      refine q_iload_n dX1_weighSteps_67 rfl ?_
      obtain ⟨h7, H⟩ := H
      obtain ⟨h8, H⟩ := H
      obtain ⟨h9, H⟩ := H
      obtain ⟨h10, H⟩ := H
      refine q_cVi (as := [vI _, vI _]) dX1_weighSteps_68 kmX1_taken kvX1_taken lm_RX1_88 ⟨by decide, by decide⟩ s34 ⟨by decide, rfl⟩ rfl rfl (Nat.le_of_ble_eq_true rfl) (c_X1_taken h7 h8 h9 (b_yes c46).1 h10) (fun v m1 hq => ?_)
      obtain ⟨rfl, rfl⟩ := hq
      obtain ⟨h11, H⟩ := H
      refine q_iadd dX1_weighSteps_71 h11 ?_
      refine q_iast dX1_weighSteps_72 s38 h4 h5 ?_
      have H := H _ rfl
      obtain ⟨h13, H⟩ := H
      refine q_iinc dX1_weighSteps_73 rfl h13 rfl ?_
      refine q_goto (tgt := 22) dX1_weighSteps_76 (by decide) ?_
      exact H
set_option maxRecDepth 20000 in
theorem v_X1_weighSteps {P : Mem → Prop} {mem : Mem}  (H : w_X1_weighSteps_2 P 0 (vJ 0) (vJ 0) mem) : Tot mX1_weighSteps 0 0 [vR 34] SH mem (Pn SH P) := by
  refine Tot.of rfl (Nat.le_of_ble_eq_true rfl) (by simp [isJ]) (ls := [vR 34, vJ 0, vJ 0, vJ 0]) rfl ?_
  refine q_iconst dX1_weighSteps_0 (by decide) ?_
  refine q_istore_n dX1_weighSteps_1 (by decide) rfl ?_
  exact H


def wgI (m0 : Mem) (kc E : Int) (m : Mem) : Prop := Fr [38, 40] m0 m ∧ (∀ c : Int, 0 ≤ c → c < kc → m 40 c.toNat = 0) ∧ ∀ e : Int, 0 ≤ e → e < E → 0 ≤ m0 37 e.toNat → m0 37 e.toNat < m0 4 5 → m 38 e.toNat = ctD m0 (e / 4) (m0 37 e.toNat)
def wgP (m0 : Mem) (m : Mem) : Prop := Fr [38, 40] m0 m ∧ (∀ c : Int, 0 ≤ c → c < m0 4 5 → m 40 c.toNat = 0) ∧ stepOK (m0 4 5) (ctD m0) (m0 37) (m 38)
theorem wg_in {m0 : Mem} {a1 : Int} {P : Mem → Prop} (hg : okGD m0) (c0 : 0 ≤ a1) (cn : a1 < m0 4 5) (K : ∀ (u2 u3 : Vl) (m : Mem), wgI m0 (a1 + 1) (4 * (a1 + 1)) m → w_X1_weighSteps_2 P (a1 + 1) u2 u3 m) :
    ∀ (k : Nat) (a2 : Int) (u3 : Vl) (m : Mem), 0 ≤ a2 → a2 ≤ 4 → (4 - a2).toNat ≤ k → wgI m0 (a1 + 1) (4 * a1 + a2) m → w_X1_weighSteps_22 P a1 a2 u3 m := by
  have hn := grid_n (okGD_g hg).1
  intro k
  induction k with
  | zero =>
    intro a2 u3 m h0 h1 hk hI
    exact v_X1_weighSteps_22 ⟨fun c => ⟨by omega, K _ _ _ (by rw [show 4 * (a1 + 1) = 4 * a1 + a2 by omega]; exact hI)⟩, fun c => by omega⟩
  | succ k ih =>
    intro a2 u3 m h0 h1 hk hI
    obtain ⟨hF, hK, hE⟩ := id hI
    have e4 := hF.at 4
    have e35 := hF.at 35
    have e36 := hF.at 36
    have e37 := hF.at 37
    have hg' : okGD m := by unfold okGD; rw [e4, e35, e36]; exact hg
    refine v_X1_weighSteps_22 ⟨fun c => ⟨by omega, K _ _ _ (by rw [show 4 * (a1 + 1) = 4 * a1 + a2 by omega]; exact hI)⟩, fun c => ⟨by omega, by omega, by omega, by omega, ?_⟩⟩
    rw [e37, e4, e35, e36, show a1 * 4 + a2 = 4 * a1 + a2 by omega]
    refine ⟨fun c2 => ⟨by omega, ih _ _ _ (by omega) (by omega) (by omega) ⟨hF, hK, fun e q0 q1 q2 q3 => ?_⟩⟩, fun c2 => ⟨hg', c0, by omega, by omega, ?_⟩⟩
    · by_cases he : e = 4 * a1 + a2
      · rw [he] at q2 q3
        exact absurd ⟨q2, q3⟩ c2
      · exact hE e q0 (by omega) q2 q3
    · have hb := takeF_b hg.1 c0 (by omega) c2.1 (show m0 37 (4 * a1 + a2).toNat < 12 by omega)
      have ht := takF2_eq (fall := m0 4 6) (on := m0 35) (th := m0 36) (a := a1) (b := m0 37 (4 * a1 + a2).toNat)
      refine ⟨by omega, fun m12 hm => ⟨by omega, ih _ _ _ (by omega) (by omega) (by omega) ⟨by rw [hm]; exact hF.set (by decide), fun c q0 q1 => by rw [hm]; exact hK c q0 q1, fun e q0 q1 q2 q3 => ?_⟩⟩⟩
      rw [hm, mset_at]
      by_cases he : e = 4 * a1 + a2
      · rw [if_pos ⟨rfl, by rw [he]⟩, he, ht, show (4 * a1 + a2) / 4 = a1 by omega]
      · rw [if_neg (by omega)]
        exact hE e q0 (by omega) q2 q3
theorem wg_out {m0 : Mem} {P : Mem → Prop} (hg : okGD m0) (K : ∀ m, wgP m0 m → P m) :
    ∀ (k : Nat) (a1 : Int) (u2 u3 : Vl) (m : Mem), 0 ≤ a1 → (m0 4 5 - a1).toNat ≤ k → wgI m0 a1 (4 * a1) m → w_X1_weighSteps_2 P a1 u2 u3 m := by
  have hn := grid_n (okGD_g hg).1
  intro k
  induction k with
  | zero =>
    intro a1 u2 u3 m h0 hk hI
    have e4 := hI.1.at 4
    refine v_X1_weighSteps_2 ⟨fun c => ?_, fun c => by rw [e4] at c; omega⟩
    rw [e4] at c
    exact K m ⟨hI.1, fun x x0 x1 => hI.2.1 x x0 (by omega), fun e q0 q1 q2 q3 => hI.2.2 e q0 (by omega) q2 q3⟩
  | succ k ih =>
    intro a1 u2 u3 m h0 hk hI
    have e4 := hI.1.at 4
    refine v_X1_weighSteps_2 ⟨fun c => ?_, fun c => ?_⟩
    · rw [e4] at c
      exact K m ⟨hI.1, fun x x0 x1 => hI.2.1 x x0 (by omega), fun e q0 q1 q2 q3 => hI.2.2 e q0 (by omega) q2 q3⟩
    · rw [e4] at c
      refine ⟨h0, by omega, fun m3 hm => wg_in hg h0 c (fun u2 u3 m h => ih _ _ _ _ (by omega) (by omega) h) _ 0 u3 m3 (by omega) (by omega) (Nat.le_refl _) ?_⟩
      refine ⟨by rw [hm]; exact hI.1.set (by decide), fun x x0 x1 => ?_, fun e q0 q1 q2 q3 => ?_⟩
      · rw [hm, mset_at]
        by_cases hx : x = a1
        · rw [if_pos ⟨rfl, by rw [hx]⟩]
        · rw [if_neg (by omega)]
          exact hI.2.1 x x0 (by omega)
      · rw [hm]
        exact hI.2.2 e q0 (by omega) q2 q3
theorem c_X1_weighSteps {m0 : Mem} (hg : okGD m0) : Tot mX1_weighSteps 0 0 [vR 34] SH m0 (Pn SH (wgP m0)) :=
  v_X1_weighSteps (wg_out hg (fun m h => h) _ 0 _ _ m0 (by omega) (Nat.le_refl _) ⟨Fr.rf, fun c h0 h1 => by omega, fun e h0 h1 => by omega⟩)
theorem wgP_ok {m0 m : Mem} (hg : okGD m0) (hn : nextOK (m0 4 5) (m0 4 3) (m0 37)) (h : wgP m0 m) : flOK m ∧ losOK m := by
  obtain ⟨hF, hk, hs⟩ := h
  refine ⟨?_, fun f f0 fn hne => ?_⟩
  · unfold flOK okGD ctD
    rw [hF.at 4, hF.at 35, hF.at 36, hF.at 37]
    exact ⟨hg, hn, hs⟩
  · rw [hF.at 4] at fn
    exact absurd (hk f f0 fn) hne
set_option maxRecDepth 20000 in
theorem v_X1_setThick {s v : Int} {P : Mem → Prop} {mem : Mem}  (H : (s < 0 → P mem) ∧ (0 ≤ s → (4 ≤ s → P mem) ∧ (s < 4 → ((mem 36 s.toNat) = v → P mem) ∧ (¬ (mem 36 s.toNat) = v → ∀ m1 : Mem, m1 = mset mem 36 s.toNat v → ((okGD m1) ∧ (∀ m3 : Mem, wgP m1 m3 → (P m3))))))) : Tot mX1_setThick 0 0 [vR 34, vI s, vI v] SH mem (Pn SH P) := by
  refine Tot.of rfl (Nat.le_of_ble_eq_true rfl) (by simp [isJ]) (ls := [vR 34, vI s, vI v]) rfl ?_
  refine q_iload_n dX1_setThick_0 rfl ?_
  refine q_if_lt (tgt := 30) dX1_setThick_1 (by decide) (fun c1 => ?_) (fun c1 => ?_)
  · have H := H.1 c1
    exact q_vret dX1_setThick_30 rfl ⟨rfl, rfl, H⟩
  · have H := H.2 c1
    refine q_iload_n dX1_setThick_4 rfl ?_
    refine q_iconst dX1_setThick_5 (by decide) ?_
    refine q_icmp_ge (tgt := 30) dX1_setThick_6 (by decide) (fun c6 => ?_) (fun c6 => ?_)
    · have H := H.1 c6
      exact q_vret dX1_setThick_30 rfl ⟨rfl, rfl, H⟩
    · have H := H.2 c6
      refine q_aload_n dX1_setThick_9 rfl ?_
      refine q_getr (r := 36) dX1_setThick_10 lf_RX1_15 s34 rfl rfl ?_
      refine q_iload_n dX1_setThick_13 rfl ?_
      refine q_iald dX1_setThick_14 s36 c1 c6 ?_
      refine q_iload_n dX1_setThick_15 rfl ?_
      refine q_icmp_eq (tgt := 30) dX1_setThick_16 (by decide) (fun c16 => ?_) (fun c16 => ?_)
      · have H := H.1 c16
        exact q_vret dX1_setThick_30 rfl ⟨rfl, rfl, H⟩
      · have H := H.2 c16
        refine q_aload_n dX1_setThick_19 rfl ?_
        refine q_getr (r := 36) dX1_setThick_20 lf_RX1_15 s34 rfl rfl ?_
        refine q_iload_n dX1_setThick_23 rfl ?_
        refine q_iload_n dX1_setThick_24 rfl ?_
        refine q_iast dX1_setThick_25 s36 c1 c6 ?_
        have H := H _ rfl
        refine q_aload_n dX1_setThick_26 rfl ?_
        obtain ⟨h2, H⟩ := H
        refine q_cVn (as := []) dX1_setThick_27 kmX1_weighSteps kvX1_weighSteps lm_RX1_79 ⟨by decide, by decide⟩ s34 ⟨by decide, rfl⟩ rfl rfl (Nat.le_of_ble_eq_true rfl) (c_X1_weighSteps h2) (fun m1 hq => ?_)
        have H := H m1 hq
        exact q_vret dX1_setThick_30 rfl ⟨rfl, rfl, H⟩

def w_X1_uncover_2 (s : Int) (P : Mem → Prop) (a2 : Int) (mem : Mem) : Prop := WP mX1_uncover none 0 0 (Pn SH P) 2 [vR 34, vI s, vI a2] [] SH mem
set_option maxRecDepth 20000 in
theorem v_X1_uncover_2 {s : Int} {P : Mem → Prop} {a2 : Int} {mem : Mem}  (H : (12 ≤ a2 → (okGD mem) ∧ (∀ m2 : Mem, wgP mem m2 → (P m2))) ∧ (a2 < 12 → (0 ≤ a2) ∧ ((¬ (mem 35 a2.toNat) = s → (inR (a2 + 1)) ∧ (w_X1_uncover_2 s P (a2 + 1) mem)) ∧ ((mem 35 a2.toNat) = s → ∀ m5 : Mem, m5 = mset mem 35 a2.toNat (-9) → ((inR (a2 + 1)) ∧ (w_X1_uncover_2 s P (a2 + 1) m5)))))) : w_X1_uncover_2 s P a2 mem := by
  unfold w_X1_uncover_2
  refine q_iload_n dX1_uncover_2 rfl ?_
  refine q_bipush dX1_uncover_3 rfl (by decide) ?_
  refine q_icmp_ge (tgt := 32) dX1_uncover_5 (by decide) (fun c5 => ?_) (fun c5 => ?_)
  · have H := H.1 c5
    refine q_aload_n dX1_uncover_32 rfl ?_
    obtain ⟨h1, H⟩ := H
    refine q_cVn (as := []) dX1_uncover_33 kmX1_weighSteps kvX1_weighSteps lm_RX1_79 ⟨by decide, by decide⟩ s34 ⟨by decide, rfl⟩ rfl rfl (Nat.le_of_ble_eq_true rfl) (c_X1_weighSteps h1) (fun m1 hq => ?_)
    have H := H m1 hq
    exact q_vret dX1_uncover_36 rfl ⟨rfl, rfl, H⟩
  · have H := H.2 c5
    refine q_aload_n dX1_uncover_8 rfl ?_
    refine q_getr (r := 35) dX1_uncover_9 lf_RX1_9 s34 rfl rfl ?_
    refine q_iload_n dX1_uncover_12 rfl ?_
    obtain ⟨h3, H⟩ := H
    refine q_iald dX1_uncover_13 s35 h3 c5 ?_
    refine q_iload_n dX1_uncover_14 rfl ?_
    refine q_icmp_ne (tgt := 26) dX1_uncover_15 (by decide) (fun c15 => ?_) (fun c15 => ?_)
    · have H := H.1 c15
      obtain ⟨h4, H⟩ := H
      refine q_iinc dX1_uncover_26 rfl h4 rfl ?_
      refine q_goto (tgt := 2) dX1_uncover_29 (by decide) ?_
      exact H
    · have H := H.2 c15
      refine q_aload_n dX1_uncover_18 rfl ?_
      refine q_getr (r := 35) dX1_uncover_19 lf_RX1_9 s34 rfl rfl ?_
      refine q_iload_n dX1_uncover_22 rfl ?_
      refine q_bipush dX1_uncover_23 rfl (by decide) ?_
      refine q_iast dX1_uncover_25 s35 h3 c5 ?_
      have H := H _ rfl
      obtain ⟨h6, H⟩ := H
      refine q_iinc dX1_uncover_26 rfl h6 rfl ?_
      refine q_goto (tgt := 2) dX1_uncover_29 (by decide) ?_
      exact H
set_option maxRecDepth 20000 in
theorem v_X1_uncover {s : Int} {P : Mem → Prop} {mem : Mem}  (H : w_X1_uncover_2 s P 0 mem) : Tot mX1_uncover 0 0 [vR 34, vI s] SH mem (Pn SH P) := by
  refine Tot.of rfl (Nat.le_of_ble_eq_true rfl) (by simp [isJ]) (ls := [vR 34, vI s, vJ 0]) rfl ?_
  refine q_iconst dX1_uncover_0 (by decide) ?_
  refine q_istore_n dX1_uncover_1 (by decide) rfl ?_
  exact H

set_option maxRecDepth 20000 in
theorem v_X1_sheetOn {c : Int} {P : Int → Mem → Prop} {mem : Mem}  (H : (¬ (0 ≤ c ∧ c < mem 4 5) → P (-9) mem) ∧ ((0 ≤ c ∧ c < mem 4 5) → (c < 12) ∧ (P (mem 35 c.toNat) mem))) : Tot mX1_sheetOn 0 0 [vR 34, vI c] SH mem (Pr SH P) := by
  refine Tot.of rfl (Nat.le_of_ble_eq_true rfl) (by simp [isJ]) (ls := [vR 34, vI c]) rfl ?_
  refine q_aload_n dX1_sheetOn_0 rfl ?_
  refine q_getr (r := 4) dX1_sheetOn_1 lf_RX1_31 s34 rfl rfl ?_
  refine q_iload_n dX1_sheetOn_4 rfl ?_
  refine q_cVi (as := [vI _]) dX1_sheetOn_5 kmX3_hasCell kvX3_hasCell lm_RX1_38 ⟨by decide, by decide⟩ s4 ⟨by decide, rfl⟩ rfl rfl (Nat.le_of_ble_eq_true rfl) (c_X3_hasCell s4) (fun v m1 hq => ?_)
  obtain ⟨rfl, rfl⟩ := hq
  refine q_if_eq (tgt := 20) dX1_sheetOn_8 (by decide) (fun c8 => ?_) (fun c8 => ?_)
  · have H := H.1 (b_no c8)
    refine q_bipush dX1_sheetOn_20 rfl (by decide) ?_
    exact q_iret dX1_sheetOn_22 rfl ⟨_, rfl, rfl, H⟩
  · have H := H.2 (b_yes c8)
    refine q_aload_n dX1_sheetOn_11 rfl ?_
    refine q_getr (r := 35) dX1_sheetOn_12 lf_RX1_9 s34 rfl rfl ?_
    refine q_iload_n dX1_sheetOn_15 rfl ?_
    obtain ⟨h1, H⟩ := H
    refine q_iald dX1_sheetOn_16 s35 (b_yes c8).1 h1 ?_
    refine q_goto (tgt := 22) dX1_sheetOn_17 (by decide) ?_
    exact q_iret dX1_sheetOn_22 rfl ⟨_, rfl, rfl, H⟩

set_option maxRecDepth 20000 in
theorem v_X1_nextTo {c side : Int} {P : Int → Mem → Prop} {mem : Mem}  (H : (¬ (0 ≤ c ∧ c < mem 4 5) → P (-9) mem) ∧ ((0 ≤ c ∧ c < mem 4 5) → (side < 0 → P (-9) mem) ∧ (0 ≤ side → (4 ≤ side → P (-9) mem) ∧ (side < 4 → (inR (c * 4)) ∧ ((inR ((c * 4) + side)) ∧ ((0 ≤ ((c * 4) + side)) ∧ ((((c * 4) + side) < 48) ∧ (P (mem 37 ((c * 4) + side).toNat) mem)))))))) : Tot mX1_nextTo 0 0 [vR 34, vI c, vI side] SH mem (Pr SH P) := by
  refine Tot.of rfl (Nat.le_of_ble_eq_true rfl) (by simp [isJ]) (ls := [vR 34, vI c, vI side]) rfl ?_
  refine q_aload_n dX1_nextTo_0 rfl ?_
  refine q_getr (r := 4) dX1_nextTo_1 lf_RX1_31 s34 rfl rfl ?_
  refine q_iload_n dX1_nextTo_4 rfl ?_
  refine q_cVi (as := [vI _]) dX1_nextTo_5 kmX3_hasCell kvX3_hasCell lm_RX1_38 ⟨by decide, by decide⟩ s4 ⟨by decide, rfl⟩ rfl rfl (Nat.le_of_ble_eq_true rfl) (c_X3_hasCell s4) (fun v m1 hq => ?_)
  obtain ⟨rfl, rfl⟩ := hq
  refine q_if_eq (tgt := 33) dX1_nextTo_8 (by decide) (fun c8 => ?_) (fun c8 => ?_)
  · have H := H.1 (b_no c8)
    refine q_bipush dX1_nextTo_33 rfl (by decide) ?_
    exact q_iret dX1_nextTo_35 rfl ⟨_, rfl, rfl, H⟩
  · have H := H.2 (b_yes c8)
    refine q_iload_n dX1_nextTo_11 rfl ?_
    refine q_if_lt (tgt := 33) dX1_nextTo_12 (by decide) (fun c12 => ?_) (fun c12 => ?_)
    · have H := H.1 c12
      refine q_bipush dX1_nextTo_33 rfl (by decide) ?_
      exact q_iret dX1_nextTo_35 rfl ⟨_, rfl, rfl, H⟩
    · have H := H.2 c12
      refine q_iload_n dX1_nextTo_15 rfl ?_
      refine q_iconst dX1_nextTo_16 (by decide) ?_
      refine q_icmp_ge (tgt := 33) dX1_nextTo_17 (by decide) (fun c17 => ?_) (fun c17 => ?_)
      · have H := H.1 c17
        refine q_bipush dX1_nextTo_33 rfl (by decide) ?_
        exact q_iret dX1_nextTo_35 rfl ⟨_, rfl, rfl, H⟩
      · have H := H.2 c17
        refine q_aload_n dX1_nextTo_20 rfl ?_
        refine q_getr (r := 37) dX1_nextTo_21 lf_RX1_18 s34 rfl rfl ?_
        refine q_iload_n dX1_nextTo_24 rfl ?_
        refine q_iconst dX1_nextTo_25 (by decide) ?_
        obtain ⟨h1, H⟩ := H
        refine q_imul dX1_nextTo_26 h1 ?_
        refine q_iload_n dX1_nextTo_27 rfl ?_
        obtain ⟨h2, H⟩ := H
        refine q_iadd dX1_nextTo_28 h2 ?_
        obtain ⟨h3, H⟩ := H
        obtain ⟨h4, H⟩ := H
        refine q_iald dX1_nextTo_29 s37 h3 h4 ?_
        refine q_goto (tgt := 35) dX1_nextTo_30 (by decide) ?_
        exact q_iret dX1_nextTo_35 rfl ⟨_, rfl, rfl, H⟩


def thkP (m0 : Mem) (s v : Int) (m : Mem) : Prop := Fr [36, 38, 40] m0 m ∧ flOK m ∧ losOK m ∧ ∀ x : Int, 0 ≤ x → x < 4 → m 36 x.toNat = if x = s then v else m0 36 x.toNat
theorem c_X1_setThick {m0 : Mem} {s v : Int} (v0 : 0 ≤ v) (v1 : v ≤ 30) (hf : flOK m0) (hl : losOK m0) : Tot mX1_setThick 0 0 [vR 34, vI s, vI v] SH m0 (Pn SH (thkP m0 s v)) := by
  have hno : (¬ (0 ≤ s ∧ s < 4) ∨ m0 36 s.toNat = v) → thkP m0 s v m0 := fun h => ⟨Fr.rf, hf, hl, fun x x0 x1 => by
    split
    · rename_i q
      rw [q] at x0 x1 ⊢
      rcases h with h | h
      · exact absurd ⟨x0, x1⟩ h
      · exact h
    · rfl⟩
  refine v_X1_setThick ⟨fun c => hno (Or.inl (by omega)), fun c => ⟨fun c2 => hno (Or.inl (by omega)), fun c2 => ⟨fun c3 => hno (Or.inr c3), fun c3 m1 hm => ?_⟩⟩⟩
  have hF1 : Fr [36] m0 m1 := by rw [hm]; exact Fr.rf.set (by decide)
  have hx : ∀ x : Int, 0 ≤ x → x < 4 → m1 36 x.toNat = if x = s then v else m0 36 x.toNat := by
    intro x x0 x1
    rw [hm, mset_at]
    by_cases q : x = s
    · rw [if_pos ⟨rfl, by rw [q]⟩, if_pos q]
    · rw [if_neg (by omega), if_neg q]
  have hg1 : okGD m1 := by
    obtain ⟨⟨g1, g2, g3, g4, g5, g6⟩, g7⟩ := hf.1
    unfold okGD
    rw [hF1.at 4, hF1.at 35]
    refine ⟨⟨g1, g2, g3, g4, g5, fun x x0 x1 => ?_⟩, g7⟩
    rw [hx x x0 x1]
    split
    · exact ⟨v0, v1⟩
    · exact g6 x x0 x1
  refine ⟨hg1, fun m3 h3 => ?_⟩
  have hok := wgP_ok hg1 (by rw [hF1.at 4, hF1.at 37]; exact hf.2.1) h3
  refine ⟨(hF1.mono (by decide)).tr (h3.1.mono (by decide)), hok.1, hok.2, fun x x0 x1 => ?_⟩
  rw [h3.1.at 36]
  exact hx x x0 x1
def uncP (m0 : Mem) (s : Int) (m : Mem) : Prop := Fr [35, 38, 40] m0 m ∧ flOK m ∧ losOK m ∧ ∀ x : Int, 0 ≤ x → x < 12 → m 35 x.toNat = if m0 35 x.toNat = s then -9 else m0 35 x.toNat
theorem unc_loop {m0 : Mem} {s : Int} (hf : flOK m0) :
    ∀ (k : Nat) (a2 : Int) (m : Mem), 0 ≤ a2 → (12 - a2).toNat ≤ k → Fr [35] m0 m → (∀ x : Int, 0 ≤ x → x < 12 → m 35 x.toNat = if x < a2 ∧ m0 35 x.toNat = s then -9 else m0 35 x.toNat) → w_X1_uncover_2 s (uncP m0 s) a2 m := by
  have hend : ∀ (a2 : Int) (m : Mem), 12 ≤ a2 → Fr [35] m0 m → (∀ x : Int, 0 ≤ x → x < 12 → m 35 x.toNat = if x < a2 ∧ m0 35 x.toNat = s then -9 else m0 35 x.toNat) → okGD m ∧ ∀ m2, wgP m m2 → uncP m0 s m2 := by
    intro a2 m h hF hx
    obtain ⟨⟨g1, g2, g3, g4, g5, g6⟩, g7⟩ := hf.1
    have hg : okGD m := by
      unfold okGD
      rw [hF.at 4, hF.at 36]
      refine ⟨⟨g1, g2, g3, g4, fun x x0 x1 => ?_, g6⟩, g7⟩
      rw [hx x x0 x1]
      split
      · exact Or.inl rfl
      · exact g5 x x0 x1
    refine ⟨hg, fun m2 h2 => ?_⟩
    have hok := wgP_ok hg (by rw [hF.at 4, hF.at 37]; exact hf.2.1) h2
    refine ⟨(hF.mono (by decide)).tr (h2.1.mono (by decide)), hok.1, hok.2, fun x x0 x1 => ?_⟩
    rw [h2.1.at 35, hx x x0 x1]
    by_cases q : m0 35 x.toNat = s
    · rw [if_pos ⟨by omega, q⟩, if_pos q]
    · rw [if_neg (fun z => q z.2), if_neg q]
  intro k
  induction k with
  | zero => intro a2 m h0 hk hF hx; exact v_X1_uncover_2 ⟨fun c => hend a2 m c hF hx, fun c => by omega⟩
  | succ k ih =>
    intro a2 m h0 hk hF hx
    refine v_X1_uncover_2 ⟨fun c => hend a2 m c hF hx, fun c => ⟨h0, fun c2 => ⟨by omega, ih _ _ (by omega) (by omega) hF (fun x x0 x1 => ?_)⟩, fun c2 m5 hm => ⟨by omega, ih _ _ (by omega) (by omega) (by rw [hm]; exact hF.set (by decide)) (fun x x0 x1 => ?_)⟩⟩⟩
    · have h2 := hx a2 h0 c
      rw [if_neg (fun z => by omega)] at h2
      rw [hx x x0 x1]
      by_cases q : x = a2
      · rw [q, if_neg (fun z => by omega), if_neg (fun z => c2 (by rw [h2]; exact z.2))]
      · by_cases q2 : x < a2 ∧ m0 35 x.toNat = s
        · rw [if_pos q2, if_pos ⟨by omega, q2.2⟩]
        · rw [if_neg q2, if_neg (fun z => q2 ⟨by omega, z.2⟩)]
    · have h2 := hx a2 h0 c
      rw [if_neg (fun z => by omega)] at h2
      rw [hm, mset_at]
      by_cases q : x = a2
      · rw [if_pos ⟨rfl, by rw [q]⟩, q, if_pos ⟨by omega, by rw [← h2]; exact c2⟩]
      · rw [if_neg (by omega), hx x x0 x1]
        by_cases q2 : x < a2 ∧ m0 35 x.toNat = s
        · rw [if_pos q2, if_pos ⟨by omega, q2.2⟩]
        · rw [if_neg q2, if_neg (fun z => q2 ⟨by omega, z.2⟩)]
theorem c_X1_uncover {m0 : Mem} {s : Int} (hf : flOK m0) : Tot mX1_uncover 0 0 [vR 34, vI s] SH m0 (Pn SH (uncP m0 s)) :=
  v_X1_uncover (unc_loop hf _ 0 m0 (by omega) (Nat.le_refl _) Fr.rf (fun x x0 x1 => by rw [if_neg (fun z => by omega)]))
theorem c_X1_sheetOn {m0 : Mem} {c : Int} (hn : m0 4 5 ≤ 12) : Tot mX1_sheetOn 0 0 [vR 34, vI c] SH m0 (Pr SH (Pv (if 0 ≤ c ∧ c < m0 4 5 then m0 35 c.toNat else -9) m0)) :=
  v_X1_sheetOn ⟨fun q => ⟨by rw [if_neg q], rfl⟩, fun q => ⟨by omega, by rw [if_pos q], rfl⟩⟩
theorem c_X1_nextTo {m0 : Mem} {c s : Int} (hn : m0 4 5 ≤ 12) : Tot mX1_nextTo 0 0 [vR 34, vI c, vI s] SH m0 (Pr SH (Pv (if (0 ≤ c ∧ c < m0 4 5) ∧ 0 ≤ s ∧ s < 4 then m0 37 (c * 4 + s).toNat else -9) m0)) :=
  v_X1_nextTo ⟨fun q => ⟨by rw [if_neg (fun z => q z.1)], rfl⟩, fun q => ⟨fun q2 => ⟨by rw [if_neg (by omega)], rfl⟩, fun q2 => ⟨fun q3 => ⟨by rw [if_neg (by omega)], rfl⟩, fun q3 => ⟨by omega, by omega, by omega, by omega, by rw [if_pos (by omega)], rfl⟩⟩⟩⟩
