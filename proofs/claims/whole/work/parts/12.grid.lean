/-! THE MODEL'S SPREADING of a noise -/
def takeF (fall : Int) (on th : Nat → Int) (a b : Int) : Int := if on b.toNat = -9 then fall else if on a.toNat = -9 ∨ on a.toNat = on b.toNat then fall + th (on b.toNat).toNat else fall + th (on b.toNat).toNat / 2
def okG (w h fall : Int) (on th : Nat → Int) : Prop := (w = 1 ∨ w = 2 ∨ w = 3 ∨ w = 4) ∧ (h = 1 ∨ h = 2 ∨ h = 3) ∧ 1 ≤ fall ∧ fall ≤ 20 ∧ (∀ c : Int, 0 ≤ c → c < 12 → on c.toNat = -9 ∨ (0 ≤ on c.toNat ∧ on c.toNat < 4)) ∧ (∀ s : Int, 0 ≤ s → s < 4 → 0 ≤ th s.toNat ∧ th s.toNat ≤ 30)
theorem okG_grid {w h fall : Int} {on th : Nat → Int} (hg : okG w h fall on th) : grid (w * h) w := by
  obtain ⟨h1, h2, -⟩ := hg
  refine ⟨h1, ?_⟩
  rcases h2 with rfl | rfl | rfl <;> omega
theorem okG_n {w h fall : Int} {on th : Nat → Int} (hg : okG w h fall on th) : 1 ≤ w * h ∧ w * h ≤ 12 := grid_n (okG_grid hg)
theorem takeF_b {w h fall : Int} {on th : Nat → Int} (hg : okG w h fall on th) {a b : Int} (a0 : 0 ≤ a) (an : a < 12) (b0 : 0 ≤ b) (bn : b < 12) : 1 ≤ takeF fall on th a b ∧ takeF fall on th a b ≤ 50 := by
  obtain ⟨-, -, f1, f2, ho, ht⟩ := hg
  have h1 := ho b b0 bn
  unfold takeF
  split
  · omega
  · have h2 := ht (on b.toNat) (by omega) (by omega)
    split <;> omega
theorem okG_costs {w h fall : Int} {on th : Nat → Int} (hg : okG w h fall on th) : costs (w * h) (takeF fall on th) := by
  have hn := okG_n hg
  intro a b a0 an b0 bn
  exact takeF_b hg a0 (by omega) b0 (by omega)
theorem sq1 {x y : Int} (hx : -4 ≤ x) (hx2 : x ≤ 4) (hy : -3 ≤ y) (hy2 : y ≤ 3) : x * x + y * y = 1 ↔ (x = 0 ∧ (y = 1 ∨ y = -1)) ∨ (y = 0 ∧ (x = 1 ∨ x = -1)) := by
  have h1 : x = -4 ∨ x = -3 ∨ x = -2 ∨ x = -1 ∨ x = 0 ∨ x = 1 ∨ x = 2 ∨ x = 3 ∨ x = 4 := by omega
  have h2 : y = -3 ∨ y = -2 ∨ y = -1 ∨ y = 0 ∨ y = 1 ∨ y = 2 ∨ y = 3 := by omega
  rcases h1 with rfl | rfl | rfl | rfl | rfl | rfl | rfl | rfl | rfl <;> rcases h2 with rfl | rfl | rfl | rfl | rfl | rfl | rfl <;> decide
def Fr (ks : List Nat) (m m' : Mem) : Prop := ∀ k, k ∉ ks → m' k = m k
theorem Fr.rf {ks : List Nat} {m : Mem} : Fr ks m m := fun _ _ => rfl
theorem Fr.at {ks : List Nat} {m m' : Mem} (h : Fr ks m m') (k : Nat) (hk : k ∉ ks := by decide) : m' k = m k := h k hk
theorem Fr.set {ks : List Nat} {m m' : Mem} {c j : Nat} {z : Int} (h : Fr ks m m') (hc : c ∈ ks) : Fr ks m (mset m' c j z) := fun k hk => by
  rw [mset_ne k (fun q => hk (q ▸ hc))]
  exact h k hk
theorem Fr.tr {ks : List Nat} {m m' m2 : Mem} (h : Fr ks m m') (h2 : Fr ks m' m2) : Fr ks m m2 := fun k hk => (h2 k hk).trans (h k hk)
theorem Fr.mono {ks ks' : List Nat} {m m' : Mem} (h : Fr ks m m') (hk : ∀ k ∈ ks, k ∈ ks') : Fr ks' m m' := fun k q => h k (fun z => q (hk k z))
set_option maxRecDepth 20000 in
theorem v_X10_isNext {a b : Int} {P : Int → Mem → Prop} {mem : Mem}  (H : (0 ≤ a) ∧ ((0 < (mem 44 0)) ∧ ((0 ≤ b) ∧ ((inR ((a % (mem 44 0)) - (b % (mem 44 0)))) ∧ ((inR ((a / (mem 44 0)) - (b / (mem 44 0)))) ∧ ((inR (((a % (mem 44 0)) - (b % (mem 44 0))) * ((a % (mem 44 0)) - (b % (mem 44 0))))) ∧ ((inR (((a / (mem 44 0)) - (b / (mem 44 0))) * ((a / (mem 44 0)) - (b / (mem 44 0))))) ∧ ((inR ((((a % (mem 44 0)) - (b % (mem 44 0))) * ((a % (mem 44 0)) - (b % (mem 44 0)))) + (((a / (mem 44 0)) - (b / (mem 44 0))) * ((a / (mem 44 0)) - (b / (mem 44 0)))))) ∧ ((¬ ((((a % (mem 44 0)) - (b % (mem 44 0))) * ((a % (mem 44 0)) - (b % (mem 44 0)))) + (((a / (mem 44 0)) - (b / (mem 44 0))) * ((a / (mem 44 0)) - (b / (mem 44 0))))) = 1 → P 0 mem) ∧ (((((a % (mem 44 0)) - (b % (mem 44 0))) * ((a % (mem 44 0)) - (b % (mem 44 0)))) + (((a / (mem 44 0)) - (b / (mem 44 0))) * ((a / (mem 44 0)) - (b / (mem 44 0))))) = 1 → P 1 mem)))))))))) : Tot mX10_isNext 0 0 [vR 44, vI a, vI b] SH mem (Pr SH P) := by
  refine Tot.of rfl (Nat.le_of_ble_eq_true rfl) (by simp [isJ]) (ls := [vR 44, vI a, vI b, vJ 0, vJ 0]) rfl ?_
  refine q_iload_n dX10_isNext_0 rfl ?_
  refine q_aload_n dX10_isNext_1 rfl ?_
  refine q_geti dX10_isNext_2 lf_RX10_7 s44 rfl ?_
  obtain ⟨h1, H⟩ := H
  obtain ⟨h2, H⟩ := H
  refine q_irem dX10_isNext_5 h1 h2 ?_
  refine q_iload_n dX10_isNext_6 rfl ?_
  refine q_aload_n dX10_isNext_7 rfl ?_
  refine q_geti dX10_isNext_8 lf_RX10_7 s44 rfl ?_
  obtain ⟨h3, H⟩ := H
  refine q_irem dX10_isNext_11 h3 h2 ?_
  obtain ⟨h4, H⟩ := H
  refine q_isub dX10_isNext_12 h4 ?_
  refine q_istore_n dX10_isNext_13 (by decide) rfl ?_
  refine q_iload_n dX10_isNext_14 rfl ?_
  refine q_aload_n dX10_isNext_15 rfl ?_
  refine q_geti dX10_isNext_16 lf_RX10_7 s44 rfl ?_
  refine q_idiv dX10_isNext_19 h1 h2 ?_
  refine q_iload_n dX10_isNext_20 rfl ?_
  refine q_aload_n dX10_isNext_21 rfl ?_
  refine q_geti dX10_isNext_22 lf_RX10_7 s44 rfl ?_
  refine q_idiv dX10_isNext_25 h3 h2 ?_
  obtain ⟨h5, H⟩ := H
  refine q_isub dX10_isNext_26 h5 ?_
  refine q_istore dX10_isNext_27 (by decide) rfl ?_
  refine q_iload_n dX10_isNext_29 rfl ?_
  refine q_iload_n dX10_isNext_30 rfl ?_
  obtain ⟨h6, H⟩ := H
  refine q_imul dX10_isNext_31 h6 ?_
  refine q_iload dX10_isNext_32 rfl ?_
  refine q_iload dX10_isNext_34 rfl ?_
  obtain ⟨h7, H⟩ := H
  refine q_imul dX10_isNext_36 h7 ?_
  obtain ⟨h8, H⟩ := H
  refine q_iadd dX10_isNext_37 h8 ?_
  refine q_iconst dX10_isNext_38 (by decide) ?_
  refine q_icmp_ne (tgt := 46) dX10_isNext_39 (by decide) (fun c39 => ?_) (fun c39 => ?_)
  · have H := H.1 c39
    refine q_iconst dX10_isNext_46 (by decide) ?_
    exact q_zret dX10_isNext_47 rfl (by decide) ⟨_, rfl, rfl, H⟩
  · have H := H.2 c39
    refine q_iconst dX10_isNext_42 (by decide) ?_
    refine q_goto (tgt := 47) dX10_isNext_43 (by decide) ?_
    exact q_zret dX10_isNext_47 rfl (by decide) ⟨_, rfl, rfl, H⟩


theorem sqb {x : Int} (hx : -4 ≤ x) (hx2 : x ≤ 4) : 0 ≤ x * x ∧ x * x ≤ 16 := by
  have h1 : x = -4 ∨ x = -3 ∨ x = -2 ∨ x = -1 ∨ x = 0 ∨ x = 1 ∨ x = 2 ∨ x = 3 ∨ x = 4 := by omega
  rcases h1 with rfl | rfl | rfl | rfl | rfl | rfl | rfl | rfl | rfl <;> decide
theorem c_X10_isNext {a b : Int} {mem : Mem} (a0 : 0 ≤ a) (a1 : a < 3 * mem 44 0) (b0 : 0 ≤ b) (b1 : b < 3 * mem 44 0) (w0 : 1 ≤ mem 44 0) (w1 : mem 44 0 ≤ 4) : Tot mX10_isNext 0 0 [vR 44, vI a, vI b] SH mem (Pr SH (fun v m2 => ((nbr (mem 44 0) a b ∧ v = 1) ∨ (¬ nbr (mem 44 0) a b ∧ v = 0)) ∧ m2 = mem)) := by
  have e1 : -3 ≤ a % mem 44 0 - b % mem 44 0 ∧ a % mem 44 0 - b % mem 44 0 ≤ 3 ∧ -2 ≤ a / mem 44 0 - b / mem 44 0 ∧ a / mem 44 0 - b / mem 44 0 ≤ 2 := by
    generalize mem 44 0 = w at a1 b1 w0 w1 ⊢
    rcases (show w = 1 ∨ w = 2 ∨ w = 3 ∨ w = 4 by omega) with rfl | rfl | rfl | rfl <;> omega
  have e2 : nbr (mem 44 0) a b ↔ ((a % mem 44 0 - b % mem 44 0 = 0 ∧ (a / mem 44 0 - b / mem 44 0 = 1 ∨ a / mem 44 0 - b / mem 44 0 = -1)) ∨ (a / mem 44 0 - b / mem 44 0 = 0 ∧ (a % mem 44 0 - b % mem 44 0 = 1 ∨ a % mem 44 0 - b % mem 44 0 = -1))) := by
    unfold nbr
    generalize a % mem 44 0 = x1
    generalize b % mem 44 0 = x2
    generalize a / mem 44 0 = y1
    generalize b / mem 44 0 = y2
    omega
  have e3 := sq1 (x := a % mem 44 0 - b % mem 44 0) (y := a / mem 44 0 - b / mem 44 0) (by omega) (by omega) (by omega) (by omega)
  have e4 := sqb (x := a % mem 44 0 - b % mem 44 0) (by omega) (by omega)
  have e5 := sqb (x := a / mem 44 0 - b / mem 44 0) (by omega) (by omega)
  refine v_X10_isNext ?_
  rw [e2, ← e3]
  generalize a % mem 44 0 - b % mem 44 0 = x at e1 e4 ⊢
  generalize a / mem 44 0 - b / mem 44 0 = y at e1 e5 ⊢
  generalize x * x = xx at e4 ⊢
  generalize y * y = yy at e5 ⊢
  exact ⟨a0, by omega, b0, by omega, by omega, by omega, by omega, by omega, fun c => ⟨Or.inr ⟨c, rfl⟩, rfl⟩, fun c => ⟨Or.inl ⟨c, rfl⟩, rfl⟩⟩
theorem c_X10_takes {a b : Int} {mem : Mem} (a0 : 0 ≤ a) (a1 : a < 12) (b0 : 0 ≤ b) (b1 : b < 12) (hg : okG (mem 44 0) (mem 44 1) (mem 44 2) (mem 61) (mem 60)) : Tot mX10_takes 0 0 [vR 44, vI a, vI b] SH mem (Pr SH (Pv (takeF (mem 44 2) (mem 61) (mem 60) a b) mem)) := by
  obtain ⟨-, -, f1, f2, ho, ht⟩ := hg
  have h1 := ho b b0 b1
  refine v_X10_takes ⟨b0, b1, fun c1 => ?_, fun c1 => ⟨by unfold takeF; rw [if_pos c1], rfl⟩⟩
  have h2 := ht (mem 61 b.toNat) (by omega) (by omega)
  unfold takeF
  rw [if_neg c1]
  refine ⟨a0, a1, fun c2 => ⟨by omega, by omega, by omega, by rw [if_pos (Or.inl c2)], rfl⟩, fun c2 => ⟨fun c3 => ⟨by omega, by omega, by omega, by rw [if_pos (Or.inr c3)], rfl⟩, fun c3 => ⟨by omega, by omega, by omega, by omega, by rw [if_neg (by omega)], rfl⟩⟩⟩
def w_X10_spreads_2 (from_ : Int) (P : Mem → Prop) (a2 : Int) (u3 : Vl) (u4 : Vl) (u5 : Vl) (mem : Mem) : Prop := WP mX10_spreads none 0 0 (Pn SH P) 2 [vR 44, vI from_, vI a2, u3, u4, u5] [] SH mem
def w_X10_spreads_34 (from_ : Int) (P : Mem → Prop) (a2 : Int) (u3 : Vl) (u4 : Vl) (u5 : Vl) (mem : Mem) : Prop := WP mX10_spreads none 0 0 (Pn SH P) 34 [vR 44, vI from_, vI a2, u3, u4, u5] [] SH mem
def w_X10_spreads_42 (from_ : Int) (P : Mem → Prop) (a2 : Int) (a3 : Int) (u4 : Vl) (u5 : Vl) (mem : Mem) : Prop := WP mX10_spreads none 0 0 (Pn SH P) 42 [vR 44, vI from_, vI a2, vI a3, u4, u5] [] SH mem
set_option maxRecDepth 20000 in
theorem v_X10_spreads_2 {from_ : Int} {P : Mem → Prop} {a2 : Int} {u3 : Vl} {u4 : Vl} {u5 : Vl} {mem : Mem}  (H : (12 ≤ a2 → w_X10_spreads_34 from_ P 1 u3 u4 u5 mem) ∧ (a2 < 12 → (¬ a2 = from_ → (0 ≤ a2) ∧ (∀ m2 : Mem, m2 = mset mem 62 a2.toNat 10000 → ((inR (a2 + 1)) ∧ (w_X10_spreads_2 from_ P (a2 + 1) u3 u4 u5 m2)))) ∧ (a2 = from_ → (0 ≤ a2) ∧ (∀ m5 : Mem, m5 = mset mem 62 a2.toNat 0 → ((inR (a2 + 1)) ∧ (w_X10_spreads_2 from_ P (a2 + 1) u3 u4 u5 m5)))))) : w_X10_spreads_2 from_ P a2 u3 u4 u5 mem := by
  unfold w_X10_spreads_2
  refine q_iload_n dX10_spreads_2 rfl ?_
  refine q_bipush dX10_spreads_3 rfl (by decide) ?_
  refine q_icmp_ge (tgt := 32) dX10_spreads_5 (by decide) (fun c5 => ?_) (fun c5 => ?_)
  · have H := H.1 c5
    refine q_iconst dX10_spreads_32 (by decide) ?_
    refine q_istore_n dX10_spreads_33 (by decide) rfl ?_
    exact H
  · have H := H.2 c5
    refine q_aload_n dX10_spreads_8 rfl ?_
    refine q_getr (r := 62) dX10_spreads_9 lf_RX10_72 s44 rfl rfl ?_
    refine q_iload_n dX10_spreads_12 rfl ?_
    refine q_iload_n dX10_spreads_13 rfl ?_
    refine q_iload_n dX10_spreads_14 rfl ?_
    refine q_icmp_ne (tgt := 22) dX10_spreads_15 (by decide) (fun c15 => ?_) (fun c15 => ?_)
    · have H := H.1 c15
      refine q_sipush dX10_spreads_22 rfl (by decide) ?_
      obtain ⟨h1, H⟩ := H
      refine q_iast dX10_spreads_25 s62 h1 c5 ?_
      have H := H _ rfl
      obtain ⟨h3, H⟩ := H
      refine q_iinc dX10_spreads_26 rfl h3 rfl ?_
      refine q_goto (tgt := 2) dX10_spreads_29 (by decide) ?_
      exact H
    · have H := H.2 c15
      refine q_iconst dX10_spreads_18 (by decide) ?_
      refine q_goto (tgt := 25) dX10_spreads_19 (by decide) ?_
      obtain ⟨h4, H⟩ := H
      refine q_iast dX10_spreads_25 s62 h4 c5 ?_
      have H := H _ rfl
      obtain ⟨h6, H⟩ := H
      refine q_iinc dX10_spreads_26 rfl h6 rfl ?_
      refine q_goto (tgt := 2) dX10_spreads_29 (by decide) ?_
      exact H
set_option maxRecDepth 20000 in
theorem v_X10_spreads_34 {from_ : Int} {P : Mem → Prop} {a2 : Int} {u3 : Vl} {u4 : Vl} {u5 : Vl} {mem : Mem}  (H : (a2 = 0 → P mem) ∧ (¬ a2 = 0 → w_X10_spreads_42 from_ P 0 0 u4 u5 mem)) : w_X10_spreads_34 from_ P a2 u3 u4 u5 mem := by
  unfold w_X10_spreads_34
  refine q_iload_n dX10_spreads_34 rfl ?_
  refine q_if_eq (tgt := 162) dX10_spreads_35 (by decide) (fun c35 => ?_) (fun c35 => ?_)
  · have H := H.1 c35
    exact q_vret dX10_spreads_162 rfl ⟨rfl, rfl, H⟩
  · have H := H.2 c35
    refine q_iconst dX10_spreads_38 (by decide) ?_
    refine q_istore_n dX10_spreads_39 (by decide) rfl ?_
    refine q_iconst dX10_spreads_40 (by decide) ?_
    refine q_istore_n dX10_spreads_41 (by decide) rfl ?_
    exact H
set_option maxRecDepth 20000 in
theorem v_X10_spreads_42 {from_ : Int} {P : Mem → Prop} {a2 : Int} {a3 : Int} {u4 : Vl} {u5 : Vl} {mem : Mem}  (H : (inR ((mem 44 0) * (mem 44 1))) ∧ ((inR (((mem 44 0) * (mem 44 1)) * (mem 44 0))) ∧ ((inR ((((mem 44 0) * (mem 44 1)) * (mem 44 0)) * (mem 44 1))) ∧ ((((((mem 44 0) * (mem 44 1)) * (mem 44 0)) * (mem 44 1)) ≤ a3 → w_X10_spreads_34 from_ P a2 (vI a3) u4 u5 mem) ∧ (a3 < ((((mem 44 0) * (mem 44 1)) * (mem 44 0)) * (mem 44 1)) → (0 ≤ a3) ∧ ((0 < ((mem 44 0) * (mem 44 1))) ∧ ((0 ≤ (a3 / ((mem 44 0) * (mem 44 1)))) ∧ (((a3 / ((mem 44 0) * (mem 44 1))) < 3 * mem 44 0) ∧ ((0 ≤ (a3 % ((mem 44 0) * (mem 44 1)))) ∧ (((a3 % ((mem 44 0) * (mem 44 1))) < 3 * mem 44 0) ∧ ((1 ≤ mem 44 0) ∧ ((mem 44 0 ≤ 4) ∧ (∀ (v12 : Int) (m13 : Mem), ((nbr (mem 44 0) (a3 / ((mem 44 0) * (mem 44 1))) (a3 % ((mem 44 0) * (mem 44 1))) ∧ v12 = 1) ∨ (¬ nbr (mem 44 0) (a3 / ((mem 44 0) * (mem 44 1))) (a3 % ((mem 44 0) * (mem 44 1))) ∧ v12 = 0)) ∧ m13 = mem → ((v12 = 0 → (inR (a3 + 1)) ∧ (w_X10_spreads_42 from_ P a2 (a3 + 1) (vI (a3 / ((mem 44 0) * (mem 44 1)))) (vI (a3 % ((mem 44 0) * (mem 44 1)))) m13)) ∧ (¬ v12 = 0 → ((a3 / ((mem 44 0) * (mem 44 1))) < 12) ∧ (((a3 % ((mem 44 0) * (mem 44 1))) < 12) ∧ ((okG (m13 44 0) (m13 44 1) (m13 44 2) (m13 61) (m13 60)) ∧ ((inR ((m13 62 (a3 / ((mem 44 0) * (mem 44 1))).toNat) + (takeF (m13 44 2) (m13 61) (m13 60) (a3 / ((mem 44 0) * (mem 44 1))) (a3 % ((mem 44 0) * (mem 44 1)))))) ∧ (((m13 62 (a3 % ((mem 44 0) * (mem 44 1))).toNat) ≤ ((m13 62 (a3 / ((mem 44 0) * (mem 44 1))).toNat) + (takeF (m13 44 2) (m13 61) (m13 60) (a3 / ((mem 44 0) * (mem 44 1))) (a3 % ((mem 44 0) * (mem 44 1))))) → (inR (a3 + 1)) ∧ (w_X10_spreads_42 from_ P a2 (a3 + 1) (vI (a3 / ((mem 44 0) * (mem 44 1)))) (vI (a3 % ((mem 44 0) * (mem 44 1)))) m13)) ∧ (((m13 62 (a3 / ((mem 44 0) * (mem 44 1))).toNat) + (takeF (m13 44 2) (m13 61) (m13 60) (a3 / ((mem 44 0) * (mem 44 1))) (a3 % ((mem 44 0) * (mem 44 1))))) < (m13 62 (a3 % ((mem 44 0) * (mem 44 1))).toNat) → ∀ m20 : Mem, m20 = mset m13 62 (a3 % ((mem 44 0) * (mem 44 1))).toNat ((m13 62 (a3 / ((mem 44 0) * (mem 44 1))).toNat) + (takeF (m13 44 2) (m13 61) (m13 60) (a3 / ((mem 44 0) * (mem 44 1))) (a3 % ((mem 44 0) * (mem 44 1))))) → ((inR (a3 + 1)) ∧ (w_X10_spreads_42 from_ P 1 (a3 + 1) (vI (a3 / ((mem 44 0) * (mem 44 1)))) (vI (a3 % ((mem 44 0) * (mem 44 1)))) m20)))))))))))))))))))))) : w_X10_spreads_42 from_ P a2 a3 u4 u5 mem := by
  unfold w_X10_spreads_42
  refine q_iload_n dX10_spreads_42 rfl ?_
  refine q_aload_n dX10_spreads_43 rfl ?_
  refine q_geti dX10_spreads_44 lf_RX10_7 s44 rfl ?_
  refine q_aload_n dX10_spreads_47 rfl ?_
  refine q_geti dX10_spreads_48 lf_RX10_13 s44 rfl ?_
  obtain ⟨h1, H⟩ := H
  refine q_imul dX10_spreads_51 h1 ?_
  refine q_aload_n dX10_spreads_52 rfl ?_
  refine q_geti dX10_spreads_53 lf_RX10_7 s44 rfl ?_
  obtain ⟨h2, H⟩ := H
  refine q_imul dX10_spreads_56 h2 ?_
  refine q_aload_n dX10_spreads_57 rfl ?_
  refine q_geti dX10_spreads_58 lf_RX10_13 s44 rfl ?_
  obtain ⟨h3, H⟩ := H
  refine q_imul dX10_spreads_61 h3 ?_
  refine q_icmp_ge (tgt := 159) dX10_spreads_62 (by decide) (fun c62 => ?_) (fun c62 => ?_)
  · have H := H.1 c62
    refine q_goto (tgt := 34) dX10_spreads_159 (by decide) ?_
    exact H
  · have H := H.2 c62
    refine q_iload_n dX10_spreads_65 rfl ?_
    refine q_aload_n dX10_spreads_66 rfl ?_
    refine q_geti dX10_spreads_67 lf_RX10_7 s44 rfl ?_
    refine q_aload_n dX10_spreads_70 rfl ?_
    refine q_geti dX10_spreads_71 lf_RX10_13 s44 rfl ?_
    refine q_imul dX10_spreads_74 h1 ?_
    obtain ⟨h4, H⟩ := H
    obtain ⟨h5, H⟩ := H
    refine q_idiv dX10_spreads_75 h4 h5 ?_
    refine q_istore dX10_spreads_76 (by decide) rfl ?_
    refine q_iload_n dX10_spreads_78 rfl ?_
    refine q_aload_n dX10_spreads_79 rfl ?_
    refine q_geti dX10_spreads_80 lf_RX10_7 s44 rfl ?_
    refine q_aload_n dX10_spreads_83 rfl ?_
    refine q_geti dX10_spreads_84 lf_RX10_13 s44 rfl ?_
    refine q_imul dX10_spreads_87 h1 ?_
    refine q_irem dX10_spreads_88 h4 h5 ?_
    refine q_istore dX10_spreads_89 (by decide) rfl ?_
    refine q_aload_n dX10_spreads_91 rfl ?_
    refine q_iload dX10_spreads_92 rfl ?_
    refine q_iload dX10_spreads_94 rfl ?_
    obtain ⟨h6, H⟩ := H
    obtain ⟨h7, H⟩ := H
    obtain ⟨h8, H⟩ := H
    obtain ⟨h9, H⟩ := H
    obtain ⟨h10, H⟩ := H
    obtain ⟨h11, H⟩ := H
    refine q_cVi (as := [vI _, vI _]) dX10_spreads_96 kmX10_isNext kvX10_isNext lm_RX10_187 ⟨by decide, by decide⟩ s44 ⟨by decide, rfl⟩ rfl rfl (Nat.le_of_ble_eq_true rfl) (c_X10_isNext h6 h7 h8 h9 h10 h11) (fun v m1 hq => ?_)
    have H := H v m1 hq
    refine q_if_eq (tgt := 153) dX10_spreads_99 (by decide) (fun c99 => ?_) (fun c99 => ?_)
    · have H := H.1 c99
      obtain ⟨h14, H⟩ := H
      refine q_iinc dX10_spreads_153 rfl h14 rfl ?_
      refine q_goto (tgt := 42) dX10_spreads_156 (by decide) ?_
      exact H
    · have H := H.2 c99
      refine q_aload_n dX10_spreads_102 rfl ?_
      refine q_getr (r := 62) dX10_spreads_103 lf_RX10_72 s44 rfl rfl ?_
      refine q_iload dX10_spreads_106 rfl ?_
      obtain ⟨h15, H⟩ := H
      refine q_iald dX10_spreads_108 s62 h6 h15 ?_
      refine q_aload_n dX10_spreads_109 rfl ?_
      refine q_iload dX10_spreads_110 rfl ?_
      refine q_iload dX10_spreads_112 rfl ?_
      obtain ⟨h16, H⟩ := H
      obtain ⟨h17, H⟩ := H
      refine q_cVi (as := [vI _, vI _]) dX10_spreads_114 kmX10_takes kvX10_takes lm_RX10_191 ⟨by decide, by decide⟩ s44 ⟨by decide, rfl⟩ rfl rfl (Nat.le_of_ble_eq_true rfl) (c_X10_takes h6 h15 h8 h16 h17) (fun v m1 hq => ?_)
      obtain ⟨rfl, rfl⟩ := hq
      obtain ⟨h18, H⟩ := H
      refine q_iadd dX10_spreads_117 h18 ?_
      refine q_aload_n dX10_spreads_118 rfl ?_
      refine q_getr (r := 62) dX10_spreads_119 lf_RX10_72 s44 rfl rfl ?_
      refine q_iload dX10_spreads_122 rfl ?_
      refine q_iald dX10_spreads_124 s62 h8 h16 ?_
      refine q_icmp_ge (tgt := 153) dX10_spreads_125 (by decide) (fun c125 => ?_) (fun c125 => ?_)
      · have H := H.1 c125
        obtain ⟨h19, H⟩ := H
        refine q_iinc dX10_spreads_153 rfl h19 rfl ?_
        refine q_goto (tgt := 42) dX10_spreads_156 (by decide) ?_
        exact H
      · have H := H.2 c125
        refine q_aload_n dX10_spreads_128 rfl ?_
        refine q_getr (r := 62) dX10_spreads_129 lf_RX10_72 s44 rfl rfl ?_
        refine q_iload dX10_spreads_132 rfl ?_
        refine q_aload_n dX10_spreads_134 rfl ?_
        refine q_getr (r := 62) dX10_spreads_135 lf_RX10_72 s44 rfl rfl ?_
        refine q_iload dX10_spreads_138 rfl ?_
        refine q_iald dX10_spreads_140 s62 h6 h15 ?_
        refine q_aload_n dX10_spreads_141 rfl ?_
        refine q_iload dX10_spreads_142 rfl ?_
        refine q_iload dX10_spreads_144 rfl ?_
        refine q_cVi (as := [vI _, vI _]) dX10_spreads_146 kmX10_takes kvX10_takes lm_RX10_191 ⟨by decide, by decide⟩ s44 ⟨by decide, rfl⟩ rfl rfl (Nat.le_of_ble_eq_true rfl) (c_X10_takes h6 h15 h8 h16 h17) (fun v m1 hq => ?_)
        obtain ⟨rfl, rfl⟩ := hq
        refine q_iadd dX10_spreads_149 h18 ?_
        refine q_iast dX10_spreads_150 s62 h8 h16 ?_
        have H := H _ rfl
        refine q_iconst dX10_spreads_151 (by decide) ?_
        refine q_istore_n dX10_spreads_152 (by decide) rfl ?_
        obtain ⟨h21, H⟩ := H
        refine q_iinc dX10_spreads_153 rfl h21 rfl ?_
        refine q_goto (tgt := 42) dX10_spreads_156 (by decide) ?_
        exact H
set_option maxRecDepth 20000 in
theorem v_X10_spreads {from_ : Int} {P : Mem → Prop} {mem : Mem}  (H : w_X10_spreads_2 from_ P 0 (vJ 0) (vJ 0) (vJ 0) mem) : Tot mX10_spreads 0 0 [vR 44, vI from_] SH mem (Pn SH P) := by
  refine Tot.of rfl (Nat.le_of_ble_eq_true rfl) (by simp [isJ]) (ls := [vR 44, vI from_, vJ 0, vJ 0, vJ 0, vJ 0]) rfl ?_
  refine q_iconst dX10_spreads_0 (by decide) ?_
  refine q_istore_n dX10_spreads_1 (by decide) rfl ?_
  exact H



/-- how the model's cells stand while it spreads a noise -/
abbrev ctM (m : Mem) : Int → Int → Int := takeF (m 44 2) (m 61) (m 60)
abbrev dM (m : Mem) : Int → Int := fun c => m 62 c.toNat
abbrev nM (m : Mem) : Int := m 44 0 * m 44 1
def okGM (m : Mem) : Prop := okG (m 44 0) (m 44 1) (m 44 2) (m 61) (m 60)
theorem okGM_fr {ks : List Nat} {m m' : Mem} (h : Fr ks m m') (h1 : 44 ∉ ks := by decide) (h2 : 61 ∉ ks := by decide) (h3 : 60 ∉ ks := by decide) : ctM m' = ctM m ∧ nM m' = nM m ∧ (okGM m → okGM m') := by
  unfold okGM ctM nM
  rw [h 44 h1, h 61 h2, h 60 h3]
  exact ⟨rfl, rfl, id⟩
theorem dM_set {m : Mem} {b v : Int} (b0 : 0 ≤ b) : ∀ c : Int, 0 ≤ c → dM (mset m 62 b.toNat v) c = dset (dM m) b v c := by
  intro c c0
  show (if 62 = 62 ∧ c.toNat = b.toNat then v else m 62 c.toNat) = if c = b then v else m 62 c.toNat
  by_cases h : c = b
  · rw [if_pos ⟨rfl, by rw [h]⟩, if_pos h]
  · rw [if_neg (by omega), if_neg h]
theorem tight_ext {n w far : Int} {ct : Int → Int → Int} {f : Int} {d d' : Int → Int} (f0 : 0 ≤ f) (h : ∀ c : Int, 0 ≤ c → d' c = d c) (ht : tight n w far ct f d) : tight n w far ct f d' := by
  refine ⟨by rw [h f f0]; exact ht.1, fun b b0 bn => by rw [h b b0]; exact ht.2.1 b b0 bn, fun b b0 bn hb => ?_⟩
  rcases ht.2.2 b b0 bn hb with q | ⟨a, a0, an, hn, hl⟩
  · left; rw [h b b0]; exact q
  · right; exact ⟨a, a0, an, hn, by rw [h a a0, h b b0]; exact hl⟩
theorem sumD_ext {d d' : Int → Int} : ∀ (k : Nat), (∀ c : Int, 0 ≤ c → d' c = d c) → sumD d' k = sumD d k
  | 0, _ => rfl
  | k + 1, h => by
    simp only [sumD]
    rw [sumD_ext k h, h k (by omega)]
