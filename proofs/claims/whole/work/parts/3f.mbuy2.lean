/-! THE MODEL'S BUYER: offers -/
def w_X10_comesFirst_2 (m0 : Mem) (r be : Int) (li : Int → Int)  (P : Int → Mem → Prop) (a1 : Int) (u2 : Vl) (u3 : Vl) (mem : Mem) : Prop := WP mX10_comesFirst none 0 0 (Pr SH P) 2 [vR 44, vI a1, u2, u3] [] SH mem
set_option maxRecDepth 20000 in
theorem v_X10_comesFirst_2 {m0 : Mem} {r be : Int} {li : Int → Int}  {P : Int → Mem → Prop} {a1 : Int} {u2 : Vl} {u3 : Vl} {mem : Mem}  (H : ((mem 44 5) ≤ a1 → P 0 mem) ∧ (a1 < (mem 44 5) → (0 ≤ a1) ∧ ((a1 < 4) ∧ ((¬ (mem 59 a1.toNat) = (-9) → (¬ (mem 65 a1.toNat) = (-9) → ((mem 59 a1.toNat) = (mem 65 a1.toNat) → (inR (a1 + 1)) ∧ (w_X10_comesFirst_2 m0 r be li P (a1 + 1) (vI (mem 59 a1.toNat)) (vI (mem 65 a1.toNat)) mem)) ∧ (¬ (mem 59 a1.toNat) = (mem 65 a1.toNat) → ((mem 65 a1.toNat) ≤ (mem 59 a1.toNat) → P 0 mem) ∧ ((mem 59 a1.toNat) < (mem 65 a1.toNat) → P 1 mem))) ∧ ((mem 65 a1.toNat) = (-9) → ((mem 59 a1.toNat) = (-1) → (inR (a1 + 1)) ∧ (w_X10_comesFirst_2 m0 r be li P (a1 + 1) (vI (mem 59 a1.toNat)) (vI (-1)) mem)) ∧ (¬ (mem 59 a1.toNat) = (-1) → ((-1) ≤ (mem 59 a1.toNat) → P 0 mem) ∧ ((mem 59 a1.toNat) < (-1) → P 1 mem)))) ∧ ((mem 59 a1.toNat) = (-9) → (¬ (mem 65 a1.toNat) = (-9) → ((-1) = (mem 65 a1.toNat) → (inR (a1 + 1)) ∧ (w_X10_comesFirst_2 m0 r be li P (a1 + 1) (vI (-1)) (vI (mem 65 a1.toNat)) mem)) ∧ (¬ (-1) = (mem 65 a1.toNat) → ((mem 65 a1.toNat) ≤ (-1) → P 0 mem) ∧ ((-1) < (mem 65 a1.toNat) → P 1 mem))) ∧ ((mem 65 a1.toNat) = (-9) → (inR (a1 + 1)) ∧ (w_X10_comesFirst_2 m0 r be li P (a1 + 1) (vI (-1)) (vI (-1)) mem))))))) : w_X10_comesFirst_2 m0 r be li P a1 u2 u3 mem := by
  unfold w_X10_comesFirst_2
  refine q_iload_n dX10_comesFirst_2 rfl ?_
  refine q_aload_n dX10_comesFirst_3 rfl ?_
  refine q_geti dX10_comesFirst_4 lf_RX10_94 s44 rfl ?_
  refine q_icmp_ge (tgt := 76) dX10_comesFirst_7 (by decide) (fun c7 => ?_) (fun c7 => ?_)
  · have H := H.1 c7
    refine q_iconst dX10_comesFirst_76 (by decide) ?_
    exact q_zret dX10_comesFirst_77 rfl (by decide) ⟨_, rfl, rfl, H⟩
  · have H := H.2 c7
    refine q_aload_n dX10_comesFirst_10 rfl ?_
    refine q_getr (r := 59) dX10_comesFirst_11 lf_RX10_63 s44 rfl rfl ?_
    refine q_iload_n dX10_comesFirst_14 rfl ?_
    obtain ⟨h1, H⟩ := H
    obtain ⟨h2, H⟩ := H
    refine q_iald dX10_comesFirst_15 s59 h1 h2 ?_
    refine q_bipush dX10_comesFirst_16 rfl (by decide) ?_
    refine q_icmp_ne (tgt := 25) dX10_comesFirst_18 (by decide) (fun c18 => ?_) (fun c18 => ?_)
    · have H := H.1 c18
      refine q_aload_n dX10_comesFirst_25 rfl ?_
      refine q_getr (r := 59) dX10_comesFirst_26 lf_RX10_63 s44 rfl rfl ?_
      refine q_iload_n dX10_comesFirst_29 rfl ?_
      refine q_iald dX10_comesFirst_30 s59 h1 h2 ?_
      refine q_istore_n dX10_comesFirst_31 (by decide) rfl ?_
      refine q_aload_n dX10_comesFirst_32 rfl ?_
      refine q_getr (r := 65) dX10_comesFirst_33 lf_RX10_81 s44 rfl rfl ?_
      refine q_iload_n dX10_comesFirst_36 rfl ?_
      refine q_iald dX10_comesFirst_37 s65 h1 h2 ?_
      refine q_bipush dX10_comesFirst_38 rfl (by decide) ?_
      refine q_icmp_ne (tgt := 47) dX10_comesFirst_40 (by decide) (fun c40 => ?_) (fun c40 => ?_)
      · have H := H.1 c40
        refine q_aload_n dX10_comesFirst_47 rfl ?_
        refine q_getr (r := 65) dX10_comesFirst_48 lf_RX10_81 s44 rfl rfl ?_
        refine q_iload_n dX10_comesFirst_51 rfl ?_
        refine q_iald dX10_comesFirst_52 s65 h1 h2 ?_
        refine q_istore_n dX10_comesFirst_53 (by decide) rfl ?_
        refine q_iload_n dX10_comesFirst_54 rfl ?_
        refine q_iload_n dX10_comesFirst_55 rfl ?_
        refine q_icmp_eq (tgt := 70) dX10_comesFirst_56 (by decide) (fun c56 => ?_) (fun c56 => ?_)
        · have H := H.1 c56
          obtain ⟨h3, H⟩ := H
          refine q_iinc dX10_comesFirst_70 rfl h3 rfl ?_
          refine q_goto (tgt := 2) dX10_comesFirst_73 (by decide) ?_
          exact H
        · have H := H.2 c56
          refine q_iload_n dX10_comesFirst_59 rfl ?_
          refine q_iload_n dX10_comesFirst_60 rfl ?_
          refine q_icmp_ge (tgt := 68) dX10_comesFirst_61 (by decide) (fun c61 => ?_) (fun c61 => ?_)
          · have H := H.1 c61
            refine q_iconst dX10_comesFirst_68 (by decide) ?_
            exact q_zret dX10_comesFirst_69 rfl (by decide) ⟨_, rfl, rfl, H⟩
          · have H := H.2 c61
            refine q_iconst dX10_comesFirst_64 (by decide) ?_
            refine q_goto (tgt := 69) dX10_comesFirst_65 (by decide) ?_
            exact q_zret dX10_comesFirst_69 rfl (by decide) ⟨_, rfl, rfl, H⟩
      · have H := H.2 c40
        refine q_iconst dX10_comesFirst_43 (by decide) ?_
        refine q_goto (tgt := 53) dX10_comesFirst_44 (by decide) ?_
        refine q_istore_n dX10_comesFirst_53 (by decide) rfl ?_
        refine q_iload_n dX10_comesFirst_54 rfl ?_
        refine q_iload_n dX10_comesFirst_55 rfl ?_
        refine q_icmp_eq (tgt := 70) dX10_comesFirst_56 (by decide) (fun c56 => ?_) (fun c56 => ?_)
        · have H := H.1 c56
          obtain ⟨h4, H⟩ := H
          refine q_iinc dX10_comesFirst_70 rfl h4 rfl ?_
          refine q_goto (tgt := 2) dX10_comesFirst_73 (by decide) ?_
          exact H
        · have H := H.2 c56
          refine q_iload_n dX10_comesFirst_59 rfl ?_
          refine q_iload_n dX10_comesFirst_60 rfl ?_
          refine q_icmp_ge (tgt := 68) dX10_comesFirst_61 (by decide) (fun c61 => ?_) (fun c61 => ?_)
          · have H := H.1 c61
            refine q_iconst dX10_comesFirst_68 (by decide) ?_
            exact q_zret dX10_comesFirst_69 rfl (by decide) ⟨_, rfl, rfl, H⟩
          · have H := H.2 c61
            refine q_iconst dX10_comesFirst_64 (by decide) ?_
            refine q_goto (tgt := 69) dX10_comesFirst_65 (by decide) ?_
            exact q_zret dX10_comesFirst_69 rfl (by decide) ⟨_, rfl, rfl, H⟩
    · have H := H.2 c18
      refine q_iconst dX10_comesFirst_21 (by decide) ?_
      refine q_goto (tgt := 31) dX10_comesFirst_22 (by decide) ?_
      refine q_istore_n dX10_comesFirst_31 (by decide) rfl ?_
      refine q_aload_n dX10_comesFirst_32 rfl ?_
      refine q_getr (r := 65) dX10_comesFirst_33 lf_RX10_81 s44 rfl rfl ?_
      refine q_iload_n dX10_comesFirst_36 rfl ?_
      refine q_iald dX10_comesFirst_37 s65 h1 h2 ?_
      refine q_bipush dX10_comesFirst_38 rfl (by decide) ?_
      refine q_icmp_ne (tgt := 47) dX10_comesFirst_40 (by decide) (fun c40 => ?_) (fun c40 => ?_)
      · have H := H.1 c40
        refine q_aload_n dX10_comesFirst_47 rfl ?_
        refine q_getr (r := 65) dX10_comesFirst_48 lf_RX10_81 s44 rfl rfl ?_
        refine q_iload_n dX10_comesFirst_51 rfl ?_
        refine q_iald dX10_comesFirst_52 s65 h1 h2 ?_
        refine q_istore_n dX10_comesFirst_53 (by decide) rfl ?_
        refine q_iload_n dX10_comesFirst_54 rfl ?_
        refine q_iload_n dX10_comesFirst_55 rfl ?_
        refine q_icmp_eq (tgt := 70) dX10_comesFirst_56 (by decide) (fun c56 => ?_) (fun c56 => ?_)
        · have H := H.1 c56
          obtain ⟨h5, H⟩ := H
          refine q_iinc dX10_comesFirst_70 rfl h5 rfl ?_
          refine q_goto (tgt := 2) dX10_comesFirst_73 (by decide) ?_
          exact H
        · have H := H.2 c56
          refine q_iload_n dX10_comesFirst_59 rfl ?_
          refine q_iload_n dX10_comesFirst_60 rfl ?_
          refine q_icmp_ge (tgt := 68) dX10_comesFirst_61 (by decide) (fun c61 => ?_) (fun c61 => ?_)
          · have H := H.1 c61
            refine q_iconst dX10_comesFirst_68 (by decide) ?_
            exact q_zret dX10_comesFirst_69 rfl (by decide) ⟨_, rfl, rfl, H⟩
          · have H := H.2 c61
            refine q_iconst dX10_comesFirst_64 (by decide) ?_
            refine q_goto (tgt := 69) dX10_comesFirst_65 (by decide) ?_
            exact q_zret dX10_comesFirst_69 rfl (by decide) ⟨_, rfl, rfl, H⟩
      · have H := H.2 c40
        refine q_iconst dX10_comesFirst_43 (by decide) ?_
        refine q_goto (tgt := 53) dX10_comesFirst_44 (by decide) ?_
        refine q_istore_n dX10_comesFirst_53 (by decide) rfl ?_
        refine q_iload_n dX10_comesFirst_54 rfl ?_
        refine q_iload_n dX10_comesFirst_55 rfl ?_
        refine q_icmp_eq (tgt := 70) dX10_comesFirst_56 (by decide) (fun _ => ?_) (fun c => absurd c (by decide))
        obtain ⟨h6, H⟩ := H
        refine q_iinc dX10_comesFirst_70 rfl h6 rfl ?_
        refine q_goto (tgt := 2) dX10_comesFirst_73 (by decide) ?_
        exact H
set_option maxRecDepth 20000 in
theorem v_X10_comesFirst {m0 : Mem} {r be : Int} {li : Int → Int}  {P : Int → Mem → Prop} {mem : Mem}  (H : w_X10_comesFirst_2 m0 r be li P 0 (vJ 0) (vJ 0) mem) : Tot mX10_comesFirst 0 0 [vR 44] SH mem (Pr SH P) := by
  refine Tot.of rfl (Nat.le_of_ble_eq_true rfl) (by simp [isJ]) (ls := [vR 44, vJ 0, vJ 0, vJ 0]) rfl ?_
  refine q_iconst dX10_comesFirst_0 (by decide) ?_
  refine q_istore_n dX10_comesFirst_1 (by decide) rfl ?_
  exact H


def frM (m : Mem) (s : Int) : Prop := s < m 44 5 ∧ m 48 (2 + s).toNat = -9
/-- where s lies by the rank r -/
noncomputable def lieF (m : Mem) (r s : Int) : Int := @ite Int (s < m 44 5 ∧ m 48 (2 + s).toNat ≠ -9) (Classical.propDecidable _) (m 48 (2 + s).toNat) (if digF r s = 0 then -9 else digF r s - 1)
theorem lie_la {m : Mem} {r s : Int} (h : s < m 44 5 ∧ m 48 (2 + s).toNat ≠ -9) : lieF m r s = m 48 (2 + s).toNat := if_pos h
theorem lie_no {m : Mem} {r s : Int} (h : ¬ (s < m 44 5 ∧ m 48 (2 + s).toNat ≠ -9)) : lieF m r s = if digF r s = 0 then -9 else digF r s - 1 := if_neg h
def dzP (m : Mem) (r : Int) : Prop := ∀ s : Int, 0 ≤ s → s < 4 → ¬ frM m s → digF r s = 0
def encB (m0 : Mem) (b : Int) (m : Mem) : Prop := dzP m0 b ∧ m 44 40 = b / 28561 ∧ ∀ s : Int, 0 ≤ s → s < 4 → m 65 s.toNat = lieF m0 b s
def encL (m0 : Mem) (r p : Int) (li : Int → Int) : Prop := dzP m0 r ∧ (0 ≤ r ∧ r < 28561000) ∧ p = r / 28561 ∧ ∀ s : Int, 0 ≤ s → s < 4 → li s = lieF m0 r s
def isB (m0 : Mem) (b : Int) (m : Mem) : Prop := (b = 28561000 ∧ m 44 40 = -9) ∨ ((0 ≤ b ∧ b < 28561000) ∧ encB m0 b m)
theorem dig_b {r i : Int} : 0 ≤ digF r i ∧ digF r i < 13 := by unfold digF; omega
def cfQ (m0 : Mem) (r be : Int) (li : Int → Int) (m : Mem) : Prop := hsM m0 ∧ flM m0 li m ∧ encL m0 r (r / 28561) li ∧ 0 ≤ be ∧ encB m0 be m ∧ r / 28561 = be / 28561
theorem cf_loop {m0 m : Mem} {r be : Int} {li : Int → Int} (hq : cfQ m0 r be li m) : ∀ (k : Nat) (a1 : Int) (u2 u3 : Vl), 0 ≤ a1 → a1 ≤ m0 44 5 → (m0 44 5 - a1).toNat ≤ k → (∀ i : Int, 0 ≤ i → i < a1 → digF r i = digF be i) → w_X10_comesFirst_2 m0 r be li (fun v m2 => ((v = 1 ∧ r < be) ∨ (v = 0 ∧ be ≤ r)) ∧ m2 = m) a1 u2 u3 m := by
  obtain ⟨hh, hf, ⟨hz, hr, -, hl⟩, hb0, ⟨hz2, -, hl2⟩, hp⟩ := hq
  have h5 := hh.2.2.2.2.2.1
  have e5 : m 44 5 = m0 44 5 := hf.1.2 5 (by decide)
  have hend : ∀ a1 : Int, a1 = m0 44 5 → (∀ i : Int, 0 ≤ i → i < a1 → digF r i = digF be i) → be ≤ r := by
    intro a1 e hx
    have := dig_eq hr.1 hb0 hp (fun i i0 i1 => by
      by_cases c : i < a1
      · exact hx i i0 c
      · rw [hz i i0 i1 (fun z => by have := z.1; omega), hz2 i i0 i1 (fun z => by have := z.1; omega)])
    omega
  intro k
  induction k with
  | zero =>
    intro a1 u2 u3 h0 h1 hk hx
    exact v_X10_comesFirst_2 ⟨fun _ => ⟨Or.inr ⟨rfl, hend a1 (by omega) hx⟩, rfl⟩, fun q => by omega⟩
  | succ k ih =>
    intro a1 u2 u3 h0 h1 hk hx
    refine v_X10_comesFirst_2 ⟨fun q => ⟨Or.inr ⟨rfl, hend a1 (by omega) hx⟩, rfl⟩, fun q => ?_⟩
    rw [e5] at q
    have ex : m 59 a1.toNat = lieF m0 r a1 := by rw [hf.2.2.1 a1 h0 (by omega), hl a1 h0 (by omega)]
    have ey : m 65 a1.toNat = lieF m0 be a1 := hl2 a1 h0 (by omega)
    have hgo : ∀ (u2 u3 : Vl), digF r a1 = digF be a1 → (inR (a1 + 1)) ∧ (w_X10_comesFirst_2 m0 r be li (fun v m2 => ((v = 1 ∧ r < be) ∨ (v = 0 ∧ be ≤ r)) ∧ m2 = m) (a1 + 1) u2 u3 m) := by
      intro u2 u3 e
      refine ⟨by unfold inR; omega, ih _ _ _ (by omega) (by omega) (by omega) (fun i i0 i1 => ?_)⟩
      by_cases c : i = a1
      · rw [c]; exact e
      · exact hx i i0 (by omega)
    have hlt : digF r a1 < digF be a1 → ((fun (v : Int) (m2 : Mem) => ((v = 1 ∧ r < be) ∨ (v = 0 ∧ be ≤ r)) ∧ m2 = m) 1 m) := fun h => ⟨Or.inl ⟨rfl, dig_lt hr.1 hb0 hp h0 (by omega) hx h⟩, rfl⟩
    have hgt : digF be a1 < digF r a1 → ((fun (v : Int) (m2 : Mem) => ((v = 1 ∧ r < be) ∨ (v = 0 ∧ be ≤ r)) ∧ m2 = m) 0 m) := fun h => ⟨Or.inr ⟨rfl, Int.le_of_lt (dig_lt hb0 hr.1 hp.symm h0 (by omega) (fun i i0 i1 => (hx i i0 i1).symm) h)⟩, rfl⟩
    rw [ex, ey]
    refine ⟨h0, by omega, ?_⟩
    by_cases c : m0 48 (2 + a1).toNat = -9
    · have hn : ¬ (a1 < m0 44 5 ∧ m0 48 (2 + a1).toNat ≠ -9) := fun z => z.2 c
      rw [lie_no hn, lie_no hn]
      have db := dig_b (r := r) (i := a1)
      have eb := dig_b (r := be) (i := a1)
      by_cases cd : digF r a1 = 0 <;> by_cases ce : digF be a1 = 0
      · rw [if_pos cd, if_pos ce]
        exact ⟨fun z => absurd rfl z, fun _ => ⟨fun z => absurd rfl z, fun _ => hgo _ _ (by omega)⟩⟩
      · rw [if_pos cd, if_neg ce]
        exact ⟨fun z => absurd rfl z, fun _ => ⟨fun _ => ⟨fun y => by omega, fun y => ⟨fun x => by omega, fun x => hlt (by omega)⟩⟩, fun z => by omega⟩⟩
      · rw [if_neg cd, if_pos ce]
        exact ⟨fun _ => ⟨fun z => absurd rfl z, fun _ => ⟨fun y => by omega, fun y => ⟨fun x => hgt (by omega), fun x => by omega⟩⟩⟩, fun z => by omega⟩
      · rw [if_neg cd, if_neg ce]
        exact ⟨fun _ => ⟨fun _ => ⟨fun y => hgo _ _ (by omega), fun y => ⟨fun x => hgt (by omega), fun x => hlt (by omega)⟩⟩, fun z => by omega⟩, fun z => by omega⟩
    · rw [lie_la ⟨q, c⟩, lie_la ⟨q, c⟩]
      have e : digF r a1 = digF be a1 := by rw [hz a1 h0 (by omega) (fun z => c z.2), hz2 a1 h0 (by omega) (fun z => c z.2)]
      exact ⟨fun _ => ⟨fun _ => ⟨fun _ => hgo _ _ e, fun y => absurd rfl y⟩, fun z => absurd z c⟩, fun z => absurd z c⟩
theorem c_X10_comesFirst {m0 m : Mem} {r be : Int} {li : Int → Int} (hq : cfQ m0 r be li m) : Tot mX10_comesFirst 0 0 [vR 44] SH m (Pr SH (fun v m2 => ((v = 1 ∧ r < be) ∨ (v = 0 ∧ be ≤ r)) ∧ m2 = m)) := by
  have h5 := hq.1.2.2.2.2.2.1
  exact v_X10_comesFirst (m0 := m0) (r := r) (be := be) (li := li) (cf_loop hq _ 0 _ _ (by omega) h5.1 (Nat.le_refl _) (fun i i0 i1 => by omega))
def w_X10_offers_58 (m0 : Mem) (r be : Int) (li : Int → Int) (p : Int) (P : Mem → Prop) (a2 : Int) (a3 : Int) (mem : Mem) : Prop := WP mX10_offers none 0 0 (Pn SH P) 58 [vR 44, vI p, vI a2, vI a3] [] SH mem
set_option maxRecDepth 20000 in
theorem v_X10_offers_58 {m0 : Mem} {r be : Int} {li : Int → Int} {p : Int} {P : Mem → Prop} {a2 : Int} {a3 : Int} {mem : Mem}  (H : (4 ≤ a3 → P mem) ∧ (a3 < 4 → (0 ≤ a3) ∧ (∀ m2 : Mem, m2 = mset mem 65 a3.toNat (mem 59 a3.toNat) → ((inR (a3 + 1)) ∧ (w_X10_offers_58 m0 r be li p P a2 (a3 + 1) m2))))) : w_X10_offers_58 m0 r be li p P a2 a3 mem := by
  unfold w_X10_offers_58
  refine q_iload_n dX10_offers_58 rfl ?_
  refine q_iconst dX10_offers_59 (by decide) ?_
  refine q_icmp_ge (tgt := 81) dX10_offers_60 (by decide) (fun c60 => ?_) (fun c60 => ?_)
  · have H := H.1 c60
    exact q_vret dX10_offers_81 rfl ⟨rfl, rfl, H⟩
  · have H := H.2 c60
    refine q_aload_n dX10_offers_63 rfl ?_
    refine q_getr (r := 65) dX10_offers_64 lf_RX10_81 s44 rfl rfl ?_
    refine q_iload_n dX10_offers_67 rfl ?_
    refine q_aload_n dX10_offers_68 rfl ?_
    refine q_getr (r := 59) dX10_offers_69 lf_RX10_63 s44 rfl rfl ?_
    refine q_iload_n dX10_offers_72 rfl ?_
    obtain ⟨h1, H⟩ := H
    refine q_iald dX10_offers_73 s59 h1 c60 ?_
    refine q_iast dX10_offers_74 s65 h1 c60 ?_
    have H := H _ rfl
    obtain ⟨h3, H⟩ := H
    refine q_iinc dX10_offers_75 rfl h3 rfl ?_
    refine q_goto (tgt := 58) dX10_offers_78 (by decide) ?_
    exact H
set_option maxRecDepth 20000 in
theorem v_X10_offers {m0 : Mem} {r be : Int} {li : Int → Int} {p : Int} {P : Mem → Prop} {mem : Mem}  (H : ((mem 44 40) = (-9) → (rdM mem) ∧ (∀ (v2 : Int) (m3 : Mem), anN mem (isFirst (waM mem) 0 (mem 44 7)) v2 m3 → ((¬ v2 = (-9) → P m3) ∧ (v2 = (-9) → ∀ m4 : Mem, m4 = (mset m3 44 40 p) → (w_X10_offers_58 m0 r be li p P 1 0 m4))))) ∧ (¬ (mem 44 40) = (-9) → (p < (mem 44 40) → (rdM mem) ∧ (∀ (v6 : Int) (m7 : Mem), anN mem (isFirst (waM mem) 0 (mem 44 7)) v6 m7 → ((¬ v6 = (-9) → P m7) ∧ (v6 = (-9) → ∀ m8 : Mem, m8 = (mset m7 44 40 p) → (w_X10_offers_58 m0 r be li p P 1 0 m8))))) ∧ ((mem 44 40) ≤ p → (¬ p = (mem 44 40) → P mem) ∧ (p = (mem 44 40) → (cfQ m0 r be li mem) ∧ (∀ (v10 : Int) (m11 : Mem), (((v10 = 1 ∧ r < be) ∨ (v10 = 0 ∧ be ≤ r)) ∧ m11 = mem) → ((v10 = 0 → P m11) ∧ (¬ v10 = 0 → (rdM m11) ∧ (∀ (v13 : Int) (m14 : Mem), anN m11 (isFirst (waM m11) 0 (m11 44 7)) v13 m14 → ((¬ v13 = (-9) → P m14) ∧ (v13 = (-9) → ∀ m15 : Mem, m15 = (mset m14 44 40 p) → (w_X10_offers_58 m0 r be li p P 1 0 m15))))))))))) : Tot mX10_offers 0 0 [vR 44, vI p] SH mem (Pn SH P) := by
  refine Tot.of rfl (Nat.le_of_ble_eq_true rfl) (by simp [isJ]) (ls := [vR 44, vI p, vJ 0, vJ 0]) rfl ?_
  refine q_aload_n dX10_offers_0 rfl ?_
  refine q_geti dX10_offers_1 lf_RX10_241 s44 rfl ?_
  refine q_bipush dX10_offers_4 rfl (by decide) ?_
  refine q_icmp_eq (tgt := 32) dX10_offers_6 (by decide) (fun c6 => ?_) (fun c6 => ?_)
  · have H := H.1 c6
    refine q_iconst dX10_offers_32 (by decide) ?_
    refine q_goto (tgt := 37) dX10_offers_33 (by decide) ?_
    refine q_istore_n dX10_offers_37 (by decide) rfl ?_
    refine q_iload_n dX10_offers_38 rfl ?_
    refine q_if_eq (tgt := 81) dX10_offers_39 (by decide) (fun c => absurd c (by decide)) (fun _ => ?_)
    refine q_aload_n dX10_offers_42 rfl ?_
    obtain ⟨h1, H⟩ := H
    refine q_cVi (as := []) dX10_offers_43 kmX10_firstWaked kvX10_firstWaked lm_RX10_235 ⟨by decide, by decide⟩ s44 ⟨by decide, rfl⟩ rfl rfl (Nat.le_of_ble_eq_true rfl) (c_X10_firstWaked h1) (fun v m1 hq => ?_)
    have H := H v m1 hq
    refine q_bipush dX10_offers_46 rfl (by decide) ?_
    refine q_icmp_ne (tgt := 81) dX10_offers_48 (by decide) (fun c48 => ?_) (fun c48 => ?_)
    · have H := H.1 c48
      exact q_vret dX10_offers_81 rfl ⟨rfl, rfl, H⟩
    · have H := H.2 c48
      refine q_aload_n dX10_offers_51 rfl ?_
      refine q_iload_n dX10_offers_52 rfl ?_
      refine q_puti dX10_offers_53 lf_RX10_241 s44 rfl (Or.inl rfl) fit_int ?_
      have H := H _ rfl
      refine q_iconst dX10_offers_56 (by decide) ?_
      refine q_istore_n dX10_offers_57 (by decide) rfl ?_
      exact H
  · have H := H.2 c6
    refine q_iload_n dX10_offers_9 rfl ?_
    refine q_aload_n dX10_offers_10 rfl ?_
    refine q_geti dX10_offers_11 lf_RX10_241 s44 rfl ?_
    refine q_icmp_lt (tgt := 32) dX10_offers_14 (by decide) (fun c14 => ?_) (fun c14 => ?_)
    · have H := H.1 c14
      refine q_iconst dX10_offers_32 (by decide) ?_
      refine q_goto (tgt := 37) dX10_offers_33 (by decide) ?_
      refine q_istore_n dX10_offers_37 (by decide) rfl ?_
      refine q_iload_n dX10_offers_38 rfl ?_
      refine q_if_eq (tgt := 81) dX10_offers_39 (by decide) (fun c => absurd c (by decide)) (fun _ => ?_)
      refine q_aload_n dX10_offers_42 rfl ?_
      obtain ⟨h5, H⟩ := H
      refine q_cVi (as := []) dX10_offers_43 kmX10_firstWaked kvX10_firstWaked lm_RX10_235 ⟨by decide, by decide⟩ s44 ⟨by decide, rfl⟩ rfl rfl (Nat.le_of_ble_eq_true rfl) (c_X10_firstWaked h5) (fun v m1 hq => ?_)
      have H := H v m1 hq
      refine q_bipush dX10_offers_46 rfl (by decide) ?_
      refine q_icmp_ne (tgt := 81) dX10_offers_48 (by decide) (fun c48 => ?_) (fun c48 => ?_)
      · have H := H.1 c48
        exact q_vret dX10_offers_81 rfl ⟨rfl, rfl, H⟩
      · have H := H.2 c48
        refine q_aload_n dX10_offers_51 rfl ?_
        refine q_iload_n dX10_offers_52 rfl ?_
        refine q_puti dX10_offers_53 lf_RX10_241 s44 rfl (Or.inl rfl) fit_int ?_
        have H := H _ rfl
        refine q_iconst dX10_offers_56 (by decide) ?_
        refine q_istore_n dX10_offers_57 (by decide) rfl ?_
        exact H
    · have H := H.2 c14
      refine q_iload_n dX10_offers_17 rfl ?_
      refine q_aload_n dX10_offers_18 rfl ?_
      refine q_geti dX10_offers_19 lf_RX10_241 s44 rfl ?_
      refine q_icmp_ne (tgt := 36) dX10_offers_22 (by decide) (fun c22 => ?_) (fun c22 => ?_)
      · have H := H.1 c22
        refine q_iconst dX10_offers_36 (by decide) ?_
        refine q_istore_n dX10_offers_37 (by decide) rfl ?_
        refine q_iload_n dX10_offers_38 rfl ?_
        refine q_if_eq (tgt := 81) dX10_offers_39 (by decide) (fun _ => ?_) (fun c => absurd c (by decide))
        exact q_vret dX10_offers_81 rfl ⟨rfl, rfl, H⟩
      · have H := H.2 c22
        refine q_aload_n dX10_offers_25 rfl ?_
        obtain ⟨h9, H⟩ := H
        refine q_cVi (as := []) dX10_offers_26 kmX10_comesFirst kvX10_comesFirst lm_RX10_244 ⟨by decide, by decide⟩ s44 ⟨by decide, rfl⟩ rfl rfl (Nat.le_of_ble_eq_true rfl) (c_X10_comesFirst h9) (fun v m1 hq => ?_)
        have H := H v m1 hq
        refine q_if_eq (tgt := 36) dX10_offers_29 (by decide) (fun c29 => ?_) (fun c29 => ?_)
        · have H := H.1 c29
          refine q_iconst dX10_offers_36 (by decide) ?_
          refine q_istore_n dX10_offers_37 (by decide) rfl ?_
          refine q_iload_n dX10_offers_38 rfl ?_
          refine q_if_eq (tgt := 81) dX10_offers_39 (by decide) (fun _ => ?_) (fun c => absurd c (by decide))
          exact q_vret dX10_offers_81 rfl ⟨rfl, rfl, H⟩
        · have H := H.2 c29
          refine q_iconst dX10_offers_32 (by decide) ?_
          refine q_goto (tgt := 37) dX10_offers_33 (by decide) ?_
          refine q_istore_n dX10_offers_37 (by decide) rfl ?_
          refine q_iload_n dX10_offers_38 rfl ?_
          refine q_if_eq (tgt := 81) dX10_offers_39 (by decide) (fun c => absurd c (by decide)) (fun _ => ?_)
          refine q_aload_n dX10_offers_42 rfl ?_
          obtain ⟨h12, H⟩ := H
          refine q_cVi (as := []) dX10_offers_43 kmX10_firstWaked kvX10_firstWaked lm_RX10_235 ⟨by decide, by decide⟩ s44 ⟨by decide, rfl⟩ rfl rfl (Nat.le_of_ble_eq_true rfl) (c_X10_firstWaked h12) (fun v m1 hq => ?_)
          have H := H v m1 hq
          refine q_bipush dX10_offers_46 rfl (by decide) ?_
          refine q_icmp_ne (tgt := 81) dX10_offers_48 (by decide) (fun c48 => ?_) (fun c48 => ?_)
          · have H := H.1 c48
            exact q_vret dX10_offers_81 rfl ⟨rfl, rfl, H⟩
          · have H := H.2 c48
            refine q_aload_n dX10_offers_51 rfl ?_
            refine q_iload_n dX10_offers_52 rfl ?_
            refine q_puti dX10_offers_53 lf_RX10_241 s44 rfl (Or.inl rfl) fit_int ?_
            have H := H _ rfl
            refine q_iconst dX10_offers_56 (by decide) ?_
            refine q_istore_n dX10_offers_57 (by decide) rfl ?_
            exact H


def mrg (D : Int → Prop) (be be' : Int) : Prop := (be' = be ∨ D be') ∧ be' ≤ be ∧ ∀ r : Int, D r → be' ≤ r
def ofQ (m0 : Mem) (r be : Int) (li : Int → Int) (m : Mem) (p : Int) : Prop := hsM m0 ∧ flM m0 li m ∧ encL m0 r p li ∧ isB m0 be m
def ofP (m0 : Mem) (r be : Int) (li : Int → Int) (m : Mem) : Prop := ∃ be', isB m0 be' m ∧ bmF m0 m ∧ mrg (fun x => qzM m0 li ∧ x = r) be be'
theorem of_loop {m0 m4 : Mem} {r be p a2 : Int} {li : Int → Int} (hb : bmF m0 m4) (he : encL m0 r p li) (hl : ∀ s : Int, 0 ≤ s → s < 4 → m4 59 s.toNat = li s) (h40 : m4 44 40 = p) (hq : qzM m0 li) (hlt : r ≤ be) : ∀ (k : Nat) (a3 : Int) (m : Mem), 0 ≤ a3 → a3 ≤ 4 → (4 - a3).toNat ≤ k → Fr [65] m4 m → (∀ s : Int, 0 ≤ s → s < a3 → m 65 s.toNat = li s) → w_X10_offers_58 m0 r be li p (ofP m0 r be li) a2 a3 m := by
  have hfin : ∀ (a3 : Int) (m : Mem), a3 = 4 → Fr [65] m4 m → (∀ s : Int, 0 ≤ s → s < a3 → m 65 s.toNat = li s) → ofP m0 r be li m := by
    intro a3 m e hF hx
    refine ⟨r, Or.inr ⟨he.2.1, he.1, by rw [hF.at 44, h40]; exact he.2.2.1, fun s s0 s1 => ?_⟩, bm_tr hb (hF.mono (by decide)), Or.inr ⟨hq, rfl⟩, hlt, fun x hx => Int.le_of_eq hx.2.symm⟩
    rw [hx s s0 (by omega)]
    exact he.2.2.2 s s0 s1
  intro k
  induction k with
  | zero =>
    intro a3 m h0 h1 hk hF hx
    exact v_X10_offers_58 ⟨fun _ => hfin a3 m (by omega) hF hx, fun q => by omega⟩
  | succ k ih =>
    intro a3 m h0 h1 hk hF hx
    refine v_X10_offers_58 ⟨fun q => hfin a3 m (by omega) hF hx, fun q => ⟨h0, fun m2 e2 => ⟨by unfold inR; omega, ?_⟩⟩⟩
    rw [e2]
    refine ih _ _ (by omega) (by omega) (by omega) (hF.set (by decide)) (fun s s0 s1 => ?_)
    rw [mset_at]
    by_cases c : s = a3
    · rw [c, if_pos ⟨rfl, rfl⟩, hF.at 59]
      exact hl a3 h0 (by omega)
    · rw [if_neg (by omega)]
      exact hx s s0 (by omega)
theorem isB_fr {ks : List Nat} {m0 m m' : Mem} {b : Int} (h : isB m0 b m) (hF : Fr ks m m') (h4 : 44 ∉ ks := by decide) (h5 : 65 ∉ ks := by decide) : isB m0 b m' := by
  unfold isB encB at *
  rw [hF 44 h4, hF 65 h5]
  exact h
theorem c_X10_offers {m0 m : Mem} {r be p : Int} {li : Int → Int} (hq : ofQ m0 r be li m p) : Tot mX10_offers 0 0 [vR 44, vI p] SH m (Pn SH (ofP m0 r be li)) := by
  obtain ⟨hh, hf, he, hB⟩ := hq
  have hy : rdM m := ⟨(bm_hs hf.1).mpr hh, hf.2.1⟩
  have hqz := fm_qz hh hf
  have hep := he.2.2.1
  have her := he.2.1
  -- a floor that is not still: nothing changes
  have hno : ∀ (v2 : Int) (m3 : Mem), anN m (isFirst (waM m) 0 (m 44 7)) v2 m3 → ¬ v2 = -9 → ofP m0 r be li m3 := by
    intro v2 m3 h3 hv
    refine ⟨be, isB_fr hB h3.2, bm_tr hf.1 (h3.2.mono (by decide)), Or.inl rfl, Int.le_refl _, fun x hx => ?_⟩
    rcases h3.1 with ⟨a, -⟩ | ⟨a, b, c, -⟩
    · exact absurd a hv
    · exact absurd c (hqz.mpr hx.1 v2 a b)
  have hyes : ∀ (v2 : Int) (m3 m4 : Mem) (a2 : Int), anN m (isFirst (waM m) 0 (m 44 7)) v2 m3 → v2 = -9 → m4 = mset m3 44 40 p → r ≤ be → w_X10_offers_58 m0 r be li p (ofP m0 r be li) a2 0 m4 := by
    intro v2 m3 m4 a2 h3 hv e4 hlt
    have hq : qzM m0 li := by
      refine hqz.mp ?_
      rcases h3.1 with ⟨-, a⟩ | ⟨a, -⟩
      · exact a
      · omega
    have hb3 := bm_tr hf.1 (h3.2.mono (by decide))
    have hb4 : bmF m0 m4 := by
      rw [e4]
      exact ⟨hb3.1.set (by decide), fun k hk => by rw [mset_at, if_neg (by omega)]; exact hb3.2 k hk⟩
    refine of_loop hb4 he (fun s s0 s1 => ?_) (by rw [e4, mset_eq]) hq hlt 4 0 m4 (by omega) (by omega) (by omega) Fr.rf (fun s s0 s1 => by omega)
    rw [e4, mset_ne 59 (by decide), h3.2.at 59]
    exact hf.2.2.1 s s0 s1
  have hkeep : be ≤ r → ofP m0 r be li m := fun h => ⟨be, hB, hf.1, Or.inl rfl, Int.le_refl _, fun x hx => by rw [hx.2]; exact h⟩
  refine v_X10_offers (m0 := m0) (r := r) (be := be) (li := li) ⟨fun z => ?_, fun z => ?_⟩
  · have hbe : be = 28561000 := by
      rcases hB with ⟨a, -⟩ | ⟨a, b⟩
      · exact a
      · have := b.2.1
        omega
    exact ⟨hy, fun v2 m3 h3 => ⟨fun y => hno v2 m3 h3 y, fun y m4 e4 => hyes v2 m3 m4 1 h3 y e4 (by omega)⟩⟩
  · obtain ⟨hb0, hbz, hb40, hbl⟩ : (0 ≤ be ∧ be < 28561000) ∧ encB m0 be m := by
      rcases hB with ⟨-, a⟩ | a
      · exact absurd a z
      · exact a
    refine ⟨fun y => ⟨hy, fun v6 m7 h7 => ⟨fun x => hno v6 m7 h7 x, fun x m8 e8 => hyes v6 m7 m8 1 h7 x e8 (by omega)⟩⟩, fun y => ⟨fun x => hkeep (by omega), fun x => ⟨⟨hh, hf, ⟨he.1, he.2.1, rfl, he.2.2.2⟩, hb0.1, ⟨hbz, hb40, hbl⟩, by omega⟩, fun v10 m11 h11 => ?_⟩⟩⟩
    obtain ⟨hv, e11⟩ := h11
    have e11 := e11.symm
    subst e11
    refine ⟨fun w => hkeep ?_, fun w => ⟨hy, fun v13 m14 h14 => ⟨fun u => hno v13 m14 h14 u, fun u m15 e15 => hyes v13 m14 m15 1 h14 u e15 ?_⟩⟩⟩
    · rcases hv with ⟨a, -⟩ | ⟨-, a⟩
      · omega
      · exact a
    · rcases hv with ⟨-, a⟩ | ⟨a, -⟩
      · omega
      · exact absurd a w
