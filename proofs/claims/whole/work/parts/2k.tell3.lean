/-! THE CLASS: tellItem, tell, house -/
def w_X8_tellItem_13 (i : Int) (Q0 : PS)  (P : Int → Mem → Prop) (a2 : Int) (a3 : Int) (a4 : Int) (mem : Mem) : Prop := WP mX8_tellItem none 0 0 (Pr SH P) 13 [vR 1, vR 11, vI a2, vI a3, vI a4] [] SH mem
set_option maxRecDepth 20000 in
theorem v_X8_tellItem_13 {i : Int} {Q0 : PS}  {P : Int → Mem → Prop} {a2 : Int} {a3 : Int} {a4 : Int} {mem : Mem}  (H : (a3 ≤ a4 → (txOK mem) ∧ ((0 ≤ mem 1 3 ∧ mem 1 3 ≤ mem 1 2) ∧ (∀ m3 : Mem, stP mem m3 → (((m3 1 5) = 59 → (enQ m3 a2 i Q0) ∧ (∀ m5 : Mem, enR m3 a2 Q0 m5 → (P 1 m5))) ∧ (¬ (m3 1 5) = 59 → P 0 m3))))) ∧ (a4 < a3 → (4 ≤ a4 → (txOK mem) ∧ ((0 ≤ mem 1 3 ∧ mem 1 3 ≤ mem 1 2) ∧ (∀ m8 : Mem, stP mem m8 → (((m8 1 5) = 59 → (enQ m8 a2 i Q0) ∧ (∀ m10 : Mem, enR m8 a2 Q0 m10 → (P 1 m10))) ∧ (¬ (m8 1 5) = 59 → P 0 m8))))) ∧ (a4 < 4 → (txOK mem) ∧ ((0 ≤ mem 1 3 ∧ mem 1 3 ≤ mem 1 2) ∧ (∀ m13 : Mem, stP mem m13 → ((¬ (m13 1 5) = (-2) → P 0 m13) ∧ ((m13 1 5) = (-2) → ((m13 1 6) < (loF (m13 3) a2 a4) → P 0 m13) ∧ ((loF (m13 3) a2 a4) ≤ (m13 1 6) → (inR ((m13 11 5) - 1)) ∧ (((m13 1 6) ≤ (hiF a2 a4 (m13 11 5)) → (0 ≤ a4) ∧ (∀ m16 : Mem, m16 = mset m13 3 a4.toNat (m13 1 6) → ((inR (a4 + 1)) ∧ (w_X8_tellItem_13 i Q0 P a2 a3 (a4 + 1) m16)))) ∧ ((hiF a2 a4 (m13 11 5)) < (m13 1 6) → P 0 m13)))))))))) : w_X8_tellItem_13 i Q0 P a2 a3 a4 mem := by
  unfold w_X8_tellItem_13
  refine q_iload dX8_tellItem_13 rfl ?_
  refine q_iload_n dX8_tellItem_15 rfl ?_
  refine q_icmp_ge (tgt := 88) dX8_tellItem_16 (by decide) (fun c16 => ?_) (fun c16 => ?_)
  · have H := H.1 c16
    refine q_aload_n dX8_tellItem_88 rfl ?_
    obtain ⟨h1, H⟩ := H
    obtain ⟨h2, H⟩ := H
    refine q_cVn (as := []) dX8_tellItem_89 kmX8_step kvX8_step lm_RX8_34 ⟨by decide, by decide⟩ s1 ⟨by decide, rfl⟩ rfl rfl (Nat.le_of_ble_eq_true rfl) (c_X8_step h1 h2) (fun m1 hq => ?_)
    have H := H m1 hq
    refine q_aload_n dX8_tellItem_92 rfl ?_
    refine q_geti dX8_tellItem_93 lf_RX8_37 s1 rfl ?_
    refine q_bipush dX8_tellItem_96 rfl (by decide) ?_
    refine q_icmp_eq (tgt := 103) dX8_tellItem_98 (by decide) (fun c98 => ?_) (fun c98 => ?_)
    · have H := H.1 c98
      refine q_aload_n dX8_tellItem_103 rfl ?_
      refine q_aload_n dX8_tellItem_104 rfl ?_
      refine q_iload_n dX8_tellItem_105 rfl ?_
      obtain ⟨h4, H⟩ := H
      refine q_cVn (as := [vR _, vI _]) dX8_tellItem_106 kmX8_enter kvX8_enter lm_RX8_86 ⟨by decide, by decide⟩ s1 ⟨by decide, rfl⟩ rfl rfl (Nat.le_of_ble_eq_true rfl) (c_X8_enter h4) (fun m1 hq => ?_)
      have H := H m1 hq
      refine q_iconst dX8_tellItem_109 (by decide) ?_
      exact q_zret dX8_tellItem_110 rfl (by decide) ⟨_, rfl, rfl, H⟩
    · have H := H.2 c98
      refine q_iconst dX8_tellItem_101 (by decide) ?_
      exact q_zret dX8_tellItem_102 rfl (by decide) ⟨_, rfl, rfl, H⟩
  · have H := H.2 c16
    refine q_iload dX8_tellItem_19 rfl ?_
    refine q_iconst dX8_tellItem_21 (by decide) ?_
    refine q_icmp_ge (tgt := 88) dX8_tellItem_22 (by decide) (fun c22 => ?_) (fun c22 => ?_)
    · have H := H.1 c22
      refine q_aload_n dX8_tellItem_88 rfl ?_
      obtain ⟨h6, H⟩ := H
      obtain ⟨h7, H⟩ := H
      refine q_cVn (as := []) dX8_tellItem_89 kmX8_step kvX8_step lm_RX8_34 ⟨by decide, by decide⟩ s1 ⟨by decide, rfl⟩ rfl rfl (Nat.le_of_ble_eq_true rfl) (c_X8_step h6 h7) (fun m1 hq => ?_)
      have H := H m1 hq
      refine q_aload_n dX8_tellItem_92 rfl ?_
      refine q_geti dX8_tellItem_93 lf_RX8_37 s1 rfl ?_
      refine q_bipush dX8_tellItem_96 rfl (by decide) ?_
      refine q_icmp_eq (tgt := 103) dX8_tellItem_98 (by decide) (fun c98 => ?_) (fun c98 => ?_)
      · have H := H.1 c98
        refine q_aload_n dX8_tellItem_103 rfl ?_
        refine q_aload_n dX8_tellItem_104 rfl ?_
        refine q_iload_n dX8_tellItem_105 rfl ?_
        obtain ⟨h9, H⟩ := H
        refine q_cVn (as := [vR _, vI _]) dX8_tellItem_106 kmX8_enter kvX8_enter lm_RX8_86 ⟨by decide, by decide⟩ s1 ⟨by decide, rfl⟩ rfl rfl (Nat.le_of_ble_eq_true rfl) (c_X8_enter h9) (fun m1 hq => ?_)
        have H := H m1 hq
        refine q_iconst dX8_tellItem_109 (by decide) ?_
        exact q_zret dX8_tellItem_110 rfl (by decide) ⟨_, rfl, rfl, H⟩
      · have H := H.2 c98
        refine q_iconst dX8_tellItem_101 (by decide) ?_
        exact q_zret dX8_tellItem_102 rfl (by decide) ⟨_, rfl, rfl, H⟩
    · have H := H.2 c22
      refine q_aload_n dX8_tellItem_25 rfl ?_
      obtain ⟨h11, H⟩ := H
      obtain ⟨h12, H⟩ := H
      refine q_cVn (as := []) dX8_tellItem_26 kmX8_step kvX8_step lm_RX8_34 ⟨by decide, by decide⟩ s1 ⟨by decide, rfl⟩ rfl rfl (Nat.le_of_ble_eq_true rfl) (c_X8_step h11 h12) (fun m1 hq => ?_)
      have H := H m1 hq
      refine q_aload_n dX8_tellItem_29 rfl ?_
      refine q_geti dX8_tellItem_30 lf_RX8_37 s1 rfl ?_
      refine q_bipush dX8_tellItem_33 rfl (by decide) ?_
      refine q_icmp_ne (tgt := 69) dX8_tellItem_35 (by decide) (fun c35 => ?_) (fun c35 => ?_)
      · have H := H.1 c35
        refine q_iconst dX8_tellItem_69 (by decide) ?_
        exact q_zret dX8_tellItem_70 rfl (by decide) ⟨_, rfl, rfl, H⟩
      · have H := H.2 c35
        refine q_aload_n dX8_tellItem_38 rfl ?_
        refine q_geti dX8_tellItem_39 lf_RX8_72 s1 rfl ?_
        refine q_aload_n dX8_tellItem_42 rfl ?_
        refine q_iload_n dX8_tellItem_43 rfl ?_
        refine q_iload dX8_tellItem_44 rfl ?_
        refine q_cVi (as := [vI _, vI _]) dX8_tellItem_46 kmX8_least kvX8_least lm_RX8_75 ⟨by decide, by decide⟩ s1 ⟨by decide, rfl⟩ rfl rfl (Nat.le_of_ble_eq_true rfl) (c_X8_least) (fun v m1 hq => ?_)
        obtain ⟨rfl, rfl⟩ := hq
        refine q_icmp_lt (tgt := 69) dX8_tellItem_49 (by decide) (fun c49 => ?_) (fun c49 => ?_)
        · have H := H.1 c49
          refine q_iconst dX8_tellItem_69 (by decide) ?_
          exact q_zret dX8_tellItem_70 rfl (by decide) ⟨_, rfl, rfl, H⟩
        · have H := H.2 c49
          refine q_aload_n dX8_tellItem_52 rfl ?_
          refine q_geti dX8_tellItem_53 lf_RX8_72 s1 rfl ?_
          refine q_iload_n dX8_tellItem_56 rfl ?_
          refine q_iload dX8_tellItem_57 rfl ?_
          refine q_aload_n dX8_tellItem_59 rfl ?_
          refine q_geti dX8_tellItem_60 lf_RX8_79 s11 rfl ?_
          obtain ⟨h14, H⟩ := H
          refine q_cSi (as := [vI _, vI _, vI _]) dX8_tellItem_63 kmX8_greatest ktX8_greatest lm_RX8_82 ⟨by decide, by decide⟩ rfl rfl (Nat.le_of_ble_eq_true rfl) (c_X8_greatest h14) (fun v m1 hq => ?_)
          obtain ⟨rfl, rfl⟩ := hq
          refine q_icmp_le (tgt := 71) dX8_tellItem_66 (by decide) (fun c66 => ?_) (fun c66 => ?_)
          · have H := H.1 c66
            refine q_aload_n dX8_tellItem_71 rfl ?_
            refine q_getr (r := 3) dX8_tellItem_72 lf_RX8_15 s1 rfl rfl ?_
            refine q_iload dX8_tellItem_75 rfl ?_
            refine q_aload_n dX8_tellItem_77 rfl ?_
            refine q_geti dX8_tellItem_78 lf_RX8_72 s1 rfl ?_
            obtain ⟨h15, H⟩ := H
            refine q_iast dX8_tellItem_81 s3 h15 c22 ?_
            have H := H _ rfl
            obtain ⟨h17, H⟩ := H
            refine q_iinc dX8_tellItem_82 rfl h17 rfl ?_
            refine q_goto (tgt := 13) dX8_tellItem_85 (by decide) ?_
            exact H
          · have H := H.2 c66
            refine q_iconst dX8_tellItem_69 (by decide) ?_
            exact q_zret dX8_tellItem_70 rfl (by decide) ⟨_, rfl, rfl, H⟩
set_option maxRecDepth 20000 in
theorem v_X8_tellItem {i : Int} {Q0 : PS}  {P : Int → Mem → Prop} {mem : Mem}  (H : w_X8_tellItem_13 i Q0 P (mem 1 5) (fdN (mem 1 5)) 0 mem) : Tot mX8_tellItem 0 0 [vR 1, vR 11] SH mem (Pr SH P) := by
  refine Tot.of rfl (Nat.le_of_ble_eq_true rfl) (by simp [isJ]) (ls := [vR 1, vR 11, vJ 0, vJ 0, vJ 0]) rfl ?_
  refine q_aload_n dX8_tellItem_0 rfl ?_
  refine q_geti dX8_tellItem_1 lf_RX8_37 s1 rfl ?_
  refine q_istore_n dX8_tellItem_4 (by decide) rfl ?_
  refine q_iload_n dX8_tellItem_5 rfl ?_
  refine q_cSi (as := [vI _]) dX8_tellItem_6 kmX8_fieldsOf ktX8_fieldsOf lm_RX8_68 ⟨by decide, by decide⟩ rfl rfl (Nat.le_of_ble_eq_true rfl) (c_X8_fieldsOf) (fun v m1 hq => ?_)
  obtain ⟨rfl, rfl⟩ := hq
  refine q_istore_n dX8_tellItem_9 (by decide) rfl ?_
  refine q_iconst dX8_tellItem_10 (by decide) ?_
  refine q_istore dX8_tellItem_11 (by decide) rfl ?_
  exact H


theorem ps_n {i : Int} {P : PS} (h : psOK i P) : 1 ≤ P.w * P.h ∧ P.w * P.h ≤ 12 := by
  obtain ⟨⟨a, b, -⟩, -⟩ := h
  rcases a with a | a | a | a <;> rcases b with b | b | b <;> rw [a, b] <;> decide
def tiP (m0 : Mem) (Q0 : PS) (v : Int) (m : Mem) : Prop := ∃ (ok st e : Int) (g : Nat → Int), flP (m0 2) (m0 1 2) (m0 1 5) (Q0.w * Q0.h) (fdN (m0 1 5)).toNat 0 (m0 1 3) (m0 3) ok st e g ∧ v = ok ∧ m 1 4 = st ∧ Fr [1, 3, 11, 12, 13, 14, 15, 16, 17] m0 m ∧ m 1 2 = m0 1 2 ∧ (ok = 1 → m 1 3 = e ∧ dfP m (ent (m0 1 5) g Q0)) ∧ (ok = 0 → Fr [1, 3] m0 m)
def tiQ (m0 : Mem) (i : Int) (Q0 : PS) : Prop := dfP m0 Q0 ∧ psOK i Q0 ∧ mayP (m0 1 5) i Q0 ∧ txOK m0 ∧ (0 ≤ m0 1 3 ∧ m0 1 3 ≤ m0 1 2)
theorem ti_loop {m0 : Mem} {i : Int} {Q0 : PS} (hq : tiQ m0 i Q0) : ∀ (k : Nat) (a4 : Int) (m : Mem), 0 ≤ a4 → a4 ≤ fdN (m0 1 5) → (fdN (m0 1 5) - a4).toNat ≤ k → Fr [1, 3] m0 m → m 1 2 = m0 1 2 → (0 ≤ m 1 3 ∧ m 1 3 ≤ m0 1 2) → (∀ (ok st e : Int) (g : Nat → Int), flP (m0 2) (m0 1 2) (m0 1 5) (Q0.w * Q0.h) (fdN (m0 1 5) - a4).toNat a4.toNat (m 1 3) (m 3) ok st e g → flP (m0 2) (m0 1 2) (m0 1 5) (Q0.w * Q0.h) (fdN (m0 1 5)).toNat 0 (m0 1 3) (m0 3) ok st e g) → w_X8_tellItem_13 i Q0 (tiP m0 Q0) (m0 1 5) (fdN (m0 1 5)) a4 m := by
  obtain ⟨hd, hk, hm, ht, h3⟩ := hq
  have hn := ps_n hk
  have hfd := (fdN_b (c := m0 1 5)).2
  have htx : ∀ m : Mem, Fr [1, 3] m0 m → m 1 2 = m0 1 2 → txOK m := by
    intro m hF e
    unfold txOK
    rw [e, hF.at 2]
    exact ht
  have hend : ∀ (a4 : Int) (m : Mem), a4 = fdN (m0 1 5) → Fr [1, 3] m0 m → m 1 2 = m0 1 2 → (0 ≤ m 1 3 ∧ m 1 3 ≤ m0 1 2) → (∀ (ok st e : Int) (g : Nat → Int), flP (m0 2) (m0 1 2) (m0 1 5) (Q0.w * Q0.h) (fdN (m0 1 5) - a4).toNat a4.toNat (m 1 3) (m 3) ok st e g → flP (m0 2) (m0 1 2) (m0 1 5) (Q0.w * Q0.h) (fdN (m0 1 5)).toNat 0 (m0 1 3) (m0 3) ok st e g) → (txOK m) ∧ ((0 ≤ m 1 3 ∧ m 1 3 ≤ m 1 2) ∧ (∀ m3 : Mem, stP m m3 → (((m3 1 5) = 59 → (enQ m3 (m0 1 5) i Q0) ∧ (∀ m5 : Mem, enR m3 (m0 1 5) Q0 m5 → (tiP m0 Q0 1 m5))) ∧ (¬ (m3 1 5) = 59 → tiP m0 Q0 0 m3)))) := by
    intro a4 m e4 hF e2 hp hch
    refine ⟨htx m hF e2, by rw [e2]; exact hp, fun m3 h3 => ?_⟩
    obtain ⟨hF3, K, v, htk, henc⟩ := h3
    rw [hF.at 2, e2] at htk
    have hL : Fr [1, 3] m0 m3 := hF.tr (hF3.1.mono (by decide))
    have e32 : m3 1 2 = m0 1 2 := by rw [hF3.2, e2]
    have e33 : m3 3 = m 3 := hF3.1.at 3
    have er : (fdN (m0 1 5) - a4).toNat = 0 := by omega
    rw [er] at hch
    refine ⟨fun z => ?_, fun z => ?_⟩
    · have hK : K = 1 ∧ v = 59 := by omega
      have hfl := hch 1 (m3 1 4) (m3 1 3) (m 3) ⟨K, v, htk, rfl, Or.inl ⟨hK.1, hK.2, rfl⟩⟩
      have hok := (flP_ok _ 0 _ _ _ _ _ _ h3 hfl).2.2 rfl
      refine ⟨⟨dfP_fr hL hd, hk, hm, fun j hj => ?_⟩, fun m5 h5 => ?_⟩
      · rw [e33]
        exact hok.2.2 j (by omega) (by omega)
      · have h5F := h5.1
        refine ⟨1, m3 1 4, m3 1 3, m 3, hfl, rfl, by rw [h5F.at 1], (hL.mono (by decide)).tr (h5F.mono (by decide)), by rw [h5F.at 1]; exact e32, fun _ => ⟨by rw [h5F.at 1], ?_⟩, fun y => absurd y (by decide)⟩
        rw [← e33]
        exact h5.2
    · refine ⟨0, m3 1 4, m3 1 3, m 3, hch 0 (m3 1 4) (m3 1 3) (m 3) ⟨K, v, htk, rfl, Or.inr ⟨fun y => z ?_, rfl⟩⟩, rfl, rfl, hL.mono (by decide), e32, fun y => absurd y (by decide), fun _ => hL⟩
      omega
  intro k
  induction k with
  | zero =>
    intro a4 m h0 h1 hkk hF e2 hp hch
    exact v_X8_tellItem_13 ⟨fun _ => hend a4 m (by omega) hF e2 hp hch, fun q => by omega⟩
  | succ k ih =>
    intro a4 m h0 h1 hkk hF e2 hp hch
    refine v_X8_tellItem_13 ⟨fun q => hend a4 m (by omega) hF e2 hp hch, fun q => ⟨fun q2 => by omega, fun q2 => ⟨htx m hF e2, by rw [e2]; exact hp, fun m13 h13 => ?_⟩⟩⟩
    obtain ⟨hF3, K, v, htk, henc⟩ := h13
    rw [hF.at 2, e2] at htk
    have hL : Fr [1, 3] m0 m13 := hF.tr (hF3.1.mono (by decide))
    have e32 : m13 1 2 = m0 1 2 := by rw [hF3.2, e2]
    have e33 : m13 3 = m 3 := hF3.1.at 3
    have e11 : m13 11 5 = Q0.w * Q0.h := by rw [hL.at 11]; exact hd.2.1.2.2.1
    have er : (fdN (m0 1 5) - a4).toNat = (fdN (m0 1 5) - (a4 + 1)).toNat + 1 := by omega
    have ea : ((a4.toNat : Nat) : Int) = a4 := by omega
    have hb := tok_b htk hp.2
    rw [er] at hch
    have hbad : ¬ (K = 2 ∧ loF (m 3) (m0 1 5) a4 ≤ v ∧ v ≤ hiF (m0 1 5) a4 (Q0.w * Q0.h)) → tiP m0 Q0 0 m13 := by
      intro hn
      refine ⟨0, m13 1 4, m13 1 3, m 3, hch 0 (m13 1 4) (m13 1 3) (m 3) ⟨K, v, m13 1 4, m13 1 3, htk, Or.inr ⟨?_, rfl, rfl⟩⟩, rfl, rfl, hL.mono (by decide), e32, fun y => absurd y (by decide), fun _ => hL⟩
      rw [ea]
      exact hn
    rw [e11, e33]
    refine ⟨fun z => hbad (fun y => z (by omega)), fun z => ⟨fun z2 => hbad (fun y => by omega), fun z2 => ⟨by unfold inR; omega, fun z3 => ⟨h0, fun m16 h16 => ⟨by unfold inR; omega, ?_⟩⟩, fun z3 => hbad (fun y => by omega)⟩⟩⟩
    have hK : K = 2 ∧ m13 1 6 = v := by omega
    have hF16 : Fr [3] m13 m16 := by rw [h16]; exact Fr.rf.set (by decide)
    have e3 : m16 3 = fset (m 3) a4.toNat v := by
      rw [h16, ← hK.2, ← e33]
      funext j
      rw [mset_at]
      unfold fset
      by_cases c : j = a4.toNat
      · rw [if_pos ⟨rfl, c⟩, if_pos c]
      · rw [if_neg (fun y => c y.2), if_neg c]
    refine ih (a4 + 1) m16 (by omega) (by omega) (by omega) (hL.tr (hF16.mono (by decide))) (by rw [hF16.at 1]; exact e32) (by rw [hF16.at 1]; omega) (fun ok st e g hfl => hch ok st e g ⟨K, v, m13 1 4, m13 1 3, htk, Or.inl ⟨hK.1, ?_, ?_⟩⟩)
    · rw [ea]
      omega
    · rw [e3, hF16.at 1, show (a4 + 1).toNat = a4.toNat + 1 by omega] at hfl
      exact hfl
theorem c_X8_tellItem {m0 : Mem} {i : Int} {Q0 : PS} (hq : tiQ m0 i Q0) : Tot mX8_tellItem 0 0 [vR 1, vR 11] SH m0 (Pr SH (tiP m0 Q0)) := by
  have hfd := (fdN_b (c := m0 1 5)).2
  refine v_X8_tellItem (ti_loop hq _ 0 m0 (by omega) (by omega) (Nat.le_refl _) Fr.rf rfl hq.2.2.2.2 (fun ok st e g h => ?_))
  rw [Int.sub_zero] at h
  exact h

def begP : PS := mkP 3 2 5 0 0 0 0 (fun _ => 0) (fun _ => 0) (fun _ => 0)
def hbP (m0 m : Mem) : Prop := Fr [11, 12, 14, 16] m0 m ∧ dfP m begP
theorem c_hb11 {m0 : Mem} (hc : m0 12 0 = 3 ∧ m0 14 0 = 4 ∧ m0 16 0 = 3) : Tot mX3_begin 0 0 [vR 11] SH m0 (Pn SH (hbP m0)) := by
  refine v_X3_begin_11 ⟨by decide, fun m2 e2 m3 e3 m4 e4 m5 e5 m6 e6 m7 e7 => ⟨?_, ?_⟩⟩
  · rw [e7, e6, e5, e4, e3, e2]
    exact ((((((((Fr.rf.set (by decide)).set (by decide)).set (by decide)).set (by decide)).set (by decide)).set (by decide)).set (by decide)).set (by decide))
  · have f11 : ∀ k : Nat, m7 11 k = m4 11 k := fun k => by rw [e7, mset_ne 11 (by decide), e6, mset_ne 11 (by decide), e5, mset_ne 11 (by decide)]
    have g11 : m4 11 7 = 0 ∧ m4 11 6 = 5 ∧ m4 11 5 = 6 ∧ m4 11 4 = 2 ∧ m4 11 3 = 3 := by
      rw [e4, e3, e2]
      refine ⟨mset_eq, ?_, ?_, ?_, ?_⟩
      · rw [mset_at, if_neg (by omega), mset_eq]
      · rw [mset_at, if_neg (by omega), mset_at, if_neg (by omega), mset_eq]
        decide
      · rw [mset_at, if_neg (by omega), mset_at, if_neg (by omega), mset_at, if_neg (by omega), mset_eq]
      · rw [mset_at, if_neg (by omega), mset_at, if_neg (by omega), mset_at, if_neg (by omega), mset_at, if_neg (by omega), mset_eq]
    have hne : ∀ r : Nat, r ≠ 11 → m4 r = m0 r := fun r hr => by rw [e4, mset_ne r hr, e3, mset_ne r hr, e2, mset_ne r hr, mset_ne r hr, mset_ne r hr]
    have h12 : m7 12 0 = 3 ∧ m7 12 2 = 0 := by
      rw [e7, mset_ne 12 (by decide), e6, mset_ne 12 (by decide), e5, mset_at, if_neg (by omega), hne 12 (by decide), mset_eq]
      exact ⟨hc.1, rfl⟩
    have h14 : m7 14 0 = 4 ∧ m7 14 2 = 0 := by
      rw [e7, mset_ne 14 (by decide), e6, mset_at, if_neg (by omega), mset_eq, e5, mset_ne 14 (by decide), hne 14 (by decide)]
      exact ⟨hc.2.1, rfl⟩
    have h16 : m7 16 0 = 3 ∧ m7 16 2 = 0 := by
      rw [e7, mset_at, if_neg (by omega), mset_eq, e6, mset_ne 16 (by decide), e5, mset_ne 16 (by decide), hne 16 (by decide)]
      exact ⟨hc.2.2, rfl⟩
    unfold dfP
    rw [f11, f11, f11, f11, f11, g11.1, g11.2.1, g11.2.2.1, g11.2.2.2.1, g11.2.2.2.2, h12.1, h12.2, h14.1, h14.2, h16.1, h16.2]
    refine ⟨⟨rfl, rfl, rfl⟩, ⟨rfl, rfl, rfl, rfl, rfl⟩, ⟨rfl, rfl, rfl⟩, fun e he => ?_, fun e he => ?_, fun e he => ?_⟩
    all_goals
      have he' : (e : Int) < 4 * 0 := he
      omega
theorem beg_ok : psOK 0 begP := by
  refine ⟨⟨Or.inr (Or.inr (Or.inl rfl)), Or.inr (Or.inl rfl), by decide, Or.inl rfl⟩, by decide, fun k hk => absurd hk (by show ¬ (k : Int) < 0; omega), fun k hk => absurd hk (by show ¬ (k : Int) < 0; omega), fun k hk => absurd hk (by show ¬ (k : Int) < 0; omega)⟩
def w_X8_tell_11 (i : Int) (Q0 : PS)  (P : Int → Mem → Prop) (a2 : Int) (mem : Mem) : Prop := WP mX8_tell none 0 0 (Pr SH P) 11 [vR 1, vR 11, vI a2] [] SH mem
set_option maxRecDepth 20000 in
theorem v_X8_tell_11 {i : Int} {Q0 : PS}  {P : Int → Mem → Prop} {a2 : Int} {mem : Mem}  (H : (12 < a2 → (inR ((-10) - (mem 1 4))) ∧ (P ((-10) - (mem 1 4)) mem)) ∧ (a2 ≤ 12 → (txOK mem) ∧ ((0 ≤ mem 1 3 ∧ mem 1 3 ≤ mem 1 2) ∧ (∀ m4 : Mem, stP mem m4 → ((¬ (m4 1 5) = (-1) → ∀ (v5 : Int) (m6 : Mem), ((mbQ m4 (m4 1 5) a2 ∧ v5 = 1) ∨ (¬ mbQ m4 (m4 1 5) a2 ∧ v5 = 0)) ∧ m6 = m4 → ((v5 = 0 → (inR ((-10) - (m6 1 4))) ∧ (P ((-10) - (m6 1 4)) m6)) ∧ (¬ v5 = 0 → (tiQ m6 i Q0) ∧ (∀ (v9 : Int) (m10 : Mem), tiP m6 Q0 v9 m10 → ((¬ v9 = 0 → (inR (a2 + 1)) ∧ (w_X8_tell_11 i Q0 P (a2 + 1) m10)) ∧ (v9 = 0 → (inR ((-10) - (m10 1 4))) ∧ (P ((-10) - (m10 1 4)) m10))))))) ∧ ((m4 1 5) = (-1) → P a2 m4)))))) : w_X8_tell_11 i Q0 P a2 mem := by
  unfold w_X8_tell_11
  refine q_iload_n dX8_tell_11 rfl ?_
  refine q_bipush dX8_tell_12 rfl (by decide) ?_
  refine q_icmp_gt (tgt := 57) dX8_tell_14 (by decide) (fun c14 => ?_) (fun c14 => ?_)
  · have H := H.1 c14
    refine q_bipush dX8_tell_57 rfl (by decide) ?_
    refine q_aload_n dX8_tell_59 rfl ?_
    refine q_geti dX8_tell_60 lf_RX8_48 s1 rfl ?_
    obtain ⟨h1, H⟩ := H
    refine q_isub dX8_tell_63 h1 ?_
    exact q_iret dX8_tell_64 rfl ⟨_, rfl, rfl, H⟩
  · have H := H.2 c14
    refine q_aload_n dX8_tell_17 rfl ?_
    obtain ⟨h2, H⟩ := H
    obtain ⟨h3, H⟩ := H
    refine q_cVn (as := []) dX8_tell_18 kmX8_step kvX8_step lm_RX8_34 ⟨by decide, by decide⟩ s1 ⟨by decide, rfl⟩ rfl rfl (Nat.le_of_ble_eq_true rfl) (c_X8_step h2 h3) (fun m1 hq => ?_)
    have H := H m1 hq
    refine q_aload_n dX8_tell_21 rfl ?_
    refine q_geti dX8_tell_22 lf_RX8_37 s1 rfl ?_
    refine q_iconst dX8_tell_25 (by decide) ?_
    refine q_icmp_ne (tgt := 31) dX8_tell_26 (by decide) (fun c26 => ?_) (fun c26 => ?_)
    · have H := H.1 c26
      refine q_aload_n dX8_tell_31 rfl ?_
      refine q_aload_n dX8_tell_32 rfl ?_
      refine q_iload_n dX8_tell_33 rfl ?_
      refine q_cVi (as := [vR _, vI _]) dX8_tell_34 kmX8_mayBegin kvX8_mayBegin lm_RX8_40 ⟨by decide, by decide⟩ s1 ⟨by decide, rfl⟩ rfl rfl (Nat.le_of_ble_eq_true rfl) (c_X8_mayBegin) (fun v m1 hq => ?_)
      have H := H v m1 hq
      refine q_if_eq (tgt := 57) dX8_tell_37 (by decide) (fun c37 => ?_) (fun c37 => ?_)
      · have H := H.1 c37
        refine q_bipush dX8_tell_57 rfl (by decide) ?_
        refine q_aload_n dX8_tell_59 rfl ?_
        refine q_geti dX8_tell_60 lf_RX8_48 s1 rfl ?_
        obtain ⟨h7, H⟩ := H
        refine q_isub dX8_tell_63 h7 ?_
        exact q_iret dX8_tell_64 rfl ⟨_, rfl, rfl, H⟩
      · have H := H.2 c37
        refine q_aload_n dX8_tell_40 rfl ?_
        refine q_aload_n dX8_tell_41 rfl ?_
        obtain ⟨h8, H⟩ := H
        refine q_cVi (as := [vR _]) dX8_tell_42 kmX8_tellItem kvX8_tellItem lm_RX8_44 ⟨by decide, by decide⟩ s1 ⟨by decide, rfl⟩ rfl rfl (Nat.le_of_ble_eq_true rfl) (c_X8_tellItem h8) (fun v m1 hq => ?_)
        have H := H v m1 hq
        refine q_if_ne (tgt := 51) dX8_tell_45 (by decide) (fun c45 => ?_) (fun c45 => ?_)
        · have H := H.1 c45
          obtain ⟨h11, H⟩ := H
          refine q_iinc dX8_tell_51 rfl h11 rfl ?_
          refine q_goto (tgt := 11) dX8_tell_54 (by decide) ?_
          exact H
        · have H := H.2 c45
          refine q_goto (tgt := 57) dX8_tell_48 (by decide) ?_
          refine q_bipush dX8_tell_57 rfl (by decide) ?_
          refine q_aload_n dX8_tell_59 rfl ?_
          refine q_geti dX8_tell_60 lf_RX8_48 s1 rfl ?_
          obtain ⟨h12, H⟩ := H
          refine q_isub dX8_tell_63 h12 ?_
          exact q_iret dX8_tell_64 rfl ⟨_, rfl, rfl, H⟩
    · have H := H.2 c26
      refine q_iload_n dX8_tell_29 rfl ?_
      exact q_iret dX8_tell_30 rfl ⟨_, rfl, rfl, H⟩
set_option maxRecDepth 20000 in
theorem v_X8_tell {i : Int} {Q0 : PS}  {P : Int → Mem → Prop} {mem : Mem}  (H : (mem 12 0 = 3 ∧ mem 14 0 = 4 ∧ mem 16 0 = 3) ∧ (∀ m2 : Mem, hbP mem m2 → (∀ m3 : Mem, m3 = (mset m2 1 3 0) → (w_X8_tell_11 i Q0 P 0 m3)))) : Tot mX8_tell 0 0 [vR 1, vR 11] SH mem (Pr SH P) := by
  refine Tot.of rfl (Nat.le_of_ble_eq_true rfl) (by simp [isJ]) (ls := [vR 1, vR 11, vJ 0]) rfl ?_
  refine q_aload_n dX8_tell_0 rfl ?_
  obtain ⟨h1, H⟩ := H
  refine q_cVn (as := []) dX8_tell_1 kmX3_begin kvX3_begin lm_RX8_26 ⟨by decide, by decide⟩ s11 ⟨by decide, rfl⟩ rfl rfl (Nat.le_of_ble_eq_true rfl) (c_hb11 h1) (fun m1 hq => ?_)
  have H := H m1 hq
  refine q_aload_n dX8_tell_4 rfl ?_
  refine q_iconst dX8_tell_5 (by decide) ?_
  refine q_puti dX8_tell_6 lf_RX8_31 s1 rfl (Or.inl rfl) fit_int ?_
  have H := H _ rfl
  refine q_iconst dX8_tell_9 (by decide) ?_
  refine q_istore_n dX8_tell_10 (by decide) rfl ?_
  exact H


def tlP (m0 : Mem) (v : Int) (m : Mem) : Prop := ∃ P' : PS, prP (m0 2) (m0 1 2) 13 0 0 begP v P' ∧ Fr [1, 3, 11, 12, 13, 14, 15, 16, 17] m0 m ∧ m 1 2 = m0 1 2 ∧ (m 12 0 = 3 ∧ m 14 0 = 4 ∧ m 16 0 = 3) ∧ (0 ≤ v → dfP m P' ∧ psOK v P')
theorem tl_loop {m0 : Mem} {i0 : Int} {R0 : PS} (ht : txOK m0) : ∀ (k : Nat) (a2 : Int) (Q : PS) (m : Mem), 0 ≤ a2 → (13 - a2).toNat ≤ k → psOK a2 Q → dfP m Q → Fr [1, 3, 11, 12, 13, 14, 15, 16, 17] m0 m → m 1 2 = m0 1 2 → (0 ≤ m 1 3 ∧ m 1 3 ≤ m0 1 2) → (∀ (ans : Int) (P' : PS), prP (m0 2) (m0 1 2) (13 - a2).toNat a2 (m 1 3) Q ans P' → prP (m0 2) (m0 1 2) 13 0 0 begP ans P') → w_X8_tell_11 i0 R0 (tlP m0) a2 m := by
  have h200 := ht.1
  intro k
  induction k with
  | zero =>
    intro a2 Q m h0 hk hok hd hF e2 hp hch
    obtain ⟨⟨-, -, -, b⟩, ⟨n1, n2, n3, n4, n5⟩, -⟩ := hok
    omega
  | succ k ih =>
    intro a2 Q m h0 hk hok hd hF e2 hp hch
    have h12 : a2 ≤ 12 := by
      obtain ⟨⟨-, -, -, b⟩, ⟨n1, n2, n3, n4, n5⟩, -⟩ := hok
      omega
    have htm : txOK m := by
      unfold txOK
      rw [e2, hF.at 2]
      exact ht
    refine v_X8_tell_11 (i := a2) (Q0 := Q) ⟨fun q => by omega, fun _ => ⟨htm, by rw [e2]; exact hp, fun m4 h4 => ?_⟩⟩
    obtain ⟨hF4, K, v, htk, henc⟩ := h4
    rw [hF.at 2, e2] at htk
    have hL : Fr [1, 3, 11, 12, 13, 14, 15, 16, 17] m0 m4 := hF.tr (hF4.1.mono (by decide))
    have e42 : m4 1 2 = m0 1 2 := by rw [hF4.2, e2]
    have hb := tok_b htk hp.2
    have hd4 : dfP m4 Q := dfP_fr hF4.1 hd
    have er : (13 - a2).toNat = (13 - (a2 + 1)).toNat + 1 := by omega
    rw [er] at hch
    refine ⟨fun z v5 m6 h6 => ?_, fun z => ?_⟩
    · obtain ⟨h6, e6⟩ := h6
      have e6 := e6.symm
      subst e6
      rw [mbQ_may hd4] at h6
      refine ⟨fun y => ⟨by unfold inR; omega, ?_⟩, fun y => ?_⟩
      · have hn : ¬ mayP (m4 1 5) a2 Q := by
          rcases h6 with ⟨-, r⟩ | ⟨r, -⟩
          · omega
          · exact r
        refine ⟨Q, hch _ _ ⟨K, v, m4 1 4, m4 1 3, htk, Or.inr (Or.inr ⟨⟨?_, fun r => hn ?_⟩, rfl⟩)⟩, hL, e42, hd4.1, fun r => by omega⟩
        · omega
        · rw [show m4 1 5 = v by omega]; exact r.2
      · have hm : mayP (m4 1 5) a2 Q := by
          rcases h6 with ⟨r, -⟩ | ⟨-, r⟩
          · exact r
          · exact absurd r y
        have hK : K = 1 ∧ m4 1 5 = v := by
          unfold mayP at hm
          omega
        have htx4 : txOK m4 := by
          unfold txOK
          rw [e42, hL.at 2]
          exact ht
        refine ⟨⟨hd4, hok, hm, htx4, by omega⟩, fun v9 m10 h10 => ?_⟩
        obtain ⟨ok, st, e, g, hfl, ev, es, hF10, e10, hyes, hno⟩ := h10
        have hb2 := flP_ok _ 0 _ _ _ _ _ _ (by omega) hfl
        rw [hL.at 2, e42, hK.2] at hfl
        have hL10 : Fr [1, 3, 11, 12, 13, 14, 15, 16, 17] m0 m10 := hL.tr hF10
        refine ⟨fun x => ⟨by unfold inR; omega, ?_⟩, fun x => ⟨by have := hb2.2.1; unfold inR; omega, ?_⟩⟩
        · have ok1 : ok = 1 := by omega
          have hy := hyes ok1
          have hg := (hb2.2.2 ok1)
          refine ih (a2 + 1) (ent (m4 1 5) g Q) m10 (by omega) (by omega) (psOK_ent hok hm (fun j hj => hg.2.2 j (by omega) (by omega))) hy.2 hL10 (by rw [e10, e42]) (by omega) (fun ans P' hpr => hch ans P' ⟨K, v, m4 1 4, m4 1 3, htk, Or.inr (Or.inl ⟨⟨hK.1, by rw [← hK.2]; exact hm⟩, m4 3, ok, st, e, g, hfl, Or.inl ⟨ok1, ?_⟩⟩)⟩)
          rw [← hK.2, ← hy.1]
          exact hpr
        · have ok0 : ok = 0 := by omega
          have hst := hb2.2.1
          refine ⟨Q, hch _ _ ⟨K, v, m4 1 4, m4 1 3, htk, Or.inr (Or.inl ⟨⟨hK.1, by rw [← hK.2]; exact hm⟩, m4 3, ok, st, e, g, hfl, Or.inr ⟨ok0, by omega⟩⟩)⟩, hL10, by rw [e10, e42], (dfP_fr (hno ok0) hd4).1, fun r => by omega⟩
    · have hK : K = 0 := by omega
      exact ⟨Q, hch _ _ ⟨K, v, m4 1 4, m4 1 3, htk, Or.inl ⟨hK, rfl, rfl⟩⟩, hL, e42, hd4.1, fun _ => ⟨hd4, hok⟩⟩
theorem c_X8_tell {m0 : Mem} (ht : txOK m0) (hc : m0 12 0 = 3 ∧ m0 14 0 = 4 ∧ m0 16 0 = 3) : Tot mX8_tell 0 0 [vR 1, vR 11] SH m0 (Pr SH (tlP m0)) := by
  have h200 := ht.1
  refine v_X8_tell (i := 0) (Q0 := begP) ⟨hc, fun m2 h2 m3 h3 => ?_⟩
  have hF3 : Fr [1] m2 m3 := by rw [h3]; exact Fr.rf.set (by decide)
  have e3 : m3 1 3 = 0 := by rw [h3, mset_eq]
  have e2 : m3 1 2 = m0 1 2 := by rw [h3, mset_at, if_neg (by omega), h2.1.at 1]
  refine tl_loop ht 13 0 begP m3 (by omega) (by omega) beg_ok (dfP_fr hF3 h2.2) ((h2.1.mono (by decide)).tr (hF3.mono (by decide))) e2 (by omega) (fun ans P' h => ?_)
  rw [e3] at h
  exact h
