/-! THE CLASS: rows are copied, houses -/
theorem app_fr {m : Mem} {h nb : Nat} {a b c d : Int} : Fr [h, nb] m (appF m h nb a b c d) := by
  unfold appF
  split
  · exact Fr.rf
  · exact ((((Fr.rf.set (by simp)).set (by simp)).set (by simp)).set (by simp)).set (by simp)
theorem app_ok {m : Mem} {h nb : Nat} {a b c d : Int} (hne : h ≠ nb) (h0 : 0 ≤ m h 2) (h1 : m h 2 < m h 0) : appF m h nb a b c d h 0 = m h 0 ∧ appF m h nb a b c d h 2 = m h 2 + 1 ∧ ∀ e : Int, 0 ≤ e → appF m h nb a b c d nb e.toNat = if e = 4 * m h 2 then a else if e = 4 * m h 2 + 1 then b else if e = 4 * m h 2 + 2 then c else if e = 4 * m h 2 + 3 then d else m nb e.toNat := by
  unfold appF
  rw [if_neg (by omega)]
  generalize m h 2 = z at *
  refine ⟨?_, ?_, fun e e0 => ?_⟩
  · rw [mset_at, if_neg (by omega), mset_ne h hne, mset_ne h hne, mset_ne h hne, mset_ne h hne]
  · rw [mset_eq]
  · rw [mset_ne nb (Ne.symm hne), mset_at, mset_at, mset_at, mset_at]
    by_cases q3 : e = 4 * z + 3
    · rw [if_pos ⟨rfl, by omega⟩, if_neg (by omega), if_neg (by omega), if_neg (by omega), if_pos q3]
    · rw [if_neg (by omega), if_neg q3]
      by_cases q2 : e = 4 * z + 2
      · rw [if_pos ⟨rfl, by omega⟩, if_neg (by omega), if_neg (by omega), if_pos q2]
      · rw [if_neg (by omega), if_neg q2]
        by_cases q1 : e = 4 * z + 1
        · rw [if_pos ⟨rfl, by omega⟩, if_neg (by omega), if_pos q1]
        · rw [if_neg (by omega), if_neg q1]
          by_cases q0 : e = 4 * z
          · rw [if_pos ⟨rfl, by omega⟩, if_pos q0]
          · rw [if_neg (by omega), if_neg q0]
def cpyP (h nb o ob : Nat) (m0 m : Mem) : Prop := Fr [h, nb] m0 m ∧ m h 0 = m0 h 0 ∧ m h 2 = m0 o 2 ∧ ∀ e : Int, 0 ≤ e → e < 4 * m0 o 2 → m nb e.toNat = m0 ob e.toNat
theorem c_app_5 {mem : Mem} {a b c d : Int} (h0 : 0 ≤ mem 5 2) (h1 : mem 5 0 * 4 ≤ 12) : Tot mX6_append 0 0 [vR 5, vI a, vI b, vI c, vI d] SH mem (Pn SH (fun m => m = appF mem 5 6 a b c d)) := c_X6_append s5 s6 h0 h1 (by decide) (by decide)
theorem c_app_7 {mem : Mem} {a b c d : Int} (h0 : 0 ≤ mem 7 2) (h1 : mem 7 0 * 4 ≤ 16) : Tot mX6_append 0 0 [vR 7, vI a, vI b, vI c, vI d] SH mem (Pn SH (fun m => m = appF mem 7 8 a b c d)) := c_X6_append s7 s8 h0 h1 (by decide) (by decide)
theorem c_app_9 {mem : Mem} {a b c d : Int} (h0 : 0 ≤ mem 9 2) (h1 : mem 9 0 * 4 ≤ 12) : Tot mX6_append 0 0 [vR 9, vI a, vI b, vI c, vI d] SH mem (Pn SH (fun m => m = appF mem 9 10 a b c d)) := c_X6_append s9 s10 h0 h1 (by decide) (by decide)
theorem c_app_12 {mem : Mem} {a b c d : Int} (h0 : 0 ≤ mem 12 2) (h1 : mem 12 0 * 4 ≤ 12) : Tot mX6_append 0 0 [vR 12, vI a, vI b, vI c, vI d] SH mem (Pn SH (fun m => m = appF mem 12 13 a b c d)) := c_X6_append s12 s13 h0 h1 (by decide) (by decide)
theorem c_app_14 {mem : Mem} {a b c d : Int} (h0 : 0 ≤ mem 14 2) (h1 : mem 14 0 * 4 ≤ 16) : Tot mX6_append 0 0 [vR 14, vI a, vI b, vI c, vI d] SH mem (Pn SH (fun m => m = appF mem 14 15 a b c d)) := c_X6_append s14 s15 h0 h1 (by decide) (by decide)
theorem c_app_16 {mem : Mem} {a b c d : Int} (h0 : 0 ≤ mem 16 2) (h1 : mem 16 0 * 4 ≤ 12) : Tot mX6_append 0 0 [vR 16, vI a, vI b, vI c, vI d] SH mem (Pn SH (fun m => m = appF mem 16 17 a b c d)) := c_X6_append s16 s17 h0 h1 (by decide) (by decide)
def w_X6_copyFrom_5_6 (P : Mem → Prop) (a2 : Int) (mem : Mem) : Prop := WP mX6_copyFrom none 0 0 (Pn SH P) 6 [vR 5, vR 12, vI a2] [] SH mem
set_option maxRecDepth 20000 in
theorem v_X6_copyFrom_5_6 {P : Mem → Prop} {a2 : Int} {mem : Mem}  (H : ((mem 12 2) ≤ a2 → P mem) ∧ (a2 < (mem 12 2) → (mem 12 2 * 4 ≤ 12) ∧ ((0 ≤ mem 5 2) ∧ ((mem 5 0 * 4 ≤ 12) ∧ (∀ m4 : Mem, m4 = appF mem 5 6 (getF (mem 13) (mem 12 2) a2 0) (getF (mem 13) (mem 12 2) a2 1) (getF (mem 13) (mem 12 2) a2 2) (getF (mem 13) (mem 12 2) a2 3) → ((inR (a2 + 1)) ∧ (w_X6_copyFrom_5_6 P (a2 + 1) m4))))))) : w_X6_copyFrom_5_6 P a2 mem := by
  unfold w_X6_copyFrom_5_6
  refine q_iload_n dX6_copyFrom_6 rfl ?_
  refine q_aload_n dX6_copyFrom_7 rfl ?_
  refine q_cVi (as := []) dX6_copyFrom_8 kmX6_size kvX6_size lm_RX6_37 ⟨by decide, by decide⟩ s12 ⟨by decide, rfl⟩ rfl rfl (Nat.le_of_ble_eq_true rfl) (c_X6_size s12) (fun v m1 hq => ?_)
  obtain ⟨rfl, rfl⟩ := hq
  refine q_icmp_ge (tgt := 48) dX6_copyFrom_11 (by decide) (fun c11 => ?_) (fun c11 => ?_)
  · have H := H.1 c11
    exact q_vret dX6_copyFrom_48 rfl ⟨rfl, rfl, H⟩
  · have H := H.2 c11
    refine q_aload_n dX6_copyFrom_14 rfl ?_
    refine q_aload_n dX6_copyFrom_15 rfl ?_
    refine q_iload_n dX6_copyFrom_16 rfl ?_
    refine q_iconst dX6_copyFrom_17 (by decide) ?_
    obtain ⟨h1, H⟩ := H
    refine q_cVi (as := [vI _, vI _]) dX6_copyFrom_18 kmX6_get kvX6_get lm_RX6_41 ⟨by decide, by decide⟩ s12 ⟨by decide, rfl⟩ rfl rfl (Nat.le_of_ble_eq_true rfl) (c_X6_get s12 s13 h1) (fun v m1 hq => ?_)
    obtain ⟨rfl, rfl⟩ := hq
    refine q_aload_n dX6_copyFrom_21 rfl ?_
    refine q_iload_n dX6_copyFrom_22 rfl ?_
    refine q_iconst dX6_copyFrom_23 (by decide) ?_
    refine q_cVi (as := [vI _, vI _]) dX6_copyFrom_24 kmX6_get kvX6_get lm_RX6_41 ⟨by decide, by decide⟩ s12 ⟨by decide, rfl⟩ rfl rfl (Nat.le_of_ble_eq_true rfl) (c_X6_get s12 s13 h1) (fun v m1 hq => ?_)
    obtain ⟨rfl, rfl⟩ := hq
    refine q_aload_n dX6_copyFrom_27 rfl ?_
    refine q_iload_n dX6_copyFrom_28 rfl ?_
    refine q_iconst dX6_copyFrom_29 (by decide) ?_
    refine q_cVi (as := [vI _, vI _]) dX6_copyFrom_30 kmX6_get kvX6_get lm_RX6_41 ⟨by decide, by decide⟩ s12 ⟨by decide, rfl⟩ rfl rfl (Nat.le_of_ble_eq_true rfl) (c_X6_get s12 s13 h1) (fun v m1 hq => ?_)
    obtain ⟨rfl, rfl⟩ := hq
    refine q_aload_n dX6_copyFrom_33 rfl ?_
    refine q_iload_n dX6_copyFrom_34 rfl ?_
    refine q_iconst dX6_copyFrom_35 (by decide) ?_
    refine q_cVi (as := [vI _, vI _]) dX6_copyFrom_36 kmX6_get kvX6_get lm_RX6_41 ⟨by decide, by decide⟩ s12 ⟨by decide, rfl⟩ rfl rfl (Nat.le_of_ble_eq_true rfl) (c_X6_get s12 s13 h1) (fun v m1 hq => ?_)
    obtain ⟨rfl, rfl⟩ := hq
    obtain ⟨h2, H⟩ := H
    obtain ⟨h3, H⟩ := H
    refine q_cVn (as := [vI _, vI _, vI _, vI _]) dX6_copyFrom_39 kmX6_append kvX6_append lm_RX6_44 ⟨by decide, by decide⟩ s5 ⟨by decide, rfl⟩ rfl rfl (Nat.le_of_ble_eq_true rfl) (c_app_5 h2 h3) (fun m1 hq => ?_)
    have H := H m1 hq
    obtain ⟨h5, H⟩ := H
    refine q_iinc dX6_copyFrom_42 rfl h5 rfl ?_
    refine q_goto (tgt := 6) dX6_copyFrom_45 (by decide) ?_
    exact H
set_option maxRecDepth 20000 in
theorem v_X6_copyFrom_5 {P : Mem → Prop} {mem : Mem}  (H : ∀ m1 : Mem, m1 = mset mem 5 2 0 → (w_X6_copyFrom_5_6 P 0 m1)) : Tot mX6_copyFrom 0 0 [vR 5, vR 12] SH mem (Pn SH P) := by
  refine Tot.of rfl (Nat.le_of_ble_eq_true rfl) (by simp [isJ]) (ls := [vR 5, vR 12, vJ 0]) rfl ?_
  refine q_aload_n dX6_copyFrom_0 rfl ?_
  refine q_cVn (as := []) dX6_copyFrom_1 kmX6_drop kvX6_drop lm_RX6_34 ⟨by decide, by decide⟩ s5 ⟨by decide, rfl⟩ rfl rfl (Nat.le_of_ble_eq_true rfl) (c_X6_drop s5) (fun m1 hq => ?_)
  have H := H m1 hq
  refine q_iconst dX6_copyFrom_4 (by decide) ?_
  refine q_istore_n dX6_copyFrom_5 (by decide) rfl ?_
  exact H

theorem cpy_loop_5 {m0 : Mem} (hc : m0 5 0 = 3) (ho : 0 ≤ m0 12 2 ∧ m0 12 2 ≤ 3) : ∀ (k : Nat) (a2 : Int) (m : Mem), 0 ≤ a2 → a2 ≤ m0 12 2 → (m0 12 2 - a2).toNat ≤ k → Fr [5, 6] m0 m → m 5 0 = m0 5 0 → m 5 2 = a2 → (∀ e : Int, 0 ≤ e → e < 4 * a2 → m 6 e.toNat = m0 13 e.toNat) → w_X6_copyFrom_5_6 (cpyP 5 6 12 13 m0) a2 m := by
  intro k
  induction k with
  | zero =>
    intro a2 m h0 h1 hk hF e0 e2 hx
    refine v_X6_copyFrom_5_6 ⟨fun _ => ⟨hF, e0, by omega, fun e q0 q1 => hx e q0 (by omega)⟩, fun q => ?_⟩
    rw [hF.at 12] at q
    omega
  | succ k ih =>
    intro a2 m h0 h1 hk hF e0 e2 hx
    refine v_X6_copyFrom_5_6 ⟨fun q => ?_, fun q => ?_⟩
    · rw [hF.at 12] at q
      exact ⟨hF, e0, by omega, fun e q0 q1 => hx e q0 (by omega)⟩
    rw [hF.at 12] at q
    have hg : ∀ j : Int, 0 ≤ j → j < 4 → getF (m 13) (m 12 2) a2 j = m0 13 (4 * a2 + j).toNat := by
      intro j j0 j1
      unfold getF
      rw [hF.at 12, hF.at 13, if_pos ⟨h0, q, j0, j1⟩]
    rw [hg 0 (by decide) (by decide), hg 1 (by decide) (by decide), hg 2 (by decide) (by decide), hg 3 (by decide) (by decide), hF.at 12]
    refine ⟨by omega, by omega, by omega, fun m10 e10 => ⟨by unfold inR; omega, ?_⟩⟩
    have ha := app_ok (m := m) (h := 5) (nb := 6) (a := m0 13 (4 * a2 + 0).toNat) (b := m0 13 (4 * a2 + 1).toNat) (c := m0 13 (4 * a2 + 2).toNat) (d := m0 13 (4 * a2 + 3).toNat) (by decide) (by omega) (by omega)
    rw [← e10] at ha
    refine ih _ _ (by omega) (by omega) (by omega) (by rw [e10]; exact hF.tr (app_fr.mono (by decide))) (by rw [ha.1, e0]) (by rw [ha.2.1, e2]) (fun e q0 q1 => ?_)
    rw [ha.2.2 e q0, e2]
    by_cases c0 : e = 4 * a2
    · rw [if_pos c0, c0, Int.add_zero]
    · rw [if_neg c0]
      by_cases c1 : e = 4 * a2 + 1
      · rw [if_pos c1, c1]
      · rw [if_neg c1]
        by_cases c2 : e = 4 * a2 + 2
        · rw [if_pos c2, c2]
        · rw [if_neg c2]
          by_cases c3 : e = 4 * a2 + 3
          · rw [if_pos c3, c3]
          · rw [if_neg c3]
            exact hx e q0 (by omega)
theorem c_cpy_5 {m0 : Mem} (hc : m0 5 0 = 3) (ho : 0 ≤ m0 12 2 ∧ m0 12 2 ≤ 3) : Tot mX6_copyFrom 0 0 [vR 5, vR 12] SH m0 (Pn SH (cpyP 5 6 12 13 m0)) := by
  refine v_X6_copyFrom_5 (fun m1 e1 => ?_)
  have hF : Fr [5, 6] m0 m1 := by rw [e1]; exact Fr.rf.set (by decide)
  refine cpy_loop_5 hc ho _ 0 m1 (by omega) (by omega) (Nat.le_refl _) hF (by rw [e1]; rfl) (by rw [e1, mset_eq]) (fun e q0 q1 => by omega)

def w_X6_copyFrom_7_6 (P : Mem → Prop) (a2 : Int) (mem : Mem) : Prop := WP mX6_copyFrom none 0 0 (Pn SH P) 6 [vR 7, vR 14, vI a2] [] SH mem
set_option maxRecDepth 20000 in
theorem v_X6_copyFrom_7_6 {P : Mem → Prop} {a2 : Int} {mem : Mem}  (H : ((mem 14 2) ≤ a2 → P mem) ∧ (a2 < (mem 14 2) → (mem 14 2 * 4 ≤ 16) ∧ ((0 ≤ mem 7 2) ∧ ((mem 7 0 * 4 ≤ 16) ∧ (∀ m4 : Mem, m4 = appF mem 7 8 (getF (mem 15) (mem 14 2) a2 0) (getF (mem 15) (mem 14 2) a2 1) (getF (mem 15) (mem 14 2) a2 2) (getF (mem 15) (mem 14 2) a2 3) → ((inR (a2 + 1)) ∧ (w_X6_copyFrom_7_6 P (a2 + 1) m4))))))) : w_X6_copyFrom_7_6 P a2 mem := by
  unfold w_X6_copyFrom_7_6
  refine q_iload_n dX6_copyFrom_6 rfl ?_
  refine q_aload_n dX6_copyFrom_7 rfl ?_
  refine q_cVi (as := []) dX6_copyFrom_8 kmX6_size kvX6_size lm_RX6_37 ⟨by decide, by decide⟩ s14 ⟨by decide, rfl⟩ rfl rfl (Nat.le_of_ble_eq_true rfl) (c_X6_size s14) (fun v m1 hq => ?_)
  obtain ⟨rfl, rfl⟩ := hq
  refine q_icmp_ge (tgt := 48) dX6_copyFrom_11 (by decide) (fun c11 => ?_) (fun c11 => ?_)
  · have H := H.1 c11
    exact q_vret dX6_copyFrom_48 rfl ⟨rfl, rfl, H⟩
  · have H := H.2 c11
    refine q_aload_n dX6_copyFrom_14 rfl ?_
    refine q_aload_n dX6_copyFrom_15 rfl ?_
    refine q_iload_n dX6_copyFrom_16 rfl ?_
    refine q_iconst dX6_copyFrom_17 (by decide) ?_
    obtain ⟨h1, H⟩ := H
    refine q_cVi (as := [vI _, vI _]) dX6_copyFrom_18 kmX6_get kvX6_get lm_RX6_41 ⟨by decide, by decide⟩ s14 ⟨by decide, rfl⟩ rfl rfl (Nat.le_of_ble_eq_true rfl) (c_X6_get s14 s15 h1) (fun v m1 hq => ?_)
    obtain ⟨rfl, rfl⟩ := hq
    refine q_aload_n dX6_copyFrom_21 rfl ?_
    refine q_iload_n dX6_copyFrom_22 rfl ?_
    refine q_iconst dX6_copyFrom_23 (by decide) ?_
    refine q_cVi (as := [vI _, vI _]) dX6_copyFrom_24 kmX6_get kvX6_get lm_RX6_41 ⟨by decide, by decide⟩ s14 ⟨by decide, rfl⟩ rfl rfl (Nat.le_of_ble_eq_true rfl) (c_X6_get s14 s15 h1) (fun v m1 hq => ?_)
    obtain ⟨rfl, rfl⟩ := hq
    refine q_aload_n dX6_copyFrom_27 rfl ?_
    refine q_iload_n dX6_copyFrom_28 rfl ?_
    refine q_iconst dX6_copyFrom_29 (by decide) ?_
    refine q_cVi (as := [vI _, vI _]) dX6_copyFrom_30 kmX6_get kvX6_get lm_RX6_41 ⟨by decide, by decide⟩ s14 ⟨by decide, rfl⟩ rfl rfl (Nat.le_of_ble_eq_true rfl) (c_X6_get s14 s15 h1) (fun v m1 hq => ?_)
    obtain ⟨rfl, rfl⟩ := hq
    refine q_aload_n dX6_copyFrom_33 rfl ?_
    refine q_iload_n dX6_copyFrom_34 rfl ?_
    refine q_iconst dX6_copyFrom_35 (by decide) ?_
    refine q_cVi (as := [vI _, vI _]) dX6_copyFrom_36 kmX6_get kvX6_get lm_RX6_41 ⟨by decide, by decide⟩ s14 ⟨by decide, rfl⟩ rfl rfl (Nat.le_of_ble_eq_true rfl) (c_X6_get s14 s15 h1) (fun v m1 hq => ?_)
    obtain ⟨rfl, rfl⟩ := hq
    obtain ⟨h2, H⟩ := H
    obtain ⟨h3, H⟩ := H
    refine q_cVn (as := [vI _, vI _, vI _, vI _]) dX6_copyFrom_39 kmX6_append kvX6_append lm_RX6_44 ⟨by decide, by decide⟩ s7 ⟨by decide, rfl⟩ rfl rfl (Nat.le_of_ble_eq_true rfl) (c_app_7 h2 h3) (fun m1 hq => ?_)
    have H := H m1 hq
    obtain ⟨h5, H⟩ := H
    refine q_iinc dX6_copyFrom_42 rfl h5 rfl ?_
    refine q_goto (tgt := 6) dX6_copyFrom_45 (by decide) ?_
    exact H
set_option maxRecDepth 20000 in
theorem v_X6_copyFrom_7 {P : Mem → Prop} {mem : Mem}  (H : ∀ m1 : Mem, m1 = mset mem 7 2 0 → (w_X6_copyFrom_7_6 P 0 m1)) : Tot mX6_copyFrom 0 0 [vR 7, vR 14] SH mem (Pn SH P) := by
  refine Tot.of rfl (Nat.le_of_ble_eq_true rfl) (by simp [isJ]) (ls := [vR 7, vR 14, vJ 0]) rfl ?_
  refine q_aload_n dX6_copyFrom_0 rfl ?_
  refine q_cVn (as := []) dX6_copyFrom_1 kmX6_drop kvX6_drop lm_RX6_34 ⟨by decide, by decide⟩ s7 ⟨by decide, rfl⟩ rfl rfl (Nat.le_of_ble_eq_true rfl) (c_X6_drop s7) (fun m1 hq => ?_)
  have H := H m1 hq
  refine q_iconst dX6_copyFrom_4 (by decide) ?_
  refine q_istore_n dX6_copyFrom_5 (by decide) rfl ?_
  exact H

theorem cpy_loop_7 {m0 : Mem} (hc : m0 7 0 = 4) (ho : 0 ≤ m0 14 2 ∧ m0 14 2 ≤ 4) : ∀ (k : Nat) (a2 : Int) (m : Mem), 0 ≤ a2 → a2 ≤ m0 14 2 → (m0 14 2 - a2).toNat ≤ k → Fr [7, 8] m0 m → m 7 0 = m0 7 0 → m 7 2 = a2 → (∀ e : Int, 0 ≤ e → e < 4 * a2 → m 8 e.toNat = m0 15 e.toNat) → w_X6_copyFrom_7_6 (cpyP 7 8 14 15 m0) a2 m := by
  intro k
  induction k with
  | zero =>
    intro a2 m h0 h1 hk hF e0 e2 hx
    refine v_X6_copyFrom_7_6 ⟨fun _ => ⟨hF, e0, by omega, fun e q0 q1 => hx e q0 (by omega)⟩, fun q => ?_⟩
    rw [hF.at 14] at q
    omega
  | succ k ih =>
    intro a2 m h0 h1 hk hF e0 e2 hx
    refine v_X6_copyFrom_7_6 ⟨fun q => ?_, fun q => ?_⟩
    · rw [hF.at 14] at q
      exact ⟨hF, e0, by omega, fun e q0 q1 => hx e q0 (by omega)⟩
    rw [hF.at 14] at q
    have hg : ∀ j : Int, 0 ≤ j → j < 4 → getF (m 15) (m 14 2) a2 j = m0 15 (4 * a2 + j).toNat := by
      intro j j0 j1
      unfold getF
      rw [hF.at 14, hF.at 15, if_pos ⟨h0, q, j0, j1⟩]
    rw [hg 0 (by decide) (by decide), hg 1 (by decide) (by decide), hg 2 (by decide) (by decide), hg 3 (by decide) (by decide), hF.at 14]
    refine ⟨by omega, by omega, by omega, fun m10 e10 => ⟨by unfold inR; omega, ?_⟩⟩
    have ha := app_ok (m := m) (h := 7) (nb := 8) (a := m0 15 (4 * a2 + 0).toNat) (b := m0 15 (4 * a2 + 1).toNat) (c := m0 15 (4 * a2 + 2).toNat) (d := m0 15 (4 * a2 + 3).toNat) (by decide) (by omega) (by omega)
    rw [← e10] at ha
    refine ih _ _ (by omega) (by omega) (by omega) (by rw [e10]; exact hF.tr (app_fr.mono (by decide))) (by rw [ha.1, e0]) (by rw [ha.2.1, e2]) (fun e q0 q1 => ?_)
    rw [ha.2.2 e q0, e2]
    by_cases c0 : e = 4 * a2
    · rw [if_pos c0, c0, Int.add_zero]
    · rw [if_neg c0]
      by_cases c1 : e = 4 * a2 + 1
      · rw [if_pos c1, c1]
      · rw [if_neg c1]
        by_cases c2 : e = 4 * a2 + 2
        · rw [if_pos c2, c2]
        · rw [if_neg c2]
          by_cases c3 : e = 4 * a2 + 3
          · rw [if_pos c3, c3]
          · rw [if_neg c3]
            exact hx e q0 (by omega)
theorem c_cpy_7 {m0 : Mem} (hc : m0 7 0 = 4) (ho : 0 ≤ m0 14 2 ∧ m0 14 2 ≤ 4) : Tot mX6_copyFrom 0 0 [vR 7, vR 14] SH m0 (Pn SH (cpyP 7 8 14 15 m0)) := by
  refine v_X6_copyFrom_7 (fun m1 e1 => ?_)
  have hF : Fr [7, 8] m0 m1 := by rw [e1]; exact Fr.rf.set (by decide)
  refine cpy_loop_7 hc ho _ 0 m1 (by omega) (by omega) (Nat.le_refl _) hF (by rw [e1]; rfl) (by rw [e1, mset_eq]) (fun e q0 q1 => by omega)

def w_X6_copyFrom_9_6 (P : Mem → Prop) (a2 : Int) (mem : Mem) : Prop := WP mX6_copyFrom none 0 0 (Pn SH P) 6 [vR 9, vR 16, vI a2] [] SH mem
set_option maxRecDepth 20000 in
theorem v_X6_copyFrom_9_6 {P : Mem → Prop} {a2 : Int} {mem : Mem}  (H : ((mem 16 2) ≤ a2 → P mem) ∧ (a2 < (mem 16 2) → (mem 16 2 * 4 ≤ 12) ∧ ((0 ≤ mem 9 2) ∧ ((mem 9 0 * 4 ≤ 12) ∧ (∀ m4 : Mem, m4 = appF mem 9 10 (getF (mem 17) (mem 16 2) a2 0) (getF (mem 17) (mem 16 2) a2 1) (getF (mem 17) (mem 16 2) a2 2) (getF (mem 17) (mem 16 2) a2 3) → ((inR (a2 + 1)) ∧ (w_X6_copyFrom_9_6 P (a2 + 1) m4))))))) : w_X6_copyFrom_9_6 P a2 mem := by
  unfold w_X6_copyFrom_9_6
  refine q_iload_n dX6_copyFrom_6 rfl ?_
  refine q_aload_n dX6_copyFrom_7 rfl ?_
  refine q_cVi (as := []) dX6_copyFrom_8 kmX6_size kvX6_size lm_RX6_37 ⟨by decide, by decide⟩ s16 ⟨by decide, rfl⟩ rfl rfl (Nat.le_of_ble_eq_true rfl) (c_X6_size s16) (fun v m1 hq => ?_)
  obtain ⟨rfl, rfl⟩ := hq
  refine q_icmp_ge (tgt := 48) dX6_copyFrom_11 (by decide) (fun c11 => ?_) (fun c11 => ?_)
  · have H := H.1 c11
    exact q_vret dX6_copyFrom_48 rfl ⟨rfl, rfl, H⟩
  · have H := H.2 c11
    refine q_aload_n dX6_copyFrom_14 rfl ?_
    refine q_aload_n dX6_copyFrom_15 rfl ?_
    refine q_iload_n dX6_copyFrom_16 rfl ?_
    refine q_iconst dX6_copyFrom_17 (by decide) ?_
    obtain ⟨h1, H⟩ := H
    refine q_cVi (as := [vI _, vI _]) dX6_copyFrom_18 kmX6_get kvX6_get lm_RX6_41 ⟨by decide, by decide⟩ s16 ⟨by decide, rfl⟩ rfl rfl (Nat.le_of_ble_eq_true rfl) (c_X6_get s16 s17 h1) (fun v m1 hq => ?_)
    obtain ⟨rfl, rfl⟩ := hq
    refine q_aload_n dX6_copyFrom_21 rfl ?_
    refine q_iload_n dX6_copyFrom_22 rfl ?_
    refine q_iconst dX6_copyFrom_23 (by decide) ?_
    refine q_cVi (as := [vI _, vI _]) dX6_copyFrom_24 kmX6_get kvX6_get lm_RX6_41 ⟨by decide, by decide⟩ s16 ⟨by decide, rfl⟩ rfl rfl (Nat.le_of_ble_eq_true rfl) (c_X6_get s16 s17 h1) (fun v m1 hq => ?_)
    obtain ⟨rfl, rfl⟩ := hq
    refine q_aload_n dX6_copyFrom_27 rfl ?_
    refine q_iload_n dX6_copyFrom_28 rfl ?_
    refine q_iconst dX6_copyFrom_29 (by decide) ?_
    refine q_cVi (as := [vI _, vI _]) dX6_copyFrom_30 kmX6_get kvX6_get lm_RX6_41 ⟨by decide, by decide⟩ s16 ⟨by decide, rfl⟩ rfl rfl (Nat.le_of_ble_eq_true rfl) (c_X6_get s16 s17 h1) (fun v m1 hq => ?_)
    obtain ⟨rfl, rfl⟩ := hq
    refine q_aload_n dX6_copyFrom_33 rfl ?_
    refine q_iload_n dX6_copyFrom_34 rfl ?_
    refine q_iconst dX6_copyFrom_35 (by decide) ?_
    refine q_cVi (as := [vI _, vI _]) dX6_copyFrom_36 kmX6_get kvX6_get lm_RX6_41 ⟨by decide, by decide⟩ s16 ⟨by decide, rfl⟩ rfl rfl (Nat.le_of_ble_eq_true rfl) (c_X6_get s16 s17 h1) (fun v m1 hq => ?_)
    obtain ⟨rfl, rfl⟩ := hq
    obtain ⟨h2, H⟩ := H
    obtain ⟨h3, H⟩ := H
    refine q_cVn (as := [vI _, vI _, vI _, vI _]) dX6_copyFrom_39 kmX6_append kvX6_append lm_RX6_44 ⟨by decide, by decide⟩ s9 ⟨by decide, rfl⟩ rfl rfl (Nat.le_of_ble_eq_true rfl) (c_app_9 h2 h3) (fun m1 hq => ?_)
    have H := H m1 hq
    obtain ⟨h5, H⟩ := H
    refine q_iinc dX6_copyFrom_42 rfl h5 rfl ?_
    refine q_goto (tgt := 6) dX6_copyFrom_45 (by decide) ?_
    exact H
set_option maxRecDepth 20000 in
theorem v_X6_copyFrom_9 {P : Mem → Prop} {mem : Mem}  (H : ∀ m1 : Mem, m1 = mset mem 9 2 0 → (w_X6_copyFrom_9_6 P 0 m1)) : Tot mX6_copyFrom 0 0 [vR 9, vR 16] SH mem (Pn SH P) := by
  refine Tot.of rfl (Nat.le_of_ble_eq_true rfl) (by simp [isJ]) (ls := [vR 9, vR 16, vJ 0]) rfl ?_
  refine q_aload_n dX6_copyFrom_0 rfl ?_
  refine q_cVn (as := []) dX6_copyFrom_1 kmX6_drop kvX6_drop lm_RX6_34 ⟨by decide, by decide⟩ s9 ⟨by decide, rfl⟩ rfl rfl (Nat.le_of_ble_eq_true rfl) (c_X6_drop s9) (fun m1 hq => ?_)
  have H := H m1 hq
  refine q_iconst dX6_copyFrom_4 (by decide) ?_
  refine q_istore_n dX6_copyFrom_5 (by decide) rfl ?_
  exact H

theorem cpy_loop_9 {m0 : Mem} (hc : m0 9 0 = 3) (ho : 0 ≤ m0 16 2 ∧ m0 16 2 ≤ 3) : ∀ (k : Nat) (a2 : Int) (m : Mem), 0 ≤ a2 → a2 ≤ m0 16 2 → (m0 16 2 - a2).toNat ≤ k → Fr [9, 10] m0 m → m 9 0 = m0 9 0 → m 9 2 = a2 → (∀ e : Int, 0 ≤ e → e < 4 * a2 → m 10 e.toNat = m0 17 e.toNat) → w_X6_copyFrom_9_6 (cpyP 9 10 16 17 m0) a2 m := by
  intro k
  induction k with
  | zero =>
    intro a2 m h0 h1 hk hF e0 e2 hx
    refine v_X6_copyFrom_9_6 ⟨fun _ => ⟨hF, e0, by omega, fun e q0 q1 => hx e q0 (by omega)⟩, fun q => ?_⟩
    rw [hF.at 16] at q
    omega
  | succ k ih =>
    intro a2 m h0 h1 hk hF e0 e2 hx
    refine v_X6_copyFrom_9_6 ⟨fun q => ?_, fun q => ?_⟩
    · rw [hF.at 16] at q
      exact ⟨hF, e0, by omega, fun e q0 q1 => hx e q0 (by omega)⟩
    rw [hF.at 16] at q
    have hg : ∀ j : Int, 0 ≤ j → j < 4 → getF (m 17) (m 16 2) a2 j = m0 17 (4 * a2 + j).toNat := by
      intro j j0 j1
      unfold getF
      rw [hF.at 16, hF.at 17, if_pos ⟨h0, q, j0, j1⟩]
    rw [hg 0 (by decide) (by decide), hg 1 (by decide) (by decide), hg 2 (by decide) (by decide), hg 3 (by decide) (by decide), hF.at 16]
    refine ⟨by omega, by omega, by omega, fun m10 e10 => ⟨by unfold inR; omega, ?_⟩⟩
    have ha := app_ok (m := m) (h := 9) (nb := 10) (a := m0 17 (4 * a2 + 0).toNat) (b := m0 17 (4 * a2 + 1).toNat) (c := m0 17 (4 * a2 + 2).toNat) (d := m0 17 (4 * a2 + 3).toNat) (by decide) (by omega) (by omega)
    rw [← e10] at ha
    refine ih _ _ (by omega) (by omega) (by omega) (by rw [e10]; exact hF.tr (app_fr.mono (by decide))) (by rw [ha.1, e0]) (by rw [ha.2.1, e2]) (fun e q0 q1 => ?_)
    rw [ha.2.2 e q0, e2]
    by_cases c0 : e = 4 * a2
    · rw [if_pos c0, c0, Int.add_zero]
    · rw [if_neg c0]
      by_cases c1 : e = 4 * a2 + 1
      · rw [if_pos c1, c1]
      · rw [if_neg c1]
        by_cases c2 : e = 4 * a2 + 2
        · rw [if_pos c2, c2]
        · rw [if_neg c2]
          by_cases c3 : e = 4 * a2 + 3
          · rw [if_pos c3, c3]
          · rw [if_neg c3]
            exact hx e q0 (by omega)
theorem c_cpy_9 {m0 : Mem} (hc : m0 9 0 = 3) (ho : 0 ≤ m0 16 2 ∧ m0 16 2 ≤ 3) : Tot mX6_copyFrom 0 0 [vR 9, vR 16] SH m0 (Pn SH (cpyP 9 10 16 17 m0)) := by
  refine v_X6_copyFrom_9 (fun m1 e1 => ?_)
  have hF : Fr [9, 10] m0 m1 := by rw [e1]; exact Fr.rf.set (by decide)
  refine cpy_loop_9 hc ho _ 0 m1 (by omega) (by omega) (Nat.le_refl _) hF (by rw [e1]; rfl) (by rw [e1, mset_eq]) (fun e q0 q1 => by omega)


set_option maxRecDepth 20000 in
theorem v_X3_copyFrom {P : Mem → Prop} {mem : Mem}  (H : (inR ((mem 11 3) * (mem 11 4))) ∧ (∀ m2 : Mem, m2 = mset (mset (mset mem 4 3 (mem 11 3)) 4 4 (mem 11 4)) 4 5 (min 12 ((mem 11 3) * (mem 11 4))) → (∀ m3 : Mem, m3 = (mset m2 4 6 (m2 11 6)) → (((m3 11 7) = 0 ∨ (m3 11 7) = 1) ∧ (∀ m5 : Mem, m5 = (mset m3 4 7 (m3 11 7)) → ((m5 5 0 = 3) ∧ ((0 ≤ m5 12 2 ∧ m5 12 2 ≤ 3) ∧ (∀ m8 : Mem, cpyP 5 6 12 13 m5 m8 → ((m8 7 0 = 4) ∧ ((0 ≤ m8 14 2 ∧ m8 14 2 ≤ 4) ∧ (∀ m11 : Mem, cpyP 7 8 14 15 m8 m11 → ((m11 9 0 = 3) ∧ ((0 ≤ m11 16 2 ∧ m11 16 2 ≤ 3) ∧ (∀ m14 : Mem, cpyP 9 10 16 17 m11 m14 → (P m14))))))))))))))) : Tot mX3_copyFrom 0 0 [vR 4, vR 11] SH mem (Pn SH P) := by
  refine Tot.of rfl (Nat.le_of_ble_eq_true rfl) (by simp [isJ]) (ls := [vR 4, vR 11]) rfl ?_
  refine q_aload_n dX3_copyFrom_0 rfl ?_
  refine q_aload_n dX3_copyFrom_1 rfl ?_
  refine q_geti dX3_copyFrom_2 lf_RX3_44 s11 rfl ?_
  refine q_aload_n dX3_copyFrom_5 rfl ?_
  refine q_geti dX3_copyFrom_6 lf_RX3_47 s11 rfl ?_
  obtain ⟨h1, H⟩ := H
  refine q_cVn (as := [vI _, vI _]) dX3_copyFrom_9 kmX3_form kvX3_form lm_RX3_29 ⟨by decide, by decide⟩ s4 ⟨by decide, rfl⟩ rfl rfl (Nat.le_of_ble_eq_true rfl) (c_X3_form s4 h1) (fun m1 hq => ?_)
  have H := H m1 hq
  refine q_aload_n dX3_copyFrom_12 rfl ?_
  refine q_aload_n dX3_copyFrom_13 rfl ?_
  refine q_geti dX3_copyFrom_14 lf_RX3_33 s11 rfl ?_
  refine q_puti dX3_copyFrom_17 lf_RX3_33 s4 rfl (Or.inl rfl) fit_int ?_
  have H := H _ rfl
  refine q_aload_n dX3_copyFrom_20 rfl ?_
  refine q_aload_n dX3_copyFrom_21 rfl ?_
  refine q_geti dX3_copyFrom_22 lf_RX3_37 s11 rfl ?_
  obtain ⟨h4, H⟩ := H
  refine q_puti dX3_copyFrom_25 lf_RX3_37 s4 rfl (Or.inl rfl) (fun _ => h4) ?_
  have H := H _ rfl
  refine q_aload_n dX3_copyFrom_28 rfl ?_
  refine q_getr (r := 5) dX3_copyFrom_29 lf_RX3_14 s4 rfl rfl ?_
  refine q_aload_n dX3_copyFrom_32 rfl ?_
  refine q_getr (r := 12) dX3_copyFrom_33 lf_RX3_14 s11 rfl rfl ?_
  obtain ⟨h6, H⟩ := H
  obtain ⟨h7, H⟩ := H
  refine q_cVn (as := [vR _]) dX3_copyFrom_36 kmX6_copyFrom kvX6_copyFrom lm_RX3_50 ⟨by decide, by decide⟩ s5 ⟨by decide, rfl⟩ rfl rfl (Nat.le_of_ble_eq_true rfl) (c_cpy_5 h6 h7) (fun m1 hq => ?_)
  have H := H m1 hq
  refine q_aload_n dX3_copyFrom_39 rfl ?_
  refine q_getr (r := 7) dX3_copyFrom_40 lf_RX3_20 s4 rfl rfl ?_
  refine q_aload_n dX3_copyFrom_43 rfl ?_
  refine q_getr (r := 14) dX3_copyFrom_44 lf_RX3_20 s11 rfl rfl ?_
  obtain ⟨h9, H⟩ := H
  obtain ⟨h10, H⟩ := H
  refine q_cVn (as := [vR _]) dX3_copyFrom_47 kmX6_copyFrom kvX6_copyFrom lm_RX3_50 ⟨by decide, by decide⟩ s7 ⟨by decide, rfl⟩ rfl rfl (Nat.le_of_ble_eq_true rfl) (c_cpy_7 h9 h10) (fun m1 hq => ?_)
  have H := H m1 hq
  refine q_aload_n dX3_copyFrom_50 rfl ?_
  refine q_getr (r := 9) dX3_copyFrom_51 lf_RX3_23 s4 rfl rfl ?_
  refine q_aload_n dX3_copyFrom_54 rfl ?_
  refine q_getr (r := 16) dX3_copyFrom_55 lf_RX3_23 s11 rfl rfl ?_
  obtain ⟨h12, H⟩ := H
  obtain ⟨h13, H⟩ := H
  refine q_cVn (as := [vR _]) dX3_copyFrom_58 kmX6_copyFrom kvX6_copyFrom lm_RX3_50 ⟨by decide, by decide⟩ s9 ⟨by decide, rfl⟩ rfl rfl (Nat.le_of_ble_eq_true rfl) (c_cpy_9 h12 h13) (fun m1 hq => ?_)
  have H := H m1 hq
  exact q_vret dX3_copyFrom_61 rfl ⟨rfl, rfl, H⟩

set_option maxRecDepth 20000 in
theorem v_X3_begin_11 {P : Mem → Prop} {mem : Mem}  (H : (inR (3 * 2)) ∧ (∀ m2 : Mem, m2 = mset (mset (mset mem 11 3 3) 11 4 2) 11 5 (min 12 (3 * 2)) → (∀ m3 : Mem, m3 = (mset m2 11 6 5) → (∀ m4 : Mem, m4 = (mset m3 11 7 0) → (∀ m5 : Mem, m5 = mset m4 12 2 0 → (∀ m6 : Mem, m6 = mset m5 14 2 0 → (∀ m7 : Mem, m7 = mset m6 16 2 0 → (P m7)))))))) : Tot mX3_begin 0 0 [vR 11] SH mem (Pn SH P) := by
  refine Tot.of rfl (Nat.le_of_ble_eq_true rfl) (by simp [isJ]) (ls := [vR 11]) rfl ?_
  refine q_aload_n dX3_begin_0 rfl ?_
  refine q_iconst dX3_begin_1 (by decide) ?_
  refine q_iconst dX3_begin_2 (by decide) ?_
  obtain ⟨h1, H⟩ := H
  refine q_cVn (as := [vI _, vI _]) dX3_begin_3 kmX3_form kvX3_form lm_RX3_29 ⟨by decide, by decide⟩ s11 ⟨by decide, rfl⟩ rfl rfl (Nat.le_of_ble_eq_true rfl) (c_X3_form s11 h1) (fun m1 hq => ?_)
  have H := H m1 hq
  refine q_aload_n dX3_begin_6 rfl ?_
  refine q_iconst dX3_begin_7 (by decide) ?_
  refine q_puti dX3_begin_8 lf_RX3_33 s11 rfl (Or.inl rfl) fit_int ?_
  have H := H _ rfl
  refine q_aload_n dX3_begin_11 rfl ?_
  refine q_iconst dX3_begin_12 (by decide) ?_
  refine q_puti dX3_begin_13 lf_RX3_37 s11 rfl (Or.inl rfl) (fun _ => by decide) ?_
  have H := H _ rfl
  refine q_aload_n dX3_begin_16 rfl ?_
  refine q_getr (r := 12) dX3_begin_17 lf_RX3_14 s11 rfl rfl ?_
  refine q_cVn (as := []) dX3_begin_20 kmX6_drop kvX6_drop lm_RX3_41 ⟨by decide, by decide⟩ s12 ⟨by decide, rfl⟩ rfl rfl (Nat.le_of_ble_eq_true rfl) (c_X6_drop s12) (fun m1 hq => ?_)
  have H := H m1 hq
  refine q_aload_n dX3_begin_23 rfl ?_
  refine q_getr (r := 14) dX3_begin_24 lf_RX3_20 s11 rfl rfl ?_
  refine q_cVn (as := []) dX3_begin_27 kmX6_drop kvX6_drop lm_RX3_41 ⟨by decide, by decide⟩ s14 ⟨by decide, rfl⟩ rfl rfl (Nat.le_of_ble_eq_true rfl) (c_X6_drop s14) (fun m1 hq => ?_)
  have H := H m1 hq
  refine q_aload_n dX3_begin_30 rfl ?_
  refine q_getr (r := 16) dX3_begin_31 lf_RX3_23 s11 rfl rfl ?_
  refine q_cVn (as := []) dX3_begin_34 kmX6_drop kvX6_drop lm_RX3_41 ⟨by decide, by decide⟩ s16 ⟨by decide, rfl⟩ rfl rfl (Nat.le_of_ble_eq_true rfl) (c_X6_drop s16) (fun m1 hq => ?_)
  have H := H m1 hq
  exact q_vret dX3_begin_37 rfl ⟨rfl, rfl, H⟩


