/-! THE CLASS: neighbour, measure: the table of sides -/
def nbF (w n c side : Int) : Int := if side = 0 then (if w ≤ c then c - w else -9) else if side = 1 then (if 0 < c % w then c - 1 else -9) else if side = 2 then (if c % w < w - 1 then c + 1 else -9) else (if c + w < n then c + w else -9)
set_option maxRecDepth 20000 in
theorem v_X1_neighbour {c side : Int} {sh : Sh} {P : Int → Mem → Prop} {mem : Mem} (h34 : sh[34]? = some (1, 0, [5, 36, 37, 38, 39, 40, 41])) (h4 : sh[4]? = some (3, 0, [6, 8, 10, 0, 0, 0, 0, 0])) (h37 : sh[37]? = some (11, 48, [])) (H : (1 ≤ (mem 4 3) → (side = 0 → (c < (mem 4 3) → P (-9) mem) ∧ ((mem 4 3) ≤ c → (inR (c - (mem 4 3))) ∧ (P (c - (mem 4 3)) mem))) ∧ (side = 1 → (0 ≤ c) ∧ ((0 < (mem 4 3)) ∧ (((c % (mem 4 3)) ≤ 0 → P (-9) mem) ∧ (0 < (c % (mem 4 3)) → (inR (c - 1)) ∧ (P (c - 1) mem))))) ∧ (side = 2 → (0 ≤ c) ∧ ((0 < (mem 4 3)) ∧ ((inR ((mem 4 3) - 1)) ∧ ((((mem 4 3) - 1) ≤ (c % (mem 4 3)) → P (-9) mem) ∧ ((c % (mem 4 3)) < ((mem 4 3) - 1) → (inR (c + 1)) ∧ (P (c + 1) mem)))))) ∧ (¬ side = 0 ∧ ¬ side = 1 ∧ ¬ side = 2 → (inR (c + (mem 4 3))) ∧ ((¬ (0 ≤ (c + (mem 4 3)) ∧ (c + (mem 4 3)) < mem 4 5) → P (-9) mem) ∧ ((0 ≤ (c + (mem 4 3)) ∧ (c + (mem 4 3)) < mem 4 5) → P (c + (mem 4 3)) mem)))) ∧ ((mem 4 3) < 1 → P (-9) mem)) : Tot mX1_neighbour 0 0 [vR 34, vI c, vI side] sh mem (Pr sh P) := by
  refine Tot.of rfl (Nat.le_of_ble_eq_true rfl) (by simp [isJ]) (ls := [vR 34, vI c, vI side, vJ 0]) rfl ?_
  refine q_aload_n dX1_neighbour_0 rfl ?_
  refine q_getr (r := 4) dX1_neighbour_1 lf_RX1_31 h34 rfl rfl ?_
  refine q_geti dX1_neighbour_4 lf_RX1_48 h4 rfl ?_
  refine q_istore_n dX1_neighbour_7 (by decide) rfl ?_
  refine q_iload_n dX1_neighbour_8 rfl ?_
  refine q_iconst dX1_neighbour_9 (by decide) ?_
  refine q_icmp_ge (tgt := 16) dX1_neighbour_10 (by decide) (fun c10 => ?_) (fun c10 => ?_)
  · have H := H.1 c10
    refine q_iload_n dX1_neighbour_16 rfl ?_
    refine q_tsk (dt := 91) [(0, 44), (1, 58), (2, 73)] dX1_neighbour_17 rfl rfl (by decide) (by decide) ?_ ?_
    · refine List.forall_mem_cons.mpr ⟨fun ha => ?_, List.forall_mem_cons.mpr ⟨fun ha => ?_, List.forall_mem_cons.mpr ⟨fun ha => ?_, fun _ h => nomatch h⟩⟩⟩
      · have H := H.1 (by simp only at ha; omega)
        refine q_iload_n dX1_neighbour_44 rfl ?_
        refine q_iload_n dX1_neighbour_45 rfl ?_
        refine q_icmp_lt (tgt := 55) dX1_neighbour_46 (by decide) (fun c46 => ?_) (fun c46 => ?_)
        · have H := H.1 c46
          refine q_bipush dX1_neighbour_55 rfl (by decide) ?_
          exact q_iret dX1_neighbour_57 rfl ⟨_, rfl, rfl, H⟩
        · have H := H.2 c46
          refine q_iload_n dX1_neighbour_49 rfl ?_
          refine q_iload_n dX1_neighbour_50 rfl ?_
          obtain ⟨h1, H⟩ := H
          refine q_isub dX1_neighbour_51 h1 ?_
          refine q_goto (tgt := 57) dX1_neighbour_52 (by decide) ?_
          exact q_iret dX1_neighbour_57 rfl ⟨_, rfl, rfl, H⟩
      · have H := H.2.1 (by simp only at ha; omega)
        refine q_iload_n dX1_neighbour_58 rfl ?_
        refine q_iload_n dX1_neighbour_59 rfl ?_
        obtain ⟨h2, H⟩ := H
        obtain ⟨h3, H⟩ := H
        refine q_irem dX1_neighbour_60 h2 h3 ?_
        refine q_if_le (tgt := 70) dX1_neighbour_61 (by decide) (fun c61 => ?_) (fun c61 => ?_)
        · have H := H.1 c61
          refine q_bipush dX1_neighbour_70 rfl (by decide) ?_
          exact q_iret dX1_neighbour_72 rfl ⟨_, rfl, rfl, H⟩
        · have H := H.2 c61
          refine q_iload_n dX1_neighbour_64 rfl ?_
          refine q_iconst dX1_neighbour_65 (by decide) ?_
          obtain ⟨h4, H⟩ := H
          refine q_isub dX1_neighbour_66 h4 ?_
          refine q_goto (tgt := 72) dX1_neighbour_67 (by decide) ?_
          exact q_iret dX1_neighbour_72 rfl ⟨_, rfl, rfl, H⟩
      · have H := H.2.2.1 (by simp only at ha; omega)
        refine q_iload_n dX1_neighbour_73 rfl ?_
        refine q_iload_n dX1_neighbour_74 rfl ?_
        obtain ⟨h5, H⟩ := H
        obtain ⟨h6, H⟩ := H
        refine q_irem dX1_neighbour_75 h5 h6 ?_
        refine q_iload_n dX1_neighbour_76 rfl ?_
        refine q_iconst dX1_neighbour_77 (by decide) ?_
        obtain ⟨h7, H⟩ := H
        refine q_isub dX1_neighbour_78 h7 ?_
        refine q_icmp_ge (tgt := 88) dX1_neighbour_79 (by decide) (fun c79 => ?_) (fun c79 => ?_)
        · have H := H.1 c79
          refine q_bipush dX1_neighbour_88 rfl (by decide) ?_
          exact q_iret dX1_neighbour_90 rfl ⟨_, rfl, rfl, H⟩
        · have H := H.2 c79
          refine q_iload_n dX1_neighbour_82 rfl ?_
          refine q_iconst dX1_neighbour_83 (by decide) ?_
          obtain ⟨h8, H⟩ := H
          refine q_iadd dX1_neighbour_84 h8 ?_
          refine q_goto (tgt := 90) dX1_neighbour_85 (by decide) ?_
          exact q_iret dX1_neighbour_90 rfl ⟨_, rfl, rfl, H⟩
    · intro ho
      have H := H.2.2.2 (by omega)
      refine q_aload_n dX1_neighbour_91 rfl ?_
      refine q_getr (r := 4) dX1_neighbour_92 lf_RX1_31 h34 rfl rfl ?_
      refine q_iload_n dX1_neighbour_95 rfl ?_
      refine q_iload_n dX1_neighbour_96 rfl ?_
      obtain ⟨h9, H⟩ := H
      refine q_iadd dX1_neighbour_97 h9 ?_
      refine q_cVi (as := [vI _]) dX1_neighbour_98 kmX3_hasCell kvX3_hasCell lm_RX1_38 ⟨by decide, by decide⟩ h4 ⟨by decide, rfl⟩ rfl rfl (Nat.le_of_ble_eq_true rfl) (c_X3_hasCell h4) (fun v m1 hq => ?_)
      obtain ⟨rfl, rfl⟩ := hq
      refine q_if_eq (tgt := 110) dX1_neighbour_101 (by decide) (fun c101 => ?_) (fun c101 => ?_)
      · have H := H.1 (b_no c101)
        refine q_bipush dX1_neighbour_110 rfl (by decide) ?_
        exact q_iret dX1_neighbour_112 rfl ⟨_, rfl, rfl, H⟩
      · have H := H.2 (b_yes c101)
        refine q_iload_n dX1_neighbour_104 rfl ?_
        refine q_iload_n dX1_neighbour_105 rfl ?_
        refine q_iadd dX1_neighbour_106 h9 ?_
        refine q_goto (tgt := 112) dX1_neighbour_107 (by decide) ?_
        exact q_iret dX1_neighbour_112 rfl ⟨_, rfl, rfl, H⟩
  · have H := H.2 c10
    refine q_bipush dX1_neighbour_13 rfl (by decide) ?_
    exact q_iret dX1_neighbour_15 rfl ⟨_, rfl, rfl, H⟩


theorem c_X1_neighbour {sh : Sh} {m : Mem} {c side : Int} (h34 : sh[34]? = some (1, 0, [5, 36, 37, 38, 39, 40, 41])) (h4 : sh[4]? = some (3, 0, [6, 8, 10, 0, 0, 0, 0, 0])) (h37 : sh[37]? = some (11, 48, [])) (w0 : 1 ≤ m 4 3) (w1 : m 4 3 ≤ 4) (c0 : 0 ≤ c) (c1 : c < m 4 5) (n1 : m 4 5 ≤ 12) (s0 : 0 ≤ side) (s1 : side < 4) : Tot mX1_neighbour 0 0 [vR 34, vI c, vI side] sh m (Pr sh (Pv (nbF (m 4 3) (m 4 5) c side) m)) := by
  have hm : 0 ≤ c % m 4 3 := Int.emod_nonneg _ (by omega)
  refine v_X1_neighbour h34 h4 h37 ⟨fun _ => ⟨fun e => ?_, fun e => ⟨c0, by omega, ?_⟩, fun e => ⟨c0, by omega, by omega, ?_⟩, fun e => ⟨by omega, ?_⟩⟩, fun q => by omega⟩
  · unfold nbF
    rw [if_pos e]
    exact ⟨fun q => ⟨by rw [if_neg (by omega)], rfl⟩, fun q => ⟨by omega, by rw [if_pos q], rfl⟩⟩
  · unfold nbF
    rw [if_neg (by omega), if_pos e]
    exact ⟨fun q => ⟨by rw [if_neg (by omega)], rfl⟩, fun q => ⟨by omega, by rw [if_pos q], rfl⟩⟩
  · unfold nbF
    rw [if_neg (by omega), if_neg (by omega), if_pos e]
    exact ⟨fun q => ⟨by rw [if_neg (by omega)], rfl⟩, fun q => ⟨by omega, by rw [if_pos q], rfl⟩⟩
  · unfold nbF
    rw [if_neg (by omega), if_neg (by omega), if_neg (by omega)]
    exact ⟨fun q => ⟨by rw [if_neg (by omega)], rfl⟩, fun q => ⟨by rw [if_pos q.2], rfl⟩⟩
def w_X1_measure_2 (sh : Sh) (P : Mem → Prop) (a1 : Int) (u2 : Vl) (mem : Mem) : Prop := WP mX1_measure none 0 0 (Pn sh P) 2 [vR 34, vI a1, u2] [] sh mem
def w_X1_measure_10 (sh : Sh) (P : Mem → Prop) (a1 : Int) (a2 : Int) (mem : Mem) : Prop := WP mX1_measure none 0 0 (Pn sh P) 10 [vR 34, vI a1, vI a2] [] sh mem
set_option maxRecDepth 20000 in
theorem v_X1_measure_2 {sh : Sh} {P : Mem → Prop} {a1 : Int} {u2 : Vl} {mem : Mem} (h34 : sh[34]? = some (1, 0, [5, 36, 37, 38, 39, 40, 41])) (h4 : sh[4]? = some (3, 0, [6, 8, 10, 0, 0, 0, 0, 0])) (h37 : sh[37]? = some (11, 48, [])) (H : (12 ≤ a1 → P mem) ∧ (a1 < 12 → w_X1_measure_10 sh P a1 0 mem)) : w_X1_measure_2 sh P a1 u2 mem := by
  unfold w_X1_measure_2
  refine q_iload_n dX1_measure_2 rfl ?_
  refine q_bipush dX1_measure_3 rfl (by decide) ?_
  refine q_icmp_ge (tgt := 59) dX1_measure_5 (by decide) (fun c5 => ?_) (fun c5 => ?_)
  · have H := H.1 c5
    exact q_vret dX1_measure_59 rfl ⟨rfl, rfl, H⟩
  · have H := H.2 c5
    refine q_iconst dX1_measure_8 (by decide) ?_
    refine q_istore_n dX1_measure_9 (by decide) rfl ?_
    exact H
set_option maxRecDepth 20000 in
theorem v_X1_measure_10 {sh : Sh} {P : Mem → Prop} {a1 : Int} {a2 : Int} {mem : Mem} (h34 : sh[34]? = some (1, 0, [5, 36, 37, 38, 39, 40, 41])) (h4 : sh[4]? = some (3, 0, [6, 8, 10, 0, 0, 0, 0, 0])) (h37 : sh[37]? = some (11, 48, [])) (H : (4 ≤ a2 → (inR (a1 + 1)) ∧ (w_X1_measure_2 sh P (a1 + 1) (vI a2) mem)) ∧ (a2 < 4 → (inR (a1 * 4)) ∧ ((inR ((a1 * 4) + a2)) ∧ ((¬ (0 ≤ a1 ∧ a1 < mem 4 5) → (0 ≤ ((a1 * 4) + a2)) ∧ ((((a1 * 4) + a2) < 48) ∧ (∀ m6 : Mem, m6 = mset mem 37 ((a1 * 4) + a2).toNat (-9) → ((inR (a2 + 1)) ∧ (w_X1_measure_10 sh P a1 (a2 + 1) m6))))) ∧ ((0 ≤ a1 ∧ a1 < mem 4 5) → (1 ≤ mem 4 3) ∧ ((mem 4 3 ≤ 4) ∧ ((mem 4 5 ≤ 12) ∧ ((0 ≤ a2) ∧ ((0 ≤ ((a1 * 4) + a2)) ∧ ((((a1 * 4) + a2) < 48) ∧ (∀ m14 : Mem, m14 = mset mem 37 ((a1 * 4) + a2).toNat (nbF (mem 4 3) (mem 4 5) a1 a2) → ((inR (a2 + 1)) ∧ (w_X1_measure_10 sh P a1 (a2 + 1) m14))))))))))))) : w_X1_measure_10 sh P a1 a2 mem := by
  unfold w_X1_measure_10
  refine q_iload_n dX1_measure_10 rfl ?_
  refine q_iconst dX1_measure_11 (by decide) ?_
  refine q_icmp_ge (tgt := 53) dX1_measure_12 (by decide) (fun c12 => ?_) (fun c12 => ?_)
  · have H := H.1 c12
    obtain ⟨h1, H⟩ := H
    refine q_iinc dX1_measure_53 rfl h1 rfl ?_
    refine q_goto (tgt := 2) dX1_measure_56 (by decide) ?_
    exact H
  · have H := H.2 c12
    refine q_aload_n dX1_measure_15 rfl ?_
    refine q_getr (r := 37) dX1_measure_16 lf_RX1_18 h34 rfl rfl ?_
    refine q_iload_n dX1_measure_19 rfl ?_
    refine q_iconst dX1_measure_20 (by decide) ?_
    obtain ⟨h2, H⟩ := H
    refine q_imul dX1_measure_21 h2 ?_
    refine q_iload_n dX1_measure_22 rfl ?_
    obtain ⟨h3, H⟩ := H
    refine q_iadd dX1_measure_23 h3 ?_
    refine q_aload_n dX1_measure_24 rfl ?_
    refine q_getr (r := 4) dX1_measure_25 lf_RX1_31 h34 rfl rfl ?_
    refine q_iload_n dX1_measure_28 rfl ?_
    refine q_cVi (as := [vI _]) dX1_measure_29 kmX3_hasCell kvX3_hasCell lm_RX1_38 ⟨by decide, by decide⟩ h4 ⟨by decide, rfl⟩ rfl rfl (Nat.le_of_ble_eq_true rfl) (c_X3_hasCell h4) (fun v m1 hq => ?_)
    obtain ⟨rfl, rfl⟩ := hq
    refine q_if_eq (tgt := 44) dX1_measure_32 (by decide) (fun c32 => ?_) (fun c32 => ?_)
    · have H := H.1 (b_no c32)
      refine q_bipush dX1_measure_44 rfl (by decide) ?_
      obtain ⟨h4, H⟩ := H
      obtain ⟨h5, H⟩ := H
      refine q_iast dX1_measure_46 h37 h4 h5 ?_
      have H := H _ rfl
      obtain ⟨h7, H⟩ := H
      refine q_iinc dX1_measure_47 rfl h7 rfl ?_
      refine q_goto (tgt := 10) dX1_measure_50 (by decide) ?_
      exact H
    · have H := H.2 (b_yes c32)
      refine q_aload_n dX1_measure_35 rfl ?_
      refine q_iload_n dX1_measure_36 rfl ?_
      refine q_iload_n dX1_measure_37 rfl ?_
      obtain ⟨h8, H⟩ := H
      obtain ⟨h9, H⟩ := H
      obtain ⟨h10, H⟩ := H
      obtain ⟨h11, H⟩ := H
      refine q_cVi (as := [vI _, vI _]) dX1_measure_38 kmX1_neighbour kvX1_neighbour lm_RX1_44 ⟨by decide, by decide⟩ h34 ⟨by decide, rfl⟩ rfl rfl (Nat.le_of_ble_eq_true rfl) (c_X1_neighbour h34 h4 h37 h8 h9 (b_yes c32).1 (b_yes c32).2 h10 h11 c12) (fun v m1 hq => ?_)
      obtain ⟨rfl, rfl⟩ := hq
      refine q_goto (tgt := 46) dX1_measure_41 (by decide) ?_
      obtain ⟨h12, H⟩ := H
      obtain ⟨h13, H⟩ := H
      refine q_iast dX1_measure_46 h37 h12 h13 ?_
      have H := H _ rfl
      obtain ⟨h15, H⟩ := H
      refine q_iinc dX1_measure_47 rfl h15 rfl ?_
      refine q_goto (tgt := 10) dX1_measure_50 (by decide) ?_
      exact H
set_option maxRecDepth 20000 in
theorem v_X1_measure {sh : Sh} {P : Mem → Prop} {mem : Mem} (h34 : sh[34]? = some (1, 0, [5, 36, 37, 38, 39, 40, 41])) (h4 : sh[4]? = some (3, 0, [6, 8, 10, 0, 0, 0, 0, 0])) (h37 : sh[37]? = some (11, 48, [])) (H : w_X1_measure_2 sh P 0 (vJ 0) mem) : Tot mX1_measure 0 0 [vR 34] sh mem (Pn sh P) := by
  refine Tot.of rfl (Nat.le_of_ble_eq_true rfl) (by simp [isJ]) (ls := [vR 34, vJ 0, vJ 0]) rfl ?_
  refine q_iconst dX1_measure_0 (by decide) ?_
  refine q_istore_n dX1_measure_1 (by decide) rfl ?_
  exact H


def meaV (w n e : Int) : Int := if e / 4 < n then nbF w n (e / 4) (e % 4) else -9
def meaP (m0 m : Mem) : Prop := Fr [37] m0 m ∧ ∀ e : Int, 0 ≤ e → e < 48 → m 37 e.toNat = meaV (m0 4 3) (m0 4 5) e
def meaI (m0 : Mem) (E : Int) (m : Mem) : Prop := Fr [37] m0 m ∧ ∀ e : Int, 0 ≤ e → e < E → m 37 e.toNat = meaV (m0 4 3) (m0 4 5) e
theorem mea_in {sh : Sh} {m0 : Mem} {P : Mem → Prop} {a1 : Int} (h34 : sh[34]? = some (1, 0, [5, 36, 37, 38, 39, 40, 41])) (h4 : sh[4]? = some (3, 0, [6, 8, 10, 0, 0, 0, 0, 0])) (h37 : sh[37]? = some (11, 48, [])) (w0 : 1 ≤ m0 4 3) (w1 : m0 4 3 ≤ 4) (n1 : m0 4 5 ≤ 12) (c0 : 0 ≤ a1) (c1 : a1 < 12) (K : ∀ (u2 : Vl) (m : Mem), meaI m0 (4 * (a1 + 1)) m → w_X1_measure_2 sh P (a1 + 1) u2 m) :
    ∀ (k : Nat) (a2 : Int) (m : Mem), 0 ≤ a2 → a2 ≤ 4 → (4 - a2).toNat ≤ k → meaI m0 (4 * a1 + a2) m → w_X1_measure_10 sh P a1 a2 m := by
  intro k
  induction k with
  | zero =>
    intro a2 m h0 h1 hk hI
    exact v_X1_measure_10 h34 h4 h37 ⟨fun c => ⟨by omega, K _ _ (by rw [show 4 * (a1 + 1) = 4 * a1 + a2 by omega]; exact hI)⟩, fun c => by omega⟩
  | succ k ih =>
    intro a2 m h0 h1 hk hI
    have hnext : ∀ (v : Int) (m6 : Mem), m6 = mset m 37 (a1 * 4 + a2).toNat v → v = meaV (m0 4 3) (m0 4 5) (4 * a1 + a2) → meaI m0 (4 * a1 + (a2 + 1)) m6 := by
      intro v m6 e6 hv
      refine ⟨by rw [e6]; exact hI.1.set (by decide), fun e e0 e1 => ?_⟩
      rw [e6, mset_at]
      by_cases q : e = 4 * a1 + a2
      · rw [if_pos ⟨rfl, by rw [q, Int.mul_comm]⟩, q, hv]
      · rw [if_neg (by omega)]
        exact hI.2 e e0 (by omega)
    refine v_X1_measure_10 h34 h4 h37 ?_
    rw [hI.1.at 4]
    refine ⟨fun c => ⟨by omega, K _ _ (by rw [show 4 * (a1 + 1) = 4 * a1 + a2 by omega]; exact hI)⟩, fun c => ⟨by omega, by omega, fun q => ⟨by omega, by omega, fun m6 e6 => ⟨by omega, ih _ _ (by omega) (by omega) (by omega) (hnext _ _ e6 ?_)⟩⟩, fun q => ⟨w0, w1, n1, h0, by omega, by omega, fun m6 e6 => ⟨by omega, ih _ _ (by omega) (by omega) (by omega) (hnext _ _ e6 ?_)⟩⟩⟩⟩
    · unfold meaV
      rw [if_neg (by omega)]
    · unfold meaV
      rw [if_pos (by omega), show (4 * a1 + a2) / 4 = a1 by omega, show (4 * a1 + a2) % 4 = a2 by omega]
theorem mea_out {sh : Sh} {m0 : Mem} (h34 : sh[34]? = some (1, 0, [5, 36, 37, 38, 39, 40, 41])) (h4 : sh[4]? = some (3, 0, [6, 8, 10, 0, 0, 0, 0, 0])) (h37 : sh[37]? = some (11, 48, [])) (w0 : 1 ≤ m0 4 3) (w1 : m0 4 3 ≤ 4) (n1 : m0 4 5 ≤ 12) :
    ∀ (k : Nat) (a1 : Int) (u2 : Vl) (m : Mem), 0 ≤ a1 → (12 - a1).toNat ≤ k → meaI m0 (4 * a1) m → w_X1_measure_2 sh (meaP m0) a1 u2 m := by
  intro k
  induction k with
  | zero => intro a1 u2 m h0 hk hI; exact v_X1_measure_2 h34 h4 h37 ⟨fun c => ⟨hI.1, fun e e0 e1 => hI.2 e e0 (by omega)⟩, fun c => by omega⟩
  | succ k ih =>
    intro a1 u2 m h0 hk hI
    refine v_X1_measure_2 h34 h4 h37 ⟨fun c => ⟨hI.1, fun e e0 e1 => hI.2 e e0 (by omega)⟩, fun c => ?_⟩
    exact mea_in h34 h4 h37 w0 w1 n1 h0 c (fun u2 m h => ih _ _ _ (by omega) (by omega) h) _ 0 m (by omega) (by omega) (Nat.le_refl _) (by rw [Int.add_zero]; exact hI)
theorem c_X1_measure {sh : Sh} {m0 : Mem} (h34 : sh[34]? = some (1, 0, [5, 36, 37, 38, 39, 40, 41])) (h4 : sh[4]? = some (3, 0, [6, 8, 10, 0, 0, 0, 0, 0])) (h37 : sh[37]? = some (11, 48, [])) (w0 : 1 ≤ m0 4 3) (w1 : m0 4 3 ≤ 4) (n1 : m0 4 5 ≤ 12) : Tot mX1_measure 0 0 [vR 34] sh m0 (Pn sh (meaP m0)) :=
  v_X1_measure h34 h4 h37 (mea_out h34 h4 h37 w0 w1 n1 _ 0 _ m0 (by omega) (Nat.le_refl _) ⟨Fr.rf, fun e e0 e1 => by omega⟩)
/-- the table that measure makes is right -/
theorem mea_next {w h : Int} {nx : Nat → Int} (hw : w = 1 ∨ w = 2 ∨ w = 3 ∨ w = 4) (hh : h = 1 ∨ h = 2 ∨ h = 3) (hx : ∀ e : Int, 0 ≤ e → e < 48 → nx e.toNat = meaV w (w * h) e) : nextOK (w * h) w nx := by
  have hn12 : 1 ≤ w * h ∧ w * h ≤ 12 := by rcases hw with rfl | rfl | rfl | rfl <;> rcases hh with rfl | rfl | rfl <;> decide
  have key : ∀ a b : Int, 0 ≤ a → a < w * h → 0 ≤ b → b < w * h → (nbr w a b ↔ (b = a - w ∧ w ≤ a) ∨ (b = a - 1 ∧ 0 < a % w) ∨ (b = a + 1 ∧ a % w < w - 1) ∨ (b = a + w ∧ a + w < w * h)) := by
    intro a b a0 an b0 bn
    unfold nbr
    rcases hw with rfl | rfl | rfl | rfl <;> rcases hh with rfl | rfl | rfl <;> omega
  have hmod : ∀ a : Int, 0 ≤ a → 0 ≤ a % w ∧ a % w < w := fun a a0 => by rcases hw with rfl | rfl | rfl | rfl <;> omega
  have hgo : ∀ a : Int, 0 ≤ a → a < w * h → a % w < w - 1 → a + 1 < w * h := by
    intro a a0 an hm
    rcases hw with rfl | rfl | rfl | rfl <;> rcases hh with rfl | rfl | rfl <;> omega
  refine ⟨fun e e0 e1 => ?_, fun a b a0 an b0 bn hab => ?_⟩
  · have ha : e / 4 < w * h := by omega
    have ha0 : 0 ≤ e / 4 := by omega
    have hm := hmod (e / 4) ha0
    have hk := key (e / 4)
    rw [hx e e0 (by omega)]
    unfold meaV
    rw [if_pos ha]
    unfold nbF
    by_cases s0 : e % 4 = 0
    · rw [if_pos s0]
      split
      · right; exact ⟨by omega, by omega, (hk _ ha0 ha (by omega) (by omega)).mpr (Or.inl ⟨rfl, by assumption⟩)⟩
      · exact Or.inl rfl
    · rw [if_neg s0]
      by_cases s1 : e % 4 = 1
      · rw [if_pos s1]
        split
        · rename_i q
          have : 0 < e / 4 := by
            rcases Int.lt_or_eq_of_le ha0 with z | z
            · exact z
            · rw [← z] at q; simp at q
          right; exact ⟨by omega, by omega, (hk _ ha0 ha (by omega) (by omega)).mpr (Or.inr (Or.inl ⟨rfl, q⟩))⟩
        · exact Or.inl rfl
      · rw [if_neg s1]
        by_cases s2 : e % 4 = 2
        · rw [if_pos s2]
          split
          · rename_i q
            have := hgo (e / 4) ha0 ha q
            right; exact ⟨by omega, this, (hk _ ha0 ha (by omega) this).mpr (Or.inr (Or.inr (Or.inl ⟨rfl, q⟩)))⟩
          · exact Or.inl rfl
        · rw [if_neg s2]
          split
          · rename_i q
            right; exact ⟨by omega, q, (hk _ ha0 ha (by omega) q).mpr (Or.inr (Or.inr (Or.inr ⟨rfl, q⟩)))⟩
          · exact Or.inl rfl
  · have hv : ∀ s : Int, 0 ≤ s → s < 4 → nx (4 * a + s).toNat = nbF w (w * h) a s := by
      intro s s0 s1
      rw [hx _ (by omega) (by omega)]
      unfold meaV
      rw [if_pos (by omega), show (4 * a + s) / 4 = a by omega, show (4 * a + s) % 4 = s by omega]
    rcases (key a b a0 an b0 bn).mp hab with ⟨q1, q2⟩ | ⟨q1, q2⟩ | ⟨q1, q2⟩ | ⟨q1, q2⟩
    · exact ⟨4 * a + 0, by omega, by omega, by rw [hv 0 (by omega) (by omega)]; unfold nbF; rw [if_pos rfl, if_pos q2, q1]⟩
    · exact ⟨4 * a + 1, by omega, by omega, by rw [hv 1 (by omega) (by omega)]; unfold nbF; rw [if_neg (by decide), if_pos rfl, if_pos q2, q1]⟩
    · exact ⟨4 * a + 2, by omega, by omega, by rw [hv 2 (by omega) (by omega)]; unfold nbF; rw [if_neg (by decide), if_neg (by decide), if_pos rfl, if_pos q2, q1]⟩
    · exact ⟨4 * a + 3, by omega, by omega, by rw [hv 3 (by omega) (by omega)]; unfold nbF; rw [if_neg (by decide), if_neg (by decide), if_neg (by decide), if_pos q2, q1]⟩
