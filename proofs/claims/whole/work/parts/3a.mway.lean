/-! THE MODEL: a way that nobody hears -/
abbrev quM (m : Mem) (c n : Int) : Prop := ∀ r : Int, 0 ≤ r → r < m 44 7 → max 0 (n - DM m c (mrC m r)) ≤ mrM m r
theorem quM_fr {ks : List Nat} {m m' : Mem} (h : Fr ks m m') (h1 : 44 ∉ ks := by decide) (h2 : 61 ∉ ks := by decide) (h3 : 60 ∉ ks := by decide) (h4 : 47 ∉ ks := by decide) : quM m' = quM m := by
  funext c n
  unfold quM mrC mrM
  rw [DM_fr h h1 h2 h3, h 44 h1, h 47 h4]
def iqM (m0 : Mem) (c n v : Int) (m : Mem) : Prop := ((quM m0 c n ∧ v = 1) ∨ (¬ quM m0 c n ∧ v = 0)) ∧ Fr [62] m0 m
def w_X10_isQuiet_10 (c n : Int) (P : Int → Mem → Prop) (a3 : Int) (a4 : Int) (mem : Mem) : Prop := WP mX10_isQuiet none 0 0 (Pr SH P) 10 [vR 44, vI c, vI n, vI a3, vI a4] [] SH mem
set_option maxRecDepth 20000 in
theorem v_X10_isQuiet_10 {c n : Int} {P : Int → Mem → Prop} {a3 : Int} {a4 : Int} {mem : Mem}  (H : ((mem 44 7) ≤ a4 → (a3 = 0 ∨ a3 = 1) ∧ (P a3 mem)) ∧ (a4 < (mem 44 7) → (a3 = 0 → (inR (a4 + 1)) ∧ (w_X10_isQuiet_10 c n P 0 (a4 + 1) mem)) ∧ (¬ a3 = 0 → (inR (4 * a4)) ∧ ((0 ≤ (4 * a4)) ∧ (((4 * a4) < 12) ∧ ((0 ≤ (mem 47 (4 * a4).toNat)) ∧ (((mem 47 (4 * a4).toNat) < 12) ∧ ((inR (n - (mem 62 (mem 47 (4 * a4).toNat).toNat))) ∧ ((inR ((4 * a4) + 3)) ∧ ((0 ≤ ((4 * a4) + 3)) ∧ ((((4 * a4) + 3) < 12) ∧ (((mem 47 ((4 * a4) + 3).toNat) < (max 0 (n - (mem 62 (mem 47 (4 * a4).toNat).toNat))) → (inR (a4 + 1)) ∧ (w_X10_isQuiet_10 c n P 0 (a4 + 1) mem)) ∧ ((max 0 (n - (mem 62 (mem 47 (4 * a4).toNat).toNat))) ≤ (mem 47 ((4 * a4) + 3).toNat) → (inR (a4 + 1)) ∧ (w_X10_isQuiet_10 c n P 1 (a4 + 1) mem)))))))))))))) : w_X10_isQuiet_10 c n P a3 a4 mem := by
  unfold w_X10_isQuiet_10
  refine q_iload dX10_isQuiet_10 rfl ?_
  refine q_aload_n dX10_isQuiet_12 rfl ?_
  refine q_geti dX10_isQuiet_13 lf_RX10_168 s44 rfl ?_
  refine q_icmp_ge (tgt := 67) dX10_isQuiet_16 (by decide) (fun c16 => ?_) (fun c16 => ?_)
  · have H := H.1 c16
    refine q_iload_n dX10_isQuiet_67 rfl ?_
    obtain ⟨h1, H⟩ := H
    exact q_zret dX10_isQuiet_68 rfl h1 ⟨_, rfl, rfl, H⟩
  · have H := H.2 c16
    refine q_iload_n dX10_isQuiet_19 rfl ?_
    refine q_if_eq (tgt := 59) dX10_isQuiet_20 (by decide) (fun c20 => ?_) (fun c20 => ?_)
    · have H := H.1 c20
      refine q_iconst dX10_isQuiet_59 (by decide) ?_
      refine q_istore_n dX10_isQuiet_60 (by decide) rfl ?_
      obtain ⟨h2, H⟩ := H
      refine q_iinc dX10_isQuiet_61 rfl h2 rfl ?_
      refine q_goto (tgt := 10) dX10_isQuiet_64 (by decide) ?_
      exact H
    · have H := H.2 c20
      refine q_iload_n dX10_isQuiet_23 rfl ?_
      refine q_aload_n dX10_isQuiet_24 rfl ?_
      refine q_getr (r := 62) dX10_isQuiet_25 lf_RX10_72 s44 rfl rfl ?_
      refine q_aload_n dX10_isQuiet_28 rfl ?_
      refine q_getr (r := 47) dX10_isQuiet_29 lf_RX10_26 s44 rfl rfl ?_
      refine q_iconst dX10_isQuiet_32 (by decide) ?_
      refine q_iload dX10_isQuiet_33 rfl ?_
      obtain ⟨h3, H⟩ := H
      refine q_imul dX10_isQuiet_35 h3 ?_
      obtain ⟨h4, H⟩ := H
      obtain ⟨h5, H⟩ := H
      refine q_iald dX10_isQuiet_36 s47 h4 h5 ?_
      obtain ⟨h6, H⟩ := H
      obtain ⟨h7, H⟩ := H
      refine q_iald dX10_isQuiet_37 s62 h6 h7 ?_
      obtain ⟨h8, H⟩ := H
      refine q_cSi (as := [vI _, vI _]) dX10_isQuiet_38 kmX10_left ktX10_left lm_RX10_201 ⟨by decide, by decide⟩ rfl rfl (Nat.le_of_ble_eq_true rfl) (c_X10_left h8) (fun v m1 hq => ?_)
      obtain ⟨rfl, rfl⟩ := hq
      refine q_aload_n dX10_isQuiet_41 rfl ?_
      refine q_getr (r := 47) dX10_isQuiet_42 lf_RX10_26 s44 rfl rfl ?_
      refine q_iconst dX10_isQuiet_45 (by decide) ?_
      refine q_iload dX10_isQuiet_46 rfl ?_
      refine q_imul dX10_isQuiet_48 h3 ?_
      refine q_iconst dX10_isQuiet_49 (by decide) ?_
      obtain ⟨h9, H⟩ := H
      refine q_iadd dX10_isQuiet_50 h9 ?_
      obtain ⟨h10, H⟩ := H
      obtain ⟨h11, H⟩ := H
      refine q_iald dX10_isQuiet_51 s47 h10 h11 ?_
      refine q_icmp_gt (tgt := 59) dX10_isQuiet_52 (by decide) (fun c52 => ?_) (fun c52 => ?_)
      · have H := H.1 c52
        refine q_iconst dX10_isQuiet_59 (by decide) ?_
        refine q_istore_n dX10_isQuiet_60 (by decide) rfl ?_
        obtain ⟨h12, H⟩ := H
        refine q_iinc dX10_isQuiet_61 rfl h12 rfl ?_
        refine q_goto (tgt := 10) dX10_isQuiet_64 (by decide) ?_
        exact H
      · have H := H.2 c52
        refine q_iconst dX10_isQuiet_55 (by decide) ?_
        refine q_goto (tgt := 60) dX10_isQuiet_56 (by decide) ?_
        refine q_istore_n dX10_isQuiet_60 (by decide) rfl ?_
        obtain ⟨h13, H⟩ := H
        refine q_iinc dX10_isQuiet_61 rfl h13 rfl ?_
        refine q_goto (tgt := 10) dX10_isQuiet_64 (by decide) ?_
        exact H
set_option maxRecDepth 20000 in
theorem v_X10_isQuiet {c n : Int} {P : Int → Mem → Prop} {mem : Mem}  (H : (okGM mem) ∧ ((0 ≤ c) ∧ ((c < nM mem) ∧ (∀ m4 : Mem, sprP mem c m4 → (w_X10_isQuiet_10 c n P 1 0 m4))))) : Tot mX10_isQuiet 0 0 [vR 44, vI c, vI n] SH mem (Pr SH P) := by
  refine Tot.of rfl (Nat.le_of_ble_eq_true rfl) (by simp [isJ]) (ls := [vR 44, vI c, vI n, vJ 0, vJ 0]) rfl ?_
  refine q_aload_n dX10_isQuiet_0 rfl ?_
  refine q_iload_n dX10_isQuiet_1 rfl ?_
  obtain ⟨h1, H⟩ := H
  obtain ⟨h2, H⟩ := H
  obtain ⟨h3, H⟩ := H
  refine q_cVn (as := [vI _]) dX10_isQuiet_2 kmX10_spreads kvX10_spreads lm_RX10_197 ⟨by decide, by decide⟩ s44 ⟨by decide, rfl⟩ rfl rfl (Nat.le_of_ble_eq_true rfl) (c_spr h1 h2 h3) (fun m1 hq => ?_)
  have H := H m1 hq
  refine q_iconst dX10_isQuiet_5 (by decide) ?_
  refine q_istore_n dX10_isQuiet_6 (by decide) rfl ?_
  refine q_iconst dX10_isQuiet_7 (by decide) ?_
  refine q_istore dX10_isQuiet_8 (by decide) rfl ?_
  exact H


theorem iq_loop {m0 m4 : Mem} {c n : Int} (hy : rdM m0) (c0 : 0 ≤ c) (cn : c < nM m0) (n0 : 0 ≤ n) (n1 : n ≤ 99) (hs : sprP m0 c m4) : ∀ (k : Nat) (a3 a4 : Int), 0 ≤ a4 → a4 ≤ m0 44 7 → (m0 44 7 - a4).toNat ≤ k → ((a3 = 1 ∧ ∀ r : Int, 0 ≤ r → r < a4 → max 0 (n - DM m0 c (mrC m0 r)) ≤ mrM m0 r) ∨ (a3 = 0 ∧ ¬ quM m0 c n)) → w_X10_isQuiet_10 c n (iqM m0 c n) a3 a4 m4 := by
  have h7 := hy.1.2.2.2.2.2.2.1
  have hn := nM_b hy.1
  have hF := hs.1
  have hend : ∀ (a3 a4 : Int), a4 = m0 44 7 → ((a3 = 1 ∧ ∀ r : Int, 0 ≤ r → r < a4 → max 0 (n - DM m0 c (mrC m0 r)) ≤ mrM m0 r) ∨ (a3 = 0 ∧ ¬ quM m0 c n)) → (a3 = 0 ∨ a3 = 1) ∧ (iqM m0 c n a3 m4) := by
    intro a3 a4 e hI
    rcases hI with ⟨h, hx⟩ | ⟨h, hx⟩
    · exact ⟨Or.inr h, Or.inl ⟨fun r r0 r1 => hx r r0 (by omega), h⟩, hF⟩
    · exact ⟨Or.inl h, Or.inr ⟨hx, h⟩, hF⟩
  intro k
  induction k with
  | zero =>
    intro a3 a4 h0 h1 hk hI
    exact v_X10_isQuiet_10 ⟨fun _ => hend a3 a4 (by omega) hI, fun q => by rw [hF.at 44] at q; omega⟩
  | succ k ih =>
    intro a3 a4 h0 h1 hk hI
    refine v_X10_isQuiet_10 ⟨fun q => hend a3 a4 (by rw [hF.at 44] at q; omega) hI, fun q => ?_⟩
    rw [hF.at 44] at q
    rw [hF.at 47]
    have hr := hy.1.2.2.2.2.2.2.2.2.2 a4 h0 q
    have hdd := DM_b hy c0 cn hr.1.1 hr.1.2
    have e62 : m4 62 (m0 47 (4 * a4).toNat).toNat = DM m0 c (mrC m0 a4) := hs.2 _ hr.1.1 hr.1.2
    have h12 : mrC m0 a4 < 12 := Int.lt_of_lt_of_le hr.1.2 hn.2
    rw [e62]
    refine ⟨fun z => ⟨by unfold inR; omega, ih _ _ (by omega) (by omega) (by omega) (Or.inr ⟨rfl, ?_⟩)⟩, fun z => ⟨by unfold inR; omega, by omega, by omega, hr.1.1, h12, by unfold inR; omega, by unfold inR; omega, by omega, by omega, fun y => ⟨by unfold inR; omega, ih _ _ (by omega) (by omega) (by omega) (Or.inr ⟨rfl, fun x => ?_⟩)⟩, fun y => ⟨by unfold inR; omega, ih _ _ (by omega) (by omega) (by omega) (Or.inl ⟨rfl, fun r r0 r1 => ?_⟩)⟩⟩⟩
    · rcases hI with ⟨h, -⟩ | ⟨-, h⟩
      · omega
      · exact h
    · have := x a4 h0 q
      exact absurd y (Int.not_lt.mpr this)
    · by_cases e : r = a4
      · rw [e]; exact y
      · rcases hI with ⟨-, h⟩ | ⟨h, -⟩
        · exact h r r0 (by omega)
        · exact absurd h z
theorem c_X10_isQuiet {m0 : Mem} {c n : Int} (hy : rdM m0) (c0 : 0 ≤ c) (cn : c < nM m0) (n0 : 0 ≤ n) (n1 : n ≤ 99) : Tot mX10_isQuiet 0 0 [vR 44, vI c, vI n] SH m0 (Pr SH (iqM m0 c n)) := by
  have h7 := hy.1.2.2.2.2.2.2.1
  exact v_X10_isQuiet ⟨hy.2, c0, cn, fun m4 h4 => iq_loop hy c0 cn n0 n1 h4 _ 1 0 (by omega) h7.1 (Nat.le_refl _) (Or.inl ⟨rfl, fun r r0 r1 => by omega⟩)⟩
def w_X10_way_46 (f t n : Int) (P : Int → Mem → Prop) (a4 : Int) (a5 : Int) (a6 : Int) (u7 : Vl) (u8 : Vl) (u9 : Vl) (u10 : Vl) (mem : Mem) : Prop := WP mX10_way none 0 0 (Pr SH P) 46 [vR 44, vI f, vI t, vI n, vI a4, vI a5, vI a6, u7, u8, u9, u10] [] SH mem
def w_X10_way_117 (f t n : Int) (P : Int → Mem → Prop) (a4 : Int) (a5 : Int) (a6 : Int) (u7 : Vl) (u8 : Vl) (u9 : Vl) (u10 : Vl) (mem : Mem) : Prop := WP mX10_way none 0 0 (Pr SH P) 117 [vR 44, vI f, vI t, vI n, vI a4, vI a5, vI a6, u7, u8, u9, u10] [] SH mem
def w_X10_way_127 (f t n : Int) (P : Int → Mem → Prop) (a4 : Int) (a5 : Int) (a6 : Int) (a7 : Int) (u8 : Vl) (u9 : Vl) (u10 : Vl) (mem : Mem) : Prop := WP mX10_way none 0 0 (Pr SH P) 127 [vR 44, vI f, vI t, vI n, vI a4, vI a5, vI a6, vI a7, u8, u9, u10] [] SH mem
set_option maxRecDepth 20000 in
theorem v_X10_way_46 {f t n : Int} {P : Int → Mem → Prop} {a4 : Int} {a5 : Int} {a6 : Int} {u7 : Vl} {u8 : Vl} {u9 : Vl} {u10 : Vl} {mem : Mem}  (H : (a4 ≤ a6 → (0 ≤ a5) ∧ ((0 ≤ f) ∧ ((f < 31) ∧ ((((a5 / ((2 ^ f.toNat : Nat) : Int)) % 2 = 1) → w_X10_way_117 f t n P a4 a5 0 u7 u8 u9 u10 mem) ∧ (¬ ((a5 / ((2 ^ f.toNat : Nat) : Int)) % 2 = 1) → P (-9) mem))))) ∧ (a6 < a4 → (rdM mem) ∧ ((0 ≤ a6) ∧ ((a6 < nM mem) ∧ ((0 ≤ n) ∧ ((n ≤ 99) ∧ (∀ (v9 : Int) (m10 : Mem), iqM mem a6 n v9 m10 → ((v9 = 0 → (0 ≤ a5) ∧ ((¬ a6 = f → (a6 < 12) ∧ (∀ m13 : Mem, m13 = mset m10 66 a6.toNat 10000 → ((inR (a6 + 1)) ∧ (w_X10_way_46 f t n P a4 (((a5).toNat ||| ((0 : Int)).toNat : Nat) : Int) (a6 + 1) u7 u8 u9 u10 m13)))) ∧ (a6 = f → (a6 < 12) ∧ (∀ m16 : Mem, m16 = mset m10 66 a6.toNat 0 → ((inR (a6 + 1)) ∧ (w_X10_way_46 f t n P a4 (((a5).toNat ||| ((0 : Int)).toNat : Nat) : Int) (a6 + 1) u7 u8 u9 u10 m16)))))) ∧ (¬ v9 = 0 → (a6 < 31) ∧ ((0 ≤ a5) ∧ ((0 ≤ ((2 ^ (a6).toNat : Nat) : Int)) ∧ ((¬ a6 = f → (a6 < 12) ∧ (∀ m22 : Mem, m22 = mset m10 66 a6.toNat 10000 → ((inR (a6 + 1)) ∧ (w_X10_way_46 f t n P a4 (((a5).toNat ||| (((2 ^ (a6).toNat : Nat) : Int)).toNat : Nat) : Int) (a6 + 1) u7 u8 u9 u10 m22)))) ∧ (a6 = f → (a6 < 12) ∧ (∀ m25 : Mem, m25 = mset m10 66 a6.toNat 0 → ((inR (a6 + 1)) ∧ (w_X10_way_46 f t n P a4 (((a5).toNat ||| (((2 ^ (a6).toNat : Nat) : Int)).toNat : Nat) : Int) (a6 + 1) u7 u8 u9 u10 m25)))))))))))))))) : w_X10_way_46 f t n P a4 a5 a6 u7 u8 u9 u10 mem := by
  unfold w_X10_way_46
  refine q_iload dX10_way_46 rfl ?_
  refine q_iload dX10_way_48 rfl ?_
  refine q_icmp_ge (tgt := 102) dX10_way_50 (by decide) (fun c50 => ?_) (fun c50 => ?_)
  · have H := H.1 c50
    refine q_iload dX10_way_102 rfl ?_
    refine q_iload_n dX10_way_104 rfl ?_
    obtain ⟨h1, H⟩ := H
    obtain ⟨h2, H⟩ := H
    obtain ⟨h3, H⟩ := H
    refine q_cSi (as := [vI _, vI _]) dX10_way_105 kmX10_has ktX10_has lm_RX10_238 ⟨by decide, by decide⟩ rfl rfl (Nat.le_of_ble_eq_true rfl) (c_X10_has h1 h2 h3) (fun v m1 hq => ?_)
    obtain ⟨rfl, rfl⟩ := hq
    refine q_if_ne (tgt := 114) dX10_way_108 (by decide) (fun c108 => ?_) (fun c108 => ?_)
    · have H := H.1 (b_yes c108)
      refine q_iconst dX10_way_114 (by decide) ?_
      refine q_istore dX10_way_115 (by decide) rfl ?_
      exact H
    · have H := H.2 (b_no c108)
      refine q_bipush dX10_way_111 rfl (by decide) ?_
      exact q_iret dX10_way_113 rfl ⟨_, rfl, rfl, H⟩
  · have H := H.2 c50
    refine q_iload dX10_way_53 rfl ?_
    refine q_aload_n dX10_way_55 rfl ?_
    refine q_iload dX10_way_56 rfl ?_
    refine q_iload_n dX10_way_58 rfl ?_
    obtain ⟨h4, H⟩ := H
    obtain ⟨h5, H⟩ := H
    obtain ⟨h6, H⟩ := H
    obtain ⟨h7, H⟩ := H
    obtain ⟨h8, H⟩ := H
    refine q_cVi (as := [vI _, vI _]) dX10_way_59 kmX10_isQuiet kvX10_isQuiet lm_RX10_272 ⟨by decide, by decide⟩ s44 ⟨by decide, rfl⟩ rfl rfl (Nat.le_of_ble_eq_true rfl) (c_X10_isQuiet h4 h5 h6 h7 h8) (fun v m1 hq => ?_)
    have H := H v m1 hq
    refine q_if_eq (tgt := 72) dX10_way_62 (by decide) (fun c62 => ?_) (fun c62 => ?_)
    · have H := H.1 c62
      refine q_iconst dX10_way_72 (by decide) ?_
      obtain ⟨h11, H⟩ := H
      refine q_ior dX10_way_73 h11 (by decide) ?_
      refine q_istore dX10_way_74 (by decide) rfl ?_
      refine q_aload_n dX10_way_76 rfl ?_
      refine q_getr (r := 66) dX10_way_77 lf_RX10_84 s44 rfl rfl ?_
      refine q_iload dX10_way_80 rfl ?_
      refine q_iload dX10_way_82 rfl ?_
      refine q_iload_n dX10_way_84 rfl ?_
      refine q_icmp_ne (tgt := 92) dX10_way_85 (by decide) (fun c85 => ?_) (fun c85 => ?_)
      · have H := H.1 c85
        refine q_sipush dX10_way_92 rfl (by decide) ?_
        obtain ⟨h12, H⟩ := H
        refine q_iast dX10_way_95 s66 h5 h12 ?_
        have H := H _ rfl
        obtain ⟨h14, H⟩ := H
        refine q_iinc dX10_way_96 rfl h14 rfl ?_
        refine q_goto (tgt := 46) dX10_way_99 (by decide) ?_
        exact H
      · have H := H.2 c85
        refine q_iconst dX10_way_88 (by decide) ?_
        refine q_goto (tgt := 95) dX10_way_89 (by decide) ?_
        obtain ⟨h15, H⟩ := H
        refine q_iast dX10_way_95 s66 h5 h15 ?_
        have H := H _ rfl
        obtain ⟨h17, H⟩ := H
        refine q_iinc dX10_way_96 rfl h17 rfl ?_
        refine q_goto (tgt := 46) dX10_way_99 (by decide) ?_
        exact H
    · have H := H.2 c62
      refine q_iconst dX10_way_65 (by decide) ?_
      refine q_iload dX10_way_66 rfl ?_
      obtain ⟨h18, H⟩ := H
      refine q_shl1 dX10_way_68 h5 h18 ?_
      refine q_goto (tgt := 73) dX10_way_69 (by decide) ?_
      obtain ⟨h19, H⟩ := H
      obtain ⟨h20, H⟩ := H
      refine q_ior dX10_way_73 h19 h20 ?_
      refine q_istore dX10_way_74 (by decide) rfl ?_
      refine q_aload_n dX10_way_76 rfl ?_
      refine q_getr (r := 66) dX10_way_77 lf_RX10_84 s44 rfl rfl ?_
      refine q_iload dX10_way_80 rfl ?_
      refine q_iload dX10_way_82 rfl ?_
      refine q_iload_n dX10_way_84 rfl ?_
      refine q_icmp_ne (tgt := 92) dX10_way_85 (by decide) (fun c85 => ?_) (fun c85 => ?_)
      · have H := H.1 c85
        refine q_sipush dX10_way_92 rfl (by decide) ?_
        obtain ⟨h21, H⟩ := H
        refine q_iast dX10_way_95 s66 h5 h21 ?_
        have H := H _ rfl
        obtain ⟨h23, H⟩ := H
        refine q_iinc dX10_way_96 rfl h23 rfl ?_
        refine q_goto (tgt := 46) dX10_way_99 (by decide) ?_
        exact H
      · have H := H.2 c85
        refine q_iconst dX10_way_88 (by decide) ?_
        refine q_goto (tgt := 95) dX10_way_89 (by decide) ?_
        obtain ⟨h24, H⟩ := H
        refine q_iast dX10_way_95 s66 h5 h24 ?_
        have H := H _ rfl
        obtain ⟨h26, H⟩ := H
        refine q_iinc dX10_way_96 rfl h26 rfl ?_
        refine q_goto (tgt := 46) dX10_way_99 (by decide) ?_
        exact H
set_option maxRecDepth 20000 in
theorem v_X10_way_117 {f t n : Int} {P : Int → Mem → Prop} {a4 : Int} {a5 : Int} {a6 : Int} {u7 : Vl} {u8 : Vl} {u9 : Vl} {u10 : Vl} {mem : Mem}  (H : (a4 ≤ a6 → (0 ≤ t) ∧ ((t < 12) ∧ ((10000 ≤ (mem 66 t.toNat) → P (-9) mem) ∧ ((mem 66 t.toNat) < 10000 → P (mem 66 t.toNat) mem)))) ∧ (a6 < a4 → w_X10_way_127 f t n P a4 a5 a6 0 u8 u9 u10 mem)) : w_X10_way_117 f t n P a4 a5 a6 u7 u8 u9 u10 mem := by
  unfold w_X10_way_117
  refine q_iload dX10_way_117 rfl ?_
  refine q_iload dX10_way_119 rfl ?_
  refine q_icmp_ge (tgt := 241) dX10_way_121 (by decide) (fun c121 => ?_) (fun c121 => ?_)
  · have H := H.1 c121
    refine q_aload_n dX10_way_241 rfl ?_
    refine q_getr (r := 66) dX10_way_242 lf_RX10_84 s44 rfl rfl ?_
    refine q_iload_n dX10_way_245 rfl ?_
    obtain ⟨h1, H⟩ := H
    obtain ⟨h2, H⟩ := H
    refine q_iald dX10_way_246 s66 h1 h2 ?_
    refine q_sipush dX10_way_247 rfl (by decide) ?_
    refine q_icmp_ge (tgt := 262) dX10_way_250 (by decide) (fun c250 => ?_) (fun c250 => ?_)
    · have H := H.1 c250
      refine q_bipush dX10_way_262 rfl (by decide) ?_
      exact q_iret dX10_way_264 rfl ⟨_, rfl, rfl, H⟩
    · have H := H.2 c250
      refine q_aload_n dX10_way_253 rfl ?_
      refine q_getr (r := 66) dX10_way_254 lf_RX10_84 s44 rfl rfl ?_
      refine q_iload_n dX10_way_257 rfl ?_
      refine q_iald dX10_way_258 s66 h1 h2 ?_
      refine q_goto (tgt := 264) dX10_way_259 (by decide) ?_
      exact q_iret dX10_way_264 rfl ⟨_, rfl, rfl, H⟩
  · have H := H.2 c121
    refine q_iconst dX10_way_124 (by decide) ?_
    refine q_istore dX10_way_125 (by decide) rfl ?_
    exact H
set_option maxRecDepth 20000 in
theorem v_X10_way_127 {f t n : Int} {P : Int → Mem → Prop} {a4 : Int} {a5 : Int} {a6 : Int} {a7 : Int} {u8 : Vl} {u9 : Vl} {u10 : Vl} {mem : Mem}  (H : (inR (a4 * a4)) ∧ (((a4 * a4) ≤ a7 → (inR (a6 + 1)) ∧ (w_X10_way_117 f t n P a4 a5 (a6 + 1) (vI a7) u8 u9 u10 mem)) ∧ (a7 < (a4 * a4) → (0 ≤ a7) ∧ ((0 < a4) ∧ ((0 ≤ (a7 / a4)) ∧ (((a7 / a4) < 3 * mem 44 0) ∧ ((0 ≤ (a7 % a4)) ∧ (((a7 % a4) < 3 * mem 44 0) ∧ ((1 ≤ mem 44 0) ∧ ((mem 44 0 ≤ 4) ∧ (∀ (v11 : Int) (m12 : Mem), ((nbr (mem 44 0) (a7 / a4) (a7 % a4) ∧ v11 = 1) ∨ (¬ nbr (mem 44 0) (a7 / a4) (a7 % a4) ∧ v11 = 0)) ∧ m12 = mem → ((v11 = 0 → ((a7 % a4) < 12) ∧ (∀ m14 : Mem, m14 = mset m12 66 (a7 % a4).toNat (m12 66 (a7 % a4).toNat) → ((inR (a7 + 1)) ∧ (w_X10_way_127 f t n P a4 a5 a6 (a7 + 1) (vI (a7 / a4)) (vI (a7 % a4)) (vI 0) m14)))) ∧ (¬ v11 = 0 → (0 ≤ a5) ∧ (((a7 % a4) < 31) ∧ ((¬ ((a5 / ((2 ^ (a7 % a4).toNat : Nat) : Int)) % 2 = 1) → ((a7 % a4) < 12) ∧ (∀ m19 : Mem, m19 = mset m12 66 (a7 % a4).toNat (m12 66 (a7 % a4).toNat) → ((inR (a7 + 1)) ∧ (w_X10_way_127 f t n P a4 a5 a6 (a7 + 1) (vI (a7 / a4)) (vI (a7 % a4)) (vI 0) m19)))) ∧ (((a5 / ((2 ^ (a7 % a4).toNat : Nat) : Int)) % 2 = 1) → ((a7 / a4) < 12) ∧ ((inR ((m12 66 (a7 / a4).toNat) + 1)) ∧ (((a7 % a4) < 12) ∧ (((m12 66 (a7 % a4).toNat) ≤ ((m12 66 (a7 / a4).toNat) + 1) → ∀ m24 : Mem, m24 = mset m12 66 (a7 % a4).toNat (m12 66 (a7 % a4).toNat) → ((inR (a7 + 1)) ∧ (w_X10_way_127 f t n P a4 a5 a6 (a7 + 1) (vI (a7 / a4)) (vI (a7 % a4)) (vI 0) m24))) ∧ (((m12 66 (a7 / a4).toNat) + 1) < (m12 66 (a7 % a4).toNat) → ∀ m26 : Mem, m26 = mset m12 66 (a7 % a4).toNat ((m12 66 (a7 / a4).toNat) + 1) → ((inR (a7 + 1)) ∧ (w_X10_way_127 f t n P a4 a5 a6 (a7 + 1) (vI (a7 / a4)) (vI (a7 % a4)) (vI 1) m26)))))))))))))))))))))) : w_X10_way_127 f t n P a4 a5 a6 a7 u8 u9 u10 mem := by
  unfold w_X10_way_127
  refine q_iload dX10_way_127 rfl ?_
  refine q_iload dX10_way_129 rfl ?_
  refine q_iload dX10_way_131 rfl ?_
  obtain ⟨h1, H⟩ := H
  refine q_imul dX10_way_133 h1 ?_
  refine q_icmp_ge (tgt := 235) dX10_way_134 (by decide) (fun c134 => ?_) (fun c134 => ?_)
  · have H := H.1 c134
    obtain ⟨h2, H⟩ := H
    refine q_iinc dX10_way_235 rfl h2 rfl ?_
    refine q_goto (tgt := 117) dX10_way_238 (by decide) ?_
    exact H
  · have H := H.2 c134
    refine q_iload dX10_way_137 rfl ?_
    refine q_iload dX10_way_139 rfl ?_
    obtain ⟨h3, H⟩ := H
    obtain ⟨h4, H⟩ := H
    refine q_idiv dX10_way_141 h3 h4 ?_
    refine q_istore dX10_way_142 (by decide) rfl ?_
    refine q_iload dX10_way_144 rfl ?_
    refine q_iload dX10_way_146 rfl ?_
    refine q_irem dX10_way_148 h3 h4 ?_
    refine q_istore dX10_way_149 (by decide) rfl ?_
    refine q_aload_n dX10_way_151 rfl ?_
    refine q_iload dX10_way_152 rfl ?_
    refine q_iload dX10_way_154 rfl ?_
    obtain ⟨h5, H⟩ := H
    obtain ⟨h6, H⟩ := H
    obtain ⟨h7, H⟩ := H
    obtain ⟨h8, H⟩ := H
    obtain ⟨h9, H⟩ := H
    obtain ⟨h10, H⟩ := H
    refine q_cVi (as := [vI _, vI _]) dX10_way_156 kmX10_isNext kvX10_isNext lm_RX10_187 ⟨by decide, by decide⟩ s44 ⟨by decide, rfl⟩ rfl rfl (Nat.le_of_ble_eq_true rfl) (c_X10_isNext h5 h6 h7 h8 h9 h10) (fun v m1 hq => ?_)
    have H := H v m1 hq
    refine q_if_eq (tgt := 195) dX10_way_159 (by decide) (fun c159 => ?_) (fun c159 => ?_)
    · have H := H.1 c159
      refine q_iconst dX10_way_195 (by decide) ?_
      refine q_istore dX10_way_196 (by decide) rfl ?_
      refine q_aload_n dX10_way_198 rfl ?_
      refine q_getr (r := 66) dX10_way_199 lf_RX10_84 s44 rfl rfl ?_
      refine q_iload dX10_way_202 rfl ?_
      refine q_iload dX10_way_204 rfl ?_
      refine q_if_eq (tgt := 221) dX10_way_206 (by decide) (fun _ => ?_) (fun c => absurd c (by decide))
      refine q_aload_n dX10_way_221 rfl ?_
      refine q_getr (r := 66) dX10_way_222 lf_RX10_84 s44 rfl rfl ?_
      refine q_iload dX10_way_225 rfl ?_
      obtain ⟨h13, H⟩ := H
      refine q_iald dX10_way_227 s66 h7 h13 ?_
      refine q_iast dX10_way_228 s66 h7 h13 ?_
      have H := H _ rfl
      obtain ⟨h15, H⟩ := H
      refine q_iinc dX10_way_229 rfl h15 rfl ?_
      refine q_goto (tgt := 127) dX10_way_232 (by decide) ?_
      exact H
    · have H := H.2 c159
      refine q_iload dX10_way_162 rfl ?_
      refine q_iload dX10_way_164 rfl ?_
      obtain ⟨h16, H⟩ := H
      obtain ⟨h17, H⟩ := H
      refine q_cSi (as := [vI _, vI _]) dX10_way_166 kmX10_has ktX10_has lm_RX10_238 ⟨by decide, by decide⟩ rfl rfl (Nat.le_of_ble_eq_true rfl) (c_X10_has h16 h7 h17) (fun v m1 hq => ?_)
      obtain ⟨rfl, rfl⟩ := hq
      refine q_if_eq (tgt := 195) dX10_way_169 (by decide) (fun c169 => ?_) (fun c169 => ?_)
      · have H := H.1 (b_no c169)
        refine q_iconst dX10_way_195 (by decide) ?_
        refine q_istore dX10_way_196 (by decide) rfl ?_
        refine q_aload_n dX10_way_198 rfl ?_
        refine q_getr (r := 66) dX10_way_199 lf_RX10_84 s44 rfl rfl ?_
        refine q_iload dX10_way_202 rfl ?_
        refine q_iload dX10_way_204 rfl ?_
        refine q_if_eq (tgt := 221) dX10_way_206 (by decide) (fun _ => ?_) (fun c => absurd c (by decide))
        refine q_aload_n dX10_way_221 rfl ?_
        refine q_getr (r := 66) dX10_way_222 lf_RX10_84 s44 rfl rfl ?_
        refine q_iload dX10_way_225 rfl ?_
        obtain ⟨h18, H⟩ := H
        refine q_iald dX10_way_227 s66 h7 h18 ?_
        refine q_iast dX10_way_228 s66 h7 h18 ?_
        have H := H _ rfl
        obtain ⟨h20, H⟩ := H
        refine q_iinc dX10_way_229 rfl h20 rfl ?_
        refine q_goto (tgt := 127) dX10_way_232 (by decide) ?_
        exact H
      · have H := H.2 (b_yes c169)
        refine q_aload_n dX10_way_172 rfl ?_
        refine q_getr (r := 66) dX10_way_173 lf_RX10_84 s44 rfl rfl ?_
        refine q_iload dX10_way_176 rfl ?_
        obtain ⟨h21, H⟩ := H
        refine q_iald dX10_way_178 s66 h5 h21 ?_
        refine q_iconst dX10_way_179 (by decide) ?_
        obtain ⟨h22, H⟩ := H
        refine q_iadd dX10_way_180 h22 ?_
        refine q_aload_n dX10_way_181 rfl ?_
        refine q_getr (r := 66) dX10_way_182 lf_RX10_84 s44 rfl rfl ?_
        refine q_iload dX10_way_185 rfl ?_
        obtain ⟨h23, H⟩ := H
        refine q_iald dX10_way_187 s66 h7 h23 ?_
        refine q_icmp_ge (tgt := 195) dX10_way_188 (by decide) (fun c188 => ?_) (fun c188 => ?_)
        · have H := H.1 c188
          refine q_iconst dX10_way_195 (by decide) ?_
          refine q_istore dX10_way_196 (by decide) rfl ?_
          refine q_aload_n dX10_way_198 rfl ?_
          refine q_getr (r := 66) dX10_way_199 lf_RX10_84 s44 rfl rfl ?_
          refine q_iload dX10_way_202 rfl ?_
          refine q_iload dX10_way_204 rfl ?_
          refine q_if_eq (tgt := 221) dX10_way_206 (by decide) (fun _ => ?_) (fun c => absurd c (by decide))
          refine q_aload_n dX10_way_221 rfl ?_
          refine q_getr (r := 66) dX10_way_222 lf_RX10_84 s44 rfl rfl ?_
          refine q_iload dX10_way_225 rfl ?_
          refine q_iald dX10_way_227 s66 h7 h23 ?_
          refine q_iast dX10_way_228 s66 h7 h23 ?_
          have H := H _ rfl
          obtain ⟨h25, H⟩ := H
          refine q_iinc dX10_way_229 rfl h25 rfl ?_
          refine q_goto (tgt := 127) dX10_way_232 (by decide) ?_
          exact H
        · have H := H.2 c188
          refine q_iconst dX10_way_191 (by decide) ?_
          refine q_goto (tgt := 196) dX10_way_192 (by decide) ?_
          refine q_istore dX10_way_196 (by decide) rfl ?_
          refine q_aload_n dX10_way_198 rfl ?_
          refine q_getr (r := 66) dX10_way_199 lf_RX10_84 s44 rfl rfl ?_
          refine q_iload dX10_way_202 rfl ?_
          refine q_iload dX10_way_204 rfl ?_
          refine q_if_eq (tgt := 221) dX10_way_206 (by decide) (fun c => absurd c (by decide)) (fun _ => ?_)
          refine q_aload_n dX10_way_209 rfl ?_
          refine q_getr (r := 66) dX10_way_210 lf_RX10_84 s44 rfl rfl ?_
          refine q_iload dX10_way_213 rfl ?_
          refine q_iald dX10_way_215 s66 h5 h21 ?_
          refine q_iconst dX10_way_216 (by decide) ?_
          refine q_iadd dX10_way_217 h22 ?_
          refine q_goto (tgt := 228) dX10_way_218 (by decide) ?_
          refine q_iast dX10_way_228 s66 h7 h23 ?_
          have H := H _ rfl
          obtain ⟨h27, H⟩ := H
          refine q_iinc dX10_way_229 rfl h27 rfl ?_
          refine q_goto (tgt := 127) dX10_way_232 (by decide) ?_
          exact H
set_option maxRecDepth 20000 in
theorem v_X10_way {f t n : Int} {P : Int → Mem → Prop} {mem : Mem}  (H : (hsM mem) ∧ ((¬ (0 ≤ f ∧ f < nM mem) → P (-1) mem) ∧ ((0 ≤ f ∧ f < nM mem) → (¬ (0 ≤ t ∧ t < nM mem) → P (-1) mem) ∧ ((0 ≤ t ∧ t < nM mem) → ((1 ≤ n ∧ n ≤ 99) → (moM mem) ∧ (∀ m3 : Mem, asnP mem m3 → ((inR ((m3 44 0) * (m3 44 1))) ∧ (w_X10_way_46 f t n P ((m3 44 0) * (m3 44 1)) 0 0 (vJ 0) (vJ 0) (vJ 0) (vJ 0) m3)))) ∧ (¬ (1 ≤ n ∧ n ≤ 99) → P (-1) mem))))) : Tot mX10_way 0 0 [vR 44, vI f, vI t, vI n] SH mem (Pr SH P) := by
  refine Tot.of rfl (Nat.le_of_ble_eq_true rfl) (by simp [isJ]) (ls := [vR 44, vI f, vI t, vI n, vJ 0, vJ 0, vJ 0, vJ 0, vJ 0, vJ 0, vJ 0]) rfl ?_
  refine q_aload_n dX10_way_0 rfl ?_
  refine q_iload_n dX10_way_1 rfl ?_
  obtain ⟨h1, H⟩ := H
  refine q_cVi (as := [vI _]) dX10_way_2 kmX10_isCell kvX10_isCell lm_RX10_208 ⟨by decide, by decide⟩ s44 ⟨by decide, rfl⟩ rfl rfl (Nat.le_of_ble_eq_true rfl) (c_X10_isCell h1) (fun v m1 hq => ?_)
  obtain ⟨rfl, rfl⟩ := hq
  refine q_if_eq (tgt := 23) dX10_way_5 (by decide) (fun c5 => ?_) (fun c5 => ?_)
  · have H := H.1 (b_no c5)
    refine q_iconst dX10_way_23 (by decide) ?_
    exact q_iret dX10_way_24 rfl ⟨_, rfl, rfl, H⟩
  · have H := H.2 (b_yes c5)
    refine q_aload_n dX10_way_8 rfl ?_
    refine q_iload_n dX10_way_9 rfl ?_
    refine q_cVi (as := [vI _]) dX10_way_10 kmX10_isCell kvX10_isCell lm_RX10_208 ⟨by decide, by decide⟩ s44 ⟨by decide, rfl⟩ rfl rfl (Nat.le_of_ble_eq_true rfl) (c_X10_isCell h1) (fun v m1 hq => ?_)
    obtain ⟨rfl, rfl⟩ := hq
    refine q_if_eq (tgt := 23) dX10_way_13 (by decide) (fun c13 => ?_) (fun c13 => ?_)
    · have H := H.1 (b_no c13)
      refine q_iconst dX10_way_23 (by decide) ?_
      exact q_iret dX10_way_24 rfl ⟨_, rfl, rfl, H⟩
    · have H := H.2 (b_yes c13)
      refine q_iload_n dX10_way_16 rfl ?_
      refine q_cSi (as := [vI _]) dX10_way_17 kmX10_isStrength ktX10_isStrength lm_RX10_269 ⟨by decide, by decide⟩ rfl rfl (Nat.le_of_ble_eq_true rfl) (c_X10_isStrength) (fun v m1 hq => ?_)
      obtain ⟨rfl, rfl⟩ := hq
      refine q_if_ne (tgt := 25) dX10_way_20 (by decide) (fun c20 => ?_) (fun c20 => ?_)
      · have H := H.1 (b_yes c20)
        refine q_aload_n dX10_way_25 rfl ?_
        obtain ⟨h2, H⟩ := H
        refine q_cVn (as := []) dX10_way_26 kmX10_asNow kvX10_asNow lm_RX10_211 ⟨by decide, by decide⟩ s44 ⟨by decide, rfl⟩ rfl rfl (Nat.le_of_ble_eq_true rfl) (c_X10_asNow h1 h2) (fun m1 hq => ?_)
        have H := H m1 hq
        refine q_aload_n dX10_way_29 rfl ?_
        refine q_geti dX10_way_30 lf_RX10_7 s44 rfl ?_
        refine q_aload_n dX10_way_33 rfl ?_
        refine q_geti dX10_way_34 lf_RX10_13 s44 rfl ?_
        obtain ⟨h4, H⟩ := H
        refine q_imul dX10_way_37 h4 ?_
        refine q_istore dX10_way_38 (by decide) rfl ?_
        refine q_iconst dX10_way_40 (by decide) ?_
        refine q_istore dX10_way_41 (by decide) rfl ?_
        refine q_iconst dX10_way_43 (by decide) ?_
        refine q_istore dX10_way_44 (by decide) rfl ?_
        exact H
      · have H := H.2 (b_no c20)
        refine q_iconst dX10_way_23 (by decide) ?_
        exact q_iret dX10_way_24 rfl ⟨_, rfl, rfl, H⟩


noncomputable abbrev wyDM (m : Mem) (f n : Int) : Int → Int := dist (nM m) (m 44 0) (qct (fun c => quM m c n)) f
abbrev d66 (m : Mem) : Int → Int := fun c => m 66 c.toNat
/-- behind r rounds and q pairs of one more -/
def wmI (m3 : Mem) (f n r q : Int) (m : Mem) : Prop := Fr [62, 66] m3 m ∧ tight (nM m3) (m3 44 0) 10000 (qct (fun c => quM m3 c n)) f (d66 m) ∧ (∀ b : Int, 0 ≤ b → b < nM m3 → m 66 b.toNat = 10000 ∨ wyDM m3 f n b < 50) ∧ (∀ b : Int, 0 ≤ b → b < nM m3 → wyDM m3 f n b ≤ r → m 66 b.toNat = wyDM m3 f n b) ∧ ∀ p : Int, 0 ≤ p → p < q → nbr (m3 44 0) (p / nM m3) (p % nM m3) → quM m3 (p % nM m3) n → wyDM m3 f n (p / nM m3) ≤ r → m 66 (p % nM m3).toNat ≤ wyDM m3 f n (p / nM m3) + 1
theorem pr_b {p n : Int} (h0 : 0 ≤ p) (hp : p < n * n) (hn : 1 ≤ n) : (0 ≤ p / n ∧ p / n < n) ∧ (0 ≤ p % n ∧ p % n < n) := by
  refine ⟨⟨Int.ediv_nonneg h0 (by omega), Int.ediv_lt_of_lt_mul (by omega) hp⟩, Int.emod_nonneg _ (by omega), Int.emod_lt_of_pos _ (by omega)⟩
theorem wm_next {m3 m : Mem} {f n r : Int} (hy : rdM m3) (f0 : 0 ≤ f) (fn : f < nM m3) (r0 : 0 ≤ r) (hr : r < nM m3) (hI : wmI m3 f n r (nM m3 * nM m3) m) : wmI m3 f n (r + 1) 0 m := by
  have hn := nM_b hy.1
  have hD : isD (nM m3) (m3 44 0) (qct (fun c => quM m3 c n)) f (wyDM m3 f n) := dist_isD (okG_grid hy.2) qct_c f0 fn
  obtain ⟨hF, ht, hx, hy1, hy2⟩ := hI
  refine ⟨hF, ht, hx, fun b b0 bn hb => ?_, fun p p0 p1 => by omega⟩
  by_cases c : wyDM m3 f n b ≤ r
  · exact hy1 b b0 bn c
  · have hge := tight_ge qct_c (by decide) hD ht _ b b0 bn (Nat.le_refl _)
    have hge' : wyDM m3 f n b ≤ m 66 b.toNat := hge
    have hne : b ≠ f := fun e => by
      have h0 : wyDM m3 f n f = 0 := hD.1
      rw [e, h0] at c
      omega
    obtain ⟨hq, a, a0, an, hnb, ea⟩ := way_back hD b0 bn (by omega) hne
    have hp0 : 0 ≤ a * nM m3 + b := by
      have := Int.mul_nonneg a0 (show 0 ≤ nM m3 by omega)
      omega
    have hp1 : a * nM m3 + b < nM m3 * nM m3 := by
      have h1 : (a + 1) * nM m3 ≤ nM m3 * nM m3 := Int.mul_le_mul_of_nonneg_right (by omega) (by omega)
      rw [Int.add_mul, Int.one_mul] at h1
      omega
    have e1 : (a * nM m3 + b) / nM m3 = a := by
      rw [Int.add_comm, Int.add_mul_ediv_right _ _ (by omega), Int.ediv_eq_zero_of_lt b0 bn]
      omega
    have e2 : (a * nM m3 + b) % nM m3 = b := by
      rw [Int.add_comm, Int.add_mul_emod_self_right, Int.emod_eq_of_lt b0 bn]
    have h := hy2 (a * nM m3 + b) hp0 hp1
    rw [e1, e2] at h
    have h' := h hnb hq (by omega)
    omega
theorem wm_step {m3 m : Mem} {f n r p : Int} (hy : rdM m3) (f0 : 0 ≤ f) (fn : f < nM m3) (r0 : 0 ≤ r) (hr : r < nM m3) (p0 : 0 ≤ p) (pn : p < nM m3 * nM m3) (hI : wmI m3 f n r p m) :
    (¬ (nbr (m3 44 0) (p / nM m3) (p % nM m3) ∧ quM m3 (p % nM m3) n ∧ m 66 (p / nM m3).toNat + 1 < m 66 (p % nM m3).toNat) → wmI m3 f n r (p + 1) m) ∧ (nbr (m3 44 0) (p / nM m3) (p % nM m3) ∧ quM m3 (p % nM m3) n ∧ m 66 (p / nM m3).toNat + 1 < m 66 (p % nM m3).toNat → wmI m3 f n r (p + 1) (mset m 66 (p % nM m3).toNat (m 66 (p / nM m3).toNat + 1))) := by
  have hn := nM_b hy.1
  have hD : isD (nM m3) (m3 44 0) (qct (fun c => quM m3 c n)) f (wyDM m3 f n) := dist_isD (okG_grid hy.2) qct_c f0 fn
  obtain ⟨hF, ht, hx, hy1, hy2⟩ := hI
  obtain ⟨ha, hb⟩ := pr_b p0 pn hn.1
  constructor
  · intro hno
    refine ⟨hF, ht, hx, hy1, fun i i0 i1 hnb hq hle => ?_⟩
    by_cases e : i = p
    · subst e
      have h1 := hy1 _ ha.1 ha.2 hle
      rw [← h1]
      exact Int.not_lt.mp (fun z => hno ⟨hnb, hq, z⟩)
    · exact hy2 i i0 (by omega) hnb hq hle
  · rintro ⟨hnb, hq, hlt⟩
    generalize hea : p / nM m3 = a at *
    generalize heb : p % nM m3 = b at *
    have hct : qct (fun c => quM m3 c n) a b = 1 := qct_t (q := fun c => quM m3 c n) hq
    have ht2 := tight_set qct_c ht ha.1 ha.2 hb.1 hb.2 hnb (by rw [hct]; exact hlt)
    rw [hct] at ht2
    have hset : ∀ c : Int, 0 ≤ c → d66 (mset m 66 b.toNat (m 66 a.toNat + 1)) c = dset (d66 m) b (d66 m a + 1) c := by
      intro c c0
      show mset m 66 b.toNat (m 66 a.toNat + 1) 66 c.toNat = if c = b then m 66 a.toNat + 1 else m 66 c.toNat
      rw [mset_at]
      by_cases e : c = b
      · rw [e, if_pos ⟨rfl, rfl⟩, if_pos rfl]
      · rw [if_neg (by omega), if_neg e]
    have ht3 := tight_ext f0 hset ht2
    have hge := tight_ge qct_c (by decide) hD ht3 _ b hb.1 hb.2 (Nat.le_refl _)
    have hge0 := tight_ge qct_c (by decide) hD ht _ b hb.1 hb.2 (Nat.le_refl _)
    have eb : d66 (mset m 66 b.toNat (m 66 a.toNat + 1)) b = m 66 a.toNat + 1 := by rw [hset b hb.1]; show (if b = b then _ else _) = _; rw [if_pos rfl]
    rw [eb] at hge
    have eat : ∀ c : Int, 0 ≤ c → mset m 66 b.toNat (m 66 a.toNat + 1) 66 c.toNat = if c = b then m 66 a.toNat + 1 else m 66 c.toNat := fun c c0 => by
      rw [mset_at]
      by_cases e : c = b
      · rw [e, if_pos ⟨rfl, rfl⟩, if_pos rfl]
      · rw [if_neg (by omega), if_neg e]
    refine ⟨hF.set (by decide), ht3, fun c c0 cn => ?_, fun c c0 cn hc => ?_, fun i i0 i1 hnb2 hq2 hle => ?_⟩
    · rw [eat c c0]
      by_cases e : c = b
      · rw [if_pos e, e]
        right
        have hta := (ht.2.1 b hb.1 hb.2).2
        have hta' : m 66 b.toNat ≤ 10000 := hta
        rcases hx a ha.1 ha.2 with h | h
        · omega
        · have h1 := way_lt hD ha.1 ha.2 h
          have h2 := hD.2.2.1 a b ha.1 ha.2 hb.1 hb.2 hnb
          rw [hct] at h2
          omega
      · rw [if_neg e]
        exact hx c c0 cn
    · rw [eat c c0]
      by_cases e : c = b
      · rw [if_pos e, e]
        have h1 := hy1 c c0 cn hc
        rw [e] at h1
        omega
      · rw [if_neg e]
        exact hy1 c c0 cn hc
    · by_cases ei : i = p
      · rw [ei, hea] at hle ⊢
        rw [heb]
        have h1 := hy1 a ha.1 ha.2 hle
        rw [eat b hb.1, if_pos rfl, h1]
        exact Int.le_refl _
      · have hi := pr_b (p := i) i0 (by omega) hn.1
        have h := hy2 i i0 (by omega) hnb2 hq2 hle
        rw [eat _ hi.2.1]
        by_cases e : i % nM m3 = b
        · rw [if_pos e]
          rw [e] at h
          omega
        · rw [if_neg e]
          exact h
theorem tight_rng {n w far : Int} {ct : Int → Int → Int} {f : Int} {d d' : Int → Int} (f0 : 0 ≤ f) (fn : f < n) (h : ∀ c : Int, 0 ≤ c → c < n → d' c = d c) (ht : tight n w far ct f d) : tight n w far ct f d' := by
  refine ⟨by rw [h f f0 fn]; exact ht.1, fun b b0 bn => by rw [h b b0 bn]; exact ht.2.1 b b0 bn, fun b b0 bn hne => ?_⟩
  rcases ht.2.2 b b0 bn hne with q | ⟨a, a0, an, hn, hl⟩
  · exact Or.inl (by rw [h b b0 bn]; exact q)
  · exact Or.inr ⟨a, a0, an, hn, by rw [h b b0 bn, h a a0 an]; exact hl⟩
theorem isD_0 {n w f : Int} {ct : Int → Int → Int} {D : Int → Int} (hc : costs n ct) (hD : isD n w ct f D) {c : Int} (c0 : 0 ≤ c) (cn : c < n) (h : D c ≤ 0) : c = f := Classical.byContradiction fun e => by
  obtain ⟨a, a0, an, hn, hl⟩ := hD.2.2.2 c c0 cn e
  have h1 := hD.2.1 a a0 an
  have h2 := (hc a c a0 an c0 cn).1
  omega
def wyM (m0 : Mem) (f t n v : Int) (m : Mem) : Prop := (hiC m0 f t n ∧ (∃ m3, asnP m0 m3 ∧ wayV (nM m0) (m0 44 0) (fun c => quM m3 c n) f t v) ∧ Fr [59, 60, 61, 62, 66] m0 m) ∨ (¬ hiC m0 f t n ∧ v = -1 ∧ m = m0)
theorem mwy_in {m3 : Mem} {f t n r a5 : Int} {P : Int → Mem → Prop} (hy : rdM m3) (f0 : 0 ≤ f) (fn : f < nM m3) (r0 : 0 ≤ r) (hr : r < nM m3) (ha5 : a5 = (bitF (fun c => quM m3 c n) (nM m3).toNat : Nat)) (K : ∀ (u7 u8 u9 u10 : Vl) (m : Mem), wmI m3 f n (r + 1) 0 m → w_X10_way_117 f t n P (nM m3) a5 (r + 1) u7 u8 u9 u10 m) :
    ∀ (k : Nat) (a7 : Int) (u8 u9 u10 : Vl) (m : Mem), 0 ≤ a7 → a7 ≤ nM m3 * nM m3 → (nM m3 * nM m3 - a7).toNat ≤ k → wmI m3 f n r a7 m → w_X10_way_127 f t n P (nM m3) a5 r a7 u8 u9 u10 m := by
  have hn := nM_b hy.1
  have hnn : 1 ≤ nM m3 * nM m3 ∧ nM m3 * nM m3 ≤ 12 * 12 := ⟨Int.mul_le_mul hn.1 hn.1 (by decide) (by omega), Int.mul_le_mul hn.2 hn.2 (by omega) (by decide)⟩
  have hw : 1 ≤ m3 44 0 ∧ m3 44 0 ≤ 4 := by have := hy.1.1; omega
  have h3w : nM m3 ≤ 3 * m3 44 0 := by
    have h1 := hy.1.1
    have h2 := hy.1.2.1
    show m3 44 0 * m3 44 1 ≤ 3 * m3 44 0
    rcases h2 with e | e | e <;> rw [e] <;> omega
  intro k
  induction k with
  | zero =>
    intro a7 u8 u9 u10 m h0 h1 hk hI
    refine v_X10_way_127 ⟨by unfold inR; omega, fun _ => ⟨by unfold inR; omega, K _ _ _ _ m ?_⟩, fun q => by omega⟩
    rw [show a7 = nM m3 * nM m3 by omega] at hI
    exact wm_next hy f0 fn r0 hr hI
  | succ k ih =>
    intro a7 u8 u9 u10 m h0 h1 hk hI
    refine v_X10_way_127 ⟨by unfold inR; omega, fun q => ⟨by unfold inR; omega, K _ _ _ _ m ?_⟩, fun q => ?_⟩
    · rw [show a7 = nM m3 * nM m3 by omega] at hI
      exact wm_next hy f0 fn r0 hr hI
    obtain ⟨ha, hb⟩ := pr_b h0 q hn.1
    have hst := wm_step hy f0 fn r0 hr h0 q hI
    have hF := hI.1
    have htb := hI.2.1.2.1
    have hga := htb _ ha.1 ha.2
    have hgb := htb _ hb.1 hb.2
    rw [hF.at 44]
    refine ⟨h0, by omega, ha.1, by omega, hb.1, by omega, hw.1, hw.2, fun v11 m12 h12 => ?_⟩
    obtain ⟨hv, e12⟩ := h12
    have e12 := e12.symm
    subst e12
    have hbt : ((a5 / ((2 ^ (a7 % nM m3).toNat : Nat) : Int)) % 2 = 1) ↔ quM m3 (a7 % nM m3) n := by
      have e : (((a7 % nM m3).toNat : Nat) : Int) = a7 % nM m3 := by omega
      rw [ha5, bit_t, bitF_test, e]
      exact ⟨fun z => z.2, fun z => ⟨by omega, z⟩⟩
    have hsame : ∀ (m14 : Mem) (u8 u9 u10 : Vl), m14 = mset m 66 (a7 % nM m3).toNat (m 66 (a7 % nM m3).toNat) → ¬ (nbr (m3 44 0) (a7 / nM m3) (a7 % nM m3) ∧ quM m3 (a7 % nM m3) n ∧ m 66 (a7 / nM m3).toNat + 1 < m 66 (a7 % nM m3).toNat) → (inR (a7 + 1)) ∧ (w_X10_way_127 f t n P (nM m3) a5 r (a7 + 1) u8 u9 u10 m14) := by
      intro m14 u8 u9 u10 e hno
      rw [mset_id] at e
      rw [e]
      exact ⟨by unfold inR; omega, ih _ _ _ _ _ (by omega) (by omega) (by omega) (hst.1 hno)⟩
    refine ⟨fun z => ⟨by omega, fun m14 e14 => hsame m14 _ _ _ e14 (fun y => ?_)⟩, fun z => ⟨by rw [ha5]; exact Int.natCast_nonneg _, by omega, fun y => ⟨by omega, fun m19 e19 => hsame m19 _ _ _ e19 (fun x => y (hbt.mpr x.2.1))⟩, fun y => ⟨by omega, ?_, by omega, fun x m24 e24 => hsame m24 _ _ _ e24 (fun w => by have := w.2.2; omega), fun x m26 e26 => ⟨by unfold inR; omega, ?_⟩⟩⟩⟩
    · rcases hv with ⟨-, w⟩ | ⟨w, -⟩
      · omega
      · exact w y.1
    · have h1 : 0 ≤ m 66 (a7 / nM m3).toNat ∧ m 66 (a7 / nM m3).toNat ≤ 10000 := hga
      unfold inR
      omega
    · have hnb : nbr (m3 44 0) (a7 / nM m3) (a7 % nM m3) := by
        rcases hv with ⟨w, -⟩ | ⟨-, w⟩
        · exact w
        · exact absurd w z
      rw [e26]
      exact ih _ _ _ _ _ (by omega) (by omega) (by omega) (hst.2 ⟨hnb, hbt.mp y, x⟩)
theorem mwy_out {m0 m3 : Mem} {f t n a5 : Int} (hh : hsM m0) (h3 : asnP m0 m3) (hc : hiC m0 f t n) (ha5 : a5 = (bitF (fun c => quM m3 c n) (nM m3).toNat : Nat)) (hqf : quM m3 f n) : ∀ (k : Nat) (a6 : Int) (u7 u8 u9 u10 : Vl) (m : Mem), 0 ≤ a6 → a6 ≤ nM m3 → (nM m3 - a6).toNat ≤ k → wmI m3 f n a6 0 m → w_X10_way_117 f t n (wyM m0 f t n) (nM m3) a5 a6 u7 u8 u9 u10 m := by
  have hy := asn_rd hh h3
  have hn := nM_b hy.1
  have en := nM_fr h3.1
  have e44 : m3 44 = m0 44 := h3.1.at 44
  have f0 := hc.1.1
  have fn : f < nM m3 := by rw [en]; exact hc.1.2
  have t0 := hc.2.1.1
  have tn : t < nM m3 := by rw [en]; exact hc.2.1.2
  have hD : isD (nM m3) (m3 44 0) (qct (fun c => quM m3 c n)) f (wyDM m3 f n) := dist_isD (okG_grid hy.2) qct_c f0 fn
  have hfin : ∀ (a6 : Int) (m : Mem), a6 = nM m3 → wmI m3 f n a6 0 m → (0 ≤ t) ∧ ((t < 12) ∧ ((10000 ≤ (m 66 t.toNat) → wyM m0 f t n (-9) m) ∧ ((m 66 t.toNat) < 10000 → wyM m0 f t n (m 66 t.toNat) m))) := by
    intro a6 m e hI
    have hL : Fr [59, 60, 61, 62, 66] m0 m := (h3.1.mono (by decide)).tr (hI.1.mono (by decide))
    refine ⟨t0, by omega, fun z => Or.inl ⟨hc, ⟨m3, h3, ?_⟩, hL⟩, fun z => Or.inl ⟨hc, ⟨m3, h3, ?_⟩, hL⟩⟩
    · rw [← en, ← e44]
      refine Or.inr ⟨fun y => ?_, rfl⟩
      have h50 : wyDM m3 f n t < 50 := y.2
      have hlt := way_lt hD t0 tn h50
      have h4 := hI.2.2.2.1 t t0 tn (by omega)
      omega
    · rw [← en, ← e44]
      have h50 : wyDM m3 f n t < 50 := (hI.2.2.1 t t0 tn).elim (fun y => by omega) id
      have hlt := way_lt hD t0 tn h50
      have h4 := hI.2.2.2.1 t t0 tn (by omega)
      exact Or.inl ⟨hqf, h50, h4⟩
  intro k
  induction k with
  | zero =>
    intro a6 u7 u8 u9 u10 m h0 h1 hk hI
    exact v_X10_way_117 ⟨fun _ => hfin a6 m (by omega) hI, fun q => by omega⟩
  | succ k ih =>
    intro a6 u7 u8 u9 u10 m h0 h1 hk hI
    refine v_X10_way_117 ⟨fun q => hfin a6 m (by omega) hI, fun q => mwy_in hy f0 fn h0 q ha5 (fun u7 u8 u9 u10 m hm => ih _ _ _ _ _ _ (by omega) (by omega) (by omega) hm) _ 0 _ _ _ m (by omega) ?_ (Nat.le_refl _) hI⟩
    exact Int.mul_nonneg (by omega) (by omega)
theorem mwy_fill {m0 m3 : Mem} {f t n : Int} (hh : hsM m0) (h3 : asnP m0 m3) (hc : hiC m0 f t n) : ∀ (k : Nat) (a6 : Int) (u7 u8 u9 u10 : Vl) (m : Mem), 0 ≤ a6 → a6 ≤ nM m3 → (nM m3 - a6).toNat ≤ k → Fr [62, 66] m3 m → (∀ c : Int, 0 ≤ c → c < a6 → m 66 c.toNat = if c = f then 0 else 10000) → w_X10_way_46 f t n (wyM m0 f t n) (nM m3) (bitF (fun c => quM m3 c n) a6.toNat : Nat) a6 u7 u8 u9 u10 m := by
  have hy := asn_rd hh h3
  have hn := nM_b hy.1
  have en := nM_fr h3.1
  have e44 : m3 44 = m0 44 := h3.1.at 44
  have f0 := hc.1.1
  have fn : f < nM m3 := by rw [en]; exact hc.1.2
  have hD : isD (nM m3) (m3 44 0) (qct (fun c => quM m3 c n)) f (wyDM m3 f n) := dist_isD (okG_grid hy.2) qct_c f0 fn
  have hfin : ∀ (a6 : Int) (u7 u8 u9 u10 : Vl) (m : Mem), a6 = nM m3 → Fr [62, 66] m3 m → (∀ c : Int, 0 ≤ c → c < a6 → m 66 c.toNat = if c = f then 0 else 10000) → (0 ≤ (((bitF (fun c => quM m3 c n) a6.toNat : Nat) : Int))) ∧ ((0 ≤ f) ∧ ((f < 31) ∧ ((((((bitF (fun c => quM m3 c n) a6.toNat : Nat) : Int)) / ((2 ^ f.toNat : Nat) : Int)) % 2 = 1 → w_X10_way_117 f t n (wyM m0 f t n) (nM m3) (((bitF (fun c => quM m3 c n) a6.toNat : Nat) : Int)) 0 u7 u8 u9 u10 m) ∧ (¬ ((((bitF (fun c => quM m3 c n) a6.toNat : Nat) : Int)) / ((2 ^ f.toNat : Nat) : Int)) % 2 = 1 → (wyM m0 f t n) (-9) m)))) := by
    intro a6 u7 u8 u9 u10 m e hF hx
    subst e
    have hbt : ((((bitF (fun c => quM m3 c n) (nM m3).toNat : Nat) : Int)) / ((2 ^ f.toNat : Nat) : Int)) % 2 = 1 ↔ quM m3 f n := by
      have e : ((f.toNat : Nat) : Int) = f := by omega
      rw [bit_t, bitF_test, e]
      exact ⟨fun z => z.2, fun z => ⟨by omega, z⟩⟩
    refine ⟨Int.natCast_nonneg _, f0, by omega, fun z => mwy_out hh h3 hc rfl (hbt.mp z) _ 0 _ _ _ _ m (by omega) (by omega) (Nat.le_refl _) ⟨hF, ?_, fun b b0 bn => ?_, fun b b0 bn hb => ?_, fun p p0 p1 => by omega⟩, fun z => Or.inl ⟨hc, ⟨m3, h3, ?_⟩, (h3.1.mono (by decide)).tr (hF.mono (by decide))⟩⟩
    · exact tight_rng f0 fn (fun c c0 cn => hx c c0 cn) (tight_0 (by decide))
    · rw [hx b b0 bn]
      by_cases c : b = f
      · right
        have h0 : wyDM m3 f n f = 0 := hD.1
        rw [c, h0]
        decide
      · left
        rw [if_neg c]
    · have e := isD_0 qct_c hD b0 bn hb
      have h0 : wyDM m3 f n f = 0 := hD.1
      rw [hx b b0 bn, if_pos e, e, h0]
    · rw [← en, ← e44]
      exact Or.inr ⟨fun y => z (hbt.mpr y.1), rfl⟩
  intro k
  induction k with
  | zero =>
    intro a6 u7 u8 u9 u10 m h0 h1 hk hF hx
    exact v_X10_way_46 ⟨fun _ => hfin a6 _ _ _ _ m (by omega) hF hx, fun q => by omega⟩
  | succ k ih =>
    intro a6 u7 u8 u9 u10 m h0 h1 hk hF hx
    refine v_X10_way_46 ⟨fun q => hfin a6 _ _ _ _ m (by omega) hF hx, fun q => ?_⟩
    have hym : rdM m := by
      refine ⟨(hsM_fr hF).mpr hy.1, (okGM_fr hF).2.2 hy.2⟩
    refine ⟨hym, h0, by rw [nM_fr hF]; exact q, by have := hc.2.2; omega, hc.2.2.2, fun v9 m10 h10 => ?_⟩
    obtain ⟨hv, hF10⟩ := h10
    rw [quM_fr hF] at hv
    have hFm : Fr [62, 66] m3 m10 := hF.tr (hF10.mono (by decide))
    have hgo : ∀ (z a5 : Int) (m13 : Mem) (u7 u8 u9 u10 : Vl), z = (if a6 = f then 0 else 10000) → m13 = mset m10 66 a6.toNat z → a5 = (bitF (fun c => quM m3 c n) (a6 + 1).toNat : Nat) → (inR (a6 + 1)) ∧ (w_X10_way_46 f t n (wyM m0 f t n) (nM m3) a5 (a6 + 1) u7 u8 u9 u10 m13) := by
      intro z a5 m13 u7 u8 u9 u10 ez e13 e5
      rw [e5, e13]
      refine ⟨by unfold inR; omega, ih _ _ _ _ _ _ (by omega) (by omega) (by omega) (hFm.set (by decide)) (fun c c0 c1 => ?_)⟩
      rw [mset_at]
      by_cases e : c = a6
      · rw [e, if_pos ⟨rfl, rfl⟩, ez]
      · rw [if_neg (by omega), hF10.at 66]
        exact hx c c0 (by omega)
    refine ⟨fun z => ⟨Int.natCast_nonneg _, fun y => ⟨by omega, fun m13 e13 => hgo _ _ m13 _ _ _ _ ?_ e13 ?_⟩, fun y => ⟨by omega, fun m16 e16 => hgo _ _ m16 _ _ _ _ ?_ e16 ?_⟩⟩, fun z => ⟨by omega, Int.natCast_nonneg _, Int.natCast_nonneg _, fun y => ⟨by omega, fun m22 e22 => hgo _ _ m22 _ _ _ _ ?_ e22 ?_⟩, fun y => ⟨by omega, fun m25 e25 => hgo _ _ m25 _ _ _ _ ?_ e25 ?_⟩⟩⟩
    · rw [if_neg y]
    · rw [or_0, bitF_skip (p := fun c => quM m3 c n) h0 (fun x => ?_)]
      rcases hv with ⟨-, w⟩ | ⟨w, -⟩
      · omega
      · exact w x
    · rw [if_pos y]
    · rw [or_0, bitF_skip (p := fun c => quM m3 c n) h0 (fun x => ?_)]
      rcases hv with ⟨-, w⟩ | ⟨w, -⟩
      · omega
      · exact w x
    · rw [if_neg y]
    · refine bitF_step (p := fun c => quM m3 c n) h0 ?_
      rcases hv with ⟨w, -⟩ | ⟨-, w⟩
      · exact w
      · exact absurd w z
    · rw [if_pos y]
    · refine bitF_step (p := fun c => quM m3 c n) h0 ?_
      rcases hv with ⟨w, -⟩ | ⟨-, w⟩
      · exact w
      · exact absurd w z
theorem c_X10_way {m0 : Mem} {f t n : Int} (hh : hsM m0) (hm : moM m0) : Tot mX10_way 0 0 [vR 44, vI f, vI t, vI n] SH m0 (Pr SH (wyM m0 f t n)) := by
  refine v_X10_way ⟨hh, fun q => Or.inr ⟨fun z => q z.1, rfl, rfl⟩, fun q => ⟨fun q2 => Or.inr ⟨fun z => q2 z.2.1, rfl, rfl⟩, fun q2 => ⟨fun q3 => ⟨hm, fun m3 h3 => ?_⟩, fun q3 => Or.inr ⟨fun z => q3 z.2.2, rfl, rfl⟩⟩⟩⟩
  have hn : 1 ≤ m3 44 0 * m3 44 1 ∧ m3 44 0 * m3 44 1 ≤ 12 := nM_b (asn_rd hh h3).1
  exact ⟨by unfold inR; omega, mwy_fill hh h3 ⟨q, q2, q3⟩ _ 0 _ _ _ _ m3 (by omega) (by show (0 : Int) ≤ m3 44 0 * m3 44 1; omega) (Nat.le_refl _) Fr.rf (fun c c0 c1 => by omega)⟩
