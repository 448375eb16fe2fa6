/-! THE MODEL: shams, odds, kinds -/
abbrev mtC (m : Mem) (i : Int) : Int := m 53 (4 * i).toNat
abbrev mtN (m : Mem) (i : Int) : Int := m 53 (4 * i + 1).toNat
abbrev mtT (m : Mem) (i : Int) : Int := m 53 (4 * i + 2).toNat
abbrev mtV (m : Mem) (i : Int) : Int := m 53 (4 * i + 3).toNat
def tmOK (m : Mem) : Prop := (0 ≤ m 44 16 ∧ m 44 16 ≤ 4) ∧ ∀ i : Int, 0 ≤ i → i < m 44 16 → (0 ≤ mtC m i ∧ mtC m i < nM m) ∧ (1 ≤ mtN m i ∧ mtN m i ≤ 99) ∧ (0 ≤ mtT m i ∧ mtT m i < nM m) ∧ 0 ≤ mtV m i ∧ mtV m i ≤ 99
theorem tmOK_fr {ks : List Nat} {m m' : Mem} (h : Fr ks m m') (ho : tmOK m) (h4 : 44 ∉ ks := by decide) (h5 : 53 ∉ ks := by decide) : tmOK m' := by
  unfold tmOK mtC mtN mtT mtV nM at *
  rw [h 44 h4, h 53 h5]
  exact ho
noncomputable abbrev DPm (m : Mem) (th : Nat → Int) : Int → Int → Int := dist (nM m) (m 44 0) (takeF (m 44 2) (fun x => onS m x) th)
theorem DM_DPm {m0 m : Mem} {th : Nat → Int} (hh : hsM m0) (hg : okGM m) (e44 : m 44 = m0 44) (hon : ∀ x : Int, 0 ≤ x → x < 12 → m 61 x.toNat = onS m0 x) (hth : ∀ s : Int, 0 ≤ s → s < m0 44 5 → m 60 s.toNat = th s.toNat) {f c : Int} (f0 : 0 ≤ f) (fn : f < nM m0) (c0 : 0 ≤ c) (cn : c < nM m0) : DM m f c = DPm m0 th f c := by
  have hgr := okG_grid hg
  have hcs := okG_costs hg
  have hn := nM_b hh
  have hns := hh.2.2.2.2.2.1
  unfold DPm DM nM ctM
  rw [e44] at hgr hcs ⊢
  refine dist_congr hgr hcs f0 fn (fun a b a0 an b0 bn => ?_) c0 cn
  have an' : a < 12 := Int.lt_of_lt_of_le an hn.2
  have bn' : b < 12 := Int.lt_of_lt_of_le bn hn.2
  have ea := hon a a0 an'
  have eb := hon b b0 bn'
  have q := onF_b (w := m0 44 0) (wi := mW m0) (lo := mL m0) (li := fun s => m0 48 (2 + s).toNat) (m0 44 5).toNat b
  show takeF (m0 44 2) (m 61) (m 60) a b = takeF (m0 44 2) (fun x => onS m0 x) th a b
  have xa : ((a.toNat : Nat) : Int) = a := by omega
  have xb : ((b.toNat : Nat) : Int) = b := by omega
  unfold takeF
  simp only [xa, xb]
  rw [ea, eb]
  have q' : onS m0 b = -9 ∨ (0 ≤ onS m0 b ∧ onS m0 b < ((m0 44 5).toNat : Nat)) := q
  revert q'
  generalize onS m0 b = z
  intro q'
  by_cases e : z = -9
  · rw [if_pos e, if_pos e]
  · have et := hth z (by omega) (by omega)
    rw [if_neg e, if_neg e, et]
def shaT (m : Mem) (s : Int) : Nat → Int := fun i => if (i : Int) = s then 0 else thM m i (m 48 (6 + (i : Int)).toNat)
def shaM (m : Mem) (s : Int) : Prop := ∀ i : Int, 0 ≤ i → i < m 44 16 → max 0 (mtN m i - DPm m (shaT m s) (mtC m i) (mtT m i)) = mtV m i
def mbM (m : Mem) : Int → Prop := fun s => ¬ m 48 (2 + s).toNat = -9 ∧ shaM m s
def w_X10_mayBe_4 (P : Int → Mem → Prop) (a1 : Int) (a2 : Int) (u3 : Vl) (u4 : Vl) (mem : Mem) : Prop := WP mX10_mayBe none 0 0 (Pr SH P) 4 [vR 44, vI a1, vI a2, u3, u4] [] SH mem
def w_X10_mayBe_43 (P : Int → Mem → Prop) (a1 : Int) (a2 : Int) (a3 : Int) (a4 : Int) (mem : Mem) : Prop := WP mX10_mayBe none 0 0 (Pr SH P) 43 [vR 44, vI a1, vI a2, vI a3, vI a4] [] SH mem
set_option maxRecDepth 20000 in
theorem v_X10_mayBe_4 {P : Int → Mem → Prop} {a1 : Int} {a2 : Int} {u3 : Vl} {u4 : Vl} {mem : Mem}  (H : ((mem 44 5) ≤ a2 → P a1 mem) ∧ (a2 < (mem 44 5) → (hsM mem) ∧ ((moM mem) ∧ (∀ m3 : Mem, asnP mem m3 → ((0 ≤ a2) ∧ ((a2 < 4) ∧ (∀ m6 : Mem, m6 = mset m3 60 a2.toNat 0 → (((m6 59 a2.toNat) = (-9) → w_X10_mayBe_43 P a1 a2 0 0 m6) ∧ (¬ (m6 59 a2.toNat) = (-9) → w_X10_mayBe_43 P a1 a2 1 0 m6))))))))) : w_X10_mayBe_4 P a1 a2 u3 u4 mem := by
  unfold w_X10_mayBe_4
  refine q_iload_n dX10_mayBe_4 rfl ?_
  refine q_aload_n dX10_mayBe_5 rfl ?_
  refine q_geti dX10_mayBe_6 lf_RX10_94 s44 rfl ?_
  refine q_icmp_ge (tgt := 145) dX10_mayBe_9 (by decide) (fun c9 => ?_) (fun c9 => ?_)
  · have H := H.1 c9
    refine q_iload_n dX10_mayBe_145 rfl ?_
    exact q_iret dX10_mayBe_146 rfl ⟨_, rfl, rfl, H⟩
  · have H := H.2 c9
    refine q_aload_n dX10_mayBe_12 rfl ?_
    obtain ⟨h1, H⟩ := H
    obtain ⟨h2, H⟩ := H
    refine q_cVn (as := []) dX10_mayBe_13 kmX10_asNow kvX10_asNow lm_RX10_211 ⟨by decide, by decide⟩ s44 ⟨by decide, rfl⟩ rfl rfl (Nat.le_of_ble_eq_true rfl) (c_X10_asNow h1 h2) (fun m1 hq => ?_)
    have H := H m1 hq
    refine q_aload_n dX10_mayBe_16 rfl ?_
    refine q_getr (r := 60) dX10_mayBe_17 lf_RX10_66 s44 rfl rfl ?_
    refine q_iload_n dX10_mayBe_20 rfl ?_
    refine q_iconst dX10_mayBe_21 (by decide) ?_
    obtain ⟨h4, H⟩ := H
    obtain ⟨h5, H⟩ := H
    refine q_iast dX10_mayBe_22 s60 h4 h5 ?_
    have H := H _ rfl
    refine q_aload_n dX10_mayBe_23 rfl ?_
    refine q_getr (r := 59) dX10_mayBe_24 lf_RX10_63 s44 rfl rfl ?_
    refine q_iload_n dX10_mayBe_27 rfl ?_
    refine q_iald dX10_mayBe_28 s59 h4 h5 ?_
    refine q_bipush dX10_mayBe_29 rfl (by decide) ?_
    refine q_icmp_eq (tgt := 38) dX10_mayBe_31 (by decide) (fun c31 => ?_) (fun c31 => ?_)
    · have H := H.1 c31
      refine q_iconst dX10_mayBe_38 (by decide) ?_
      refine q_istore_n dX10_mayBe_39 (by decide) rfl ?_
      refine q_iconst dX10_mayBe_40 (by decide) ?_
      refine q_istore dX10_mayBe_41 (by decide) rfl ?_
      exact H
    · have H := H.2 c31
      refine q_iconst dX10_mayBe_34 (by decide) ?_
      refine q_goto (tgt := 39) dX10_mayBe_35 (by decide) ?_
      refine q_istore_n dX10_mayBe_39 (by decide) rfl ?_
      refine q_iconst dX10_mayBe_40 (by decide) ?_
      refine q_istore dX10_mayBe_41 (by decide) rfl ?_
      exact H
set_option maxRecDepth 20000 in
theorem v_X10_mayBe_43 {P : Int → Mem → Prop} {a1 : Int} {a2 : Int} {a3 : Int} {a4 : Int} {mem : Mem}  (H : ((mem 44 16) ≤ a4 → (a3 = 0 → (0 ≤ a1) ∧ ((inR (a2 + 1)) ∧ (w_X10_mayBe_4 P (((a1).toNat ||| ((0 : Int)).toNat : Nat) : Int) (a2 + 1) (vI a3) (vI a4) mem))) ∧ (¬ a3 = 0 → (0 ≤ a2) ∧ ((a2 < 31) ∧ ((0 ≤ a1) ∧ ((0 ≤ ((2 ^ (a2).toNat : Nat) : Int)) ∧ ((inR (a2 + 1)) ∧ (w_X10_mayBe_4 P (((a1).toNat ||| (((2 ^ (a2).toNat : Nat) : Int)).toNat : Nat) : Int) (a2 + 1) (vI a3) (vI a4) mem))))))) ∧ (a4 < (mem 44 16) → (a3 = 0 → (0 ≤ a1) ∧ ((inR (a2 + 1)) ∧ (w_X10_mayBe_4 P (((a1).toNat ||| ((0 : Int)).toNat : Nat) : Int) (a2 + 1) (vI a3) (vI a4) mem))) ∧ (¬ a3 = 0 → (inR (4 * a4)) ∧ ((0 ≤ (4 * a4)) ∧ (((4 * a4) < 16) ∧ ((okGM mem) ∧ ((0 ≤ (mem 53 (4 * a4).toNat)) ∧ (((mem 53 (4 * a4).toNat) < nM mem) ∧ (∀ m16 : Mem, sprP mem (mem 53 (4 * a4).toNat) m16 → ((inR ((4 * a4) + 1)) ∧ ((0 ≤ ((4 * a4) + 1)) ∧ ((((4 * a4) + 1) < 16) ∧ ((inR ((4 * a4) + 2)) ∧ ((0 ≤ ((4 * a4) + 2)) ∧ ((((4 * a4) + 2) < 16) ∧ ((0 ≤ (m16 53 ((4 * a4) + 2).toNat)) ∧ (((m16 53 ((4 * a4) + 2).toNat) < 12) ∧ ((inR ((m16 53 ((4 * a4) + 1).toNat) - (m16 62 (m16 53 ((4 * a4) + 2).toNat).toNat))) ∧ ((inR ((4 * a4) + 3)) ∧ ((0 ≤ ((4 * a4) + 3)) ∧ ((((4 * a4) + 3) < 16) ∧ ((¬ (max 0 ((m16 53 ((4 * a4) + 1).toNat) - (m16 62 (m16 53 ((4 * a4) + 2).toNat).toNat))) = (m16 53 ((4 * a4) + 3).toNat) → (inR (a4 + 1)) ∧ (w_X10_mayBe_43 P a1 a2 0 (a4 + 1) m16)) ∧ ((max 0 ((m16 53 ((4 * a4) + 1).toNat) - (m16 62 (m16 53 ((4 * a4) + 2).toNat).toNat))) = (m16 53 ((4 * a4) + 3).toNat) → (inR (a4 + 1)) ∧ (w_X10_mayBe_43 P a1 a2 1 (a4 + 1) m16)))))))))))))))))))))))) : w_X10_mayBe_43 P a1 a2 a3 a4 mem := by
  unfold w_X10_mayBe_43
  refine q_iload dX10_mayBe_43 rfl ?_
  refine q_aload_n dX10_mayBe_45 rfl ?_
  refine q_geti dX10_mayBe_46 lf_RX10_177 s44 rfl ?_
  refine q_icmp_ge (tgt := 125) dX10_mayBe_49 (by decide) (fun c49 => ?_) (fun c49 => ?_)
  · have H := H.1 c49
    refine q_iload_n dX10_mayBe_125 rfl ?_
    refine q_iload_n dX10_mayBe_126 rfl ?_
    refine q_if_eq (tgt := 136) dX10_mayBe_127 (by decide) (fun c127 => ?_) (fun c127 => ?_)
    · have H := H.1 c127
      refine q_iconst dX10_mayBe_136 (by decide) ?_
      obtain ⟨h1, H⟩ := H
      refine q_ior dX10_mayBe_137 h1 (by decide) ?_
      refine q_istore_n dX10_mayBe_138 (by decide) rfl ?_
      obtain ⟨h2, H⟩ := H
      refine q_iinc dX10_mayBe_139 rfl h2 rfl ?_
      refine q_goto (tgt := 4) dX10_mayBe_142 (by decide) ?_
      exact H
    · have H := H.2 c127
      refine q_iconst dX10_mayBe_130 (by decide) ?_
      refine q_iload_n dX10_mayBe_131 rfl ?_
      obtain ⟨h3, H⟩ := H
      obtain ⟨h4, H⟩ := H
      refine q_shl1 dX10_mayBe_132 h3 h4 ?_
      refine q_goto (tgt := 137) dX10_mayBe_133 (by decide) ?_
      obtain ⟨h5, H⟩ := H
      obtain ⟨h6, H⟩ := H
      refine q_ior dX10_mayBe_137 h5 h6 ?_
      refine q_istore_n dX10_mayBe_138 (by decide) rfl ?_
      obtain ⟨h7, H⟩ := H
      refine q_iinc dX10_mayBe_139 rfl h7 rfl ?_
      refine q_goto (tgt := 4) dX10_mayBe_142 (by decide) ?_
      exact H
  · have H := H.2 c49
    refine q_iload_n dX10_mayBe_52 rfl ?_
    refine q_if_eq (tgt := 125) dX10_mayBe_53 (by decide) (fun c53 => ?_) (fun c53 => ?_)
    · have H := H.1 c53
      refine q_iload_n dX10_mayBe_125 rfl ?_
      refine q_iload_n dX10_mayBe_126 rfl ?_
      refine q_if_eq (tgt := 136) dX10_mayBe_127 (by decide) (fun _ => ?_) (fun c => absurd c53 (by omega))
      refine q_iconst dX10_mayBe_136 (by decide) ?_
      obtain ⟨h8, H⟩ := H
      refine q_ior dX10_mayBe_137 h8 (by decide) ?_
      refine q_istore_n dX10_mayBe_138 (by decide) rfl ?_
      obtain ⟨h9, H⟩ := H
      refine q_iinc dX10_mayBe_139 rfl h9 rfl ?_
      refine q_goto (tgt := 4) dX10_mayBe_142 (by decide) ?_
      exact H
    · have H := H.2 c53
      refine q_aload_n dX10_mayBe_56 rfl ?_
      refine q_aload_n dX10_mayBe_57 rfl ?_
      refine q_getr (r := 53) dX10_mayBe_58 lf_RX10_45 s44 rfl rfl ?_
      refine q_iconst dX10_mayBe_61 (by decide) ?_
      refine q_iload dX10_mayBe_62 rfl ?_
      obtain ⟨h10, H⟩ := H
      refine q_imul dX10_mayBe_64 h10 ?_
      obtain ⟨h11, H⟩ := H
      obtain ⟨h12, H⟩ := H
      refine q_iald dX10_mayBe_65 s53 h11 h12 ?_
      obtain ⟨h13, H⟩ := H
      obtain ⟨h14, H⟩ := H
      obtain ⟨h15, H⟩ := H
      refine q_cVn (as := [vI _]) dX10_mayBe_66 kmX10_spreads kvX10_spreads lm_RX10_197 ⟨by decide, by decide⟩ s44 ⟨by decide, rfl⟩ rfl rfl (Nat.le_of_ble_eq_true rfl) (c_spr h13 h14 h15) (fun m1 hq => ?_)
      have H := H m1 hq
      refine q_aload_n dX10_mayBe_69 rfl ?_
      refine q_getr (r := 53) dX10_mayBe_70 lf_RX10_45 s44 rfl rfl ?_
      refine q_iconst dX10_mayBe_73 (by decide) ?_
      refine q_iload dX10_mayBe_74 rfl ?_
      refine q_imul dX10_mayBe_76 h10 ?_
      refine q_iconst dX10_mayBe_77 (by decide) ?_
      obtain ⟨h17, H⟩ := H
      refine q_iadd dX10_mayBe_78 h17 ?_
      obtain ⟨h18, H⟩ := H
      obtain ⟨h19, H⟩ := H
      refine q_iald dX10_mayBe_79 s53 h18 h19 ?_
      refine q_aload_n dX10_mayBe_80 rfl ?_
      refine q_getr (r := 62) dX10_mayBe_81 lf_RX10_72 s44 rfl rfl ?_
      refine q_aload_n dX10_mayBe_84 rfl ?_
      refine q_getr (r := 53) dX10_mayBe_85 lf_RX10_45 s44 rfl rfl ?_
      refine q_iconst dX10_mayBe_88 (by decide) ?_
      refine q_iload dX10_mayBe_89 rfl ?_
      refine q_imul dX10_mayBe_91 h10 ?_
      refine q_iconst dX10_mayBe_92 (by decide) ?_
      obtain ⟨h20, H⟩ := H
      refine q_iadd dX10_mayBe_93 h20 ?_
      obtain ⟨h21, H⟩ := H
      obtain ⟨h22, H⟩ := H
      refine q_iald dX10_mayBe_94 s53 h21 h22 ?_
      obtain ⟨h23, H⟩ := H
      obtain ⟨h24, H⟩ := H
      refine q_iald dX10_mayBe_95 s62 h23 h24 ?_
      obtain ⟨h25, H⟩ := H
      refine q_cSi (as := [vI _, vI _]) dX10_mayBe_96 kmX10_left ktX10_left lm_RX10_201 ⟨by decide, by decide⟩ rfl rfl (Nat.le_of_ble_eq_true rfl) (c_X10_left h25) (fun v m1 hq => ?_)
      obtain ⟨rfl, rfl⟩ := hq
      refine q_aload_n dX10_mayBe_99 rfl ?_
      refine q_getr (r := 53) dX10_mayBe_100 lf_RX10_45 s44 rfl rfl ?_
      refine q_iconst dX10_mayBe_103 (by decide) ?_
      refine q_iload dX10_mayBe_104 rfl ?_
      refine q_imul dX10_mayBe_106 h10 ?_
      refine q_iconst dX10_mayBe_107 (by decide) ?_
      obtain ⟨h26, H⟩ := H
      refine q_iadd dX10_mayBe_108 h26 ?_
      obtain ⟨h27, H⟩ := H
      obtain ⟨h28, H⟩ := H
      refine q_iald dX10_mayBe_109 s53 h27 h28 ?_
      refine q_icmp_ne (tgt := 117) dX10_mayBe_110 (by decide) (fun c110 => ?_) (fun c110 => ?_)
      · have H := H.1 c110
        refine q_iconst dX10_mayBe_117 (by decide) ?_
        refine q_istore_n dX10_mayBe_118 (by decide) rfl ?_
        obtain ⟨h29, H⟩ := H
        refine q_iinc dX10_mayBe_119 rfl h29 rfl ?_
        refine q_goto (tgt := 43) dX10_mayBe_122 (by decide) ?_
        exact H
      · have H := H.2 c110
        refine q_iconst dX10_mayBe_113 (by decide) ?_
        refine q_goto (tgt := 118) dX10_mayBe_114 (by decide) ?_
        refine q_istore_n dX10_mayBe_118 (by decide) rfl ?_
        obtain ⟨h30, H⟩ := H
        refine q_iinc dX10_mayBe_119 rfl h30 rfl ?_
        refine q_goto (tgt := 43) dX10_mayBe_122 (by decide) ?_
        exact H
set_option maxRecDepth 20000 in
theorem v_X10_mayBe {P : Int → Mem → Prop} {mem : Mem}  (H : w_X10_mayBe_4 P 0 0 (vJ 0) (vJ 0) mem) : Tot mX10_mayBe 0 0 [vR 44] SH mem (Pr SH P) := by
  refine Tot.of rfl (Nat.le_of_ble_eq_true rfl) (by simp [isJ]) (ls := [vR 44, vJ 0, vJ 0, vJ 0, vJ 0]) rfl ?_
  refine q_iconst dX10_mayBe_0 (by decide) ?_
  refine q_istore_n dX10_mayBe_1 (by decide) rfl ?_
  refine q_iconst dX10_mayBe_2 (by decide) ?_
  refine q_istore_n dX10_mayBe_3 (by decide) rfl ?_
  exact H


def myM (m0 : Mem) (v : Int) (m : Mem) : Prop := v = (bitF (mbM m0) (m0 44 5).toNat : Nat) ∧ Fr [59, 60, 61, 62] m0 m
theorem mmy_in {m0 m6 : Mem} {s : Int} {P : Int → Mem → Prop} (hh : hsM m0) (ht : tmOK m0) (s0 : 0 ≤ s) (sn : s < m0 44 5) (hF6 : Fr [59, 60, 61, 62] m0 m6) (hg6 : okGM m6) (hD : ∀ f c : Int, 0 ≤ f → f < nM m0 → 0 ≤ c → c < nM m0 → DM m6 f c = DPm m0 (shaT m0 s) f c)
    (K : ∀ (u3 u4 : Vl) (m : Mem), Fr [59, 60, 61, 62] m0 m → w_X10_mayBe_4 P (bitF (mbM m0) (s + 1).toNat : Nat) (s + 1) u3 u4 m) :
    ∀ (k : Nat) (a3 a4 : Int) (m : Mem), 0 ≤ a4 → a4 ≤ m0 44 16 → (m0 44 16 - a4).toNat ≤ k → Fr [62] m6 m → ((a3 = 1 ∧ ¬ m0 48 (2 + s).toNat = -9 ∧ ∀ i : Int, 0 ≤ i → i < a4 → max 0 (mtN m0 i - DPm m0 (shaT m0 s) (mtC m0 i) (mtT m0 i)) = mtV m0 i) ∨ (a3 = 0 ∧ ¬ mbM m0 s)) → w_X10_mayBe_43 P (bitF (mbM m0) s.toNat : Nat) s a3 a4 m := by
  have h16 := ht.1
  have h5 := hh.2.2.2.2.2.1
  have hn := nM_b hh
  have hout : ∀ (a3 : Int) (m : Mem) (u3 u4 : Vl), Fr [62] m6 m → a3 = 0 → ¬ mbM m0 s → (0 ≤ (((bitF (mbM m0) s.toNat : Nat) : Int))) ∧ ((inR (s + 1)) ∧ (w_X10_mayBe_4 P ((((bitF (mbM m0) s.toNat : Nat) : Int)).toNat ||| ((0 : Int)).toNat : Nat) (s + 1) u3 u4 m)) := by
    intro a3 m u3 u4 hF e hx
    refine ⟨Int.natCast_nonneg _, by unfold inR; omega, ?_⟩
    have h := K u3 u4 m (hF6.tr (hF.mono (by decide)))
    rw [bitF_skip (p := mbM m0) s0 hx] at h
    rw [or_0]
    exact h
  have hend : ∀ (a3 a4 : Int) (m : Mem), a4 = m0 44 16 → Fr [62] m6 m → ((a3 = 1 ∧ ¬ m0 48 (2 + s).toNat = -9 ∧ ∀ i : Int, 0 ≤ i → i < a4 → max 0 (mtN m0 i - DPm m0 (shaT m0 s) (mtC m0 i) (mtT m0 i)) = mtV m0 i) ∨ (a3 = 0 ∧ ¬ mbM m0 s)) → (a3 = 0 → (0 ≤ (((bitF (mbM m0) s.toNat : Nat) : Int))) ∧ ((inR (s + 1)) ∧ (w_X10_mayBe_4 P ((((bitF (mbM m0) s.toNat : Nat) : Int)).toNat ||| ((0 : Int)).toNat : Nat) (s + 1) (vI a3) (vI a4) m))) ∧ (¬ a3 = 0 → (0 ≤ s) ∧ ((s < 31) ∧ ((0 ≤ (((bitF (mbM m0) s.toNat : Nat) : Int))) ∧ ((0 ≤ ((2 ^ s.toNat : Nat) : Int)) ∧ ((inR (s + 1)) ∧ (w_X10_mayBe_4 P ((((bitF (mbM m0) s.toNat : Nat) : Int)).toNat ||| (((2 ^ s.toNat : Nat) : Int)).toNat : Nat) (s + 1) (vI a3) (vI a4) m)))))) := by
    intro a3 a4 m e hF hI
    refine ⟨fun z => ?_, fun z => ⟨s0, by omega, Int.natCast_nonneg _, Int.natCast_nonneg _, by unfold inR; omega, ?_⟩⟩
    · rcases hI with ⟨h, -⟩ | ⟨-, h⟩
      · omega
      · exact hout a3 m _ _ hF z h
    · rcases hI with ⟨-, h1, h2⟩ | ⟨h, -⟩
      · have hK := K (vI a3) (vI a4) m (hF6.tr (hF.mono (by decide)))
        rw [← bitF_step (p := mbM m0) s0 ⟨h1, fun i i0 i1 => h2 i i0 (by omega)⟩] at hK
        exact hK
      · exact absurd h z
  intro k
  induction k with
  | zero =>
    intro a3 a4 m h0 h1 hk hF hI
    refine v_X10_mayBe_43 ⟨fun _ => hend a3 a4 m (by omega) hF hI, fun q => ?_⟩
    rw [hF.at 44, hF6.at 44] at q
    omega
  | succ k ih =>
    intro a3 a4 m h0 h1 hk hF hI
    have hL : Fr [59, 60, 61, 62] m0 m := hF6.tr (hF.mono (by decide))
    refine v_X10_mayBe_43 ⟨fun q => hend a3 a4 m (by rw [hL.at 44] at q; omega) hF hI, fun q => ?_⟩
    rw [hL.at 44] at q
    have hr := ht.2 a4 h0 q
    refine ⟨fun z => ?_, fun z => ?_⟩
    · rcases hI with ⟨h, -⟩ | ⟨-, h⟩
      · omega
      · exact hout a3 m _ _ hF z h
    rw [hL.at 53]
    have hg : okGM m := (okGM_fr hF).2.2 hg6
    refine ⟨by unfold inR; omega, by omega, by omega, hg, hr.1.1, by rw [nM_fr hL]; exact hr.1.2, fun m16 h16' => ?_⟩
    have hF16 := hF.tr h16'.1
    have hL16 : Fr [59, 60, 61, 62] m0 m16 := hF6.tr (hF16.mono (by decide))
    rw [hL16.at 53]
    have h12 : mtT m0 a4 < 12 := Int.lt_of_lt_of_le hr.2.2.1.2 hn.2
    have e62 : m16 62 (m0 53 (4 * a4 + 2).toNat).toNat = DPm m0 (shaT m0 s) (mtC m0 a4) (mtT m0 a4) := by
      rw [← hD _ _ hr.1.1 hr.1.2 hr.2.2.1.1 hr.2.2.1.2, ← DM_fr hF]
      exact h16'.2 _ hr.2.2.1.1 (by rw [nM_fr hL]; exact hr.2.2.1.2)
    rw [e62]
    have hdb : 0 ≤ DPm m0 (shaT m0 s) (mtC m0 a4) (mtT m0 a4) ∧ DPm m0 (shaT m0 s) (mtC m0 a4) (mtT m0 a4) ≤ 1100 := by
      rw [← hD _ _ hr.1.1 hr.1.2 hr.2.2.1.1 hr.2.2.1.2]
      exact DM_b ⟨(hsM_fr hF6).mpr hh, hg6⟩ hr.1.1 (by rw [nM_fr hF6]; exact hr.1.2) hr.2.2.1.1 (by rw [nM_fr hF6]; exact hr.2.2.1.2)
    have hnb : 1 ≤ m0 53 (4 * a4 + 1).toNat ∧ m0 53 (4 * a4 + 1).toNat ≤ 99 := hr.2.1
    have hx : ¬ m0 48 (2 + s).toNat = -9 ∧ ∀ i : Int, 0 ≤ i → i < a4 → max 0 (mtN m0 i - DPm m0 (shaT m0 s) (mtC m0 i) (mtT m0 i)) = mtV m0 i := by
      rcases hI with ⟨-, h⟩ | ⟨h, -⟩
      · exact h
      · exact absurd h z
    refine ⟨by unfold inR; omega, by omega, by omega, by unfold inR; omega, by omega, by omega, hr.2.2.1.1, h12, by unfold inR; omega, by unfold inR; omega, by omega, by omega, fun y => ⟨by unfold inR; omega, ih _ _ _ (by omega) (by omega) (by omega) hF16 (Or.inr ⟨rfl, fun x => y (x.2 a4 h0 q)⟩)⟩, fun y => ⟨by unfold inR; omega, ih _ _ _ (by omega) (by omega) (by omega) hF16 (Or.inl ⟨rfl, hx.1, fun i i0 i1 => ?_⟩)⟩⟩
    by_cases e : i = a4
    · rw [e]; exact y
    · exact hx.2 i i0 (by omega)
theorem mmy_out {m0 : Mem} (hh : hsM m0) (hm : moM m0) (ht : tmOK m0) : ∀ (k : Nat) (a2 : Int) (u3 u4 : Vl) (m : Mem), 0 ≤ a2 → a2 ≤ m0 44 5 → (m0 44 5 - a2).toNat ≤ k → Fr [59, 60, 61, 62] m0 m → w_X10_mayBe_4 (myM m0) (bitF (mbM m0) a2.toNat : Nat) a2 u3 u4 m := by
  have h5 := hh.2.2.2.2.2.1
  have h16 := ht.1
  intro k
  induction k with
  | zero =>
    intro a2 u3 u4 m h0 h1 hk hF
    refine v_X10_mayBe_4 ⟨fun _ => ⟨by rw [show a2 = m0 44 5 by omega], hF⟩, fun q => ?_⟩
    rw [hF.at 44] at q
    omega
  | succ k ih =>
    intro a2 u3 u4 m h0 h1 hk hF
    refine v_X10_mayBe_4 ⟨fun q => ⟨by rw [hF.at 44] at q; rw [show a2 = m0 44 5 by omega], hF⟩, fun q => ?_⟩
    rw [hF.at 44] at q
    refine ⟨(hsM_fr hF).mpr hh, (moM_fr hF).mpr hm, fun m3 h3 => ⟨h0, by omega, fun m6 e6 => ?_⟩⟩
    have hF6 : Fr [60] m3 m6 := by rw [e6]; exact Fr.rf.set (by decide)
    have hL3 : Fr [59, 60, 61, 62] m0 m3 := hF.tr (h3.1.mono (by decide))
    have hL6 : Fr [59, 60, 61, 62] m0 m6 := hL3.tr (hF6.mono (by decide))
    have e59 : m6 59 a2.toNat = m0 48 (2 + a2).toNat := by
      rw [hF6.at 59, h3.2.2.1 a2 h0 (by omega), hF.at 44, if_pos q, hF.at 48]
    have e60 : ∀ x : Int, 0 ≤ x → x < 4 → m6 60 x.toNat = if x = a2 then 0 else m3 60 x.toNat := fun x x0 x1 => by
      rw [e6, mset_at]
      by_cases c : x = a2
      · rw [c, if_pos ⟨rfl, rfl⟩, if_pos rfl]
      · rw [if_neg (by omega), if_neg c]
    have hg6 : okGM m6 := by
      have hg := h3.2.1
      unfold okGM okG at hg ⊢
      rw [hF6.at 44, hF6.at 61]
      refine ⟨hg.1, hg.2.1, hg.2.2.1, hg.2.2.2.1, hg.2.2.2.2.1, fun x x0 x1 => ?_⟩
      rw [e60 x x0 x1]
      split
      · decide
      · exact hg.2.2.2.2.2 x x0 x1
    have hms := msh_fr hF
    have hD : ∀ f c : Int, 0 ≤ f → f < nM m0 → 0 ≤ c → c < nM m0 → DM m6 f c = DPm m0 (shaT m0 a2) f c := by
      intro f c f0 fn c0 cn
      refine DM_DPm hh hg6 (hL6.at 44) (fun x x0 x1 => ?_) (fun x x0 x1 => ?_) f0 fn c0 cn
      · rw [hF6.at 61, h3.2.2.2.2 x x0 x1]
        unfold onS
        rw [hF.at 44, hF.at 48, hms.1, hms.2.1]
      · rw [e60 x x0 (by omega), h3.2.2.2.1 x x0 (by omega), hF.at 44, if_pos x1, hF.at 48]
        unfold shaT thM
        have e : ((x.toNat : Nat) : Int) = x := by omega
        rw [e, hms.2.2.1]
    have hin := fun a3 => mmy_in (P := myM m0) hh ht h0 q hL6 hg6 hD (fun u3 u4 m hm => ih (a2 + 1) u3 u4 m (by omega) (by omega) (by omega) hm) (m0 44 16).toNat a3 0 m6 (by omega) h16.1 (by omega) Fr.rf
    rw [e59]
    exact ⟨fun z => hin 0 (Or.inr ⟨rfl, fun y => y.1 z⟩), fun z => hin 1 (Or.inl ⟨rfl, z, fun i i0 i1 => by omega⟩)⟩
theorem c_X10_mayBe {m0 : Mem} (hh : hsM m0) (hm : moM m0) (ht : tmOK m0) : Tot mX10_mayBe 0 0 [vR 44] SH m0 (Pr SH (myM m0)) := by
  have h5 := hh.2.2.2.2.2.1
  exact v_X10_mayBe (mmy_out hh hm ht _ 0 _ _ m0 (by omega) (by omega) (Nat.le_refl _) Fr.rf)
/-! odds -/
def w_X10_odds_48 (r p w : Int) (P : Int → Mem → Prop) (a4 : Int) (a5 : Int) (a6 : Int) (u7 : Vl) (u8 : Vl) (mem : Mem) : Prop := WP mX10_odds none 0 0 (Pr SH P) 48 [vR 44, vI r, vI p, vI w, vI a4, vI a5, vI a6, u7, u8] [] SH mem
def w_X10_odds_140 (r p w : Int) (P : Int → Mem → Prop) (a4 : Int) (a5 : Int) (a6 : Int) (a7 : Int) (u8 : Vl) (mem : Mem) : Prop := WP mX10_odds none 0 0 (Pr SH P) 140 [vR 44, vI r, vI p, vI w, vI a4, vI a5, vI a6, vI a7, u8] [] SH mem
set_option maxRecDepth 20000 in
theorem v_X10_odds_48 {r p w : Int} {P : Int → Mem → Prop} {a4 : Int} {a5 : Int} {a6 : Int} {u7 : Vl} {u8 : Vl} {mem : Mem}  (H : ((mem 44 3) ≤ a6 → w_X10_odds_140 r p w P a4 a5 a4 a5 u8 mem) ∧ (a6 < (mem 44 3) → (inR (4 * a6)) ∧ ((0 ≤ (4 * a6)) ∧ (((4 * a6) < 12) ∧ ((okGM mem) ∧ ((0 ≤ (mem 45 (4 * a6).toNat)) ∧ (((mem 45 (4 * a6).toNat) < nM mem) ∧ (∀ m7 : Mem, sprP mem (mem 45 (4 * a6).toNat) m7 → ((inR ((4 * a6) + 1)) ∧ ((0 ≤ ((4 * a6) + 1)) ∧ ((((4 * a6) + 1) < 12) ∧ ((inR (4 * r)) ∧ ((0 ≤ (4 * r)) ∧ (((4 * r) < 12) ∧ ((0 ≤ (m7 47 (4 * r).toNat)) ∧ (((m7 47 (4 * r).toNat) < 12) ∧ ((inR ((m7 45 ((4 * a6) + 1).toNat) - (m7 62 (m7 47 (4 * r).toNat).toNat))) ∧ ((inR ((4 * r) + 3)) ∧ ((0 ≤ ((4 * r) + 3)) ∧ ((((4 * r) + 3) < 12) ∧ (((max 0 ((m7 45 ((4 * a6) + 1).toNat) - (m7 62 (m7 47 (4 * r).toNat).toNat))) ≤ (m7 47 ((4 * r) + 3).toNat) → (inR (a6 + 1)) ∧ (w_X10_odds_48 r p w P a4 a5 (a6 + 1) u7 u8 m7)) ∧ ((m7 47 ((4 * r) + 3).toNat) < (max 0 ((m7 45 ((4 * a6) + 1).toNat) - (m7 62 (m7 47 (4 * r).toNat).toNat))) → (inR (10 - p)) ∧ ((inR (a4 * (10 - p))) ∧ ((inR (a5 * 10)) ∧ ((inR (a6 + 1)) ∧ (w_X10_odds_48 r p w P (a4 * (10 - p)) (a5 * 10) (a6 + 1) u7 u8 m7)))))))))))))))))))))))))) : w_X10_odds_48 r p w P a4 a5 a6 u7 u8 mem := by
  unfold w_X10_odds_48
  refine q_iload dX10_odds_48 rfl ?_
  refine q_aload_n dX10_odds_50 rfl ?_
  refine q_geti dX10_odds_51 lf_RX10_165 s44 rfl ?_
  refine q_icmp_ge (tgt := 132) dX10_odds_54 (by decide) (fun c54 => ?_) (fun c54 => ?_)
  · have H := H.1 c54
    refine q_iload dX10_odds_132 rfl ?_
    refine q_istore dX10_odds_134 (by decide) rfl ?_
    refine q_iload dX10_odds_136 rfl ?_
    refine q_istore dX10_odds_138 (by decide) rfl ?_
    exact H
  · have H := H.2 c54
    refine q_aload_n dX10_odds_57 rfl ?_
    refine q_aload_n dX10_odds_58 rfl ?_
    refine q_getr (r := 45) dX10_odds_59 lf_RX10_19 s44 rfl rfl ?_
    refine q_iconst dX10_odds_62 (by decide) ?_
    refine q_iload dX10_odds_63 rfl ?_
    obtain ⟨h1, H⟩ := H
    refine q_imul dX10_odds_65 h1 ?_
    obtain ⟨h2, H⟩ := H
    obtain ⟨h3, H⟩ := H
    refine q_iald dX10_odds_66 s45 h2 h3 ?_
    obtain ⟨h4, H⟩ := H
    obtain ⟨h5, H⟩ := H
    obtain ⟨h6, H⟩ := H
    refine q_cVn (as := [vI _]) dX10_odds_67 kmX10_spreads kvX10_spreads lm_RX10_197 ⟨by decide, by decide⟩ s44 ⟨by decide, rfl⟩ rfl rfl (Nat.le_of_ble_eq_true rfl) (c_spr h4 h5 h6) (fun m1 hq => ?_)
    have H := H m1 hq
    refine q_aload_n dX10_odds_70 rfl ?_
    refine q_getr (r := 45) dX10_odds_71 lf_RX10_19 s44 rfl rfl ?_
    refine q_iconst dX10_odds_74 (by decide) ?_
    refine q_iload dX10_odds_75 rfl ?_
    refine q_imul dX10_odds_77 h1 ?_
    refine q_iconst dX10_odds_78 (by decide) ?_
    obtain ⟨h8, H⟩ := H
    refine q_iadd dX10_odds_79 h8 ?_
    obtain ⟨h9, H⟩ := H
    obtain ⟨h10, H⟩ := H
    refine q_iald dX10_odds_80 s45 h9 h10 ?_
    refine q_aload_n dX10_odds_81 rfl ?_
    refine q_getr (r := 62) dX10_odds_82 lf_RX10_72 s44 rfl rfl ?_
    refine q_aload_n dX10_odds_85 rfl ?_
    refine q_getr (r := 47) dX10_odds_86 lf_RX10_26 s44 rfl rfl ?_
    refine q_iconst dX10_odds_89 (by decide) ?_
    refine q_iload_n dX10_odds_90 rfl ?_
    obtain ⟨h11, H⟩ := H
    refine q_imul dX10_odds_91 h11 ?_
    obtain ⟨h12, H⟩ := H
    obtain ⟨h13, H⟩ := H
    refine q_iald dX10_odds_92 s47 h12 h13 ?_
    obtain ⟨h14, H⟩ := H
    obtain ⟨h15, H⟩ := H
    refine q_iald dX10_odds_93 s62 h14 h15 ?_
    obtain ⟨h16, H⟩ := H
    refine q_cSi (as := [vI _, vI _]) dX10_odds_94 kmX10_left ktX10_left lm_RX10_201 ⟨by decide, by decide⟩ rfl rfl (Nat.le_of_ble_eq_true rfl) (c_X10_left h16) (fun v m1 hq => ?_)
    obtain ⟨rfl, rfl⟩ := hq
    refine q_aload_n dX10_odds_97 rfl ?_
    refine q_getr (r := 47) dX10_odds_98 lf_RX10_26 s44 rfl rfl ?_
    refine q_iconst dX10_odds_101 (by decide) ?_
    refine q_iload_n dX10_odds_102 rfl ?_
    refine q_imul dX10_odds_103 h11 ?_
    refine q_iconst dX10_odds_104 (by decide) ?_
    obtain ⟨h17, H⟩ := H
    refine q_iadd dX10_odds_105 h17 ?_
    obtain ⟨h18, H⟩ := H
    obtain ⟨h19, H⟩ := H
    refine q_iald dX10_odds_106 s47 h18 h19 ?_
    refine q_icmp_le (tgt := 126) dX10_odds_107 (by decide) (fun c107 => ?_) (fun c107 => ?_)
    · have H := H.1 c107
      obtain ⟨h20, H⟩ := H
      refine q_iinc dX10_odds_126 rfl h20 rfl ?_
      refine q_goto (tgt := 48) dX10_odds_129 (by decide) ?_
      exact H
    · have H := H.2 c107
      refine q_iload dX10_odds_110 rfl ?_
      refine q_bipush dX10_odds_112 rfl (by decide) ?_
      refine q_iload_n dX10_odds_114 rfl ?_
      obtain ⟨h21, H⟩ := H
      refine q_isub dX10_odds_115 h21 ?_
      obtain ⟨h22, H⟩ := H
      refine q_imul dX10_odds_116 h22 ?_
      refine q_istore dX10_odds_117 (by decide) rfl ?_
      refine q_iload dX10_odds_119 rfl ?_
      refine q_bipush dX10_odds_121 rfl (by decide) ?_
      obtain ⟨h23, H⟩ := H
      refine q_imul dX10_odds_123 h23 ?_
      refine q_istore dX10_odds_124 (by decide) rfl ?_
      obtain ⟨h24, H⟩ := H
      refine q_iinc dX10_odds_126 rfl h24 rfl ?_
      refine q_goto (tgt := 48) dX10_odds_129 (by decide) ?_
      exact H
set_option maxRecDepth 20000 in
theorem v_X10_odds_140 {r p w : Int} {P : Int → Mem → Prop} {a4 : Int} {a5 : Int} {a6 : Int} {a7 : Int} {u8 : Vl} {mem : Mem}  (H : (a7 ≤ 0 → (¬ w = 0 → (0 ≤ a5) ∧ ((0 < a6) ∧ (P (a5 / a6) mem))) ∧ (w = 0 → (0 ≤ a4) ∧ ((0 < a6) ∧ (P (a4 / a6) mem)))) ∧ (0 < a7 → (0 ≤ a6) ∧ (w_X10_odds_140 r p w P a4 a5 a7 (a6 % a7) (vI (a6 % a7)) mem))) : w_X10_odds_140 r p w P a4 a5 a6 a7 u8 mem := by
  unfold w_X10_odds_140
  refine q_iload dX10_odds_140 rfl ?_
  refine q_if_le (tgt := 163) dX10_odds_142 (by decide) (fun c142 => ?_) (fun c142 => ?_)
  · have H := H.1 c142
    refine q_iload_n dX10_odds_163 rfl ?_
    refine q_if_ne (tgt := 172) dX10_odds_164 (by decide) (fun c164 => ?_) (fun c164 => ?_)
    · have H := H.1 c164
      refine q_iload dX10_odds_172 rfl ?_
      refine q_iload dX10_odds_174 rfl ?_
      obtain ⟨h1, H⟩ := H
      obtain ⟨h2, H⟩ := H
      refine q_idiv dX10_odds_176 h1 h2 ?_
      exact q_iret dX10_odds_177 rfl ⟨_, rfl, rfl, H⟩
    · have H := H.2 c164
      refine q_iload dX10_odds_167 rfl ?_
      refine q_goto (tgt := 174) dX10_odds_169 (by decide) ?_
      refine q_iload dX10_odds_174 rfl ?_
      obtain ⟨h3, H⟩ := H
      obtain ⟨h4, H⟩ := H
      refine q_idiv dX10_odds_176 h3 h4 ?_
      exact q_iret dX10_odds_177 rfl ⟨_, rfl, rfl, H⟩
  · have H := H.2 c142
    refine q_iload dX10_odds_145 rfl ?_
    refine q_iload dX10_odds_147 rfl ?_
    obtain ⟨h5, H⟩ := H
    refine q_irem dX10_odds_149 h5 c142 ?_
    refine q_istore dX10_odds_150 (by decide) rfl ?_
    refine q_iload dX10_odds_152 rfl ?_
    refine q_istore dX10_odds_154 (by decide) rfl ?_
    refine q_iload dX10_odds_156 rfl ?_
    refine q_istore dX10_odds_158 (by decide) rfl ?_
    refine q_goto (tgt := 140) dX10_odds_160 (by decide) ?_
    exact H
set_option maxRecDepth 20000 in
theorem v_X10_odds {r p w : Int} {P : Int → Mem → Prop} {mem : Mem}  (H : (inR ((mem 44 7) - 1)) ∧ ((¬ (0 ≤ r ∧ r ≤ ((mem 44 7) - 1)) → P (-1) mem) ∧ ((0 ≤ r ∧ r ≤ ((mem 44 7) - 1)) → (¬ (0 ≤ p ∧ p ≤ 10) → P (-1) mem) ∧ ((0 ≤ p ∧ p ≤ 10) → ((0 ≤ w ∧ w ≤ 1) → (hsM mem) ∧ ((moM mem) ∧ (∀ m4 : Mem, asnP mem m4 → (w_X10_odds_48 r p w P 1 1 0 (vJ 0) (vJ 0) m4)))) ∧ (¬ (0 ≤ w ∧ w ≤ 1) → P (-1) mem))))) : Tot mX10_odds 0 0 [vR 44, vI r, vI p, vI w] SH mem (Pr SH P) := by
  refine Tot.of rfl (Nat.le_of_ble_eq_true rfl) (by simp [isJ]) (ls := [vR 44, vI r, vI p, vI w, vJ 0, vJ 0, vJ 0, vJ 0, vJ 0]) rfl ?_
  refine q_iload_n dX10_odds_0 rfl ?_
  refine q_iconst dX10_odds_1 (by decide) ?_
  refine q_aload_n dX10_odds_2 rfl ?_
  refine q_geti dX10_odds_3 lf_RX10_168 s44 rfl ?_
  refine q_iconst dX10_odds_6 (by decide) ?_
  obtain ⟨h1, H⟩ := H
  refine q_isub dX10_odds_7 h1 ?_
  refine q_cSi (as := [vI _, vI _, vI _]) dX10_odds_8 kmX10_in ktX10_in lm_RX10_90 ⟨by decide, by decide⟩ rfl rfl (Nat.le_of_ble_eq_true rfl) (c_X10_in) (fun v m1 hq => ?_)
  obtain ⟨rfl, rfl⟩ := hq
  refine q_if_eq (tgt := 33) dX10_odds_11 (by decide) (fun c11 => ?_) (fun c11 => ?_)
  · have H := H.1 (b_no c11)
    refine q_iconst dX10_odds_33 (by decide) ?_
    exact q_iret dX10_odds_34 rfl ⟨_, rfl, rfl, H⟩
  · have H := H.2 (b_yes c11)
    refine q_iload_n dX10_odds_14 rfl ?_
    refine q_iconst dX10_odds_15 (by decide) ?_
    refine q_bipush dX10_odds_16 rfl (by decide) ?_
    refine q_cSi (as := [vI _, vI _, vI _]) dX10_odds_18 kmX10_in ktX10_in lm_RX10_90 ⟨by decide, by decide⟩ rfl rfl (Nat.le_of_ble_eq_true rfl) (c_X10_in) (fun v m1 hq => ?_)
    obtain ⟨rfl, rfl⟩ := hq
    refine q_if_eq (tgt := 33) dX10_odds_21 (by decide) (fun c21 => ?_) (fun c21 => ?_)
    · have H := H.1 (b_no c21)
      refine q_iconst dX10_odds_33 (by decide) ?_
      exact q_iret dX10_odds_34 rfl ⟨_, rfl, rfl, H⟩
    · have H := H.2 (b_yes c21)
      refine q_iload_n dX10_odds_24 rfl ?_
      refine q_iconst dX10_odds_25 (by decide) ?_
      refine q_iconst dX10_odds_26 (by decide) ?_
      refine q_cSi (as := [vI _, vI _, vI _]) dX10_odds_27 kmX10_in ktX10_in lm_RX10_90 ⟨by decide, by decide⟩ rfl rfl (Nat.le_of_ble_eq_true rfl) (c_X10_in) (fun v m1 hq => ?_)
      obtain ⟨rfl, rfl⟩ := hq
      refine q_if_ne (tgt := 35) dX10_odds_30 (by decide) (fun c30 => ?_) (fun c30 => ?_)
      · have H := H.1 (b_yes c30)
        refine q_aload_n dX10_odds_35 rfl ?_
        obtain ⟨h2, H⟩ := H
        obtain ⟨h3, H⟩ := H
        refine q_cVn (as := []) dX10_odds_36 kmX10_asNow kvX10_asNow lm_RX10_211 ⟨by decide, by decide⟩ s44 ⟨by decide, rfl⟩ rfl rfl (Nat.le_of_ble_eq_true rfl) (c_X10_asNow h2 h3) (fun m1 hq => ?_)
        have H := H m1 hq
        refine q_iconst dX10_odds_39 (by decide) ?_
        refine q_istore dX10_odds_40 (by decide) rfl ?_
        refine q_iconst dX10_odds_42 (by decide) ?_
        refine q_istore dX10_odds_43 (by decide) rfl ?_
        refine q_iconst dX10_odds_45 (by decide) ?_
        refine q_istore dX10_odds_46 (by decide) rfl ?_
        exact H
      · have H := H.2 (b_no c30)
        refine q_iconst dX10_odds_33 (by decide) ?_
        exact q_iret dX10_odds_34 rfl ⟨_, rfl, rfl, H⟩


def ocC (m : Mem) (r p w : Int) : Prop := (0 ≤ r ∧ r < m 44 7) ∧ (0 ≤ p ∧ p ≤ 10) ∧ (0 ≤ w ∧ w ≤ 1)
def odM (m : Mem) (r : Int) : Int → Prop := fun n => mrM m r < max 0 (mnS m n - DM m (mnC m n) (mrC m r))
def odQM (m0 : Mem) (r p w v : Int) (m : Mem) : Prop := (ocC m0 r p w ∧ (∃ m3, asnP m0 m3 ∧ v = odV (odM m3 r) (m0 44 3).toNat p w) ∧ Fr [59, 60, 61, 62] m0 m) ∨ (¬ ocC m0 r p w ∧ v = -1 ∧ m = m0)
theorem gcd_s {x y : Int} (x0 : 0 ≤ x) (y0 : 0 < y) : Int.gcd y (x % y) = Int.gcd x y := by
  obtain ⟨a, ha⟩ := Int.eq_ofNat_of_zero_le x0
  obtain ⟨b, hb⟩ := Int.eq_ofNat_of_zero_le (Int.le_of_lt y0)
  subst ha hb
  show Nat.gcd (Int.natAbs (b : Int)) (Int.natAbs ((a : Int) % (b : Int))) = Nat.gcd (Int.natAbs (a : Int)) (Int.natAbs (b : Int))
  have e : ((a : Int) % (b : Int)) = ((a % b : Nat) : Int) := (Int.natCast_emod a b).symm
  rw [e, Int.natAbs_natCast, Int.natAbs_natCast, Int.natAbs_natCast, Nat.gcd_comm a b, Nat.gcd_rec b a, Nat.gcd_comm]
theorem gc_loop {m : Mem} {r p w a4 a5 : Int} {P : Int → Mem → Prop} (h4 : 0 ≤ a4) (h5 : 1 ≤ a5) (K : P ((if w = 0 then a4 else a5) / ((Int.gcd a4 a5 : Nat) : Int)) m) : ∀ (k : Nat) (a6 a7 : Int) (u8 : Vl), 0 ≤ a6 → 0 ≤ a7 → a7.toNat ≤ k → Int.gcd a6 a7 = Int.gcd a4 a5 → w_X10_odds_140 r p w P a4 a5 a6 a7 u8 m := by
  have hpos : 0 < ((Int.gcd a4 a5 : Nat) : Int) := by
    have : 0 < Int.gcd a4 a5 := Int.gcd_pos_of_ne_zero_right _ (by omega)
    omega
  have hfin : ∀ (a6 a7 : Int), 0 ≤ a6 → a7 = 0 → Int.gcd a6 a7 = Int.gcd a4 a5 → a6 = ((Int.gcd a4 a5 : Nat) : Int) := by
    intro a6 a7 h6 e hg
    rw [← hg, e, Int.gcd_zero_right]
    omega
  intro k
  induction k with
  | zero =>
    intro a6 a7 u8 h6 h7 hk hg
    have e := hfin a6 a7 h6 (by omega) hg
    refine v_X10_odds_140 ⟨fun _ => ⟨fun z => ⟨by omega, by omega, ?_⟩, fun z => ⟨h4, by omega, ?_⟩⟩, fun q => by omega⟩
    · rw [if_neg z] at K; rw [e]; exact K
    · rw [if_pos z] at K; rw [e]; exact K
  | succ k ih =>
    intro a6 a7 u8 h6 h7 hk hg
    refine v_X10_odds_140 ⟨fun q => ?_, fun q => ⟨h6, ih _ _ _ (by omega) (Int.emod_nonneg _ (by omega)) ?_ ?_⟩⟩
    · have e := hfin a6 a7 h6 (by omega) hg
      refine ⟨fun z => ⟨by omega, by omega, ?_⟩, fun z => ⟨h4, by omega, ?_⟩⟩
      · rw [if_neg z] at K; rw [e]; exact K
      · rw [if_pos z] at K; rw [e]; exact K
    · have := Int.emod_lt_of_pos a6 q
      have := Int.emod_nonneg a6 (show a7 ≠ 0 by omega)
      omega
    · rw [gcd_s h6 q]; exact hg
theorem odd_1 {P : Int → Prop} {k : Nat} : 1 ≤ oddF P 10 k := by
  obtain ⟨j, -, e⟩ := oddF_pow (P := P) k
  rw [e]
  exact Int.pow_pos (by decide)
theorem mod_loop {m0 m3 : Mem} {r p w : Int} (hh : hsM m0) (h3 : asnP m0 m3) (hc : ocC m0 r p w) : ∀ (k : Nat) (a6 : Int) (u7 u8 : Vl) (m : Mem), 0 ≤ a6 → a6 ≤ m0 44 3 → (m0 44 3 - a6).toNat ≤ k → Fr [62] m3 m → w_X10_odds_48 r p w (odQM m0 r p w) (oddF (odM m3 r) (10 - p) a6.toNat) (oddF (odM m3 r) 10 a6.toNat) a6 u7 u8 m := by
  have hy := asn_rd hh h3
  have hn := nM_b hy.1
  have h33 := hh.2.2.2.2.1
  have h77 := hh.2.2.2.2.2.2.1
  have hfin : ∀ (a6 : Int) (u8 : Vl) (m : Mem), a6 = m0 44 3 → Fr [62] m3 m → w_X10_odds_140 r p w (odQM m0 r p w) (oddF (odM m3 r) (10 - p) a6.toNat) (oddF (odM m3 r) 10 a6.toNat) (oddF (odM m3 r) (10 - p) a6.toNat) (oddF (odM m3 r) 10 a6.toNat) u8 m := by
    intro a6 u8 m e hF
    have hb := odd_b (P := odM m3 r) (k := a6.toNat) hc.2.1.1 hc.2.1.2 (by omega)
    refine gc_loop hb.1.1 odd_1 (Or.inl ⟨hc, ⟨m3, h3, ?_⟩, (h3.1.mono (by decide)).tr (hF.mono (by decide))⟩) _ _ _ _ hb.1.1 hb.2.1.1 (Nat.le_refl _) rfl
    rw [e]
    rfl
  intro k
  induction k with
  | zero =>
    intro a6 u7 u8 m h0 h1 hk hF
    refine v_X10_odds_48 ⟨fun _ => hfin a6 _ m (by omega) hF, fun q => ?_⟩
    rw [hF.at 44, h3.1.at 44] at q
    omega
  | succ k ih =>
    intro a6 u7 u8 m h0 h1 hk hF
    refine v_X10_odds_48 ⟨fun q => hfin a6 _ m (by rw [hF.at 44, h3.1.at 44] at q; omega) hF, fun q => ?_⟩
    rw [hF.at 44, h3.1.at 44] at q
    have q3 : a6 < m3 44 3 := by rw [h3.1.at 44]; exact q
    have hno := hy.1.2.2.2.2.2.2.2.1 a6 h0 q3
    have hro := hy.1.2.2.2.2.2.2.2.2.2 r hc.1.1 (by rw [h3.1.at 44]; exact hc.1.2)
    rw [hF.at 45]
    refine ⟨by unfold inR; omega, by omega, by omega, (okGM_fr hF).2.2 hy.2, hno.1.1, by rw [nM_fr hF]; exact hno.1.2, fun m7 h7 => ?_⟩
    have hF7 := hF.tr h7.1
    rw [hF7.at 45, hF7.at 47]
    have e62 : m7 62 (m3 47 (4 * r).toNat).toNat = DM m3 (mnC m3 a6) (mrC m3 r) := by
      rw [← DM_fr hF]
      exact h7.2 _ hro.1.1 (by rw [nM_fr hF]; exact hro.1.2)
    rw [e62]
    have hdb := DM_b hy hno.1.1 hno.1.2 hro.1.1 hro.1.2
    have hS : 1 ≤ m3 45 (4 * a6 + 1).toNat ∧ m3 45 (4 * a6 + 1).toNat ≤ 99 := hno.2.1
    have h12 : mrC m3 r < 12 := Int.lt_of_lt_of_le hro.1.2 hn.2
    have hr3 := hc.1
    have hb := odd_b (P := odM m3 r) (k := a6.toNat) hc.2.1.1 hc.2.1.2 (by omega)
    have ek : (a6 + 1).toNat = a6.toNat + 1 := by omega
    have ea : ((a6.toNat : Nat) : Int) = a6 := by omega
    refine ⟨by unfold inR; omega, by omega, by omega, by unfold inR; omega, by omega, by omega, hro.1.1, h12, by unfold inR; omega, by unfold inR; omega, by omega, by omega, fun z => ⟨by unfold inR; omega, ?_⟩, fun z => ⟨by have := hc.2.1; unfold inR; omega, ?_, by unfold inR; omega, by unfold inR; omega, ?_⟩⟩
    · have c' : ¬ odM m3 r ((a6.toNat : Nat) : Int) := by
        rw [ea]
        exact Int.not_lt.mpr z
      have := ih (a6 + 1) u7 u8 m7 (by omega) (by omega) (by omega) hF7
      rw [ek, oddF_f c', oddF_f c'] at this
      exact this
    · have hp := hc.2.1
      generalize oddF (odM m3 r) (10 - p) a6.toNat = x at hb ⊢
      have u1 : 0 ≤ x * (10 - p) := Int.mul_nonneg hb.1.1 (by omega)
      have u2 : x * (10 - p) ≤ 1000 * 10 := Int.mul_le_mul hb.1.2 (by omega) (by omega) (by decide)
      unfold inR
      omega
    · have c' : odM m3 r ((a6.toNat : Nat) : Int) := by
        rw [ea]
        exact z
      have := ih (a6 + 1) u7 u8 m7 (by omega) (by omega) (by omega) hF7
      rw [ek, oddF_t c', oddF_t c'] at this
      exact this
theorem c_X10_odds {m0 : Mem} {r p w : Int} (hh : hsM m0) (hm : moM m0) : Tot mX10_odds 0 0 [vR 44, vI r, vI p, vI w] SH m0 (Pr SH (odQM m0 r p w)) := by
  have h33 := hh.2.2.2.2.1
  have h77 := hh.2.2.2.2.2.2.1
  refine v_X10_odds ⟨by unfold inR; omega, fun q => Or.inr ⟨fun z => q (by have := z.1; omega), rfl, rfl⟩, fun q => ⟨fun q2 => Or.inr ⟨fun z => q2 z.2.1, rfl, rfl⟩, fun q2 => ⟨fun q3 => ⟨hh, hm, fun m4 h4 => ?_⟩, fun q3 => Or.inr ⟨fun z => q3 z.2.2, rfl, rfl⟩⟩⟩⟩
  exact mod_loop hh h4 ⟨⟨q.1, by omega⟩, q2, q3⟩ _ 0 _ _ m4 (by omega) (by omega) (Nat.le_refl _) Fr.rf
