/-! THE BUYER: floors with more sheets on them, ranks -/
noncomputable abbrev onQ (m : Mem) (li : Int → Int) : Int → Int := onF (m 4 3) (shW m) (shL m) li (m 7 2).toNat
noncomputable abbrev DQ (m : Mem) (li : Int → Int) (th : Nat → Int) : Int → Int → Int := dist (m 4 5) (m 4 3) (takeF (m 4 6) (fun x => onQ m li x) th)
theorem DD_DQ {m0 m : Mem} {li : Int → Int} {th : Nat → Int} (hh : hsD m0) (hf : flOK m) (hF : Fr [35, 36, 38, 39, 40, 42] m0 m) (hon : ∀ x : Int, 0 ≤ x → x < 12 → m 35 x.toNat = onQ m0 li x) (hth : ∀ s : Int, 0 ≤ s → s < m0 7 2 → m 36 s.toNat = th s.toNat) {f c : Int} (f0 : 0 ≤ f) (fn : f < m0 4 5) (c0 : 0 ≤ c) (cn : c < m0 4 5) : DD m f c = DQ m0 li th f c := by
  obtain ⟨hg, hcs⟩ := okGD_g hf.1
  have hn := nD_b hh
  have hns := hh.2.2.2.2.2.2.1
  have e4 : m 4 = m0 4 := hF.at 4
  unfold DQ DD
  rw [e4] at hg hcs ⊢
  refine dist_congr hg hcs f0 fn (fun a b a0 an b0 bn => ?_) c0 cn
  have ea := hon a a0 (by omega)
  have eb := hon b b0 (by omega)
  have q := onF_b (w := m0 4 3) (wi := shW m0) (lo := shL m0) (li := li) (m0 7 2).toNat b
  show takeF (m 4 6) (m 35) (m 36) a b = takeF (m0 4 6) (fun x => onQ m0 li x) th a b
  have xa : ((a.toNat : Nat) : Int) = a := by omega
  have xb : ((b.toNat : Nat) : Int) = b := by omega
  unfold takeF
  simp only [xa, xb]
  rw [ea, eb, e4]
  have q' : onQ m0 li b = -9 ∨ (0 ≤ onQ m0 li b ∧ onQ m0 li b < ((m0 7 2).toNat : Nat)) := q
  revert q'
  generalize onQ m0 li b = z
  intro q'
  by_cases e : z = -9
  · rw [if_pos e, if_pos e]
  · have et := hth z (by omega) (by omega)
    rw [if_neg e, if_neg e, et]
noncomputable abbrev lwQ (m : Mem) (li : Int → Int) (th : Nat → Int) (c p q : Int) : Int := loudF (noA m) (noB m) (noS m) (noC m) (DQ m li th) c p q (m 5 2).toNat
def qzQ (m : Mem) (li : Int → Int) : Prop := ∀ r : Int, 0 ≤ r → r < m 9 2 → ¬ roM m r < lwQ m li (fun i => thD m 20 i) (roC m r) (roA m r) (roB m r)
def fupd (li : Int → Int) (s c : Int) : Int → Int := fun i => if i = s then c else li i
def legQ (m : Mem) (li : Int → Int) (s c : Int) : Prop := fitsAt (m 4 3) (m 4 4) (shW m s) (shL m s) c ∧ ∀ x : Int, 0 ≤ x → x < 12 → cov (m 4 3) (shW m s) (shL m s) c x → onQ m li x = -9
theorem onF_put {w : Int} {wi lo li : Int → Int} {s c x : Int} (hs : li s = -9) (s0 : 0 ≤ s) (hc : c ≠ -9) : ∀ (k : Nat), (cov w (wi s) (lo s) c x → onF w wi lo li k x = -9) → (s < k → (cov w (wi s) (lo s) c x → onF w wi lo (fupd li s c) k x = s) ∧ (¬ cov w (wi s) (lo s) c x → onF w wi lo (fupd li s c) k x = onF w wi lo li k x)) ∧ (k ≤ s → onF w wi lo (fupd li s c) k x = onF w wi lo li k x)
  | 0, _ => ⟨fun h => by omega, fun _ => rfl⟩
  | k + 1, h => by
    have hk : cov w (wi s) (lo s) c x → onF w wi lo li k x = -9 := fun q => by
      have h1 := h q
      simp only [onF] at h1
      split at h1
      · omega
      · exact h1
    have ih := onF_put hs s0 hc k hk
    simp only [onF]
    refine ⟨fun hsk => ?_, fun hks => ?_⟩
    · by_cases e : (k : Int) = s
      · have e1 : fupd li s c k = c := by unfold fupd; rw [if_pos e]
        have e2 : onF w wi lo (fupd li s c) k x = onF w wi lo li k x := ih.2 (by omega)
        have e3 : ¬ (li k ≠ -9 ∧ cov w (wi k) (lo k) (li k) x) := fun z => z.1 (by rw [e]; exact hs)
        rw [e1, e2, if_neg e3]
        refine ⟨fun q => ?_, fun q => ?_⟩
        · rw [if_pos ⟨hc, by rw [e]; exact q⟩, e]
        · rw [if_neg (fun z => q (by rw [← e]; exact z.2))]
      · have e1 : fupd li s c k = li k := by unfold fupd; rw [if_neg e]
        rw [e1]
        have ih1 := ih.1 (by omega)
        refine ⟨fun q => ?_, fun q => ?_⟩
        · have h1 := h q
          simp only [onF] at h1
          split at h1
          · omega
          · next z => rw [if_neg z]; exact ih1.1 q
        · rw [ih1.2 q]
    · have e1 : fupd li s c k = li k := by unfold fupd; rw [if_neg (by omega)]
      rw [e1, ih.2 (by omega)]
def flI (m0 : Mem) (li : Int → Int) (m : Mem) : Prop := Fr [35, 36, 38, 39, 40, 42] m0 m ∧ rdy m ∧ (∀ x : Int, 0 ≤ x → x < 12 → m 35 x.toNat = onQ m0 li x) ∧ ∀ s : Int, 0 ≤ s → s < m0 7 2 → m 36 s.toNat = thD m0 20 s
theorem fl_can {m0 m : Mem} {li : Int → Int} {s c : Int} (h : flI m0 li m) : canP (m 4 3) (m 4 4) (shW m s) (shL m s) c (m 35) ↔ legQ m0 li s c := by
  obtain ⟨hF, -, hon, -⟩ := h
  unfold canP legQ
  rw [hF.at 4, (sh_fr hF).1, (sh_fr hF).2.1]
  refine ⟨fun ⟨a, b⟩ => ⟨a, fun x x0 x1 q => ?_⟩, fun ⟨a, b⟩ => ⟨a, fun x x0 x1 q => ?_⟩⟩
  · rw [← hon x x0 x1]; exact b x x0 x1 q
  · rw [hon x x0 x1]; exact b x x0 x1 q
theorem fl_qz {m0 m : Mem} {li : Int → Int} (hh : hsD m0) (h : flI m0 li m) : (∀ r : Int, 0 ≤ r → r < m 9 2 → ¬ wakP m r) ↔ qzQ m0 li := by
  obtain ⟨hF, hy, hon, hth⟩ := h
  have h5 := hh.2.2.2.2.2.1
  have hno := hh.2.2.2.2.2.2.2.2.1
  have hro := hh.2.2.2.2.2.2.2.2.2.2
  have e : ∀ r : Int, 0 ≤ r → r < m0 9 2 → (wakP m r ↔ roM m0 r < lwQ m0 li (fun i => thD m0 20 i) (roC m0 r) (roA m0 r) (roB m0 r)) := by
    intro r r0 rn
    have q := hro r r0 rn
    unfold wakP lrD
    rw [(ro_fr hF).1, (ro_fr hF).2.1, (ro_fr hF).2.2.1, (ro_fr hF).2.2.2]
    unfold ldD lwQ
    rw [(no_fr hF).1, (no_fr hF).2.1, (no_fr hF).2.2.1, (no_fr hF).2.2.2, hF.at 5]
    rw [loudF_congr (D' := DQ m0 li (fun i => thD m0 20 i)) _ (fun i i0 ik => ⟨rfl, rfl, rfl, ?_⟩)]
    have p := hno i i0 (by omega)
    refine DD_DQ hh hy.2.1 hF hon (fun s s0 sn => ?_) p.1.1 p.1.2 q.1.1 q.1.2
    rw [hth s s0 sn, show ((s.toNat : Nat) : Int) = s by omega]
  unfold qzQ
  rw [hF.at 9]
  exact ⟨fun h r r0 rn z => h r r0 rn ((e r r0 rn).mpr z), fun h r r0 rn z => h r r0 rn ((e r r0 rn).mp z)⟩
theorem leg_c {m : Mem} {li : Int → Int} {s c : Int} (h : legQ m li s c) : 0 ≤ c := h.1.1
theorem fl_cov {m0 m m1 m' : Mem} {li : Int → Int} {s c : Int} (hl : li s = -9) (s0 : 0 ≤ s) (sn : s < m0 7 2) (h : flI m0 li m) (hg : legQ m0 li s c) (hc : covP m s c m1) (hF' : Fr [39, 40, 42] m1 m') (hlo : losOK m') : flI m0 (fupd li s c) m' := by
  obtain ⟨hF, hy, hon, hth⟩ := h
  obtain ⟨c1, c2, c3, c4⟩ := hc
  have h0 := leg_c hg
  have hL : Fr [35, 38, 39, 40, 42] m m' := (c1.mono (by decide)).tr (hF'.mono (by decide))
  refine ⟨hF.tr (hL.mono (by decide)), ⟨(hsD_fr hL).mpr hy.1, (flOK_fr hF').mpr c2, hlo⟩, fun x x0 x1 => ?_, fun t t0 tn => ?_⟩
  · have p := c4 x x0 x1
    rw [hF.at 4, (sh_fr hF).1, (sh_fr hF).2.1] at p
    have q := (onF_put (w := m0 4 3) (wi := shW m0) (lo := shL m0) (x := x) hl s0 (by omega) (m0 7 2).toNat (fun z => hg.2 x x0 x1 z)).1 (by omega)
    rw [hF'.at 35]
    by_cases z : cov (m0 4 3) (shW m0 s) (shL m0 s) c x
    · rw [p.1 z]
      exact (q.1 z).symm
    · rw [p.2 z, hon x x0 x1]
      exact (q.2 z).symm
  · rw [hL.at 36]
    exact hth t t0 tn
theorem fl_unc {m0 m m1 : Mem} {li : Int → Int} {s c : Int} (hl : li s = -9) (s0 : 0 ≤ s) (sn : s < m0 7 2) (h : flI m0 (fupd li s c) m) (hg : legQ m0 li s c) (hc : uncP m s m1) : flI m0 li m1 ∧ m1 42 = m 42 := by
  obtain ⟨hF, hy, hon, hth⟩ := h
  obtain ⟨c1, c2, c3, c4⟩ := hc
  have h0 := leg_c hg
  refine ⟨⟨hF.tr (c1.mono (by decide)), ⟨(hsD_fr c1).mpr hy.1, c2, c3⟩, fun x x0 x1 => ?_, fun t t0 tn => ?_⟩, c1.at 42⟩
  · have q := (onF_put (w := m0 4 3) (wi := shW m0) (lo := shL m0) (x := x) hl s0 (by omega) (m0 7 2).toNat (fun z => hg.2 x x0 x1 z)).1 (by omega)
    have hne : onQ m0 li x ≠ s := fun z => (onF_li s0 _ z).1 hl
    rw [c4 x x0 x1, hon x x0 x1]
    by_cases z : cov (m0 4 3) (shW m0 s) (shL m0 s) c x
    · rw [if_pos (q.1 z)]
      exact (hg.2 x x0 x1 z).symm
    · have e : onQ m0 (fupd li s c) x = onQ m0 li x := q.2 z
      rw [e, if_neg hne]
  · rw [c1.at 36]
    exact hth t t0 tn
theorem fl_0 {m0 m m' : Mem} (hs : shoP m0 19 20 m) (hh : hsD m0) (hF : Fr [39, 40, 42] m m') (hl : losOK m') : flI m0 (liD m0 19) m' := by
  have hL : Fr [35, 36, 38, 39, 40, 42] m0 m' := (hs.1.mono (by decide)).tr (hF.mono (by decide))
  refine ⟨hL, ⟨(hsD_fr hL).mpr hh, (flOK_fr hF).mpr hs.2.1, hl⟩, fun x x0 x1 => ?_, fun t t0 tn => ?_⟩
  · rw [hF.at 35]; exact hs.2.2.2.1 x x0 x1
  · rw [hF.at 36]; exact hs.2.2.2.2 t t0 tn
/-! ranks -/
def pvF (s : Int) : Int := if s = 0 then 2197 else if s = 1 then 169 else if s = 2 then 13 else 1
def r1F (pr : Int → Int) (s c : Int) : Int := pr s * 28561 + (c + 1) * pvF s
def ceV (b s : Int) : Int := if b / pvF s % 13 = 0 then -5 else b / pvF s % 13 - 1
theorem pvF_13 {a : Int} (h1 : 1 ≤ a) (h3 : a ≤ 3) : pvF (a - 1) = pvF a * 13 := by
  have h : a = 1 ∨ a = 2 ∨ a = 3 := by omega
  rcases h with h | h | h <;> subst h <;> decide
theorem pvF_b {a : Int} : 1 ≤ pvF a ∧ pvF a ≤ 2197 := by
  unfold pvF
  split
  · omega
  · split
    · omega
    · split <;> omega
theorem r1F_b {pr : Int → Int} {s c : Int} (hp : 1 ≤ pr s ∧ pr s ≤ 9) (c0 : 0 ≤ c) (c1 : c < 12) : 28562 ≤ r1F pr s c ∧ r1F pr s c ≤ 283413 := by
  have h := pvF_b (a := s)
  unfold r1F
  have h1 : (c + 1) * pvF s ≤ 12 * 2197 := Int.mul_le_mul (by omega) h.2 (by omega) (by decide)
  have h2 : 1 * 1 ≤ (c + 1) * pvF s := Int.mul_le_mul (by omega) h.1 (by decide) (by omega)
  omega
def w_X0_rankOf_15 (l : Int) (P : Int → Mem → Prop) (a2 : Int) (a3 : Int) (a4 : Int) (mem : Mem) : Prop := WP mX0_rankOf none 0 0 (Pr SH P) 15 [vR 42, vI l, vI a2, vI a3, vI a4] [] SH mem
set_option maxRecDepth 20000 in
theorem v_X0_rankOf_15 {l : Int} {P : Int → Mem → Prop} {a2 : Int} {a3 : Int} {a4 : Int} {mem : Mem}  (H : (a4 ≤ a2 → (mem 7 2 * 4 ≤ 16) ∧ ((inR ((getF (mem 8) (mem 7 2) a2 3) * 28561)) ∧ ((inR (((getF (mem 8) (mem 7 2) a2 3) * 28561) + a3)) ∧ (P (((getF (mem 8) (mem 7 2) a2 3) * 28561) + a3) mem)))) ∧ (a2 < a4 → (inR (a3 * 13)) ∧ ((inR (a4 + (-1))) ∧ (w_X0_rankOf_15 l P a2 (a3 * 13) (a4 + (-1)) mem)))) : w_X0_rankOf_15 l P a2 a3 a4 mem := by
  unfold w_X0_rankOf_15
  refine q_iload dX0_rankOf_15 rfl ?_
  refine q_iload_n dX0_rankOf_17 rfl ?_
  refine q_icmp_le (tgt := 32) dX0_rankOf_18 (by decide) (fun c18 => ?_) (fun c18 => ?_)
  · have H := H.1 c18
    refine q_aload_n dX0_rankOf_32 rfl ?_
    refine q_getr (r := 4) dX0_rankOf_33 lf_RX0_16 s42 rfl rfl ?_
    refine q_getr (r := 7) dX0_rankOf_36 lf_RX0_28 s4 rfl rfl ?_
    refine q_iload_n dX0_rankOf_39 rfl ?_
    refine q_iconst dX0_rankOf_40 (by decide) ?_
    obtain ⟨h1, H⟩ := H
    refine q_cVi (as := [vI _, vI _]) dX0_rankOf_41 kmX6_get kvX6_get lm_RX0_77 ⟨by decide, by decide⟩ s7 ⟨by decide, rfl⟩ rfl rfl (Nat.le_of_ble_eq_true rfl) (c_X6_get s7 s8 h1) (fun v m1 hq => ?_)
    obtain ⟨rfl, rfl⟩ := hq
    refine q_sipush dX0_rankOf_44 rfl (by decide) ?_
    obtain ⟨h2, H⟩ := H
    refine q_imul dX0_rankOf_47 h2 ?_
    refine q_iload_n dX0_rankOf_48 rfl ?_
    obtain ⟨h3, H⟩ := H
    refine q_iadd dX0_rankOf_49 h3 ?_
    exact q_iret dX0_rankOf_50 rfl ⟨_, rfl, rfl, H⟩
  · have H := H.2 c18
    refine q_iload_n dX0_rankOf_21 rfl ?_
    refine q_bipush dX0_rankOf_22 rfl (by decide) ?_
    obtain ⟨h4, H⟩ := H
    refine q_imul dX0_rankOf_24 h4 ?_
    refine q_istore_n dX0_rankOf_25 (by decide) rfl ?_
    obtain ⟨h5, H⟩ := H
    refine q_iinc dX0_rankOf_26 rfl h5 rfl ?_
    refine q_goto (tgt := 15) dX0_rankOf_29 (by decide) ?_
    exact H
set_option maxRecDepth 20000 in
theorem v_X0_rankOf {l : Int} {P : Int → Mem → Prop} {mem : Mem}  (H : (0 ≤ l) ∧ ((inR ((l % 12) + 1)) ∧ (w_X0_rankOf_15 l P (l / 12) ((l % 12) + 1) 3 mem))) : Tot mX0_rankOf 0 0 [vR 42, vI l] SH mem (Pr SH P) := by
  refine Tot.of rfl (Nat.le_of_ble_eq_true rfl) (by simp [isJ]) (ls := [vR 42, vI l, vJ 0, vJ 0, vJ 0]) rfl ?_
  refine q_iload_n dX0_rankOf_0 rfl ?_
  refine q_bipush dX0_rankOf_1 rfl (by decide) ?_
  obtain ⟨h1, H⟩ := H
  refine q_idiv dX0_rankOf_3 h1 (by decide) ?_
  refine q_istore_n dX0_rankOf_4 (by decide) rfl ?_
  refine q_iload_n dX0_rankOf_5 rfl ?_
  refine q_bipush dX0_rankOf_6 rfl (by decide) ?_
  refine q_irem dX0_rankOf_8 h1 (by decide) ?_
  refine q_iconst dX0_rankOf_9 (by decide) ?_
  obtain ⟨h2, H⟩ := H
  refine q_iadd dX0_rankOf_10 h2 ?_
  refine q_istore_n dX0_rankOf_11 (by decide) rfl ?_
  refine q_iconst dX0_rankOf_12 (by decide) ?_
  refine q_istore dX0_rankOf_13 (by decide) rfl ?_
  exact H

set_option maxRecDepth 20000 in
theorem v_X0_hasFound {P : Int → Mem → Prop} {mem : Mem}  (H : (28561000 ≤ (mem 42 3) → P 0 mem) ∧ ((mem 42 3) < 28561000 → P 1 mem)) : Tot mX0_hasFound 0 0 [vR 42] SH mem (Pr SH P) := by
  refine Tot.of rfl (Nat.le_of_ble_eq_true rfl) (by simp [isJ]) (ls := [vR 42]) rfl ?_
  refine q_aload_n dX0_hasFound_0 rfl ?_
  refine q_geti dX0_hasFound_1 lf_RX0_12 s42 rfl ?_
  refine q_ldc (n := 28561000) dX0_hasFound_4 lk_RX0_11 (by decide) ?_
  refine q_icmp_ge (tgt := 13) dX0_hasFound_6 (by decide) (fun c6 => ?_) (fun c6 => ?_)
  · have H := H.1 c6
    refine q_iconst dX0_hasFound_13 (by decide) ?_
    exact q_zret dX0_hasFound_14 rfl (by decide) ⟨_, rfl, rfl, H⟩
  · have H := H.2 c6
    refine q_iconst dX0_hasFound_9 (by decide) ?_
    refine q_goto (tgt := 14) dX0_hasFound_10 (by decide) ?_
    exact q_zret dX0_hasFound_14 rfl (by decide) ⟨_, rfl, rfl, H⟩

set_option maxRecDepth 20000 in
theorem v_X0_price {P : Int → Mem → Prop} {mem : Mem}  (H : (0 ≤ (mem 42 3)) ∧ (P ((mem 42 3) / 28561) mem)) : Tot mX0_price 0 0 [vR 42] SH mem (Pr SH P) := by
  refine Tot.of rfl (Nat.le_of_ble_eq_true rfl) (by simp [isJ]) (ls := [vR 42]) rfl ?_
  refine q_aload_n dX0_price_0 rfl ?_
  refine q_geti dX0_price_1 lf_RX0_12 s42 rfl ?_
  refine q_sipush dX0_price_4 rfl (by decide) ?_
  obtain ⟨h1, H⟩ := H
  refine q_idiv dX0_price_7 h1 (by decide) ?_
  exact q_iret dX0_price_8 rfl ⟨_, rfl, rfl, H⟩

def w_X0_cellOf_7 (s : Int) (P : Int → Mem → Prop) (a2 : Int) (a3 : Int) (mem : Mem) : Prop := WP mX0_cellOf none 0 0 (Pr SH P) 7 [vR 42, vI s, vI a2, vI a3] [] SH mem
set_option maxRecDepth 20000 in
theorem v_X0_cellOf_7 {s : Int} {P : Int → Mem → Prop} {a2 : Int} {a3 : Int} {mem : Mem}  (H : (a3 ≤ s → (0 ≤ a2) ∧ ((¬ (a2 % 13) = 0 → (inR ((a2 % 13) - 1)) ∧ (P ((a2 % 13) - 1) mem)) ∧ ((a2 % 13) = 0 → P (-5) mem))) ∧ (s < a3 → (0 ≤ a2) ∧ ((inR (a3 + (-1))) ∧ (w_X0_cellOf_7 s P (a2 / 13) (a3 + (-1)) mem)))) : w_X0_cellOf_7 s P a2 a3 mem := by
  unfold w_X0_cellOf_7
  refine q_iload_n dX0_cellOf_7 rfl ?_
  refine q_iload_n dX0_cellOf_8 rfl ?_
  refine q_icmp_le (tgt := 23) dX0_cellOf_9 (by decide) (fun c9 => ?_) (fun c9 => ?_)
  · have H := H.1 c9
    refine q_iload_n dX0_cellOf_23 rfl ?_
    refine q_bipush dX0_cellOf_24 rfl (by decide) ?_
    obtain ⟨h1, H⟩ := H
    refine q_irem dX0_cellOf_26 h1 (by decide) ?_
    refine q_if_ne (tgt := 35) dX0_cellOf_27 (by decide) (fun c27 => ?_) (fun c27 => ?_)
    · have H := H.1 c27
      refine q_iload_n dX0_cellOf_35 rfl ?_
      refine q_bipush dX0_cellOf_36 rfl (by decide) ?_
      refine q_irem dX0_cellOf_38 h1 (by decide) ?_
      refine q_iconst dX0_cellOf_39 (by decide) ?_
      obtain ⟨h2, H⟩ := H
      refine q_isub dX0_cellOf_40 h2 ?_
      exact q_iret dX0_cellOf_41 rfl ⟨_, rfl, rfl, H⟩
    · have H := H.2 c27
      refine q_bipush dX0_cellOf_30 rfl (by decide) ?_
      refine q_goto (tgt := 41) dX0_cellOf_32 (by decide) ?_
      exact q_iret dX0_cellOf_41 rfl ⟨_, rfl, rfl, H⟩
  · have H := H.2 c9
    refine q_iload_n dX0_cellOf_12 rfl ?_
    refine q_bipush dX0_cellOf_13 rfl (by decide) ?_
    obtain ⟨h3, H⟩ := H
    refine q_idiv dX0_cellOf_15 h3 (by decide) ?_
    refine q_istore_n dX0_cellOf_16 (by decide) rfl ?_
    obtain ⟨h4, H⟩ := H
    refine q_iinc dX0_cellOf_17 rfl h4 rfl ?_
    refine q_goto (tgt := 7) dX0_cellOf_20 (by decide) ?_
    exact H
set_option maxRecDepth 20000 in
theorem v_X0_cellOf {s : Int} {P : Int → Mem → Prop} {mem : Mem}  (H : w_X0_cellOf_7 s P (mem 42 3) 3 mem) : Tot mX0_cellOf 0 0 [vR 42, vI s] SH mem (Pr SH P) := by
  refine Tot.of rfl (Nat.le_of_ble_eq_true rfl) (by simp [isJ]) (ls := [vR 42, vI s, vJ 0, vJ 0]) rfl ?_
  refine q_aload_n dX0_cellOf_0 rfl ?_
  refine q_geti dX0_cellOf_1 lf_RX0_12 s42 rfl ?_
  refine q_istore_n dX0_cellOf_4 (by decide) rfl ?_
  refine q_iconst dX0_cellOf_5 (by decide) ?_
  refine q_istore_n dX0_cellOf_6 (by decide) rfl ?_
  exact H


def rkQ (m : Mem) (l : Int) : Prop := hsD m ∧ 0 ≤ l ∧ l < 12 * m 7 2
noncomputable def rkV (m : Mem) (l : Int) : Int := r1F (shP m) (l / 12) (l % 12)
theorem rk_loop {m0 : Mem} {l : Int} (hq : rkQ m0 l) : ∀ (k : Nat) (a3 a4 : Int), l / 12 ≤ a4 → a4 ≤ 3 → (a4 - l / 12).toNat ≤ k → a3 = (l % 12 + 1) * pvF a4 → w_X0_rankOf_15 l (Pv (rkV m0 l) m0) (l / 12) a3 a4 m0 := by
  obtain ⟨hh, l0, ln⟩ := hq
  have h7 := hh.2.2.2.2.2.2.1
  have hp : 1 ≤ shP m0 (l / 12) ∧ shP m0 (l / 12) ≤ 9 := (hh.2.2.2.2.2.2.2.2.2.1 (l / 12) (by omega) (by omega)).2.2.2
  have hfin : ∀ (a3 a4 : Int), a4 = l / 12 → a3 = (l % 12 + 1) * pvF a4 → (m0 7 2 * 4 ≤ 16) ∧ ((inR ((getF (m0 8) (m0 7 2) (l / 12) 3) * 28561)) ∧ ((inR (((getF (m0 8) (m0 7 2) (l / 12) 3) * 28561) + a3)) ∧ (Pv (rkV m0 l) m0 (((getF (m0 8) (m0 7 2) (l / 12) 3) * 28561) + a3) m0))) := by
    intro a3 a4 e e3
    have hb := r1F_b (s := l / 12) (c := l % 12) hp (by omega) (by omega)
    have ev : shP m0 (l / 12) * 28561 + a3 = rkV m0 l := by rw [e3, e]; rfl
    have ev2 : rkV m0 l = r1F (shP m0) (l / 12) (l % 12) := rfl
    have hp' : 1 ≤ getF (m0 8) (m0 7 2) (l / 12) 3 ∧ getF (m0 8) (m0 7 2) (l / 12) 3 ≤ 9 := hp
    have ev' : getF (m0 8) (m0 7 2) (l / 12) 3 * 28561 + a3 = rkV m0 l := ev
    exact ⟨by omega, by unfold inR; omega, by unfold inR; omega, ev', rfl⟩
  intro k
  induction k with
  | zero =>
    intro a3 a4 h0 h1 hk e
    exact v_X0_rankOf_15 ⟨fun _ => hfin a3 a4 (by omega) e, fun q => by omega⟩
  | succ k ih =>
    intro a3 a4 h0 h1 hk e
    refine v_X0_rankOf_15 ⟨fun q => hfin a3 a4 (by omega) e, fun q => ⟨?_, by unfold inR; omega, ?_⟩⟩
    · have h := pvF_b (a := a4)
      have h2 : (l % 12 + 1) * pvF a4 ≤ 12 * 2197 := Int.mul_le_mul (by omega) h.2 (by omega) (by decide)
      have h3 : 0 ≤ (l % 12 + 1) * pvF a4 := Int.mul_nonneg (by omega) (by omega)
      rw [← e] at h2 h3
      unfold inR
      omega
    · refine ih _ _ (by omega) (by omega) (by omega) ?_
      rw [show a4 + -1 = a4 - 1 by omega, pvF_13 (by omega) h1, e, Int.mul_assoc]
theorem c_X0_rankOf {m0 : Mem} {l : Int} (hq : rkQ m0 l) : Tot mX0_rankOf 0 0 [vR 42, vI l] SH m0 (Pr SH (Pv (rkV m0 l) m0)) := by
  have hq' := hq
  obtain ⟨hh, l0, ln⟩ := hq'
  have h7 := hh.2.2.2.2.2.2.1
  exact v_X0_rankOf ⟨l0, by unfold inR; omega, rk_loop hq 3 _ 3 (by omega) (by omega) (by omega) (by show _ = _ * pvF 3; rw [show pvF 3 = 1 from rfl, Int.mul_one])⟩
theorem c_X0_hasFound {m0 : Mem} : Tot mX0_hasFound 0 0 [vR 42] SH m0 (Pr SH (Pv (if m0 42 3 < 28561000 then 1 else 0) m0)) :=
  v_X0_hasFound ⟨fun q => by rw [if_neg (by omega)]; exact ⟨rfl, rfl⟩, fun q => by rw [if_pos q]; exact ⟨rfl, rfl⟩⟩
theorem c_X0_price {m0 : Mem} (h : 0 ≤ m0 42 3) : Tot mX0_price 0 0 [vR 42] SH m0 (Pr SH (Pv (m0 42 3 / 28561) m0)) := v_X0_price ⟨h, rfl, rfl⟩
theorem ce_loop {m0 : Mem} {s : Int} (hb : 0 ≤ m0 42 3) (s0 : 0 ≤ s) (s1 : s < 4) : ∀ (k : Nat) (a2 a3 : Int), s ≤ a3 → a3 ≤ 3 → (a3 - s).toNat ≤ k → a2 = m0 42 3 / pvF a3 → w_X0_cellOf_7 s (Pv (ceV (m0 42 3) s) m0) a2 a3 m0 := by
  have hfin : ∀ (a2 a3 : Int), a3 = s → a2 = m0 42 3 / pvF a3 → (0 ≤ a2) ∧ ((¬ (a2 % 13) = 0 → (inR ((a2 % 13) - 1)) ∧ (Pv (ceV (m0 42 3) s) m0 ((a2 % 13) - 1) m0)) ∧ ((a2 % 13) = 0 → Pv (ceV (m0 42 3) s) m0 (-5) m0)) := by
    intro a2 a3 e e2
    rw [e] at e2
    have h := pvF_b (a := s)
    unfold ceV
    rw [← e2]
    refine ⟨by rw [e2]; exact Int.ediv_nonneg hb (by omega), fun q => ⟨by unfold inR; omega, ?_, rfl⟩, fun q => ⟨?_, rfl⟩⟩
    · rw [if_neg q]
    · rw [if_pos q]
  intro k
  induction k with
  | zero =>
    intro a2 a3 h0 h1 hk e
    exact v_X0_cellOf_7 ⟨fun _ => hfin a2 a3 (by omega) e, fun q => by omega⟩
  | succ k ih =>
    intro a2 a3 h0 h1 hk e
    have h := pvF_b (a := a3)
    refine v_X0_cellOf_7 ⟨fun q => hfin a2 a3 (by omega) e, fun q => ⟨by rw [e]; exact Int.ediv_nonneg hb (by omega), by unfold inR; omega, ih _ _ (by omega) (by omega) (by omega) ?_⟩⟩
    rw [show a3 + -1 = a3 - 1 by omega, pvF_13 (by omega) h1, e, Int.ediv_ediv_of_nonneg (by omega)]
theorem c_X0_cellOf {m0 : Mem} {s : Int} (hb : 0 ≤ m0 42 3) (s0 : 0 ≤ s) (s1 : s < 4) : Tot mX0_cellOf 0 0 [vR 42, vI s] SH m0 (Pr SH (Pv (ceV (m0 42 3) s) m0)) :=
  v_X0_cellOf (ce_loop hb s0 s1 3 _ 3 (by omega) (by omega) (by omega) (by rw [show pvF 3 = 1 from rfl, Int.ediv_one]))
set_option maxRecDepth 20000 in
theorem v_X0_tryLaying {l b : Int} {P : Int → Mem → Prop} {mem : Mem}  (H : (0 ≤ l) ∧ ((rkQ mem l) ∧ ((inR (b + (rkV mem l))) ∧ (((mem 42 3) ≤ (b + (rkV mem l)) → P 0 mem) ∧ ((b + (rkV mem l)) < (mem 42 3) → (((0 ≤ (l / 12) ∧ (l / 12) < 4) ∧ ¬ mem 19 (l / 12).toNat = -9) → P 0 mem) ∧ (¬ ((0 ≤ (l / 12) ∧ (l / 12) < 4) ∧ ¬ mem 19 (l / 12).toNat = -9) → (hsD mem) ∧ ((0 ≤ (l / 12) ∧ (l / 12) < mem 7 2) ∧ (∀ (v6 : Int) (m7 : Mem), canV (mem 4 3) (mem 4 4) (shW mem (l / 12)) (shL mem (l / 12)) (l % 12) (mem 35) mem v6 m7 → ((¬ v6 = 0 → (hsD m7) ∧ ((flOK m7) ∧ ((0 ≤ (l / 12)) ∧ (((l / 12) < m7 7 2) ∧ ((fitsAt (m7 4 3) (m7 4 4) (shW m7 (l / 12)) (shL m7 (l / 12)) (l % 12)) ∧ (∀ m13 : Mem, covP m7 (l / 12) (l % 12) m13 → ((rdy m13) ∧ (∀ (v15 : Int) (m16 : Mem), anQ m13 (isFirst (wakP m13) 0 (m13 9 2)) v15 m16 → ((¬ v15 = (-9) → P 1 m16) ∧ (v15 = (-9) → ∀ m17 : Mem, m17 = (mset m16 42 3 (b + (rkV mem l))) → (P 1 m17))))))))))) ∧ (v6 = 0 → P 0 m7)))))))))) : Tot mX0_tryLaying 0 0 [vR 42, vI l, vI b, vR 18] SH mem (Pr SH P) := by
  refine Tot.of rfl (Nat.le_of_ble_eq_true rfl) (by simp [isJ]) (ls := [vR 42, vI l, vI b, vR 18, vJ 0, vJ 0, vJ 0]) rfl ?_
  refine q_iload_n dX0_tryLaying_0 rfl ?_
  refine q_bipush dX0_tryLaying_1 rfl (by decide) ?_
  obtain ⟨h1, H⟩ := H
  refine q_idiv dX0_tryLaying_3 h1 (by decide) ?_
  refine q_istore dX0_tryLaying_4 (by decide) rfl ?_
  refine q_iload_n dX0_tryLaying_6 rfl ?_
  refine q_bipush dX0_tryLaying_7 rfl (by decide) ?_
  refine q_irem dX0_tryLaying_9 h1 (by decide) ?_
  refine q_istore dX0_tryLaying_10 (by decide) rfl ?_
  refine q_iload_n dX0_tryLaying_12 rfl ?_
  refine q_aload_n dX0_tryLaying_13 rfl ?_
  refine q_iload_n dX0_tryLaying_14 rfl ?_
  obtain ⟨h2, H⟩ := H
  refine q_cVi (as := [vI _]) dX0_tryLaying_15 kmX0_rankOf kvX0_rankOf lm_RX0_55 ⟨by decide, by decide⟩ s42 ⟨by decide, rfl⟩ rfl rfl (Nat.le_of_ble_eq_true rfl) (c_X0_rankOf h2) (fun v m1 hq => ?_)
  obtain ⟨rfl, rfl⟩ := hq
  obtain ⟨h3, H⟩ := H
  refine q_iadd dX0_tryLaying_18 h3 ?_
  refine q_istore dX0_tryLaying_19 (by decide) rfl ?_
  refine q_iload dX0_tryLaying_21 rfl ?_
  refine q_aload_n dX0_tryLaying_23 rfl ?_
  refine q_geti dX0_tryLaying_24 lf_RX0_12 s42 rfl ?_
  refine q_icmp_ge (tgt := 53) dX0_tryLaying_27 (by decide) (fun c27 => ?_) (fun c27 => ?_)
  · have H := H.1 c27
    refine q_iconst dX0_tryLaying_53 (by decide) ?_
    exact q_zret dX0_tryLaying_54 rfl (by decide) ⟨_, rfl, rfl, H⟩
  · have H := H.2 c27
    refine q_aload_n dX0_tryLaying_30 rfl ?_
    refine q_iload dX0_tryLaying_31 rfl ?_
    refine q_cVi (as := [vI _]) dX0_tryLaying_33 kmX4_isLaid kvX4_isLaid lm_RX0_63 ⟨by decide, by decide⟩ s18 ⟨by decide, rfl⟩ rfl rfl (Nat.le_of_ble_eq_true rfl) (c_X4_isLaid s18 s19 s20) (fun v m1 hq => ?_)
    obtain ⟨rfl, rfl⟩ := hq
    refine q_if_ne (tgt := 53) dX0_tryLaying_36 (by decide) (fun c36 => ?_) (fun c36 => ?_)
    · have H := H.1 (b_yes c36)
      refine q_iconst dX0_tryLaying_53 (by decide) ?_
      exact q_zret dX0_tryLaying_54 rfl (by decide) ⟨_, rfl, rfl, H⟩
    · have H := H.2 (b_no c36)
      refine q_aload_n dX0_tryLaying_39 rfl ?_
      refine q_getr (r := 34) dX0_tryLaying_40 lf_RX0_20 s42 rfl rfl ?_
      refine q_iload dX0_tryLaying_43 rfl ?_
      refine q_iload dX0_tryLaying_45 rfl ?_
      obtain ⟨h4, H⟩ := H
      obtain ⟨h5, H⟩ := H
      refine q_cVi (as := [vI _, vI _]) dX0_tryLaying_47 kmX1_canLie kvX1_canLie lm_RX0_69 ⟨by decide, by decide⟩ s34 ⟨by decide, rfl⟩ rfl rfl (Nat.le_of_ble_eq_true rfl) (c_can h4 h5) (fun v m1 hq => ?_)
      have H := H v m1 hq
      refine q_if_ne (tgt := 55) dX0_tryLaying_50 (by decide) (fun c50 => ?_) (fun c50 => ?_)
      · have H := H.1 c50
        refine q_aload_n dX0_tryLaying_55 rfl ?_
        refine q_getr (r := 34) dX0_tryLaying_56 lf_RX0_20 s42 rfl rfl ?_
        refine q_iload dX0_tryLaying_59 rfl ?_
        refine q_iload dX0_tryLaying_61 rfl ?_
        obtain ⟨h8, H⟩ := H
        obtain ⟨h9, H⟩ := H
        obtain ⟨h10, H⟩ := H
        obtain ⟨h11, H⟩ := H
        obtain ⟨h12, H⟩ := H
        refine q_cVn (as := [vI _, vI _]) dX0_tryLaying_63 kmX1_cover kvX1_cover lm_RX0_73 ⟨by decide, by decide⟩ s34 ⟨by decide, rfl⟩ rfl rfl (Nat.le_of_ble_eq_true rfl) (c_X1_cover h8 h9 h10 h11 h12) (fun m1 hq => ?_)
        have H := H m1 hq
        refine q_aload_n dX0_tryLaying_66 rfl ?_
        refine q_getr (r := 41) dX0_tryLaying_67 lf_RX0_24 s42 rfl rfl ?_
        obtain ⟨h14, H⟩ := H
        refine q_cVi (as := []) dX0_tryLaying_70 kmX2_firstWaked kvX2_firstWaked lm_RX0_46 ⟨by decide, by decide⟩ s41 ⟨by decide, rfl⟩ rfl rfl (Nat.le_of_ble_eq_true rfl) (c_X2_firstWaked h14) (fun v m1 hq => ?_)
        have H := H v m1 hq
        refine q_bipush dX0_tryLaying_73 rfl (by decide) ?_
        refine q_icmp_ne (tgt := 84) dX0_tryLaying_75 (by decide) (fun c75 => ?_) (fun c75 => ?_)
        · have H := H.1 c75
          refine q_iconst dX0_tryLaying_84 (by decide) ?_
          exact q_zret dX0_tryLaying_85 rfl (by decide) ⟨_, rfl, rfl, H⟩
        · have H := H.2 c75
          refine q_aload_n dX0_tryLaying_78 rfl ?_
          refine q_iload dX0_tryLaying_79 rfl ?_
          refine q_puti dX0_tryLaying_81 lf_RX0_12 s42 rfl (Or.inl rfl) fit_int ?_
          have H := H _ rfl
          refine q_iconst dX0_tryLaying_84 (by decide) ?_
          exact q_zret dX0_tryLaying_85 rfl (by decide) ⟨_, rfl, rfl, H⟩
      · have H := H.2 c50
        refine q_iconst dX0_tryLaying_53 (by decide) ?_
        exact q_zret dX0_tryLaying_54 rfl (by decide) ⟨_, rfl, rfl, H⟩


def nwP (m : Mem) : Prop := ∀ r : Int, 0 ≤ r → r < m 9 2 → ¬ wakP m r
def tyC (m : Mem) (l b : Int) : Prop := b + rkV m l < m 42 3 ∧ m 19 (l / 12).toNat = -9 ∧ canP (m 4 3) (m 4 4) (shW m (l / 12)) (shL m (l / 12)) (l % 12) (m 35)
def tlR (m0 : Mem) (l b v : Int) (m : Mem) : Prop := (¬ tyC m0 l b ∧ v = 0 ∧ m = m0) ∨ (tyC m0 l b ∧ v = 1 ∧ ∃ m1, covP m0 (l / 12) (l % 12) m1 ∧ Fr [39, 40, 42] m1 m ∧ losOK m ∧ ((nwP m1 ∧ m 42 3 = b + rkV m0 l) ∨ (¬ nwP m1 ∧ m 42 3 = m0 42 3)))
def tlQ (m : Mem) (l b : Int) : Prop := rdy m ∧ (0 ≤ l ∧ l < 12 * m 7 2) ∧ 0 ≤ b ∧ b ≤ 1000000
theorem c_X0_tryLaying {m0 : Mem} {l b : Int} (hq : tlQ m0 l b) : Tot mX0_tryLaying 0 0 [vR 42, vI l, vI b, vR 18] SH m0 (Pr SH (tlR m0 l b)) := by
  obtain ⟨hy, hl, hb⟩ := hq
  have h7 := hy.1.2.2.2.2.2.2.1
  have hp : 1 ≤ shP m0 (l / 12) ∧ shP m0 (l / 12) ≤ 9 := (hy.1.2.2.2.2.2.2.2.2.2.1 (l / 12) (by omega) (by omega)).2.2.2
  have hr : 28562 ≤ rkV m0 l ∧ rkV m0 l ≤ 283413 := r1F_b (s := l / 12) (c := l % 12) hp (by omega) (by omega)
  refine v_X0_tryLaying ⟨hl.1, ⟨hy.1, hl⟩, by unfold inR; omega, fun q => Or.inl ⟨fun z => by have := z.1; omega, rfl, rfl⟩, fun q => ⟨fun q2 => Or.inl ⟨fun z => q2.2 z.2.1, rfl, rfl⟩, fun q2 => ⟨hy.1, by omega, fun v6 m7 h7 => ?_⟩⟩⟩
  obtain ⟨h7, e7⟩ := h7
  have e7 := e7.symm
  subst e7
  have hla : m0 19 (l / 12).toNat = -9 := Classical.byContradiction fun z => q2 ⟨by omega, z⟩
  refine ⟨fun z => ?_, fun z => ?_⟩
  · have hc : canP (m0 4 3) (m0 4 4) (shW m0 (l / 12)) (shL m0 (l / 12)) (l % 12) (m0 35) := by
      rcases h7 with ⟨a, -⟩ | ⟨-, a⟩
      · exact a
      · exact absurd a z
    refine ⟨hy.1, hy.2.1, by omega, by omega, hc.1, fun m13 h13 => ⟨⟨(hsD_fr h13.1).mpr hy.1, h13.2.1, h13.2.2.1⟩, fun v15 m16 h16 => ?_⟩⟩
    obtain ⟨hf, hF, hlo⟩ := h16
    refine ⟨fun y => Or.inr ⟨⟨q, hla, hc⟩, rfl, m13, h13, hF.mono (by decide), hlo, Or.inr ⟨fun hn => ?_, ?_⟩⟩, fun y m17 e17 => Or.inr ⟨⟨q, hla, hc⟩, rfl, m13, h13, ?_, ?_, Or.inl ⟨?_, ?_⟩⟩⟩
    · rcases hf with ⟨a, -⟩ | ⟨a, b, c, -⟩
      · exact y a
      · exact hn v15 a b c
    · rw [hF.at 42, h13.1.at 42]
    · rw [e17]
      exact (hF.mono (by decide)).set (by decide)
    · have hFm : Fr [42] m16 m17 := by rw [e17]; exact Fr.rf.set (by decide)
      unfold losOK rowD
      rw [DD_fr hFm, hFm.at 4, hFm.at 39, hFm.at 40]
      exact hlo
    · rcases hf with ⟨-, a⟩ | ⟨a, -⟩
      · exact a
      · omega
    · rw [e17, mset_eq]
  · have hc : ¬ canP (m0 4 3) (m0 4 4) (shW m0 (l / 12)) (shL m0 (l / 12)) (l % 12) (m0 35) := by
      rcases h7 with ⟨-, a⟩ | ⟨a, -⟩
      · omega
      · exact a
    exact Or.inl ⟨fun y => hc y.2.2, rfl, rfl⟩
def w_X0_search_46 (P : Mem → Prop) (a2 : Int) (a3 : Int) (u4 : Vl) (u5 : Vl) (u6 : Vl) (mem : Mem) : Prop := WP mX0_search none 0 0 (Pn SH P) 46 [vR 42, vR 18, vI a2, vI a3, u4, u5, u6] [] SH mem
def w_X0_search_86 (P : Mem → Prop) (a2 : Int) (a3 : Int) (a4 : Int) (a5 : Int) (a6 : Int) (mem : Mem) : Prop := WP mX0_search none 0 0 (Pn SH P) 86 [vR 42, vR 18, vI a2, vI a3, vI a4, vI a5, vI a6] [] SH mem
set_option maxRecDepth 20000 in
theorem v_X0_search_46 {P : Mem → Prop} {a2 : Int} {a3 : Int} {u4 : Vl} {u5 : Vl} {u6 : Vl} {mem : Mem}  (H : (a2 ≤ a3 → P mem) ∧ (a3 < a2 → (tlQ mem a3 0) ∧ (∀ (v2 : Int) (m3 : Mem), tlR mem a3 0 v2 m3 → ((¬ v2 = 0 → (rkQ m3 a3) ∧ ((0 ≤ a3) ∧ ((inR ((a3 / 12) + 1)) ∧ ((inR (((a3 / 12) + 1) * 12)) ∧ (w_X0_search_86 P a2 a3 (rkV m3 a3) (((a3 / 12) + 1) * 12) (((a3 / 12) + 1) * 12) m3))))) ∧ (v2 = 0 → (inR (a3 + 1)) ∧ (w_X0_search_46 P a2 (a3 + 1) u4 u5 u6 m3)))))) : w_X0_search_46 P a2 a3 u4 u5 u6 mem := by
  unfold w_X0_search_46
  refine q_iload_n dX0_search_46 rfl ?_
  refine q_iload_n dX0_search_47 rfl ?_
  refine q_icmp_ge (tgt := 139) dX0_search_48 (by decide) (fun c48 => ?_) (fun c48 => ?_)
  · have H := H.1 c48
    exact q_vret dX0_search_139 rfl ⟨rfl, rfl, H⟩
  · have H := H.2 c48
    refine q_aload_n dX0_search_51 rfl ?_
    refine q_iload_n dX0_search_52 rfl ?_
    refine q_iconst dX0_search_53 (by decide) ?_
    refine q_aload_n dX0_search_54 rfl ?_
    obtain ⟨h1, H⟩ := H
    refine q_cVi (as := [vI _, vI _, vR _]) dX0_search_55 kmX0_tryLaying kvX0_tryLaying lm_RX0_51 ⟨by decide, by decide⟩ s42 ⟨by decide, rfl⟩ rfl rfl (Nat.le_of_ble_eq_true rfl) (c_X0_tryLaying h1) (fun v m1 hq => ?_)
    have H := H v m1 hq
    refine q_if_ne (tgt := 64) dX0_search_58 (by decide) (fun c58 => ?_) (fun c58 => ?_)
    · have H := H.1 c58
      refine q_aload_n dX0_search_64 rfl ?_
      refine q_iload_n dX0_search_65 rfl ?_
      obtain ⟨h4, H⟩ := H
      refine q_cVi (as := [vI _]) dX0_search_66 kmX0_rankOf kvX0_rankOf lm_RX0_55 ⟨by decide, by decide⟩ s42 ⟨by decide, rfl⟩ rfl rfl (Nat.le_of_ble_eq_true rfl) (c_X0_rankOf h4) (fun v m1 hq => ?_)
      obtain ⟨rfl, rfl⟩ := hq
      refine q_istore dX0_search_69 (by decide) rfl ?_
      refine q_iload_n dX0_search_71 rfl ?_
      refine q_bipush dX0_search_72 rfl (by decide) ?_
      obtain ⟨h5, H⟩ := H
      refine q_idiv dX0_search_74 h5 (by decide) ?_
      refine q_iconst dX0_search_75 (by decide) ?_
      obtain ⟨h6, H⟩ := H
      refine q_iadd dX0_search_76 h6 ?_
      refine q_bipush dX0_search_77 rfl (by decide) ?_
      obtain ⟨h7, H⟩ := H
      refine q_imul dX0_search_79 h7 ?_
      refine q_istore dX0_search_80 (by decide) rfl ?_
      refine q_iload dX0_search_82 rfl ?_
      refine q_istore dX0_search_84 (by decide) rfl ?_
      exact H
    · have H := H.2 c58
      refine q_goto (tgt := 133) dX0_search_61 (by decide) ?_
      obtain ⟨h8, H⟩ := H
      refine q_iinc dX0_search_133 rfl h8 rfl ?_
      refine q_goto (tgt := 46) dX0_search_136 (by decide) ?_
      exact H
set_option maxRecDepth 20000 in
theorem v_X0_search_86 {P : Mem → Prop} {a2 : Int} {a3 : Int} {a4 : Int} {a5 : Int} {a6 : Int} {mem : Mem}  (H : (a2 ≤ a6 → (0 ≤ a3) ∧ ((flOK mem) ∧ (∀ m3 : Mem, uncP mem (a3 / 12) m3 → ((inR (a3 + 1)) ∧ (w_X0_search_46 P a2 (a3 + 1) (vI a4) (vI a5) (vI a6) m3))))) ∧ (a6 < a2 → (tlQ mem a6 a4) ∧ (∀ (v6 : Int) (m7 : Mem), tlR mem a6 a4 v6 m7 → ((v6 = 0 → (inR (a6 + 1)) ∧ (w_X0_search_86 P a2 a3 a4 a5 (a6 + 1) m7)) ∧ (¬ v6 = 0 → (0 ≤ a6) ∧ ((flOK m7) ∧ (∀ m11 : Mem, uncP m7 (a6 / 12) m11 → ((inR (a6 + 1)) ∧ (w_X0_search_86 P a2 a3 a4 a5 (a6 + 1) m11))))))))) : w_X0_search_86 P a2 a3 a4 a5 a6 mem := by
  unfold w_X0_search_86
  refine q_iload dX0_search_86 rfl ?_
  refine q_iload_n dX0_search_88 rfl ?_
  refine q_icmp_ge (tgt := 122) dX0_search_89 (by decide) (fun c89 => ?_) (fun c89 => ?_)
  · have H := H.1 c89
    refine q_aload_n dX0_search_122 rfl ?_
    refine q_getr (r := 34) dX0_search_123 lf_RX0_20 s42 rfl rfl ?_
    refine q_iload_n dX0_search_126 rfl ?_
    refine q_bipush dX0_search_127 rfl (by decide) ?_
    obtain ⟨h1, H⟩ := H
    refine q_idiv dX0_search_129 h1 (by decide) ?_
    obtain ⟨h2, H⟩ := H
    refine q_cVn (as := [vI _]) dX0_search_130 kmX1_uncover kvX1_uncover lm_RX0_59 ⟨by decide, by decide⟩ s34 ⟨by decide, rfl⟩ rfl rfl (Nat.le_of_ble_eq_true rfl) (c_X1_uncover h2) (fun m1 hq => ?_)
    have H := H m1 hq
    obtain ⟨h4, H⟩ := H
    refine q_iinc dX0_search_133 rfl h4 rfl ?_
    refine q_goto (tgt := 46) dX0_search_136 (by decide) ?_
    exact H
  · have H := H.2 c89
    refine q_aload_n dX0_search_92 rfl ?_
    refine q_iload dX0_search_93 rfl ?_
    refine q_iload dX0_search_95 rfl ?_
    refine q_aload_n dX0_search_97 rfl ?_
    obtain ⟨h5, H⟩ := H
    refine q_cVi (as := [vI _, vI _, vR _]) dX0_search_98 kmX0_tryLaying kvX0_tryLaying lm_RX0_51 ⟨by decide, by decide⟩ s42 ⟨by decide, rfl⟩ rfl rfl (Nat.le_of_ble_eq_true rfl) (c_X0_tryLaying h5) (fun v m1 hq => ?_)
    have H := H v m1 hq
    refine q_if_eq (tgt := 116) dX0_search_101 (by decide) (fun c101 => ?_) (fun c101 => ?_)
    · have H := H.1 c101
      obtain ⟨h8, H⟩ := H
      refine q_iinc dX0_search_116 rfl h8 rfl ?_
      refine q_goto (tgt := 86) dX0_search_119 (by decide) ?_
      exact H
    · have H := H.2 c101
      refine q_aload_n dX0_search_104 rfl ?_
      refine q_getr (r := 34) dX0_search_105 lf_RX0_20 s42 rfl rfl ?_
      refine q_iload dX0_search_108 rfl ?_
      refine q_bipush dX0_search_110 rfl (by decide) ?_
      obtain ⟨h9, H⟩ := H
      refine q_idiv dX0_search_112 h9 (by decide) ?_
      obtain ⟨h10, H⟩ := H
      refine q_cVn (as := [vI _]) dX0_search_113 kmX1_uncover kvX1_uncover lm_RX0_59 ⟨by decide, by decide⟩ s34 ⟨by decide, rfl⟩ rfl rfl (Nat.le_of_ble_eq_true rfl) (c_X1_uncover h10) (fun m1 hq => ?_)
      have H := H m1 hq
      obtain ⟨h12, H⟩ := H
      refine q_iinc dX0_search_116 rfl h12 rfl ?_
      refine q_goto (tgt := 86) dX0_search_119 (by decide) ?_
      exact H
set_option maxRecDepth 20000 in
theorem v_X0_search {P : Mem → Prop} {mem : Mem}  (H : (inR ((mem 7 2) * 12)) ∧ ((hsD mem) ∧ ((moD mem 19 20) ∧ ((nextOK (mem 4 5) (mem 4 3) (mem 37)) ∧ ((thOK mem) ∧ (∀ m6 : Mem, shoP mem 19 20 m6 → ((rdy m6) ∧ (∀ (v8 : Int) (m9 : Mem), anQ m6 (isFirst (wakP m6) 0 (m6 9 2)) v8 m9 → ((¬ v8 = (-9) → ∀ m10 : Mem, m10 = (mset m9 42 3 28561000) → (w_X0_search_46 P ((mem 7 2) * 12) 0 (vJ 0) (vJ 0) (vJ 0) m10)) ∧ (v8 = (-9) → ∀ m11 : Mem, m11 = (mset m9 42 3 0) → (w_X0_search_46 P ((mem 7 2) * 12) 0 (vJ 0) (vJ 0) (vJ 0) m11))))))))))) : Tot mX0_search 0 0 [vR 42, vR 18] SH mem (Pn SH P) := by
  refine Tot.of rfl (Nat.le_of_ble_eq_true rfl) (by simp [isJ]) (ls := [vR 42, vR 18, vJ 0, vJ 0, vJ 0, vJ 0, vJ 0]) rfl ?_
  refine q_aload_n dX0_search_0 rfl ?_
  refine q_getr (r := 4) dX0_search_1 lf_RX0_16 s42 rfl rfl ?_
  refine q_getr (r := 7) dX0_search_4 lf_RX0_28 s4 rfl rfl ?_
  refine q_cVi (as := []) dX0_search_7 kmX6_size kvX6_size lm_RX0_34 ⟨by decide, by decide⟩ s7 ⟨by decide, rfl⟩ rfl rfl (Nat.le_of_ble_eq_true rfl) (c_X6_size s7) (fun v m1 hq => ?_)
  obtain ⟨rfl, rfl⟩ := hq
  refine q_bipush dX0_search_10 rfl (by decide) ?_
  obtain ⟨h1, H⟩ := H
  refine q_imul dX0_search_12 h1 ?_
  refine q_istore_n dX0_search_13 (by decide) rfl ?_
  refine q_aload_n dX0_search_14 rfl ?_
  refine q_getr (r := 34) dX0_search_15 lf_RX0_20 s42 rfl rfl ?_
  refine q_aload_n dX0_search_18 rfl ?_
  obtain ⟨h2, H⟩ := H
  obtain ⟨h3, H⟩ := H
  obtain ⟨h4, H⟩ := H
  obtain ⟨h5, H⟩ := H
  refine q_cVn (as := [vR _]) dX0_search_19 kmX1_show kvX1_show lm_RX0_40 ⟨by decide, by decide⟩ s34 ⟨by decide, rfl⟩ rfl rfl (Nat.le_of_ble_eq_true rfl) (c_X1_show s18 s19 s20 (by decide) h2 h3 h4 h5) (fun m1 hq => ?_)
  have H := H m1 hq
  refine q_aload_n dX0_search_22 rfl ?_
  refine q_aload_n dX0_search_23 rfl ?_
  refine q_getr (r := 41) dX0_search_24 lf_RX0_24 s42 rfl rfl ?_
  obtain ⟨h7, H⟩ := H
  refine q_cVi (as := []) dX0_search_27 kmX2_firstWaked kvX2_firstWaked lm_RX0_46 ⟨by decide, by decide⟩ s41 ⟨by decide, rfl⟩ rfl rfl (Nat.le_of_ble_eq_true rfl) (c_X2_firstWaked h7) (fun v m1 hq => ?_)
  have H := H v m1 hq
  refine q_bipush dX0_search_30 rfl (by decide) ?_
  refine q_icmp_ne (tgt := 39) dX0_search_32 (by decide) (fun c32 => ?_) (fun c32 => ?_)
  · have H := H.1 c32
    refine q_ldc (n := 28561000) dX0_search_39 lk_RX0_11 (by decide) ?_
    refine q_puti dX0_search_41 lf_RX0_12 s42 rfl (Or.inl rfl) fit_int ?_
    have H := H _ rfl
    refine q_iconst dX0_search_44 (by decide) ?_
    refine q_istore_n dX0_search_45 (by decide) rfl ?_
    exact H
  · have H := H.2 c32
    refine q_iconst dX0_search_35 (by decide) ?_
    refine q_goto (tgt := 41) dX0_search_36 (by decide) ?_
    refine q_puti dX0_search_41 lf_RX0_12 s42 rfl (Or.inl rfl) fit_int ?_
    have H := H _ rfl
    refine q_iconst dX0_search_44 (by decide) ?_
    refine q_istore_n dX0_search_45 (by decide) rfl ?_
    exact H


