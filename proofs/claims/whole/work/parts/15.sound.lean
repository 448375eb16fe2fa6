/-! THE CLASS' LOSSES: passOn, sound, lost -/
abbrev ctD (m : Mem) : Int → Int → Int := takeF (m 4 6) (m 35) (m 36)
def okGD (m : Mem) : Prop := okG (m 4 3) (m 4 4) (m 4 6) (m 35) (m 36) ∧ m 4 5 = m 4 3 * m 4 4
/-- the sides of the cells, four to a cell, and what a step costs -/
def nextOK (n w : Int) (nx : Nat → Int) : Prop := (∀ e : Int, 0 ≤ e → e < 4 * n → nx e.toNat = -9 ∨ (0 ≤ nx e.toNat ∧ nx e.toNat < n ∧ nbr w (e / 4) (nx e.toNat))) ∧ ∀ a b : Int, 0 ≤ a → a < n → 0 ≤ b → b < n → nbr w a b → ∃ e : Int, 4 * a ≤ e ∧ e < 4 * a + 4 ∧ nx e.toNat = b
def stepOK (n : Int) (ct : Int → Int → Int) (nx sl : Nat → Int) : Prop := ∀ e : Int, 0 ≤ e → e < 4 * n → 0 ≤ nx e.toNat → nx e.toNat < n → sl e.toNat = ct (e / 4) (nx e.toNat)
def rowD (m : Mem) (row : Int) : Int → Int := fun c => m 39 (row + c).toNat
def w_X1_passOn_18 (row c cells : Int) (P : Int → Mem → Prop) (a4 : Int) (a5 : Int) (a6 : Int) (u7 : Vl) (mem : Mem) : Prop := WP mX1_passOn none 0 0 (Pr SH P) 18 [vR 34, vI row, vI c, vI cells, vI a4, vI a5, vI a6, u7] [] SH mem
set_option maxRecDepth 20000 in
theorem v_X1_passOn_18 {row c cells : Int} {P : Int → Mem → Prop} {a4 : Int} {a5 : Int} {a6 : Int} {u7 : Vl} {mem : Mem}  (H : (inR (c + 1)) ∧ ((inR ((c + 1) * 4)) ∧ ((((c + 1) * 4) ≤ a6 → (a4 = 0 ∨ a4 = 1) ∧ (P a4 mem)) ∧ (a6 < ((c + 1) * 4) → (0 ≤ a6) ∧ ((a6 < 48) ∧ (((mem 37 a6.toNat) < 0 → (inR (a6 + 1)) ∧ (w_X1_passOn_18 row c cells P a4 a5 (a6 + 1) (vI (mem 37 a6.toNat)) mem)) ∧ (0 ≤ (mem 37 a6.toNat) → (cells ≤ (mem 37 a6.toNat) → (inR (a6 + 1)) ∧ (w_X1_passOn_18 row c cells P a4 a5 (a6 + 1) (vI (mem 37 a6.toNat)) mem)) ∧ ((mem 37 a6.toNat) < cells → (inR (a5 + (mem 38 a6.toNat))) ∧ ((inR (row + (mem 37 a6.toNat))) ∧ ((0 ≤ (row + (mem 37 a6.toNat))) ∧ (((row + (mem 37 a6.toNat)) < 144) ∧ (((mem 39 (row + (mem 37 a6.toNat)).toNat) ≤ (a5 + (mem 38 a6.toNat)) → (inR (a6 + 1)) ∧ (w_X1_passOn_18 row c cells P a4 a5 (a6 + 1) (vI (mem 37 a6.toNat)) mem)) ∧ ((a5 + (mem 38 a6.toNat)) < (mem 39 (row + (mem 37 a6.toNat)).toNat) → ∀ m13 : Mem, m13 = mset mem 39 (row + (mem 37 a6.toNat)).toNat (a5 + (mem 38 a6.toNat)) → ((inR (a6 + 1)) ∧ (w_X1_passOn_18 row c cells P 1 a5 (a6 + 1) (vI (mem 37 a6.toNat)) m13))))))))))))))) : w_X1_passOn_18 row c cells P a4 a5 a6 u7 mem := by
  unfold w_X1_passOn_18
  refine q_iload dX1_passOn_18 rfl ?_
  refine q_iload_n dX1_passOn_20 rfl ?_
  refine q_iconst dX1_passOn_21 (by decide) ?_
  obtain ⟨h1, H⟩ := H
  refine q_iadd dX1_passOn_22 h1 ?_
  refine q_iconst dX1_passOn_23 (by decide) ?_
  obtain ⟨h2, H⟩ := H
  refine q_imul dX1_passOn_24 h2 ?_
  refine q_icmp_ge (tgt := 98) dX1_passOn_25 (by decide) (fun c25 => ?_) (fun c25 => ?_)
  · have H := H.1 c25
    refine q_iload dX1_passOn_98 rfl ?_
    obtain ⟨h3, H⟩ := H
    exact q_zret dX1_passOn_100 rfl h3 ⟨_, rfl, rfl, H⟩
  · have H := H.2 c25
    refine q_aload_n dX1_passOn_28 rfl ?_
    refine q_getr (r := 37) dX1_passOn_29 lf_RX1_18 s34 rfl rfl ?_
    refine q_iload dX1_passOn_32 rfl ?_
    obtain ⟨h4, H⟩ := H
    obtain ⟨h5, H⟩ := H
    refine q_iald dX1_passOn_34 s37 h4 h5 ?_
    refine q_istore dX1_passOn_35 (by decide) rfl ?_
    refine q_iload dX1_passOn_37 rfl ?_
    refine q_if_lt (tgt := 92) dX1_passOn_39 (by decide) (fun c39 => ?_) (fun c39 => ?_)
    · have H := H.1 c39
      obtain ⟨h6, H⟩ := H
      refine q_iinc dX1_passOn_92 rfl h6 rfl ?_
      refine q_goto (tgt := 18) dX1_passOn_95 (by decide) ?_
      exact H
    · have H := H.2 c39
      refine q_iload dX1_passOn_42 rfl ?_
      refine q_iload_n dX1_passOn_44 rfl ?_
      refine q_icmp_ge (tgt := 92) dX1_passOn_45 (by decide) (fun c45 => ?_) (fun c45 => ?_)
      · have H := H.1 c45
        obtain ⟨h7, H⟩ := H
        refine q_iinc dX1_passOn_92 rfl h7 rfl ?_
        refine q_goto (tgt := 18) dX1_passOn_95 (by decide) ?_
        exact H
      · have H := H.2 c45
        refine q_iload dX1_passOn_48 rfl ?_
        refine q_aload_n dX1_passOn_50 rfl ?_
        refine q_getr (r := 38) dX1_passOn_51 lf_RX1_21 s34 rfl rfl ?_
        refine q_iload dX1_passOn_54 rfl ?_
        refine q_iald dX1_passOn_56 s38 h4 h5 ?_
        obtain ⟨h8, H⟩ := H
        refine q_iadd dX1_passOn_57 h8 ?_
        refine q_aload_n dX1_passOn_58 rfl ?_
        refine q_getr (r := 39) dX1_passOn_59 lf_RX1_24 s34 rfl rfl ?_
        refine q_iload_n dX1_passOn_62 rfl ?_
        refine q_iload dX1_passOn_63 rfl ?_
        obtain ⟨h9, H⟩ := H
        refine q_iadd dX1_passOn_65 h9 ?_
        obtain ⟨h10, H⟩ := H
        obtain ⟨h11, H⟩ := H
        refine q_iald dX1_passOn_66 s39 h10 h11 ?_
        refine q_icmp_ge (tgt := 92) dX1_passOn_67 (by decide) (fun c67 => ?_) (fun c67 => ?_)
        · have H := H.1 c67
          obtain ⟨h12, H⟩ := H
          refine q_iinc dX1_passOn_92 rfl h12 rfl ?_
          refine q_goto (tgt := 18) dX1_passOn_95 (by decide) ?_
          exact H
        · have H := H.2 c67
          refine q_aload_n dX1_passOn_70 rfl ?_
          refine q_getr (r := 39) dX1_passOn_71 lf_RX1_24 s34 rfl rfl ?_
          refine q_iload_n dX1_passOn_74 rfl ?_
          refine q_iload dX1_passOn_75 rfl ?_
          refine q_iadd dX1_passOn_77 h9 ?_
          refine q_iload dX1_passOn_78 rfl ?_
          refine q_aload_n dX1_passOn_80 rfl ?_
          refine q_getr (r := 38) dX1_passOn_81 lf_RX1_21 s34 rfl rfl ?_
          refine q_iload dX1_passOn_84 rfl ?_
          refine q_iald dX1_passOn_86 s38 h4 h5 ?_
          refine q_iadd dX1_passOn_87 h8 ?_
          refine q_iast dX1_passOn_88 s39 h10 h11 ?_
          have H := H _ rfl
          refine q_iconst dX1_passOn_89 (by decide) ?_
          refine q_istore dX1_passOn_90 (by decide) rfl ?_
          obtain ⟨h14, H⟩ := H
          refine q_iinc dX1_passOn_92 rfl h14 rfl ?_
          refine q_goto (tgt := 18) dX1_passOn_95 (by decide) ?_
          exact H
set_option maxRecDepth 20000 in
theorem v_X1_passOn {row c cells : Int} {P : Int → Mem → Prop} {mem : Mem}  (H : (inR (row + c)) ∧ ((0 ≤ (row + c)) ∧ (((row + c) < 144) ∧ ((inR (c * 4)) ∧ (w_X1_passOn_18 row c cells P 0 (mem 39 (row + c).toNat) (c * 4) (vJ 0) mem))))) : Tot mX1_passOn 0 0 [vR 34, vI row, vI c, vI cells] SH mem (Pr SH P) := by
  refine Tot.of rfl (Nat.le_of_ble_eq_true rfl) (by simp [isJ]) (ls := [vR 34, vI row, vI c, vI cells, vJ 0, vJ 0, vJ 0, vJ 0]) rfl ?_
  refine q_iconst dX1_passOn_0 (by decide) ?_
  refine q_istore dX1_passOn_1 (by decide) rfl ?_
  refine q_aload_n dX1_passOn_3 rfl ?_
  refine q_getr (r := 39) dX1_passOn_4 lf_RX1_24 s34 rfl rfl ?_
  refine q_iload_n dX1_passOn_7 rfl ?_
  refine q_iload_n dX1_passOn_8 rfl ?_
  obtain ⟨h1, H⟩ := H
  refine q_iadd dX1_passOn_9 h1 ?_
  obtain ⟨h2, H⟩ := H
  obtain ⟨h3, H⟩ := H
  refine q_iald dX1_passOn_10 s39 h2 h3 ?_
  refine q_istore dX1_passOn_11 (by decide) rfl ?_
  refine q_iload_n dX1_passOn_13 rfl ?_
  refine q_iconst dX1_passOn_14 (by decide) ?_
  obtain ⟨h4, H⟩ := H
  refine q_imul dX1_passOn_15 h4 ?_
  refine q_istore dX1_passOn_16 (by decide) rfl ?_
  exact H


theorem rowD_set {m : Mem} {row b v : Int} (r0 : 0 ≤ row) (b0 : 0 ≤ b) : ∀ c : Int, 0 ≤ c → rowD (mset m 39 (row + b).toNat v) row c = dset (rowD m row) b v c := by
  intro c c0
  show (if 39 = 39 ∧ (row + c).toNat = (row + b).toNat then v else m 39 (row + c).toNat) = if c = b then v else m 39 (row + c).toNat
  by_cases h : c = b
  · rw [if_pos ⟨rfl, by rw [h]⟩, if_pos h]
  · rw [if_neg (by omega), if_neg h]
theorem nbr_irr {w a : Int} : ¬ nbr w a a := by
  unfold nbr
  omega
/-- entries of loss outside of a row stay -/
def rowFr (m0 m : Mem) (row n : Int) : Prop := ∀ j : Nat, ¬ (row ≤ j ∧ (j : Int) < row + n) → m 39 j = m0 39 j
theorem rowFr_set {m0 m : Mem} {row n b v : Int} (h : rowFr m0 m row n) (r0 : 0 ≤ row) (b0 : 0 ≤ b) (bn : b < n) : rowFr m0 (mset m 39 (row + b).toNat v) row n := by
  intro j hj
  rw [mset_at, if_neg (by omega)]
  exact h j hj
theorem rowFr.tr {m0 m m2 : Mem} {row n : Int} (h : rowFr m0 m row n) (h2 : rowFr m m2 row n) : rowFr m0 m2 row n := fun j hj => (h2 j hj).trans (h j hj)
def pasI (m0 : Mem) (n w : Int) (ct : Int → Int → Int) (f row c a5 a4 a6 : Int) (m : Mem) : Prop := Fr [39] m0 m ∧ rowFr m0 m row n ∧ tight n w 1000000 ct f (rowD m row) ∧ (∀ b : Int, 0 ≤ b → b < n → rowD m row b ≤ rowD m0 row b) ∧ rowD m row c = a5 ∧ (∀ e : Int, 4 * c ≤ e → e < a6 → 0 ≤ m0 37 e.toNat → rowD m row (m0 37 e.toNat) ≤ a5 + ct c (m0 37 e.toNat)) ∧ ((a4 = 0 ∧ ∀ b : Int, 0 ≤ b → b < n → rowD m row b = rowD m0 row b) ∨ a4 = 1)
theorem pas_step {m0 : Mem} {n w : Int} {ct : Int → Int → Int} {f row c a5 : Int} {P : Int → Mem → Prop} (hg : grid n w) (hcs : costs n ct) (hnx : nextOK n w (m0 37)) (hst : stepOK n ct (m0 37) (m0 38)) (r0 : 0 ≤ row) (rn : row + n ≤ 144) (f0 : 0 ≤ f) (c0 : 0 ≤ c) (cn : c < n)
    {a4 a6 : Int} {u7 : Vl} {m : Mem} (h0 : 4 * c ≤ a6) (hI : pasI m0 n w ct f row c a5 a4 a6 m)
    (Kout : 4 * c + 4 ≤ a6 → P a4 m) (Kin : a6 < 4 * c + 4 → ∀ (a4 : Int) (u7 : Vl) (m' : Mem), pasI m0 n w ct f row c a5 a4 (a6 + 1) m' → w_X1_passOn_18 row c n P a4 a5 (a6 + 1) u7 m') : w_X1_passOn_18 row c n P a4 a5 a6 u7 m := by
  obtain ⟨hF, hR, ht, hle, hac, hed, hd⟩ := id hI
  have hn := grid_n hg
  have e37 := hF.at 37
  have e38 := hF.at 38
  have ha5 : 0 ≤ a5 ∧ a5 ≤ 1000000 := by rw [← hac]; exact ht.2.1 c c0 cn
  refine v_X1_passOn_18 ?_
  rw [e37, e38]
  refine ⟨by omega, by omega, fun c1 => ⟨by rcases hd with h | h <;> omega, Kout (by omega)⟩, fun c1 => ?_⟩
  have hx := hnx.1 a6 (by omega) (by omega)
  have hca : a6 / 4 = c := by omega
  rw [hca] at hx
  have hskip : (0 ≤ m0 37 a6.toNat → rowD m row (m0 37 a6.toNat) ≤ a5 + ct c (m0 37 a6.toNat)) → pasI m0 n w ct f row c a5 a4 (a6 + 1) m := fun hno => ⟨hF, hR, ht, hle, hac, fun e e0 e1 e2 => by
    by_cases he : e = a6
    · rw [he] at e2 ⊢; exact hno e2
    · exact hed e e0 (by omega) e2, hd⟩
  refine ⟨by omega, by omega, fun c2 => ⟨by omega, Kin (by omega) _ _ _ (hskip (fun z => by omega))⟩, fun c2 => ⟨fun c3 => by omega, fun c3 => ?_⟩⟩
  have hb : 0 ≤ m0 37 a6.toNat ∧ m0 37 a6.toNat < n ∧ nbr w c (m0 37 a6.toNat) := by
    rcases hx with h | h
    · omega
    · exact h
  have hs := hst a6 (by omega) (by omega) c2 hb.2.1
  rw [hca] at hs
  rw [hs]
  have hct := hcs c (m0 37 a6.toNat) c0 cn hb.1 hb.2.1
  generalize hto : m0 37 a6.toNat = b at hx hskip c2 c3 hb hs hct ⊢
  have hl : m 39 (row + b).toNat = rowD m row b := rfl
  rw [hl]
  refine ⟨by omega, by omega, by omega, by omega, fun c4 => ⟨by omega, Kin (by omega) _ _ _ (hskip (fun _ => c4))⟩, fun c4 m13 hm => ⟨by omega, Kin (by omega) _ _ _ ?_⟩⟩
  have hds : ∀ x : Int, 0 ≤ x → rowD m13 row x = dset (rowD m row) b (a5 + ct c b) x := by
    rw [hm]
    exact rowD_set r0 hb.1
  have hcb : c ≠ b := fun q => nbr_irr (q ▸ hb.2.2)
  refine ⟨by rw [hm]; exact hF.set (by decide), by rw [hm]; exact rowFr_set hR r0 hb.1 hb.2.1, ?_, fun x x0 xn => ?_, ?_, fun e e0 e1 e2 => ?_, Or.inr rfl⟩
  · have h1 := tight_set hcs ht c0 cn hb.1 hb.2.1 hb.2.2 (by rw [hac]; exact c4)
    rw [hac] at h1
    exact tight_ext f0 hds h1
  · rw [hds x x0]
    have := hle x x0 xn
    simp only [dset]
    split
    · rename_i q
      rw [q] at this ⊢
      omega
    · exact this
  · rw [hds c c0]
    simp only [dset]
    rw [if_neg hcb]
    exact hac
  · by_cases hea : e = a6
    · rw [hea, hto, hds b hb.1]
      simp [dset]
    · have h1 := hed e e0 (by omega) e2
      rw [hds _ e2]
      simp only [dset]
      split
      · rename_i q
        rw [q] at h1 ⊢
        omega
      · exact h1
theorem pas_loop {m0 : Mem} {n w : Int} {ct : Int → Int → Int} {f row c a5 : Int} {P : Int → Mem → Prop} (hg : grid n w) (hcs : costs n ct) (hnx : nextOK n w (m0 37)) (hst : stepOK n ct (m0 37) (m0 38)) (r0 : 0 ≤ row) (rn : row + n ≤ 144) (f0 : 0 ≤ f) (c0 : 0 ≤ c) (cn : c < n)
    (Kout : ∀ (a4 a6 : Int) (m : Mem), 4 * c + 4 ≤ a6 → pasI m0 n w ct f row c a5 a4 a6 m → P a4 m) : ∀ (k : Nat) (a4 a6 : Int) (u7 : Vl) (m : Mem), 4 * c ≤ a6 → (4 * c + 4 - a6).toNat ≤ k → pasI m0 n w ct f row c a5 a4 a6 m → w_X1_passOn_18 row c n P a4 a5 a6 u7 m := by
  intro k
  induction k with
  | zero => intro a4 a6 u7 m h0 hk hI; exact pas_step hg hcs hnx hst r0 rn f0 c0 cn h0 hI (fun h => Kout _ _ _ h hI) (fun h => by omega)
  | succ k ih => intro a4 a6 u7 m h0 hk hI; exact pas_step hg hcs hnx hst r0 rn f0 c0 cn h0 hI (fun h => Kout _ _ _ h hI) (fun h a4 u7 m' hI' => ih a4 (a6 + 1) u7 m' (by omega) (by omega) hI')
/-- what passOn(row, c, n) does to a row -/
def pasP (m0 : Mem) (n w : Int) (ct : Int → Int → Int) (f row c v : Int) (m : Mem) : Prop := Fr [39] m0 m ∧ rowFr m0 m row n ∧ tight n w 1000000 ct f (rowD m row) ∧ (∀ b : Int, 0 ≤ b → b < n → rowD m row b ≤ rowD m0 row b) ∧ (∀ b : Int, 0 ≤ b → b < n → nbr w c b → rowD m row b ≤ rowD m0 row c + ct c b) ∧ ((v = 0 ∧ ∀ b : Int, 0 ≤ b → b < n → rowD m row b = rowD m0 row b) ∨ v = 1)
theorem c_X1_passOn {m0 : Mem} {n w : Int} {ct : Int → Int → Int} {f row c : Int} (hg : grid n w) (hcs : costs n ct) (hnx : nextOK n w (m0 37)) (hst : stepOK n ct (m0 37) (m0 38)) (r0 : 0 ≤ row) (rn : row + n ≤ 144) (f0 : 0 ≤ f) (c0 : 0 ≤ c) (cn : c < n) (ht : tight n w 1000000 ct f (rowD m0 row)) : Tot mX1_passOn 0 0 [vR 34, vI row, vI c, vI n] SH m0 (Pr SH (pasP m0 n w ct f row c)) := by
  have hn := grid_n hg
  refine v_X1_passOn ⟨by omega, by omega, by omega, by omega, ?_⟩
  refine pas_loop hg hcs hnx hst r0 rn f0 c0 cn (fun a4 a6 m h hI => ?_) _ 0 (c * 4) _ m0 (by omega) (Nat.le_refl _) ⟨Fr.rf, fun _ _ => rfl, ht, fun _ _ _ => Int.le_refl _, rfl, fun e e0 e1 => by omega, Or.inl ⟨rfl, fun _ _ _ => rfl⟩⟩
  obtain ⟨hF, hR, ht, hle, hac, hed, hd⟩ := hI
  refine ⟨hF, hR, ht, hle, fun b b0 bn hb => ?_, hd⟩
  obtain ⟨e, e0, e1, e2⟩ := hnx.2 c b c0 cn b0 bn hb
  have h1 := hed e e0 (by omega) (by omega)
  rw [e2] at h1
  exact h1

