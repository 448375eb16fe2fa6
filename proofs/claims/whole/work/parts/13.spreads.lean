/-! THE MODEL'S spreads: it comes to its end, and off holds the loss -/
def sprI (m0 : Mem) (f S : Int) (a2 a3 : Int) (m : Mem) : Prop := Fr [62] m0 m ∧ tight (nM m0) (m0 44 0) 10000 (ctM m0) f (dM m) ∧ ((a2 = 0 ∧ sumD (dM m) (nM m0).toNat = S ∧ ∀ q : Int, 0 ≤ q → q < a3 → nbr (m0 44 0) (q / nM m0) (q % nM m0) → dM m (q % nM m0) ≤ dM m (q / nM m0) + ctM m0 (q / nM m0) (q % nM m0)) ∨ (a2 = 1 ∧ sumD (dM m) (nM m0).toNat < S))
theorem spr_step {m0 : Mem} {f S : Int} {P : Mem → Prop} (hg : okGM m0) (f0 : 0 ≤ f) (fn : f < nM m0)
    {a2 a3 : Int} {u4 u5 : Vl} {m : Mem} (h0 : 0 ≤ a3) (hI : sprI m0 f S a2 a3 m)
    (Kout : nM m0 * nM m0 ≤ a3 → ∀ u3, w_X10_spreads_34 f P a2 u3 u4 u5 m)
    (Kin : a3 < nM m0 * nM m0 → ∀ (a2' : Int) (u4 u5 : Vl) (m' : Mem), sprI m0 f S a2' (a3 + 1) m' → w_X10_spreads_42 f P a2' (a3 + 1) u4 u5 m') : w_X10_spreads_42 f P a2 a3 u4 u5 m := by
  obtain ⟨hF, ht, hd⟩ := hI
  have e44 := hF.at 44
  have e60 := hF.at 60
  have e61 := hF.at 61
  have hn := okG_n hg
  have hw := hg.1
  have hcs : costs (nM m0) (ctM m0) := okG_costs hg
  have hnn : nM m0 * nM m0 ≤ 144 ∧ 1 ≤ nM m0 * nM m0 := by
    show (m0 44 0 * m0 44 1) * (m0 44 0 * m0 44 1) ≤ 144 ∧ 1 ≤ (m0 44 0 * m0 44 1) * (m0 44 0 * m0 44 1)
    generalize m0 44 0 * m0 44 1 = N at hn ⊢
    rcases (show N = 1 ∨ N = 2 ∨ N = 3 ∨ N = 4 ∨ N = 5 ∨ N = 6 ∨ N = 7 ∨ N = 8 ∨ N = 9 ∨ N = 10 ∨ N = 11 ∨ N = 12 by omega) with rfl | rfl | rfl | rfl | rfl | rfl | rfl | rfl | rfl | rfl | rfl | rfl <;> decide
  have hwn : nM m0 ≤ 3 * m0 44 0 := by
    have h1 := (okG_grid hg).2
    show m0 44 0 * m0 44 1 ≤ _
    omega
  have hm3 : nM m0 * m0 44 0 ≤ 48 ∧ 0 ≤ nM m0 * m0 44 0 := by
    show (m0 44 0 * m0 44 1) * m0 44 0 ≤ 48 ∧ 0 ≤ (m0 44 0 * m0 44 1) * m0 44 0
    generalize m0 44 0 * m0 44 1 = N at hn ⊢
    rcases hw with h | h | h | h <;> rw [h] <;> omega
  have hqq : ∀ q : Int, 0 ≤ q → q < nM m0 * nM m0 → 0 ≤ q / nM m0 ∧ q / nM m0 < nM m0 ∧ 0 ≤ q % nM m0 ∧ q % nM m0 < nM m0 := by
    intro q q0 q1
    exact ⟨Int.ediv_nonneg q0 (by omega), Int.ediv_lt_of_lt_mul (by omega) q1, Int.emod_nonneg _ (by omega), Int.emod_lt_of_pos _ (by omega)⟩
  refine v_X10_spreads_42 ?_
  rw [e44, Int.mul_assoc (m0 44 0 * m0 44 1) (m0 44 0) (m0 44 1)]
  change inR (nM m0) ∧ inR (nM m0 * m0 44 0) ∧ inR (nM m0 * nM m0) ∧ _
  refine ⟨by omega, by omega, by omega, fun c => Kout c _, fun c => ?_⟩
  have c' : a3 < nM m0 * nM m0 := c
  have hq := hqq a3 h0 c
  have ha1 : inR (a3 + 1) := by omega
  change 0 ≤ a3 ∧ 0 < nM m0 ∧ 0 ≤ a3 / nM m0 ∧ a3 / nM m0 < 3 * m0 44 0 ∧ 0 ≤ a3 % nM m0 ∧ a3 % nM m0 < 3 * m0 44 0 ∧ _
  refine ⟨h0, by omega, hq.1, by omega, hq.2.2.1, by omega, by omega, by omega, fun v m13 hv => ?_⟩
  obtain ⟨hv, rfl⟩ := hv
  rw [e44, e60, e61]
  have hskip : ¬ (nbr (m0 44 0) (a3 / nM m0) (a3 % nM m0) ∧ dM m13 (a3 / nM m0) + ctM m0 (a3 / nM m0) (a3 % nM m0) < dM m13 (a3 % nM m0)) → sprI m0 f S a2 (a3 + 1) m13 := by
    intro hno
    refine ⟨hF, ht, ?_⟩
    rcases hd with ⟨d1, d2, d3⟩ | d1
    · refine Or.inl ⟨d1, d2, fun q q0 q1 hnb => ?_⟩
      by_cases hqa : q = a3
      · rw [hqa] at hnb ⊢
        exact Int.not_lt.mp (fun z => hno ⟨hnb, z⟩)
      · exact d3 q q0 (by omega) hnb
    · exact Or.inr d1
  refine ⟨fun c2 => ⟨ha1, Kin c _ _ _ _ (hskip (fun z => hv.elim (fun h => absurd (h.2.symm.trans c2) (by decide)) (fun h => h.1 z.1)))⟩, fun c2 => ⟨Int.lt_of_lt_of_le hq.2.1 hn.2, Int.lt_of_lt_of_le hq.2.2.2 hn.2, hg, ?_⟩⟩
  have hnb : nbr (m0 44 0) (a3 / nM m0) (a3 % nM m0) := by
    rcases hv with h | h
    · exact h.1
    · exact absurd h.2 c2
  have hda := ht.2.1 _ hq.1 hq.2.1
  have hdb := ht.2.1 _ hq.2.2.1 hq.2.2.2
  have hct := hcs _ _ hq.1 hq.2.1 hq.2.2.1 hq.2.2.2
  change inR (dM m13 (a3 / nM m0) + ctM m0 (a3 / nM m0) (a3 % nM m0)) ∧ (dM m13 (a3 % nM m0) ≤ dM m13 (a3 / nM m0) + ctM m0 (a3 / nM m0) (a3 % nM m0) → _) ∧ (dM m13 (a3 / nM m0) + ctM m0 (a3 / nM m0) (a3 % nM m0) < dM m13 (a3 % nM m0) → _)
  refine ⟨by omega, fun c3 => ⟨ha1, Kin c _ _ _ _ (hskip (fun z => by omega))⟩, fun c3 m18 hm => ⟨ha1, Kin c _ _ _ _ ?_⟩⟩
  have hds : ∀ x : Int, 0 ≤ x → dM m18 x = dset (dM m13) (a3 % nM m0) (dM m13 (a3 / nM m0) + ctM m0 (a3 / nM m0) (a3 % nM m0)) x := by
    rw [hm]
    exact dM_set hq.2.2.1
  refine ⟨by rw [hm]; exact hF.set (by decide), tight_ext f0 hds (tight_set hcs ht hq.1 hq.2.1 hq.2.2.1 hq.2.2.2 hnb c3), Or.inr ⟨rfl, ?_⟩⟩
  rw [sumD_ext _ hds, sumD_set, if_pos (by omega)]
  rcases hd with ⟨d1, d2, d3⟩ | ⟨d1, d2⟩ <;> omega
theorem spr_in {m0 : Mem} {f S : Int} {P : Mem → Prop} (hg : okGM m0) (f0 : 0 ≤ f) (fn : f < nM m0)
    (Kout : ∀ (a2 a3 : Int) (u3 u4 u5 : Vl) (m : Mem), nM m0 * nM m0 ≤ a3 → sprI m0 f S a2 a3 m → w_X10_spreads_34 f P a2 u3 u4 u5 m) :
    ∀ (k : Nat) (a2 a3 : Int) (u4 u5 : Vl) (m : Mem), 0 ≤ a3 → (nM m0 * nM m0 - a3).toNat ≤ k → sprI m0 f S a2 a3 m → w_X10_spreads_42 f P a2 a3 u4 u5 m := by
  intro k
  induction k with
  | zero => intro a2 a3 u4 u5 m h0 hk hI; exact spr_step hg f0 fn h0 hI (fun c u3 => Kout _ _ _ _ _ _ c hI) (fun c => by omega)
  | succ k ih => intro a2 a3 u4 u5 m h0 hk hI; exact spr_step hg f0 fn h0 hI (fun c u3 => Kout _ _ _ _ _ _ c hI) (fun c a2' u4 u5 m' h => ih a2' (a3 + 1) u4 u5 m' (by omega) (by omega) h)
theorem spr_out {m0 : Mem} {f : Int} {P : Mem → Prop} (hg : okGM m0) (f0 : 0 ≤ f) (fn : f < nM m0) (K : ∀ m, Fr [62] m0 m → (∀ c : Int, 0 ≤ c → c < nM m0 → dM m c = dist (nM m0) (m0 44 0) (ctM m0) f c) → P m) :
    ∀ (k : Nat) (a2 : Int) (u3 u4 u5 : Vl) (m : Mem), Fr [62] m0 m → tight (nM m0) (m0 44 0) 10000 (ctM m0) f (dM m) → (a2 = 0 → stable (nM m0) (m0 44 0) (ctM m0) (dM m)) → (¬ a2 = 0 → (sumD (dM m) (nM m0).toNat).toNat < k) → w_X10_spreads_34 f P a2 u3 u4 u5 m := by
  have hcs : costs (nM m0) (ctM m0) := okG_costs hg
  have hn := okG_n hg
  intro k
  induction k with
  | zero =>
    intro a2 u3 u4 u5 m hF ht hs hk
    refine v_X10_spreads_34 ⟨fun c => K m hF (fun x x0 xn => dist_eq (okG_grid hg) hcs f0 fn (isD_of (okG_grid hg) hcs (by omega) f0 fn ht (hs c)) x0 xn), fun c => ?_⟩
    have := hk c
    omega
  | succ k ih =>
    intro a2 u3 u4 u5 m hF ht hs hk
    refine v_X10_spreads_34 ⟨fun c => K m hF (fun x x0 xn => dist_eq (okG_grid hg) hcs f0 fn (isD_of (okG_grid hg) hcs (by omega) f0 fn ht (hs c)) x0 xn), fun c => ?_⟩
    have hk' := hk c
    refine spr_in (S := sumD (dM m) (nM m0).toNat) hg f0 fn (fun a2 a3 u3 u4 u5 m' hle hI => ?_) _ 0 0 u4 u5 m (by omega) (Nat.le_refl _) ⟨hF, ht, Or.inl ⟨rfl, rfl, fun q q0 q1 => by omega⟩⟩
    obtain ⟨hF', ht', hd⟩ := hI
    have hp' := sumD_nn (nM m0).toNat (d := dM m') (fun c c0 cn => (ht'.2.1 c c0 (by omega)).1)
    refine ih a2 u3 u4 u5 m' hF' ht' (fun h0 => ?_) (fun h0 => ?_)
    · rcases hd with ⟨d1, d2, d3⟩ | ⟨d1, d2⟩
      · intro a b a0 an b0 bn hnb
        have hN1 : 0 < nM m0 := by omega
        have hq : (b + a * nM m0) / nM m0 = a ∧ (b + a * nM m0) % nM m0 = b := by
          rw [Int.add_mul_ediv_right _ _ (by omega), Int.add_mul_emod_self_right, Int.ediv_eq_zero_of_lt b0 bn, Int.emod_eq_of_lt b0 bn]
          exact ⟨by omega, rfl⟩
        have hb1 : 0 ≤ a * nM m0 := Int.mul_nonneg a0 (by omega)
        have hb2 : a * nM m0 ≤ (nM m0 - 1) * nM m0 := Int.mul_le_mul_of_nonneg_right (by omega) (by omega)
        have hb3 : (nM m0 - 1) * nM m0 = nM m0 * nM m0 - nM m0 := by rw [Int.sub_mul, Int.one_mul]
        have h1 := d3 (b + a * nM m0) (by omega) (by omega)
        rw [hq.1, hq.2] at h1
        exact h1 hnb
      · omega
    · rcases hd with ⟨d1, d2, d3⟩ | ⟨d1, d2⟩
      · omega
      · omega
theorem spr_fill {m0 : Mem} {f : Int} {P : Mem → Prop} (K : ∀ (u3 u4 u5 : Vl) m, Fr [62] m0 m → (∀ c : Int, 0 ≤ c → c < 12 → dM m c = if c = f then 0 else 10000) → w_X10_spreads_34 f P 1 u3 u4 u5 m) :
    ∀ (k : Nat) (a2 : Int) (u3 u4 u5 : Vl) (m : Mem), 0 ≤ a2 → (12 - a2).toNat ≤ k → Fr [62] m0 m → (∀ c : Int, 0 ≤ c → c < a2 → dM m c = if c = f then 0 else 10000) → w_X10_spreads_2 f P a2 u3 u4 u5 m := by
  intro k
  induction k with
  | zero =>
    intro a2 u3 u4 u5 m h0 hk hF hd
    exact v_X10_spreads_2 ⟨fun c => K _ _ _ _ hF (fun x x0 xn => hd x x0 (by omega)), fun c => by omega⟩
  | succ k ih =>
    intro a2 u3 u4 u5 m h0 hk hF hd
    have hnext : ∀ v : Int, (v = if a2 = f then 0 else 10000) → ∀ x : Int, 0 ≤ x → x < a2 + 1 → dM (mset m 62 a2.toNat v) x = if x = f then 0 else 10000 := by
      intro v hv x x0 x1
      rw [dM_set h0 x x0]
      simp only [dset]
      by_cases hx : x = a2
      · rw [if_pos hx, hv, hx]
      · rw [if_neg hx]
        exact hd x x0 (by omega)
    refine v_X10_spreads_2 ⟨fun c => K _ _ _ _ hF (fun x x0 xn => hd x x0 (by omega)), fun c => ⟨fun c2 => ⟨h0, fun m2 hm => ⟨by omega, ?_⟩⟩, fun c2 => ⟨h0, fun m2 hm => ⟨by omega, ?_⟩⟩⟩⟩
    · rw [hm]
      exact ih _ _ _ _ _ (by omega) (by omega) (hF.set (by decide)) (hnext _ (by rw [if_neg c2]))
    · rw [hm]
      exact ih _ _ _ _ _ (by omega) (by omega) (hF.set (by decide)) (hnext _ (by rw [if_pos c2]))
/-- spreads(from): off is the loss from there; no other cell changes -/
theorem c_X10_spreads {m0 : Mem} {f : Int} (hg : okGM m0) (f0 : 0 ≤ f) (fn : f < nM m0) : Tot mX10_spreads 0 0 [vR 44, vI f] SH m0 (Pn SH (fun m => Fr [62] m0 m ∧ ∀ c : Int, 0 ≤ c → c < nM m0 → dM m c = dist (nM m0) (m0 44 0) (ctM m0) f c)) := by
  have hn := okG_n hg
  refine v_X10_spreads (spr_fill (m0 := m0) (fun u3 u4 u5 m hF hd => ?_) _ 0 _ _ _ m0 (by omega) (Nat.le_refl _) Fr.rf (fun c c0 c1 => by omega))
  refine spr_out hg f0 fn (fun m h1 h2 => ⟨h1, h2⟩) _ 1 u3 u4 u5 m hF ?_ (fun h => by omega) (fun _ => Nat.lt_succ_self _)
  have h12 : nM m0 ≤ 12 := hn.2
  refine ⟨by rw [hd f f0 (by omega), if_pos rfl], fun b b0 bn => ?_, fun b b0 bn hb => Or.inl (by rw [hd b b0 (by omega), if_neg hb])⟩
  rw [hd b b0 (by omega)]
  split <;> omega
