/-! SETS AS BITS; the copy of the present -/
noncomputable def bit1 (P : Prop) (k : Nat) : Nat := @ite Nat P (Classical.propDecidable P) (2 ^ k) 0
theorem bit1_t {P : Prop} {k : Nat} (h : P) : bit1 P k = 2 ^ k := if_pos h
theorem bit1_f {P : Prop} {k : Nat} (h : ¬ P) : bit1 P k = 0 := if_neg h
noncomputable def bitF (p : Int → Prop) : Nat → Nat
  | 0 => 0
  | k + 1 => bitF p k ||| bit1 (p k) k
theorem bitF_lt {p : Int → Prop} : ∀ k : Nat, bitF p k < 2 ^ k
  | 0 => by simp [bitF]
  | k + 1 => by
    have h := bitF_lt (p := p) k
    have e : 2 ^ (k + 1) = 2 ^ k * 2 := Nat.pow_succ 2 k
    unfold bitF
    refine Nat.or_lt_two_pow (by omega) ?_
    by_cases q : p k
    · rw [bit1_t q]; omega
    · rw [bit1_f q]; omega
theorem bitF_test {p : Int → Prop} (i : Nat) : ∀ k : Nat, (bitF p k).testBit i = true ↔ i < k ∧ p i
  | 0 => by simp [bitF]
  | k + 1 => by
    unfold bitF
    rw [Nat.testBit_or, Bool.or_eq_true, bitF_test i k]
    by_cases q : p k
    · rw [bit1_t q, Nat.testBit_two_pow]
      by_cases e : k = i
      · subst e; simp [q]
      · simp [e]; omega
    · rw [bit1_f q]
      by_cases e : k = i
      · subst e; simp [q]
      · simp; omega
theorem bitF_congr {p q : Int → Prop} : ∀ k : Nat, (∀ i : Int, 0 ≤ i → i < k → (p i ↔ q i)) → bitF p k = bitF q k
  | 0, _ => rfl
  | k + 1, h => by
    unfold bitF
    rw [bitF_congr k (fun i h0 h1 => h i h0 (by omega)), show p k = q k from propext (h k (by omega) (by omega))]
theorem bitF_more {p : Int → Prop} (n : Nat) : ∀ k : Nat, n ≤ k → (∀ i : Int, n ≤ i → i < k → ¬ p i) → bitF p k = bitF p n
  | 0, h, _ => by rw [show n = 0 by omega]
  | k + 1, h, hx => by
    by_cases e : n = k + 1
    · rw [e]
    · rw [← bitF_more n k (by omega) (fun i h0 h1 => hx i h0 (by omega))]
      show bitF p k ||| bit1 (p k) k = bitF p k
      rw [bit1_f (hx k (by omega) (by omega)), Nat.or_zero]
theorem bitF_step {p : Int → Prop} {a : Int} (h0 : 0 ≤ a) (hp : p a) : (((((bitF p a.toNat : Nat) : Int)).toNat ||| (((2 ^ a.toNat : Nat) : Int)).toNat : Nat) : Int) = (bitF p (a + 1).toNat : Nat) := by
  rw [show (a + 1).toNat = a.toNat + 1 by omega]
  show _ = ((bitF p a.toNat ||| bit1 (p (a.toNat : Nat)) a.toNat : Nat) : Int)
  rw [bit1_t (by rw [show ((a.toNat : Nat) : Int) = a by omega]; exact hp)]
  rfl
theorem bitF_skip {p : Int → Prop} {a : Int} (h0 : 0 ≤ a) (hp : ¬ p a) : bitF p (a + 1).toNat = bitF p a.toNat := by
  rw [show (a + 1).toNat = a.toNat + 1 by omega]
  show bitF p a.toNat ||| bit1 (p (a.toNat : Nat)) a.toNat = bitF p a.toNat
  rw [bit1_f (by rw [show ((a.toNat : Nat) : Int) = a by omega]; exact hp), Nat.or_zero]
def laD (m : Mem) : Int → Prop := fun s => ¬ m 19 s.toNat = -9
theorem lab_loop {m0 : Mem} : ∀ (k : Nat) (a2 : Int), 0 ≤ a2 → a2 ≤ 4 → (4 - a2).toNat ≤ k → w_X4_laidBits_4 (Pv (bitF (laD m0) 4 : Nat) m0) (bitF (laD m0) a2.toNat : Nat) a2 m0 := by
  intro k
  induction k with
  | zero => intro a2 h0 h1 hk; exact v_X4_laidBits_4 ⟨fun _ => by rw [show a2 = 4 by omega]; exact ⟨rfl, rfl⟩, fun c => by omega⟩
  | succ k ih =>
    intro a2 h0 h1 hk
    refine v_X4_laidBits_4 ⟨fun _ => by rw [show a2 = 4 by omega]; exact ⟨rfl, rfl⟩, fun c => ⟨fun q => ⟨by omega, ?_⟩, fun q => ⟨h0, by omega, Int.natCast_nonneg _, Int.natCast_nonneg _, by omega, ?_⟩⟩⟩
    · rw [← bitF_skip (p := laD m0) h0 (fun z => q ⟨⟨h0, c⟩, z⟩)]
      exact ih _ (by omega) (by omega) (by omega)
    · rw [bitF_step (p := laD m0) h0 q.2]
      exact ih _ (by omega) (by omega) (by omega)
theorem c_X4_laidBits {m0 : Mem} : Tot mX4_laidBits 0 0 [vR 18] SH m0 (Pr SH (Pv (bitF (laD m0) 4 : Nat) m0)) := v_X4_laidBits (lab_loop _ 0 (by omega) (by omega) (Nat.le_refl _))
def cpP (m0 m : Mem) : Prop := Fr [21, 22, 23] m0 m ∧ m 21 2 = m0 18 2 ∧ m 21 3 = m0 18 3 ∧ ∀ s : Int, 0 ≤ s → s < 4 → m 22 s.toNat = m0 19 s.toNat ∧ m 23 s.toNat = m0 20 s.toNat
theorem cp_loop {m0 : Mem} {P : Mem → Prop} (K : ∀ m, Fr [22, 23] m0 m → (∀ s : Int, 0 ≤ s → s < 4 → m 22 s.toNat = m0 19 s.toNat ∧ m 23 s.toNat = m0 20 s.toNat) → P m) : ∀ (k : Nat) (a2 : Int) (m : Mem), 0 ≤ a2 → (4 - a2).toNat ≤ k → Fr [22, 23] m0 m → (∀ s : Int, 0 ≤ s → s < a2 → m 22 s.toNat = m0 19 s.toNat ∧ m 23 s.toNat = m0 20 s.toNat) → w_X4_copyFrom_18 P a2 m := by
  intro k
  induction k with
  | zero => intro a2 m h0 hk hF hx; exact v_X4_copyFrom_18 ⟨fun c => K m hF (fun s s0 s1 => hx s s0 (by omega)), fun c => by omega⟩
  | succ k ih =>
    intro a2 m h0 hk hF hx
    refine v_X4_copyFrom_18 ⟨fun c => K m hF (fun s s0 s1 => hx s s0 (by omega)), fun c => ⟨h0, fun m2 e2 m3 e3 => ⟨by omega, ?_⟩⟩⟩
    have e20 : m2 20 = m0 20 := by rw [e2, mset_ne 20 (by decide)]; exact hF.at 20
    rw [e20] at e3
    rw [hF.at 19] at e2
    refine ih _ _ (by omega) (by omega) (by rw [e3, e2]; exact (hF.set (by decide)).set (by decide)) (fun s s0 s1 => ?_)
    rw [e3, mset_ne 22 (by decide), mset_at, e2, mset_at, mset_ne 23 (by decide)]
    by_cases q : s = a2
    · rw [q, if_pos ⟨rfl, rfl⟩, if_pos ⟨rfl, rfl⟩]
      exact ⟨rfl, rfl⟩
    · rw [if_neg (by omega), if_neg (by omega)]
      exact hx s s0 (by omega)
theorem c_X4_copyFrom {m0 : Mem} : Tot mX4_copyFrom 0 0 [vR 21, vR 18] SH m0 (Pn SH (cpP m0)) := by
  refine v_X4_copyFrom (fun m1 e1 m2 e2 => ?_)
  have hF : Fr [21] m0 m2 := by rw [e2, e1]; exact (Fr.rf.set (by decide)).set (by decide)
  refine cp_loop (m0 := m2) (fun m hm hx => ⟨(hF.mono (by decide)).tr (hm.mono (by decide)), ?_, ?_, fun s s0 s1 => ?_⟩) _ 0 m2 (by omega) (Nat.le_refl _) Fr.rf (fun s s0 s1 => by omega)
  · rw [hm.at 21, e2, mset_at, if_neg (by omega), e1, mset_eq]
  · rw [hm.at 21, e2, mset_eq, e1, mset_ne 18 (by decide)]
  · rw [(hx s s0 s1).1, (hx s s0 s1).2, hF.at 19, hF.at 20]
    exact ⟨rfl, rfl⟩

