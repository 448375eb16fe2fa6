/-! A TEXT'S TOKENS, and the class' step -/
def spF (L : Nat → Int) (n : Int) : Nat → Int → Int
  | 0, a => a
  | k + 1, a => if a < n ∧ L a.toNat = 32 then spF L n k (a + 1) else a
def dgF (L : Nat → Int) (n : Int) : Nat → Int → Int
  | 0, a => a
  | k + 1, a => if a < n ∧ 48 ≤ L a.toNat ∧ L a.toNat ≤ 57 then dgF L n k (a + 1) else a
def spA (L : Nat → Int) (n a : Int) : Int := spF L n (n - a).toNat a
def dgA (L : Nat → Int) (n a : Int) : Int := dgF L n (n - a).toNat a
theorem spA_go {L : Nat → Int} {n a : Int} (h : a < n ∧ L a.toNat = 32) : spA L n a = spA L n (a + 1) := by
  unfold spA
  rw [show (n - a).toNat = (n - (a + 1)).toNat + 1 by omega]
  simp only [spF]
  rw [if_pos h]
theorem spA_no {L : Nat → Int} {n a : Int} (h : ¬ (a < n ∧ L a.toNat = 32)) : spA L n a = a := by
  unfold spA
  generalize (n - a).toNat = k
  cases k with
  | zero => rfl
  | succ k =>
    simp only [spF]
    rw [if_neg h]
theorem dgA_go {L : Nat → Int} {n a : Int} (h : a < n ∧ 48 ≤ L a.toNat ∧ L a.toNat ≤ 57) : dgA L n a = dgA L n (a + 1) := by
  unfold dgA
  rw [show (n - a).toNat = (n - (a + 1)).toNat + 1 by omega]
  simp only [dgF]
  rw [if_pos h]
theorem dgA_no {L : Nat → Int} {n a : Int} (h : ¬ (a < n ∧ 48 ≤ L a.toNat ∧ L a.toNat ≤ 57)) : dgA L n a = a := by
  unfold dgA
  generalize (n - a).toNat = k
  cases k with
  | zero => rfl
  | succ k =>
    simp only [dgF]
    rw [if_neg h]
theorem spF_b {L : Nat → Int} {n : Int} : ∀ (k : Nat) (a : Int), a ≤ n → a ≤ spF L n k a ∧ spF L n k a ≤ n
  | 0, a, h => ⟨Int.le_refl _, h⟩
  | k + 1, a, h => by
    simp only [spF]
    split
    · have := spF_b (L := L) (n := n) k (a + 1) (by omega)
      omega
    · omega
theorem dgF_b {L : Nat → Int} {n : Int} : ∀ (k : Nat) (a : Int), a ≤ n → a ≤ dgF L n k a ∧ dgF L n k a ≤ n
  | 0, a, h => ⟨Int.le_refl _, h⟩
  | k + 1, a, h => by
    simp only [dgF]
    split
    · have := dgF_b (L := L) (n := n) k (a + 1) (by omega)
      omega
    · omega
theorem spA_b {L : Nat → Int} {n a : Int} (h : a ≤ n) : a ≤ spA L n a ∧ spA L n a ≤ n := spF_b _ a h
theorem dgA_b {L : Nat → Int} {n a : Int} (h : a ≤ n) : a ≤ dgA L n a ∧ dgA L n a ≤ n := dgF_b _ a h
theorem spA_end {L : Nat → Int} {n : Int} : ∀ (k : Nat) (a : Int), (n - a).toNat ≤ k → ¬ (spA L n a < n ∧ L (spA L n a).toNat = 32) := by
  intro k
  induction k with
  | zero =>
    intro a hk
    by_cases c : a < n ∧ L a.toNat = 32
    · omega
    · rw [spA_no c]; exact c
  | succ k ih =>
    intro a hk
    by_cases c : a < n ∧ L a.toNat = 32
    · rw [spA_go c]
      exact ih _ (by omega)
    · rw [spA_no c]; exact c
def digP (c : Int) : Prop := 48 ≤ c ∧ c ≤ 57
/-- a number's digits are one, or two that begin with no zero -/
def twoP (L : Nat → Int) (s e : Int) : Prop := e - s = 1 ∨ (e - s = 2 ∧ L s.toNat ≠ 48)
def twoV (L : Nat → Int) (s e : Int) : Int := if e - s = 1 then L s.toNat - 48 else 10 * (L s.toNat - 48) + (L (s + 1).toNat - 48)
/-- what a token is: 0 the end, 1 a letter v, 2 a number v, 4 no number -/
def tokP (L : Nat → Int) (n a k v s e : Int) : Prop := s = spA L n a ∧ ((n ≤ s ∧ k = 0 ∧ e = s) ∨ (s < n ∧ ¬ digP (L s.toNat) ∧ k = 1 ∧ v = L s.toNat ∧ e = s + 1) ∨ (s < n ∧ digP (L s.toNat) ∧ e = dgA L n s ∧ ((twoP L s e ∧ k = 2 ∧ v = twoV L s e) ∨ (¬ twoP L s e ∧ k = 4))))
theorem tok_one {L : Nat → Int} {n a k v s e k' v' s' e' : Int} (h : tokP L n a k v s e) (h' : tokP L n a k' v' s' e') : k = k' ∧ s = s' ∧ e = e' ∧ (k = 1 ∨ k = 2 → v = v') := by
  obtain ⟨h1, h2⟩ := h
  obtain ⟨h1', h2'⟩ := h'
  have es : s = s' := by rw [h1, h1']
  rw [← es] at h2'
  rcases h2 with ⟨a1, a2, a3⟩ | ⟨a1, a2, a3, a4, a5⟩ | ⟨a1, a2, a3, a4⟩ <;> rcases h2' with ⟨b1, b2, b3⟩ | ⟨b1, b2, b3, b4, b5⟩ | ⟨b1, b2, b3, b4⟩
  · exact ⟨by omega, es, by omega, fun z => by omega⟩
  · omega
  · omega
  · omega
  · exact ⟨by omega, es, by omega, fun z => by omega⟩
  · exact absurd b2 a2
  · omega
  · exact absurd a2 b2
  · have ee : e = e' := by omega
    rw [← ee] at b4
    rcases a4 with ⟨c1, c2, c3⟩ | ⟨c1, c2⟩ <;> rcases b4 with ⟨d1, d2, d3⟩ | ⟨d1, d2⟩
    · exact ⟨by omega, es, ee, fun z => by omega⟩
    · exact absurd c1 d1
    · exact absurd d1 c1
    · exact ⟨by omega, es, ee, fun z => by omega⟩
theorem tok_b {L : Nat → Int} {n a k v s e : Int} (h : tokP L n a k v s e) (a0 : a ≤ n) : a ≤ s ∧ s ≤ n ∧ s ≤ e ∧ e ≤ n ∧ (k = 0 ∨ k = 1 ∨ k = 2 ∨ k = 4) := by
  obtain ⟨h1, h2⟩ := h
  have hs := spA_b (L := L) a0
  rw [← h1] at hs
  rcases h2 with ⟨a1, a2, a3⟩ | ⟨a1, a2, a3, a4, a5⟩ | ⟨a1, a2, a3, a4⟩
  · omega
  · omega
  · have := dgA_b (L := L) (show s ≤ n by omega)
    omega
/-! the class -/
def txOK (m : Mem) : Prop := (0 ≤ m 1 2 ∧ m 1 2 ≤ 200) ∧ ∀ i : Int, 0 ≤ i → i < m 1 2 → 0 ≤ m 2 i.toNat ∧ m 2 i.toNat ≤ 255
def s1F (m0 m : Mem) : Prop := Fr [1] m0 m ∧ m 1 2 = m0 1 2
set_option maxRecDepth 20000 in
theorem v_X8_isDigit {c : Int} {P : Int → Mem → Prop} {mem : Mem}  (H : (c < 48 → P 0 mem) ∧ (48 ≤ c → (57 < c → P 0 mem) ∧ (c ≤ 57 → P 1 mem))) : Tot mX8_isDigit 0 0 [vI c] SH mem (Pr SH P) := by
  refine Tot.of rfl (Nat.le_of_ble_eq_true rfl) (by simp [isJ]) (ls := [vI c]) rfl ?_
  refine q_iload_n dX8_isDigit_0 rfl ?_
  refine q_bipush dX8_isDigit_1 rfl (by decide) ?_
  refine q_icmp_lt (tgt := 16) dX8_isDigit_3 (by decide) (fun c3 => ?_) (fun c3 => ?_)
  · have H := H.1 c3
    refine q_iconst dX8_isDigit_16 (by decide) ?_
    exact q_zret dX8_isDigit_17 rfl (by decide) ⟨_, rfl, rfl, H⟩
  · have H := H.2 c3
    refine q_iload_n dX8_isDigit_6 rfl ?_
    refine q_bipush dX8_isDigit_7 rfl (by decide) ?_
    refine q_icmp_gt (tgt := 16) dX8_isDigit_9 (by decide) (fun c9 => ?_) (fun c9 => ?_)
    · have H := H.1 c9
      refine q_iconst dX8_isDigit_16 (by decide) ?_
      exact q_zret dX8_isDigit_17 rfl (by decide) ⟨_, rfl, rfl, H⟩
    · have H := H.2 c9
      refine q_iconst dX8_isDigit_12 (by decide) ?_
      refine q_goto (tgt := 17) dX8_isDigit_13 (by decide) ?_
      exact q_zret dX8_isDigit_17 rfl (by decide) ⟨_, rfl, rfl, H⟩


theorem c_X8_isDigit {mem : Mem} {c : Int} : Tot mX8_isDigit 0 0 [vI c] SH mem (Pr SH (Pv (if 48 ≤ c ∧ c ≤ 57 then 1 else 0) mem)) := v_X8_isDigit (by grind)
def w_X8_stepNumber_25 (P : Mem → Prop) (a1 : Int) (u2 : Vl) (mem : Mem) : Prop := WP mX8_stepNumber none 0 0 (Pn SH P) 25 [vR 1, vI a1, u2] [] SH mem
set_option maxRecDepth 20000 in
theorem v_X8_stepNumber_25 {P : Mem → Prop} {a1 : Int} {u2 : Vl} {mem : Mem}  (H : ((mem 1 2) ≤ (mem 1 3) → (99 < (mem 1 6) → ∀ m1 : Mem, m1 = (mset mem 1 5 (-3)) → (P m1)) ∧ ((mem 1 6) ≤ 99 → (a1 = 0 → ∀ m2 : Mem, m2 = (mset mem 1 5 (-2)) → (P m2)) ∧ (¬ a1 = 0 → (inR ((mem 1 3) - (mem 1 4))) ∧ ((((mem 1 3) - (mem 1 4)) ≤ 1 → ∀ m4 : Mem, m4 = (mset mem 1 5 (-2)) → (P m4)) ∧ (1 < ((mem 1 3) - (mem 1 4)) → ∀ m5 : Mem, m5 = (mset mem 1 5 (-3)) → (P m5)))))) ∧ ((mem 1 3) < (mem 1 2) → (0 ≤ (mem 1 3)) ∧ (((mem 1 3) < 200) ∧ ((¬ (48 ≤ (mem 2 (mem 1 3).toNat) ∧ (mem 2 (mem 1 3).toNat) ≤ 57) → (99 < (mem 1 6) → ∀ m8 : Mem, m8 = (mset mem 1 5 (-3)) → (P m8)) ∧ ((mem 1 6) ≤ 99 → (a1 = 0 → ∀ m9 : Mem, m9 = (mset mem 1 5 (-2)) → (P m9)) ∧ (¬ a1 = 0 → (inR ((mem 1 3) - (mem 1 4))) ∧ ((((mem 1 3) - (mem 1 4)) ≤ 1 → ∀ m11 : Mem, m11 = (mset mem 1 5 (-2)) → (P m11)) ∧ (1 < ((mem 1 3) - (mem 1 4)) → ∀ m12 : Mem, m12 = (mset mem 1 5 (-3)) → (P m12)))))) ∧ ((48 ≤ (mem 2 (mem 1 3).toNat) ∧ (mem 2 (mem 1 3).toNat) ≤ 57) → (inR ((mem 1 6) * 10)) ∧ ((inR (((mem 1 6) * 10) + (mem 2 (mem 1 3).toNat))) ∧ ((inR ((((mem 1 6) * 10) + (mem 2 (mem 1 3).toNat)) - 48)) ∧ (∀ m16 : Mem, m16 = (mset mem 1 6 (min 100 ((((mem 1 6) * 10) + (mem 2 (mem 1 3).toNat)) - 48))) → ((inR ((m16 1 3) + 1)) ∧ (∀ m18 : Mem, m18 = (mset m16 1 3 ((m16 1 3) + 1)) → (w_X8_stepNumber_25 P a1 u2 m18))))))))))) : w_X8_stepNumber_25 P a1 u2 mem := by
  unfold w_X8_stepNumber_25
  refine q_aload_n dX8_stepNumber_25 rfl ?_
  refine q_geti dX8_stepNumber_26 lf_RX8_31 s1 rfl ?_
  refine q_aload_n dX8_stepNumber_29 rfl ?_
  refine q_geti dX8_stepNumber_30 lf_RX8_18 s1 rfl ?_
  refine q_icmp_ge (tgt := 93) dX8_stepNumber_33 (by decide) (fun c33 => ?_) (fun c33 => ?_)
  · have H := H.1 c33
    refine q_aload_n dX8_stepNumber_93 rfl ?_
    refine q_geti dX8_stepNumber_94 lf_RX8_72 s1 rfl ?_
    refine q_bipush dX8_stepNumber_97 rfl (by decide) ?_
    refine q_icmp_gt (tgt := 119) dX8_stepNumber_99 (by decide) (fun c99 => ?_) (fun c99 => ?_)
    · have H := H.1 c99
      refine q_iconst dX8_stepNumber_119 (by decide) ?_
      refine q_goto (tgt := 124) dX8_stepNumber_120 (by decide) ?_
      refine q_istore_n dX8_stepNumber_124 (by decide) rfl ?_
      refine q_aload_n dX8_stepNumber_125 rfl ?_
      refine q_iload_n dX8_stepNumber_126 rfl ?_
      refine q_if_eq (tgt := 135) dX8_stepNumber_127 (by decide) (fun c => absurd c (by decide)) (fun _ => ?_)
      refine q_bipush dX8_stepNumber_130 rfl (by decide) ?_
      refine q_goto (tgt := 137) dX8_stepNumber_132 (by decide) ?_
      refine q_puti dX8_stepNumber_137 lf_RX8_37 s1 rfl (Or.inl rfl) fit_int ?_
      have H := H _ rfl
      exact q_vret dX8_stepNumber_140 rfl ⟨rfl, rfl, H⟩
    · have H := H.2 c99
      refine q_iload_n dX8_stepNumber_102 rfl ?_
      refine q_if_eq (tgt := 123) dX8_stepNumber_103 (by decide) (fun c103 => ?_) (fun c103 => ?_)
      · have H := H.1 c103
        refine q_iconst dX8_stepNumber_123 (by decide) ?_
        refine q_istore_n dX8_stepNumber_124 (by decide) rfl ?_
        refine q_aload_n dX8_stepNumber_125 rfl ?_
        refine q_iload_n dX8_stepNumber_126 rfl ?_
        refine q_if_eq (tgt := 135) dX8_stepNumber_127 (by decide) (fun _ => ?_) (fun c => absurd c (by decide))
        refine q_bipush dX8_stepNumber_135 rfl (by decide) ?_
        refine q_puti dX8_stepNumber_137 lf_RX8_37 s1 rfl (Or.inl rfl) fit_int ?_
        have H := H _ rfl
        exact q_vret dX8_stepNumber_140 rfl ⟨rfl, rfl, H⟩
      · have H := H.2 c103
        refine q_aload_n dX8_stepNumber_106 rfl ?_
        refine q_geti dX8_stepNumber_107 lf_RX8_31 s1 rfl ?_
        refine q_aload_n dX8_stepNumber_110 rfl ?_
        refine q_geti dX8_stepNumber_111 lf_RX8_48 s1 rfl ?_
        obtain ⟨h3, H⟩ := H
        refine q_isub dX8_stepNumber_114 h3 ?_
        refine q_iconst dX8_stepNumber_115 (by decide) ?_
        refine q_icmp_le (tgt := 123) dX8_stepNumber_116 (by decide) (fun c116 => ?_) (fun c116 => ?_)
        · have H := H.1 c116
          refine q_iconst dX8_stepNumber_123 (by decide) ?_
          refine q_istore_n dX8_stepNumber_124 (by decide) rfl ?_
          refine q_aload_n dX8_stepNumber_125 rfl ?_
          refine q_iload_n dX8_stepNumber_126 rfl ?_
          refine q_if_eq (tgt := 135) dX8_stepNumber_127 (by decide) (fun _ => ?_) (fun c => absurd c (by decide))
          refine q_bipush dX8_stepNumber_135 rfl (by decide) ?_
          refine q_puti dX8_stepNumber_137 lf_RX8_37 s1 rfl (Or.inl rfl) fit_int ?_
          have H := H _ rfl
          exact q_vret dX8_stepNumber_140 rfl ⟨rfl, rfl, H⟩
        · have H := H.2 c116
          refine q_iconst dX8_stepNumber_119 (by decide) ?_
          refine q_goto (tgt := 124) dX8_stepNumber_120 (by decide) ?_
          refine q_istore_n dX8_stepNumber_124 (by decide) rfl ?_
          refine q_aload_n dX8_stepNumber_125 rfl ?_
          refine q_iload_n dX8_stepNumber_126 rfl ?_
          refine q_if_eq (tgt := 135) dX8_stepNumber_127 (by decide) (fun c => absurd c (by decide)) (fun _ => ?_)
          refine q_bipush dX8_stepNumber_130 rfl (by decide) ?_
          refine q_goto (tgt := 137) dX8_stepNumber_132 (by decide) ?_
          refine q_puti dX8_stepNumber_137 lf_RX8_37 s1 rfl (Or.inl rfl) fit_int ?_
          have H := H _ rfl
          exact q_vret dX8_stepNumber_140 rfl ⟨rfl, rfl, H⟩
  · have H := H.2 c33
    refine q_aload_n dX8_stepNumber_36 rfl ?_
    refine q_getr (r := 2) dX8_stepNumber_37 lf_RX8_9 s1 rfl rfl ?_
    refine q_aload_n dX8_stepNumber_40 rfl ?_
    refine q_geti dX8_stepNumber_41 lf_RX8_31 s1 rfl ?_
    obtain ⟨h6, H⟩ := H
    obtain ⟨h7, H⟩ := H
    refine q_iald dX8_stepNumber_44 s2 h6 h7 ?_
    refine q_cSi (as := [vI _]) dX8_stepNumber_45 kmX8_isDigit ktX8_isDigit lm_RX8_101 ⟨by decide, by decide⟩ rfl rfl (Nat.le_of_ble_eq_true rfl) (c_X8_isDigit) (fun v m1 hq => ?_)
    obtain ⟨rfl, rfl⟩ := hq
    refine q_if_eq (tgt := 93) dX8_stepNumber_48 (by decide) (fun c48 => ?_) (fun c48 => ?_)
    · have H := H.1 (b_no c48)
      refine q_aload_n dX8_stepNumber_93 rfl ?_
      refine q_geti dX8_stepNumber_94 lf_RX8_72 s1 rfl ?_
      refine q_bipush dX8_stepNumber_97 rfl (by decide) ?_
      refine q_icmp_gt (tgt := 119) dX8_stepNumber_99 (by decide) (fun c99 => ?_) (fun c99 => ?_)
      · have H := H.1 c99
        refine q_iconst dX8_stepNumber_119 (by decide) ?_
        refine q_goto (tgt := 124) dX8_stepNumber_120 (by decide) ?_
        refine q_istore_n dX8_stepNumber_124 (by decide) rfl ?_
        refine q_aload_n dX8_stepNumber_125 rfl ?_
        refine q_iload_n dX8_stepNumber_126 rfl ?_
        refine q_if_eq (tgt := 135) dX8_stepNumber_127 (by decide) (fun c => absurd c (by decide)) (fun _ => ?_)
        refine q_bipush dX8_stepNumber_130 rfl (by decide) ?_
        refine q_goto (tgt := 137) dX8_stepNumber_132 (by decide) ?_
        refine q_puti dX8_stepNumber_137 lf_RX8_37 s1 rfl (Or.inl rfl) fit_int ?_
        have H := H _ rfl
        exact q_vret dX8_stepNumber_140 rfl ⟨rfl, rfl, H⟩
      · have H := H.2 c99
        refine q_iload_n dX8_stepNumber_102 rfl ?_
        refine q_if_eq (tgt := 123) dX8_stepNumber_103 (by decide) (fun c103 => ?_) (fun c103 => ?_)
        · have H := H.1 c103
          refine q_iconst dX8_stepNumber_123 (by decide) ?_
          refine q_istore_n dX8_stepNumber_124 (by decide) rfl ?_
          refine q_aload_n dX8_stepNumber_125 rfl ?_
          refine q_iload_n dX8_stepNumber_126 rfl ?_
          refine q_if_eq (tgt := 135) dX8_stepNumber_127 (by decide) (fun _ => ?_) (fun c => absurd c (by decide))
          refine q_bipush dX8_stepNumber_135 rfl (by decide) ?_
          refine q_puti dX8_stepNumber_137 lf_RX8_37 s1 rfl (Or.inl rfl) fit_int ?_
          have H := H _ rfl
          exact q_vret dX8_stepNumber_140 rfl ⟨rfl, rfl, H⟩
        · have H := H.2 c103
          refine q_aload_n dX8_stepNumber_106 rfl ?_
          refine q_geti dX8_stepNumber_107 lf_RX8_31 s1 rfl ?_
          refine q_aload_n dX8_stepNumber_110 rfl ?_
          refine q_geti dX8_stepNumber_111 lf_RX8_48 s1 rfl ?_
          obtain ⟨h10, H⟩ := H
          refine q_isub dX8_stepNumber_114 h10 ?_
          refine q_iconst dX8_stepNumber_115 (by decide) ?_
          refine q_icmp_le (tgt := 123) dX8_stepNumber_116 (by decide) (fun c116 => ?_) (fun c116 => ?_)
          · have H := H.1 c116
            refine q_iconst dX8_stepNumber_123 (by decide) ?_
            refine q_istore_n dX8_stepNumber_124 (by decide) rfl ?_
            refine q_aload_n dX8_stepNumber_125 rfl ?_
            refine q_iload_n dX8_stepNumber_126 rfl ?_
            refine q_if_eq (tgt := 135) dX8_stepNumber_127 (by decide) (fun _ => ?_) (fun c => absurd c (by decide))
            refine q_bipush dX8_stepNumber_135 rfl (by decide) ?_
            refine q_puti dX8_stepNumber_137 lf_RX8_37 s1 rfl (Or.inl rfl) fit_int ?_
            have H := H _ rfl
            exact q_vret dX8_stepNumber_140 rfl ⟨rfl, rfl, H⟩
          · have H := H.2 c116
            refine q_iconst dX8_stepNumber_119 (by decide) ?_
            refine q_goto (tgt := 124) dX8_stepNumber_120 (by decide) ?_
            refine q_istore_n dX8_stepNumber_124 (by decide) rfl ?_
            refine q_aload_n dX8_stepNumber_125 rfl ?_
            refine q_iload_n dX8_stepNumber_126 rfl ?_
            refine q_if_eq (tgt := 135) dX8_stepNumber_127 (by decide) (fun c => absurd c (by decide)) (fun _ => ?_)
            refine q_bipush dX8_stepNumber_130 rfl (by decide) ?_
            refine q_goto (tgt := 137) dX8_stepNumber_132 (by decide) ?_
            refine q_puti dX8_stepNumber_137 lf_RX8_37 s1 rfl (Or.inl rfl) fit_int ?_
            have H := H _ rfl
            exact q_vret dX8_stepNumber_140 rfl ⟨rfl, rfl, H⟩
    · have H := H.2 (b_yes c48)
      refine q_aload_n dX8_stepNumber_51 rfl ?_
      refine q_bipush dX8_stepNumber_52 rfl (by decide) ?_
      refine q_aload_n dX8_stepNumber_54 rfl ?_
      refine q_geti dX8_stepNumber_55 lf_RX8_72 s1 rfl ?_
      refine q_bipush dX8_stepNumber_58 rfl (by decide) ?_
      obtain ⟨h13, H⟩ := H
      refine q_imul dX8_stepNumber_60 h13 ?_
      refine q_aload_n dX8_stepNumber_61 rfl ?_
      refine q_getr (r := 2) dX8_stepNumber_62 lf_RX8_9 s1 rfl rfl ?_
      refine q_aload_n dX8_stepNumber_65 rfl ?_
      refine q_geti dX8_stepNumber_66 lf_RX8_31 s1 rfl ?_
      refine q_iald dX8_stepNumber_69 s2 h6 h7 ?_
      obtain ⟨h14, H⟩ := H
      refine q_iadd dX8_stepNumber_70 h14 ?_
      refine q_bipush dX8_stepNumber_71 rfl (by decide) ?_
      obtain ⟨h15, H⟩ := H
      refine q_isub dX8_stepNumber_73 h15 ?_
      refine q_min dX8_stepNumber_74 lm_RX8_108 k_min (by decide) (Nat.le_of_ble_eq_true rfl) ?_
      refine q_puti dX8_stepNumber_77 lf_RX8_72 s1 rfl (Or.inl rfl) fit_int ?_
      have H := H _ rfl
      refine q_aload_n dX8_stepNumber_80 rfl ?_
      refine q_dup dX8_stepNumber_81 rfl ?_
      refine q_geti dX8_stepNumber_82 lf_RX8_31 s1 rfl ?_
      refine q_iconst dX8_stepNumber_85 (by decide) ?_
      obtain ⟨h17, H⟩ := H
      refine q_iadd dX8_stepNumber_86 h17 ?_
      refine q_puti dX8_stepNumber_87 lf_RX8_31 s1 rfl (Or.inl rfl) fit_int ?_
      have H := H _ rfl
      refine q_goto (tgt := 25) dX8_stepNumber_90 (by decide) ?_
      exact H
set_option maxRecDepth 20000 in
theorem v_X8_stepNumber {P : Mem → Prop} {mem : Mem}  (H : (0 ≤ (mem 1 4)) ∧ (((mem 1 4) < 200) ∧ ((¬ (mem 2 (mem 1 4).toNat) = 48 → ∀ m3 : Mem, m3 = (mset mem 1 6 0) → (w_X8_stepNumber_25 P 0 (vJ 0) m3)) ∧ ((mem 2 (mem 1 4).toNat) = 48 → ∀ m4 : Mem, m4 = (mset mem 1 6 0) → (w_X8_stepNumber_25 P 1 (vJ 0) m4))))) : Tot mX8_stepNumber 0 0 [vR 1] SH mem (Pn SH P) := by
  refine Tot.of rfl (Nat.le_of_ble_eq_true rfl) (by simp [isJ]) (ls := [vR 1, vJ 0, vJ 0]) rfl ?_
  refine q_aload_n dX8_stepNumber_0 rfl ?_
  refine q_getr (r := 2) dX8_stepNumber_1 lf_RX8_9 s1 rfl rfl ?_
  refine q_aload_n dX8_stepNumber_4 rfl ?_
  refine q_geti dX8_stepNumber_5 lf_RX8_48 s1 rfl ?_
  obtain ⟨h1, H⟩ := H
  obtain ⟨h2, H⟩ := H
  refine q_iald dX8_stepNumber_8 s2 h1 h2 ?_
  refine q_bipush dX8_stepNumber_9 rfl (by decide) ?_
  refine q_icmp_ne (tgt := 18) dX8_stepNumber_11 (by decide) (fun c11 => ?_) (fun c11 => ?_)
  · have H := H.1 c11
    refine q_iconst dX8_stepNumber_18 (by decide) ?_
    refine q_istore_n dX8_stepNumber_19 (by decide) rfl ?_
    refine q_aload_n dX8_stepNumber_20 rfl ?_
    refine q_iconst dX8_stepNumber_21 (by decide) ?_
    refine q_puti dX8_stepNumber_22 lf_RX8_72 s1 rfl (Or.inl rfl) fit_int ?_
    have H := H _ rfl
    exact H
  · have H := H.2 c11
    refine q_iconst dX8_stepNumber_14 (by decide) ?_
    refine q_goto (tgt := 19) dX8_stepNumber_15 (by decide) ?_
    refine q_istore_n dX8_stepNumber_19 (by decide) rfl ?_
    refine q_aload_n dX8_stepNumber_20 rfl ?_
    refine q_iconst dX8_stepNumber_21 (by decide) ?_
    refine q_puti dX8_stepNumber_22 lf_RX8_72 s1 rfl (Or.inl rfl) fit_int ?_
    have H := H _ rfl
    exact H


def snQ (m : Mem) : Prop := txOK m ∧ (0 ≤ m 1 4 ∧ m 1 4 < m 1 2) ∧ m 1 3 = m 1 4 ∧ digP (m 2 (m 1 4).toNat)
def snP (m0 m : Mem) : Prop := s1F m0 m ∧ m 1 4 = m0 1 4 ∧ m 1 3 = dgA (m0 2) (m0 1 2) (m0 1 4) ∧ ((twoP (m0 2) (m0 1 4) (m 1 3) ∧ m 1 5 = -2 ∧ m 1 6 = twoV (m0 2) (m0 1 4) (m 1 3)) ∨ (¬ twoP (m0 2) (m0 1 4) (m 1 3) ∧ m 1 5 = -3))
/-- the value behind j digits -/
def snV (L : Nat → Int) (s j v : Int) : Prop := (0 ≤ v ∧ v ≤ 100) ∧ (j = 0 → v = 0) ∧ (j = 1 → v = L s.toNat - 48) ∧ (j = 2 → v = 10 * (L s.toNat - 48) + (L (s + 1).toNat - 48)) ∧ (2 ≤ j → 48 ≤ L (s + 1).toNat ∧ L (s + 1).toNat ≤ 57) ∧ (3 ≤ j → L s.toNat ≠ 48 → v = 100)
theorem sn_loop {m0 : Mem} (hq : snQ m0) {a1 : Int} (ha : (a1 = 0 ∧ m0 2 (m0 1 4).toNat ≠ 48) ∨ (a1 = 1 ∧ m0 2 (m0 1 4).toNat = 48)) : ∀ (k : Nat) (u2 : Vl) (m : Mem), s1F m0 m → m 1 4 = m0 1 4 → m0 1 4 ≤ m 1 3 → m 1 3 ≤ m0 1 2 → (m0 1 2 - m 1 3).toNat ≤ k → snV (m0 2) (m0 1 4) (m 1 3 - m0 1 4) (m 1 6) → dgA (m0 2) (m0 1 2) (m0 1 4) = dgA (m0 2) (m0 1 2) (m 1 3) → (1 ≤ m 1 3 - m0 1 4 ∨ m 1 3 = m0 1 4) → w_X8_stepNumber_25 (snP m0) a1 u2 m := by
  obtain ⟨ht, hs, h34, hd⟩ := hq
  unfold digP at hd
  have h200 := ht.1
  have hdone : ∀ (m : Mem), s1F m0 m → m 1 4 = m0 1 4 → m0 1 4 ≤ m 1 3 → m 1 3 ≤ m0 1 2 → snV (m0 2) (m0 1 4) (m 1 3 - m0 1 4) (m 1 6) → dgA (m0 2) (m0 1 2) (m0 1 4) = m 1 3 → (99 < (m 1 6) → ∀ m1 : Mem, m1 = (mset m 1 5 (-3)) → (snP m0 m1)) ∧ ((m 1 6) ≤ 99 → (a1 = 0 → ∀ m2 : Mem, m2 = (mset m 1 5 (-2)) → (snP m0 m2)) ∧ (¬ a1 = 0 → (inR ((m 1 3) - (m 1 4))) ∧ ((((m 1 3) - (m 1 4)) ≤ 1 → ∀ m4 : Mem, m4 = (mset m 1 5 (-2)) → (snP m0 m4)) ∧ (1 < ((m 1 3) - (m 1 4)) → ∀ m5 : Mem, m5 = (mset m 1 5 (-3)) → (snP m0 m5))))) := by
    intro m hF e4 h0 h1 hv he
    have hne : m 1 3 ≠ m0 1 4 := fun e => by
      rw [dgA_go ⟨hs.2, hd.1, hd.2⟩] at he
      have := dgA_b (L := m0 2) (n := m0 1 2) (a := m0 1 4 + 1) (by omega)
      omega
    have hset : ∀ z : Int, s1F m0 (mset m 1 5 z) := fun z => ⟨hF.1.set (by decide), by rw [mset_at, if_neg (by omega)]; exact hF.2⟩
    have hx : ∀ (z : Int) (k : Nat), k ≠ 5 → mset m 1 5 z 1 k = m 1 k := fun z k hk => by rw [mset_at, if_neg (by omega)]
    have hno : ∀ m1 : Mem, m1 = mset m 1 5 (-3) → ¬ twoP (m0 2) (m0 1 4) (m 1 3) → snP m0 m1 := by
      intro m1 e1 hn
      rw [e1]
      refine ⟨hset _, by rw [hx _ 4 (by decide)]; exact e4, by rw [hx _ 3 (by decide)]; exact he.symm, Or.inr ⟨by rw [hx _ 3 (by decide)]; exact hn, mset_eq⟩⟩
    have hyes : ∀ m1 : Mem, m1 = mset m 1 5 (-2) → twoP (m0 2) (m0 1 4) (m 1 3) → snP m0 m1 := by
      intro m1 e1 hn
      rw [e1]
      refine ⟨hset _, by rw [hx _ 4 (by decide)]; exact e4, by rw [hx _ 3 (by decide)]; exact he.symm, Or.inl ⟨by rw [hx _ 3 (by decide)]; exact hn, mset_eq, ?_⟩⟩
      rw [hx _ 6 (by decide), hx _ 3 (by decide)]
      unfold twoV
      have hn' := hn
      unfold twoP at hn'
      by_cases c : m 1 3 - m0 1 4 = 1
      · rw [if_pos c]; exact hv.2.2.1 c
      · rw [if_neg c]; exact hv.2.2.2.1 (by omega)
    have hvv := hv
    unfold snV at hvv
    refine ⟨fun z m1 e1 => hno m1 e1 (fun hn => ?_), fun z => ⟨fun z2 m1 e1 => hyes m1 e1 ?_, fun z2 => ⟨by unfold inR; omega, fun z3 m1 e1 => hyes m1 e1 ?_, fun z3 m1 e1 => hno m1 e1 (fun hn => ?_)⟩⟩⟩
    · unfold twoP at hn
      omega
    · unfold twoP
      omega
    · unfold twoP
      omega
    · unfold twoP at hn
      omega
  intro k
  induction k with
  | zero =>
    intro u2 m hF e4 h0 h1 hk hv hg hp
    have e3 : m 1 3 = m0 1 2 := by omega
    refine v_X8_stepNumber_25 ⟨fun _ => hdone m hF e4 h0 h1 hv ?_, fun q => by rw [hF.2] at q; omega⟩
    rw [hg, dgA_no (by omega)]
  | succ k ih =>
    intro u2 m hF e4 h0 h1 hk hv hg hp
    have e2 : m 2 = m0 2 := hF.1.at 2
    have e12 := hF.2
    refine v_X8_stepNumber_25 ⟨fun q => hdone m hF e4 h0 h1 hv ?_, fun q => ⟨by omega, by omega, fun z => hdone m hF e4 h0 h1 hv ?_, fun z => ?_⟩⟩
    · rw [hF.2] at q
      rw [hg, dgA_no (by omega)]
    · rw [e2] at z
      rw [hg, dgA_no (fun y => z y.2)]
    · rw [e2] at z ⊢
      rw [hF.2] at q
      have hvv := hv
      unfold snV at hvv
      generalize hc : m0 2 (m 1 3).toNat = c at z ⊢
      refine ⟨by unfold inR; omega, by unfold inR; omega, by unfold inR; omega, fun m16 e16 => ?_⟩
      have f3 : m16 1 3 = m 1 3 := by rw [e16, mset_at, if_neg (by omega)]
      have f6 : m16 1 6 = min 100 (m 1 6 * 10 + c - 48) := by rw [e16, mset_eq]
      rw [f3]
      refine ⟨by unfold inR; omega, fun m18 e18 => ?_⟩
      have g3 : m18 1 3 = m 1 3 + 1 := by rw [e18, mset_eq]
      have g6 : m18 1 6 = min 100 (m 1 6 * 10 + c - 48) := by rw [e18, mset_at, if_neg (by omega), f6]
      have g4 : m18 1 4 = m0 1 4 := by rw [e18, mset_at, if_neg (by omega), e16, mset_at, if_neg (by omega), e4]
      have hF18 : s1F m0 m18 := by
        refine ⟨?_, ?_⟩
        · rw [e18, e16]
          exact (hF.1.set (by decide)).set (by decide)
        · rw [e18, mset_at, if_neg (by omega), e16, mset_at, if_neg (by omega), hF.2]
      refine ih _ _ hF18 g4 (by omega) (by omega) (by omega) ?_ ?_ (by omega)
      · rw [g3, g6]
        have hj : m 1 3 + 1 - m0 1 4 = (m 1 3 - m0 1 4) + 1 := by omega
        rw [hj]
        have c0 : m 1 3 - m0 1 4 = 0 → c = m0 2 (m0 1 4).toNat := fun e => by rw [← hc, show m 1 3 = m0 1 4 by omega]
        have c1 : m 1 3 - m0 1 4 = 1 → c = m0 2 (m0 1 4 + 1).toNat := fun e => by rw [← hc, show m 1 3 = m0 1 4 + 1 by omega]
        unfold snV
        generalize m 1 3 - m0 1 4 = j at *
        generalize m 1 6 = v at *
        generalize m0 2 (m0 1 4).toNat = x at *
        generalize m0 2 (m0 1 4 + 1).toNat = y at *
        omega
      · rw [g3, hg]
        exact dgA_go ⟨q, by rw [hc]; exact z.1, by rw [hc]; exact z.2⟩
theorem c_X8_stepNumber {m0 : Mem} (hq : snQ m0) : Tot mX8_stepNumber 0 0 [vR 1] SH m0 (Pn SH (snP m0)) := by
  have hq' := hq
  obtain ⟨ht, hs, h34, hd⟩ := hq'
  have h200 := ht.1
  have hb : ∀ (a1 : Int) (m3 : Mem), ((a1 = 0 ∧ m0 2 (m0 1 4).toNat ≠ 48) ∨ (a1 = 1 ∧ m0 2 (m0 1 4).toNat = 48)) → m3 = mset m0 1 6 0 → w_X8_stepNumber_25 (snP m0) a1 (vJ 0) m3 := by
    intro a1 m3 ha e3
    have f : ∀ k : Nat, k ≠ 6 → m3 1 k = m0 1 k := fun k hk => by rw [e3, mset_at, if_neg (by omega)]
    have g3 : m3 1 3 = m0 1 4 := by rw [f 3 (by decide), h34]
    refine sn_loop hq ha _ _ m3 ⟨by rw [e3]; exact Fr.rf.set (by decide), f 2 (by decide)⟩ (f 4 (by decide)) (by omega) (by omega) (Nat.le_refl _) ?_ (by rw [g3]) (Or.inr g3)
    rw [g3, e3, mset_eq]
    unfold snV
    omega
  exact v_X8_stepNumber ⟨hs.1, by omega, fun z m3 e3 => hb 0 m3 (Or.inl ⟨rfl, z⟩) e3, fun z m4 e4 => hb 1 m4 (Or.inr ⟨rfl, z⟩) e4⟩
def w_X8_step_0 (P : Mem → Prop)  (mem : Mem) : Prop := WP mX8_step none 0 0 (Pn SH P) 0 [vR 1] [] SH mem
set_option maxRecDepth 20000 in
theorem v_X8_step_0 {P : Mem → Prop}  {mem : Mem}  (H : ((mem 1 2) ≤ (mem 1 3) → ∀ m1 : Mem, m1 = (mset mem 1 4 (mem 1 3)) → (((m1 1 3) < (m1 1 2) → (0 ≤ (m1 1 3)) ∧ (((m1 1 3) < 200) ∧ ((¬ (48 ≤ (m1 2 (m1 1 3).toNat) ∧ (m1 2 (m1 1 3).toNat) ≤ 57) → ∀ m4 : Mem, m4 = (mset m1 1 5 (m1 2 (m1 1 3).toNat)) → ((inR ((m4 1 3) + 1)) ∧ (∀ m6 : Mem, m6 = (mset m4 1 3 ((m4 1 3) + 1)) → (P m6)))) ∧ ((48 ≤ (m1 2 (m1 1 3).toNat) ∧ (m1 2 (m1 1 3).toNat) ≤ 57) → (snQ m1) ∧ (∀ m8 : Mem, snP m1 m8 → (P m8)))))) ∧ ((m1 1 2) ≤ (m1 1 3) → ∀ m9 : Mem, m9 = (mset m1 1 5 (-1)) → (P m9)))) ∧ ((mem 1 3) < (mem 1 2) → (0 ≤ (mem 1 3)) ∧ (((mem 1 3) < 200) ∧ ((¬ (mem 2 (mem 1 3).toNat) = 32 → ∀ m12 : Mem, m12 = (mset mem 1 4 (mem 1 3)) → (((m12 1 3) < (m12 1 2) → (0 ≤ (m12 1 3)) ∧ (((m12 1 3) < 200) ∧ ((¬ (48 ≤ (m12 2 (m12 1 3).toNat) ∧ (m12 2 (m12 1 3).toNat) ≤ 57) → ∀ m15 : Mem, m15 = (mset m12 1 5 (m12 2 (m12 1 3).toNat)) → ((inR ((m15 1 3) + 1)) ∧ (∀ m17 : Mem, m17 = (mset m15 1 3 ((m15 1 3) + 1)) → (P m17)))) ∧ ((48 ≤ (m12 2 (m12 1 3).toNat) ∧ (m12 2 (m12 1 3).toNat) ≤ 57) → (snQ m12) ∧ (∀ m19 : Mem, snP m12 m19 → (P m19)))))) ∧ ((m12 1 2) ≤ (m12 1 3) → ∀ m20 : Mem, m20 = (mset m12 1 5 (-1)) → (P m20)))) ∧ ((mem 2 (mem 1 3).toNat) = 32 → (inR ((mem 1 3) + 1)) ∧ (∀ m22 : Mem, m22 = (mset mem 1 3 ((mem 1 3) + 1)) → (w_X8_step_0 P  m22))))))) : w_X8_step_0 P  mem := by
  unfold w_X8_step_0
  refine q_aload_n dX8_step_0 rfl ?_
  refine q_geti dX8_step_1 lf_RX8_31 s1 rfl ?_
  refine q_aload_n dX8_step_4 rfl ?_
  refine q_geti dX8_step_5 lf_RX8_18 s1 rfl ?_
  refine q_icmp_ge (tgt := 38) dX8_step_8 (by decide) (fun c8 => ?_) (fun c8 => ?_)
  · have H := H.1 c8
    refine q_aload_n dX8_step_38 rfl ?_
    refine q_aload_n dX8_step_39 rfl ?_
    refine q_geti dX8_step_40 lf_RX8_31 s1 rfl ?_
    refine q_puti dX8_step_43 lf_RX8_48 s1 rfl (Or.inl rfl) fit_int ?_
    have H := H _ rfl
    refine q_aload_n dX8_step_46 rfl ?_
    refine q_geti dX8_step_47 lf_RX8_31 s1 rfl ?_
    refine q_aload_n dX8_step_50 rfl ?_
    refine q_geti dX8_step_51 lf_RX8_18 s1 rfl ?_
    refine q_icmp_lt (tgt := 65) dX8_step_54 (by decide) (fun c54 => ?_) (fun c54 => ?_)
    · have H := H.1 c54
      refine q_aload_n dX8_step_65 rfl ?_
      refine q_getr (r := 2) dX8_step_66 lf_RX8_9 s1 rfl rfl ?_
      refine q_aload_n dX8_step_69 rfl ?_
      refine q_geti dX8_step_70 lf_RX8_31 s1 rfl ?_
      obtain ⟨h2, H⟩ := H
      obtain ⟨h3, H⟩ := H
      refine q_iald dX8_step_73 s2 h2 h3 ?_
      refine q_cSi (as := [vI _]) dX8_step_74 kmX8_isDigit ktX8_isDigit lm_RX8_101 ⟨by decide, by decide⟩ rfl rfl (Nat.le_of_ble_eq_true rfl) (c_X8_isDigit) (fun v m1 hq => ?_)
      obtain ⟨rfl, rfl⟩ := hq
      refine q_if_eq (tgt := 87) dX8_step_77 (by decide) (fun c77 => ?_) (fun c77 => ?_)
      · have H := H.1 (b_no c77)
        refine q_aload_n dX8_step_87 rfl ?_
        refine q_aload_n dX8_step_88 rfl ?_
        refine q_getr (r := 2) dX8_step_89 lf_RX8_9 s1 rfl rfl ?_
        refine q_aload_n dX8_step_92 rfl ?_
        refine q_geti dX8_step_93 lf_RX8_31 s1 rfl ?_
        refine q_iald dX8_step_96 s2 h2 h3 ?_
        refine q_puti dX8_step_97 lf_RX8_37 s1 rfl (Or.inl rfl) fit_int ?_
        have H := H _ rfl
        refine q_aload_n dX8_step_100 rfl ?_
        refine q_dup dX8_step_101 rfl ?_
        refine q_geti dX8_step_102 lf_RX8_31 s1 rfl ?_
        refine q_iconst dX8_step_105 (by decide) ?_
        obtain ⟨h5, H⟩ := H
        refine q_iadd dX8_step_106 h5 ?_
        refine q_puti dX8_step_107 lf_RX8_31 s1 rfl (Or.inl rfl) fit_int ?_
        have H := H _ rfl
        exact q_vret dX8_step_110 rfl ⟨rfl, rfl, H⟩
      · have H := H.2 (b_yes c77)
        refine q_aload_n dX8_step_80 rfl ?_
        obtain ⟨h7, H⟩ := H
        refine q_cVn (as := []) dX8_step_81 kmX8_stepNumber kvX8_stepNumber lm_RX8_105 ⟨by decide, by decide⟩ s1 ⟨by decide, rfl⟩ rfl rfl (Nat.le_of_ble_eq_true rfl) (c_X8_stepNumber h7) (fun m1 hq => ?_)
        have H := H m1 hq
        refine q_goto (tgt := 110) dX8_step_84 (by decide) ?_
        exact q_vret dX8_step_110 rfl ⟨rfl, rfl, H⟩
    · have H := H.2 c54
      refine q_aload_n dX8_step_57 rfl ?_
      refine q_iconst dX8_step_58 (by decide) ?_
      refine q_puti dX8_step_59 lf_RX8_37 s1 rfl (Or.inl rfl) fit_int ?_
      have H := H _ rfl
      refine q_goto (tgt := 110) dX8_step_62 (by decide) ?_
      exact q_vret dX8_step_110 rfl ⟨rfl, rfl, H⟩
  · have H := H.2 c8
    refine q_aload_n dX8_step_11 rfl ?_
    refine q_getr (r := 2) dX8_step_12 lf_RX8_9 s1 rfl rfl ?_
    refine q_aload_n dX8_step_15 rfl ?_
    refine q_geti dX8_step_16 lf_RX8_31 s1 rfl ?_
    obtain ⟨h10, H⟩ := H
    obtain ⟨h11, H⟩ := H
    refine q_iald dX8_step_19 s2 h10 h11 ?_
    refine q_bipush dX8_step_20 rfl (by decide) ?_
    refine q_icmp_ne (tgt := 38) dX8_step_22 (by decide) (fun c22 => ?_) (fun c22 => ?_)
    · have H := H.1 c22
      refine q_aload_n dX8_step_38 rfl ?_
      refine q_aload_n dX8_step_39 rfl ?_
      refine q_geti dX8_step_40 lf_RX8_31 s1 rfl ?_
      refine q_puti dX8_step_43 lf_RX8_48 s1 rfl (Or.inl rfl) fit_int ?_
      have H := H _ rfl
      refine q_aload_n dX8_step_46 rfl ?_
      refine q_geti dX8_step_47 lf_RX8_31 s1 rfl ?_
      refine q_aload_n dX8_step_50 rfl ?_
      refine q_geti dX8_step_51 lf_RX8_18 s1 rfl ?_
      refine q_icmp_lt (tgt := 65) dX8_step_54 (by decide) (fun c54 => ?_) (fun c54 => ?_)
      · have H := H.1 c54
        refine q_aload_n dX8_step_65 rfl ?_
        refine q_getr (r := 2) dX8_step_66 lf_RX8_9 s1 rfl rfl ?_
        refine q_aload_n dX8_step_69 rfl ?_
        refine q_geti dX8_step_70 lf_RX8_31 s1 rfl ?_
        obtain ⟨h13, H⟩ := H
        obtain ⟨h14, H⟩ := H
        refine q_iald dX8_step_73 s2 h13 h14 ?_
        refine q_cSi (as := [vI _]) dX8_step_74 kmX8_isDigit ktX8_isDigit lm_RX8_101 ⟨by decide, by decide⟩ rfl rfl (Nat.le_of_ble_eq_true rfl) (c_X8_isDigit) (fun v m1 hq => ?_)
        obtain ⟨rfl, rfl⟩ := hq
        refine q_if_eq (tgt := 87) dX8_step_77 (by decide) (fun c77 => ?_) (fun c77 => ?_)
        · have H := H.1 (b_no c77)
          refine q_aload_n dX8_step_87 rfl ?_
          refine q_aload_n dX8_step_88 rfl ?_
          refine q_getr (r := 2) dX8_step_89 lf_RX8_9 s1 rfl rfl ?_
          refine q_aload_n dX8_step_92 rfl ?_
          refine q_geti dX8_step_93 lf_RX8_31 s1 rfl ?_
          refine q_iald dX8_step_96 s2 h13 h14 ?_
          refine q_puti dX8_step_97 lf_RX8_37 s1 rfl (Or.inl rfl) fit_int ?_
          have H := H _ rfl
          refine q_aload_n dX8_step_100 rfl ?_
          refine q_dup dX8_step_101 rfl ?_
          refine q_geti dX8_step_102 lf_RX8_31 s1 rfl ?_
          refine q_iconst dX8_step_105 (by decide) ?_
          obtain ⟨h16, H⟩ := H
          refine q_iadd dX8_step_106 h16 ?_
          refine q_puti dX8_step_107 lf_RX8_31 s1 rfl (Or.inl rfl) fit_int ?_
          have H := H _ rfl
          exact q_vret dX8_step_110 rfl ⟨rfl, rfl, H⟩
        · have H := H.2 (b_yes c77)
          refine q_aload_n dX8_step_80 rfl ?_
          obtain ⟨h18, H⟩ := H
          refine q_cVn (as := []) dX8_step_81 kmX8_stepNumber kvX8_stepNumber lm_RX8_105 ⟨by decide, by decide⟩ s1 ⟨by decide, rfl⟩ rfl rfl (Nat.le_of_ble_eq_true rfl) (c_X8_stepNumber h18) (fun m1 hq => ?_)
          have H := H m1 hq
          refine q_goto (tgt := 110) dX8_step_84 (by decide) ?_
          exact q_vret dX8_step_110 rfl ⟨rfl, rfl, H⟩
      · have H := H.2 c54
        refine q_aload_n dX8_step_57 rfl ?_
        refine q_iconst dX8_step_58 (by decide) ?_
        refine q_puti dX8_step_59 lf_RX8_37 s1 rfl (Or.inl rfl) fit_int ?_
        have H := H _ rfl
        refine q_goto (tgt := 110) dX8_step_62 (by decide) ?_
        exact q_vret dX8_step_110 rfl ⟨rfl, rfl, H⟩
    · have H := H.2 c22
      refine q_aload_n dX8_step_25 rfl ?_
      refine q_dup dX8_step_26 rfl ?_
      refine q_geti dX8_step_27 lf_RX8_31 s1 rfl ?_
      refine q_iconst dX8_step_30 (by decide) ?_
      obtain ⟨h21, H⟩ := H
      refine q_iadd dX8_step_31 h21 ?_
      refine q_puti dX8_step_32 lf_RX8_31 s1 rfl (Or.inl rfl) fit_int ?_
      have H := H _ rfl
      refine q_goto (tgt := 0) dX8_step_35 (by decide) ?_
      exact H
set_option maxRecDepth 20000 in
theorem v_X8_step {P : Mem → Prop} {mem : Mem}  (H : w_X8_step_0 P  mem) : Tot mX8_step 0 0 [vR 1] SH mem (Pn SH P) := by
  refine Tot.of rfl (Nat.le_of_ble_eq_true rfl) (by simp [isJ]) (ls := [vR 1]) rfl ?_
  exact H


def stP (m0 m : Mem) : Prop := s1F m0 m ∧ ∃ k v : Int, tokP (m0 2) (m0 1 2) (m0 1 3) k v (m 1 4) (m 1 3) ∧ ((k = 0 ∧ m 1 5 = -1) ∨ (k = 1 ∧ m 1 5 = v ∧ 0 ≤ v) ∨ (k = 2 ∧ m 1 5 = -2 ∧ m 1 6 = v ∧ 0 ≤ v ∧ v ≤ 99) ∨ (k = 4 ∧ m 1 5 = -3))
theorem st_loop {m0 : Mem} (ht : txOK m0) (h3 : 0 ≤ m0 1 3 ∧ m0 1 3 ≤ m0 1 2) : ∀ (k : Nat) (m : Mem), s1F m0 m → m0 1 3 ≤ m 1 3 → m 1 3 ≤ m0 1 2 → (m0 1 2 - m 1 3).toNat ≤ k → spA (m0 2) (m0 1 2) (m0 1 3) = spA (m0 2) (m0 1 2) (m 1 3) → w_X8_step_0 (stP m0) m := by
  have h200 := ht.1
  -- the token begins here
  have hfin : ∀ (m : Mem), s1F m0 m → m0 1 3 ≤ m 1 3 → m 1 3 ≤ m0 1 2 → m 1 3 = spA (m0 2) (m0 1 2) (m0 1 3) → ∀ m1 : Mem, m1 = mset m 1 4 (m 1 3) → (((m1 1 3) < (m1 1 2) → (0 ≤ (m1 1 3)) ∧ (((m1 1 3) < 200) ∧ ((¬ (48 ≤ (m1 2 (m1 1 3).toNat) ∧ (m1 2 (m1 1 3).toNat) ≤ 57) → ∀ m4 : Mem, m4 = (mset m1 1 5 (m1 2 (m1 1 3).toNat)) → ((inR ((m4 1 3) + 1)) ∧ (∀ m6 : Mem, m6 = (mset m4 1 3 ((m4 1 3) + 1)) → (stP m0 m6)))) ∧ ((48 ≤ (m1 2 (m1 1 3).toNat) ∧ (m1 2 (m1 1 3).toNat) ≤ 57) → (snQ m1) ∧ (∀ m8 : Mem, snP m1 m8 → (stP m0 m8)))))) ∧ ((m1 1 2) ≤ (m1 1 3) → ∀ m9 : Mem, m9 = (mset m1 1 5 (-1)) → (stP m0 m9))) := by
    intro m hF g0 g1 hs m1 e1
    have f : ∀ k : Nat, k ≠ 4 → m1 1 k = m 1 k := fun k hk => by rw [e1, mset_at, if_neg (by omega)]
    have f4 : m1 1 4 = m 1 3 := by rw [e1, mset_eq]
    have hF1 : s1F m0 m1 := ⟨by rw [e1]; exact hF.1.set (by decide), by rw [f 2 (by decide)]; exact hF.2⟩
    have e2 : m1 2 = m0 2 := hF1.1.at 2
    rw [f 3 (by decide), f 2 (by decide), e2, hF.2]
    have hset : ∀ z : Int, s1F m0 (mset m1 1 5 z) := fun z => ⟨hF1.1.set (by decide), by rw [mset_at, if_neg (by omega)]; exact hF1.2⟩
    refine ⟨fun q => ⟨by omega, by omega, fun z m4 e4 => ?_, fun z => ⟨?_, fun m8 h8 => ?_⟩⟩, fun q m9 e9 => ?_⟩
    · have k3 : m4 1 3 = m 1 3 := by rw [e4, mset_at, if_neg (by omega), f 3 (by decide)]
      rw [k3]
      refine ⟨by unfold inR; omega, fun m6 e6 => ?_⟩
      have k6 : ∀ k : Nat, k ≠ 3 → k ≠ 5 → m6 1 k = m1 1 k := fun k hk hk2 => by rw [e6, mset_at, if_neg (by omega), e4, mset_at, if_neg (by omega)]
      have k63 : m6 1 3 = m 1 3 + 1 := by rw [e6, mset_eq]
      have k65 : m6 1 5 = m0 2 (m 1 3).toNat := by rw [e6, mset_at, if_neg (by omega), e4, mset_eq]
      have hl := (ht.2 (m 1 3) (by omega) q).1
      refine ⟨⟨?_, ?_⟩, 1, m0 2 (m 1 3).toNat, ?_, Or.inr (Or.inl ⟨rfl, k65, hl⟩)⟩
      · rw [e6, e4]
        exact (hF1.1.set (by decide)).set (by decide)
      · rw [k6 2 (by decide) (by decide)]; exact hF1.2
      · rw [k6 4 (by decide) (by decide), f4, k63]
        exact ⟨hs, Or.inr (Or.inl ⟨q, z, rfl, rfl, rfl⟩)⟩
    · refine ⟨⟨?_, ?_⟩, ?_, ?_, ?_⟩
      · rw [hF1.2]; exact h200
      · rw [hF1.2, e2]; exact ht.2
      · rw [f4, hF1.2]; exact ⟨by omega, q⟩
      · rw [f4, f 3 (by decide)]
      · rw [f4, e2]; exact z
    · obtain ⟨p1, p2, p3, p4⟩ := h8
      rw [e2, f4, hF1.2] at p3
      rw [e2, f4] at p4
      rw [f4] at p2
      refine ⟨⟨hF1.1.tr p1.1, by rw [p1.2]; exact hF1.2⟩, ?_⟩
      rcases p4 with ⟨q1, q2, q3⟩ | ⟨q1, q2⟩
      · have hv : 0 ≤ m8 1 6 ∧ m8 1 6 ≤ 99 := by
          rw [q3]
          have q1' := q1
          unfold twoP at q1'
          unfold twoV
          by_cases c : m8 1 3 - m 1 3 = 1
          · rw [if_pos c]; omega
          · rw [if_neg c]
            have h2 := p3
            rw [dgA_go ⟨q, z.1, z.2⟩] at h2
            by_cases d : m 1 3 + 1 < m0 1 2 ∧ 48 ≤ m0 2 (m 1 3 + 1).toNat ∧ m0 2 (m 1 3 + 1).toNat ≤ 57
            · omega
            · rw [dgA_no d] at h2
              omega
        refine ⟨2, m8 1 6, ⟨by rw [p2]; exact hs, Or.inr (Or.inr ⟨by rw [p2]; exact q, by rw [p2]; exact z, by rw [p2]; exact p3, Or.inl ⟨by rw [p2]; exact q1, rfl, by rw [p2]; exact q3⟩⟩)⟩, Or.inr (Or.inr (Or.inl ⟨rfl, q2, rfl, hv.1, hv.2⟩))⟩
      · refine ⟨4, 0, ⟨by rw [p2]; exact hs, Or.inr (Or.inr ⟨by rw [p2]; exact q, by rw [p2]; exact z, by rw [p2]; exact p3, Or.inr ⟨by rw [p2]; exact q1, rfl⟩⟩)⟩, Or.inr (Or.inr (Or.inr ⟨rfl, q2⟩))⟩
    · have k9 : ∀ k : Nat, k ≠ 5 → m9 1 k = m1 1 k := fun k hk => by rw [e9, mset_at, if_neg (by omega)]
      refine ⟨by rw [e9]; exact hset _, 0, 0, ⟨?_, Or.inl ⟨?_, rfl, ?_⟩⟩, Or.inl ⟨rfl, by rw [e9, mset_eq]⟩⟩
      · rw [k9 4 (by decide), f4]; exact hs
      · rw [k9 4 (by decide), f4]; exact q
      · rw [k9 4 (by decide), k9 3 (by decide), f4, f 3 (by decide)]
  intro k
  induction k with
  | zero =>
    intro m hF g0 g1 hk hs
    have e2 : m 2 = m0 2 := hF.1.at 2
    refine v_X8_step_0 ⟨fun q => hfin m hF g0 g1 ?_, fun q => by rw [hF.2] at q; omega⟩
    rw [hs, spA_no (by omega)]
  | succ k ih =>
    intro m hF g0 g1 hk hs
    have e2 : m 2 = m0 2 := hF.1.at 2
    have e12 := hF.2
    refine v_X8_step_0 ⟨fun q => hfin m hF g0 g1 ?_, fun q => ⟨by omega, by omega, fun z => hfin m hF g0 g1 ?_, fun z => ⟨by unfold inR; omega, fun m22 e22 => ?_⟩⟩⟩
    · rw [hs, spA_no (by omega)]
    · rw [e2] at z
      rw [hs, spA_no (fun y => z y.2)]
    · rw [e2] at z
      have k3 : m22 1 3 = m 1 3 + 1 := by rw [e22, mset_eq]
      refine ih m22 ⟨by rw [e22]; exact hF.1.set (by decide), by rw [e22, mset_at, if_neg (by omega)]; exact hF.2⟩ (by omega) (by omega) (by omega) ?_
      rw [hs, k3]
      exact spA_go ⟨by omega, z⟩
theorem c_X8_step {m0 : Mem} (ht : txOK m0) (h3 : 0 ≤ m0 1 3 ∧ m0 1 3 ≤ m0 1 2) : Tot mX8_step 0 0 [vR 1] SH m0 (Pn SH (stP m0)) := v_X8_step (st_loop ht h3 _ m0 ⟨Fr.rf, rfl⟩ (Int.le_refl _) h3.2 (Nat.le_refl _) rfl)
