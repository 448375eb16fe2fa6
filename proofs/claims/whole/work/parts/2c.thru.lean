/-! THE CLASS: the first sheet that is worn through -/
theorem losF_cg {on on' ld ld' : Int → Int} {s : Int} : ∀ (k : Nat), (∀ c : Int, 0 ≤ c → c < k → on c = on' c ∧ ld c = ld' c) → losF on ld s k = losF on' ld' s k
  | 0, _ => rfl
  | k + 1, h => by
    obtain ⟨h1, h2⟩ := h k (by omega) (by omega)
    simp only [losF]
    rw [h1, h2, losF_cg k (fun c c0 ck => h c c0 (by omega))]
theorem losF_no {on ld : Int → Int} {s : Int} : ∀ (k : Nat), (∀ c : Int, 0 ≤ c → c < k → on c ≠ s) → losF on ld s k = 0
  | 0, _ => rfl
  | k + 1, h => by
    simp only [losF]
    rw [if_neg (h k (by omega) (by omega)), losF_no k (fun c c0 ck => h c c0 (by omega))]
theorem onF_li {w : Int} {wi lo li : Int → Int} {s x : Int} (hs : 0 ≤ s) : ∀ (k : Nat), onF w wi lo li k x = s → li s ≠ -9 ∧ s < k
  | 0, h => by
    simp only [onF] at h
    omega
  | k + 1, h => by
    simp only [onF] at h
    split at h
    · next q => rw [← h]; exact ⟨q.1, by omega⟩
    · have := onF_li hs k h
      exact ⟨this.1, by omega⟩
theorem onF_cg {w : Int} {wi lo li wi' lo' li' : Int → Int} : ∀ (k : Nat) (x : Int), (∀ s : Int, 0 ≤ s → s < k → wi s = wi' s ∧ lo s = lo' s ∧ li s = li' s) → onF w wi lo li k x = onF w wi' lo' li' k x
  | 0, _, _ => rfl
  | k + 1, x, h => by
    obtain ⟨h1, h2, h3⟩ := h k (by omega) (by omega)
    simp only [onF]
    rw [h1, h2, h3, onF_cg k x (fun s s0 sk => h s s0 (by omega))]
/-- by how much s wears in an hour, when all are worn by W -/
noncomputable def hrW (n w fall : Int) (on : Nat → Int) (A B S C : Int → Int) (kn : Nat) (T W : Int → Int) (hr s : Int) : Int := losF (fun c => on c.toNat) (fun c => loudF A B S C (dist n w (takeF fall on (fun i => max 0 (T i - W i / 10)))) c hr hr kn) s n.toNat
noncomputable def wsF (n w fall : Int) (on : Nat → Int) (A B S C : Int → Int) (kn : Nat) (T W : Int → Int) (h : Int) : Nat → Int → Int
  | 0 => W
  | j + 1 => fun s => wsF n w fall on A B S C kn T W h j s + hrW n w fall on A B S C kn T (wsF n w fall on A B S C kn T W h j) ((h + j) % 24) s / 10
noncomputable abbrev hrD (m : Mem) (W : Int → Int) (hr s : Int) : Int := hrW (m 4 5) (m 4 3) (m 4 6) (m 35) (noA m) (noB m) (noS m) (noC m) (m 5 2).toNat (shT m) W hr s
theorem hrD_fr {ks : List Nat} {m m' : Mem} (h : Fr ks m m') (h4 : 4 ∉ ks := by decide) (h5 : 5 ∉ ks := by decide) (h6 : 6 ∉ ks := by decide) (h7 : 7 ∉ ks := by decide) (h8 : 8 ∉ ks := by decide) (h35 : 35 ∉ ks := by decide) : hrD m' = hrD m := by
  funext W hr s
  unfold hrD
  rw [h 4 h4, h 5 h5, h 35 h35, (no_fr h h5 h6).1, (no_fr h h5 h6).2.1, (no_fr h h5 h6).2.2.1, (no_fr h h5 h6).2.2.2, (sh_fr h h7 h8).2.2.1]
theorem morD_hrD {m : Mem} {W : Int → Int} {hr s : Int} (hy : rdy m) (hon : ∀ x : Int, 0 ≤ x → x < 12 → m 35 x.toNat = -9 ∨ (0 ≤ m 35 x.toNat ∧ m 35 x.toNat < m 7 2)) (hth : ∀ s : Int, 0 ≤ s → s < m 7 2 → m 36 s.toNat = max 0 (shT m s - W s / 10)) : morD m hr s = hrD m W hr s := by
  obtain ⟨hg, hcs⟩ := okGD_g hy.2.1.1
  have hn := grid_n hg
  have h5 := hy.1.2.2.2.2.2.1
  have hno := hy.1.2.2.2.2.2.2.2.2.1
  refine losF_cg _ (fun c c0 cn => ⟨rfl, loudF_congr _ (fun i i0 ik => ⟨rfl, rfl, rfl, ?_⟩)⟩)
  have q := hno i i0 (by omega)
  refine dist_congr hg hcs q.1.1 q.1.2 (fun a b a0 an b0 bn => ?_) c0 (by omega)
  show takeF (m 4 6) (m 35) (m 36) a b = takeF (m 4 6) (m 35) _ a b
  have hb := hon b b0 (by omega)
  unfold takeF
  by_cases e : m 35 b.toNat = -9
  · rw [if_pos e, if_pos e]
  · have hb' : 0 ≤ m 35 b.toNat ∧ m 35 b.toNat < m 7 2 := by omega
    have et := hth _ hb'.1 hb'.2
    have ec : (((m 35 b.toNat).toNat : Nat) : Int) = m 35 b.toNat := by omega
    rw [if_neg e, if_neg e, et]
    simp only [ec]
theorem hrD_b {m : Mem} {W : Int → Int} {hr s : Int} (hy : rdy m) (hon : ∀ x : Int, 0 ≤ x → x < 12 → m 35 x.toNat = -9 ∨ (0 ≤ m 35 x.toNat ∧ m 35 x.toNat < m 7 2)) (hth : ∀ s : Int, 0 ≤ s → s < m 7 2 → m 36 s.toNat = max 0 (shT m s - W s / 10)) : 0 ≤ hrD m W hr s ∧ hrD m W hr s ≤ 99 := by
  rw [← morD_hrD hy hon hth]
  exact morD_b hy
noncomputable abbrev wsD (m : Mem) (on : Nat → Int) (j : Nat) (s : Int) : Int := wsF (m 4 5) (m 4 3) (m 4 6) on (noA m) (noB m) (noS m) (noC m) (m 5 2).toNat (shT m) (fun s => m 20 s.toNat) (m 18 3) j s
/-- the answer: hours and sheet in one number -/
def thrP (wh : Int → Prop) (Z : Int → Int → Prop) (ns v : Int) : Prop := (v = -9 ∧ ∀ k s : Int, 1 ≤ k → k ≤ 240 → 0 ≤ s → s < ns → wh s → ¬ Z k s) ∨ ∃ k s : Int, (1 ≤ k ∧ k ≤ 240) ∧ (0 ≤ s ∧ s < ns) ∧ wh s ∧ Z k s ∧ v = k * 4 + s ∧ (∀ k' s' : Int, 1 ≤ k' → k' < k → 0 ≤ s' → s' < ns → wh s' → ¬ Z k' s') ∧ ∀ s' : Int, 0 ≤ s' → s' < s → wh s' → ¬ Z k s'
abbrev zeD (m : Mem) (on : Nat → Int) (k s : Int) : Prop := max 0 (shT m s - wsD m on k.toNat s / 10) = 0
def ftQ (m0 : Mem) (v : Int) (m : Mem) : Prop := (∃ on : Nat → Int, (∀ x : Int, 0 ≤ x → x < 12 → on x.toNat = onD m0 19 (m0 7 2).toNat x) ∧ thrP (whD m0) (zeD m0 on) (m0 7 2) v) ∧ Fr [21, 22, 23, 35, 36, 38, 39, 40] m0 m ∧ okD m
def ftI (m0 m6 : Mem) (j : Nat) (m : Mem) : Prop := Fr [21, 23, 36, 38, 39, 40] m6 m ∧ rdy m ∧ moD m 22 23 ∧ (∀ s : Int, 0 ≤ s → s < 4 → m 23 s.toNat = wsD m0 (m6 35) j s ∧ 0 ≤ m 23 s.toNat ∧ m 23 s.toNat ≤ 50000 + 10 * j) ∧ (∀ s : Int, 0 ≤ s → s < m0 7 2 → m 36 s.toNat = thD m 23 s) ∧ m 21 3 = (m0 18 3 + j) % 24 ∧ 0 ≤ m 21 2 ∧ m 21 2 ≤ 99 + j
def ft6 (m0 m6 : Mem) : Prop := Fr [21, 22, 23, 35, 36, 38, 40] m0 m6 ∧ (∀ s : Int, 0 ≤ s → s < 4 → m6 22 s.toNat = m0 19 s.toNat) ∧ ∀ x : Int, 0 ≤ x → x < 12 → m6 35 x.toNat = onD m0 19 (m0 7 2).toNat x
theorem tk_fr {m : Mem} {h : Nat} : Fr [h] m (tickF m h) := fun k hk => by
  have hk' : k ≠ h := fun e => hk (by rw [e]; exact List.mem_singleton.mpr rfl)
  unfold tickF
  split
  · exact mset_ne k hk'
  · rw [mset_ne k hk', mset_ne k hk', mset_ne k hk']
theorem tk_v {m : Mem} {h : Nat} (h3 : 0 ≤ m h 3 ∧ m h 3 ≤ 23) : tickF m h h 3 = (m h 3 + 1) % 24 ∧ tickF m h h 2 = m h 2 + (if m h 3 = 23 then 1 else 0) := by
  unfold tickF
  by_cases c : m h 3 + 1 < 24
  · rw [if_pos c, mset_eq, mset_at, if_neg (by omega), if_neg (by omega)]
    omega
  · rw [if_neg c, if_pos (by omega), mset_at, if_neg (by omega), mset_eq, mset_eq]
    omega
theorem ft_pass {m0 m6 m m' : Mem} {j : Nat} (hj : j ≤ 240) (h6 : ft6 m0 m6) (hI : ftI m0 m6 j m) (hp : phP_21 m m') : ftI m0 m6 (j + 1) m' := by
  obtain ⟨hF, hy, hmo, hw, hth, hh, hd0, hd1⟩ := hI
  obtain ⟨m1, e1, hF1, hfl, hlo, hwe, hth1⟩ := hp
  have hL : Fr [21, 22, 23, 35, 36, 38, 39, 40] m0 m := (h6.1.mono (by decide)).tr (hF.mono (by decide))
  have e7 : m 7 = m0 7 := hL.at 7
  have hns := hy.1.2.2.2.2.2.2.1
  rw [e7] at hns
  have hn := nD_b hy.1
  have e35 : m 35 = m6 35 := hF.at 35
  have e22 : m 22 = m6 22 := hF.at 22
  have esh : shT m = shT m0 := (sh_fr hL).2.2.1
  have hon : ∀ x : Int, 0 ≤ x → x < 12 → m 35 x.toNat = -9 ∨ (0 ≤ m 35 x.toNat ∧ m 35 x.toNat < m 7 2) := by
    intro x x0 x1
    rw [e35, h6.2.2 x x0 x1, e7]
    have q := onF_b (w := m0 4 3) (wi := shW m0) (lo := shL m0) (li := liD m0 19) (m0 7 2).toNat x
    have e : (((m0 7 2).toNat : Nat) : Int) = m0 7 2 := by omega
    rw [e] at q
    exact q
  have hthW : ∀ s : Int, 0 ≤ s → s < m 7 2 → m 36 s.toNat = max 0 (shT m s - wsD m0 (m6 35) j s / 10) := by
    intro s s0 sn
    rw [e7] at sn
    rw [hth s s0 sn, ← (hw s s0 (by omega)).1]
    show max 0 (shT m s - (if 0 ≤ s ∧ s < 4 then m 23 s.toNat else 0) / 10) = _
    rw [if_pos ⟨s0, by omega⟩]
  have ehr : ∀ s : Int, morD m (m 21 3) s = hrW (m0 4 5) (m0 4 3) (m0 4 6) (m6 35) (noA m0) (noB m0) (noS m0) (noC m0) (m0 5 2).toNat (shT m0) (wsD m0 (m6 35) j) ((m0 18 3 + j) % 24) s := by
    intro s
    refine (morD_hrD hy hon hthW).trans ?_
    unfold hrD
    rw [hh, hL.at 4, hL.at 5, e35, esh, (no_fr hL).1, (no_fr hL).2.1, (no_fr hL).2.2.1, (no_fr hL).2.2.2]
  have hst : ∀ s : Int, wsD m0 (m6 35) (j + 1) s = wsD m0 (m6 35) j s + morD m (m 21 3) s / 10 := fun s => by rw [ehr s]; rfl
  have hnot : ∀ s : Int, 0 ≤ s → s < 4 → ¬ (s < m 7 2 ∧ ¬ m 22 s.toNat = -9) → morD m (m 21 3) s = 0 := by
    intro s s0 s4 hq
    refine losF_no _ (fun c c0 cn he => hq ?_)
    have he' : m 35 c.toNat = s := he
    rw [e35, h6.2.2 c c0 (by omega)] at he'
    have := onF_li s0 _ he'
    refine ⟨by rw [e7]; omega, ?_⟩
    rw [e22, h6.2.1 s s0 s4]
    exact this.1
  have hFt : Fr [21] m1 m' := by rw [e1]; exact tk_fr
  have hFa : Fr [21, 23, 36, 38, 39, 40] m m' := (hF1.mono (by decide)).tr (hFt.mono (by decide))
  have e23 : m' 23 = m1 23 := hFt.at 23
  have hwn : ∀ s : Int, 0 ≤ s → s < 4 → m' 23 s.toNat = wsD m0 (m6 35) (j + 1) s ∧ 0 ≤ m' 23 s.toNat ∧ m' 23 s.toNat ≤ 50000 + 10 * ((j + 1 : Nat) : Int) := by
    intro s s0 s4
    have hb := morD_b hy (hr := m 21 3) (s := s)
    have hq := hw s s0 s4
    rw [e23, hwe s s0 s4, hst s, ← hq.1]
    by_cases c : s < m 7 2 ∧ ¬ m 22 s.toNat = -9
    · rw [if_pos c]
      refine ⟨rfl, ?_⟩
      generalize morD m (m 21 3) s = z at hb ⊢
      omega
    · rw [if_neg c, hnot s s0 s4 c]
      omega
  have h21 : 0 ≤ m1 21 3 ∧ m1 21 3 ≤ 23 := by rw [hF1.at 21, hh]; omega
  have htv := tk_v (m := m1) (h := 21) h21
  rw [← e1, hF1.at 21, hh] at htv
  refine ⟨hF.tr hFa, ⟨(hsD_fr hFa).mpr hy.1, (flOK_fr hFt).mpr hfl, ?_⟩, ?_, hwn, fun s s0 sn => ?_, ?_, ?_⟩
  · unfold losOK rowD
    rw [DD_fr hFt, hFt.at 4, hFt.at 39, hFt.at 40]
    exact hlo
  · exact moD_set (hFa.at 4) (hFa.at 7) (hFa.at 8) (hFa.at 22) (fun s s0 s4 => by have := (hwn s s0 s4).2; omega) hmo
  · rw [hFt.at 36, hth1 s s0 (by rw [e7]; exact sn)]
    show max 0 (shT m1 s - (if 0 ≤ s ∧ s < 4 then m1 23 s.toNat else 0) / 10) = max 0 (shT m' s - (if 0 ≤ s ∧ s < 4 then m' 23 s.toNat else 0) / 10)
    rw [e23, (sh_fr hFt).2.2.1]
  · rw [htv.1]
    omega
  · rw [htv.2]
    constructor
    · split <;> omega
    · split <;> omega
theorem bit_t {b k : Nat} : ((b : Int) / ((2 ^ k : Nat) : Int)) % 2 = 1 ↔ b.testBit k = true := by
  rw [Nat.testBit_eq_decide_div_mod_eq, decide_eq_true_iff]
  norm_cast
set_option maxRecDepth 20000 in
theorem v_X9_hasBit {a b : Int} {P : Int → Mem → Prop} {mem : Mem}  (H : (0 ≤ a) ∧ ((0 ≤ b) ∧ ((b < 31) ∧ ((0 ≤ (a / ((2 ^ (b).toNat : Nat) : Int))) ∧ ((¬ ((a / ((2 ^ (b).toNat : Nat) : Int)) % 2) = 1 → P 0 mem) ∧ (((a / ((2 ^ (b).toNat : Nat) : Int)) % 2) = 1 → P 1 mem)))))) : Tot mX9_hasBit 0 0 [vI a, vI b] SH mem (Pr SH P) := by
  refine Tot.of rfl (Nat.le_of_ble_eq_true rfl) (by simp [isJ]) (ls := [vI a, vI b]) rfl ?_
  refine q_iload_n dX9_hasBit_0 rfl ?_
  refine q_iload_n dX9_hasBit_1 rfl ?_
  obtain ⟨h1, H⟩ := H
  obtain ⟨h2, H⟩ := H
  obtain ⟨h3, H⟩ := H
  refine q_shr dX9_hasBit_2 h1 h2 h3 ?_
  refine q_iconst dX9_hasBit_3 (by decide) ?_
  obtain ⟨h4, H⟩ := H
  refine q_and1 dX9_hasBit_4 h4 ?_
  refine q_iconst dX9_hasBit_5 (by decide) ?_
  refine q_icmp_ne (tgt := 13) dX9_hasBit_6 (by decide) (fun c6 => ?_) (fun c6 => ?_)
  · have H := H.1 c6
    refine q_iconst dX9_hasBit_13 (by decide) ?_
    exact q_zret dX9_hasBit_14 rfl (by decide) ⟨_, rfl, rfl, H⟩
  · have H := H.2 c6
    refine q_iconst dX9_hasBit_9 (by decide) ?_
    refine q_goto (tgt := 14) dX9_hasBit_10 (by decide) ?_
    exact q_zret dX9_hasBit_14 rfl (by decide) ⟨_, rfl, rfl, H⟩


theorem c_X9_hasBit {mem : Mem} {a b : Int} (a0 : 0 ≤ a) (b0 : 0 ≤ b) (b1 : b < 31) : Tot mX9_hasBit 0 0 [vI a, vI b] SH mem (Pr SH (Pv (if (a / ((2 ^ b.toNat : Nat) : Int)) % 2 = 1 then 1 else 0) mem)) :=
  v_X9_hasBit ⟨a0, b0, b1, Int.ediv_nonneg a0 (Int.natCast_nonneg _), fun q => by rw [if_neg q]; exact ⟨rfl, rfl⟩, fun q => by rw [if_pos q]; exact ⟨rfl, rfl⟩⟩
/-- what a look ahead wants of the present -/
def thrOK (m : Mem) : Prop := (∀ s : Int, 0 ≤ s → s < 4 → m 20 s.toNat ≤ 50000) ∧ (0 ≤ m 18 3 ∧ m 18 3 ≤ 23) ∧ 0 ≤ m 18 2 ∧ m 18 2 ≤ 99
def w_X9_firstThrough_29 (P : Int → Mem → Prop) (a1 : Int) (a2 : Int) (u3 : Vl) (mem : Mem) : Prop := WP mX9_firstThrough none 0 0 (Pr SH P) 29 [vR 0, vI a1, vI a2, u3] [] SH mem
def w_X9_firstThrough_50 (P : Int → Mem → Prop) (a1 : Int) (a2 : Int) (a3 : Int) (mem : Mem) : Prop := WP mX9_firstThrough none 0 0 (Pr SH P) 50 [vR 0, vI a1, vI a2, vI a3] [] SH mem
set_option maxRecDepth 20000 in
theorem v_X9_firstThrough_29 {P : Int → Mem → Prop} {a1 : Int} {a2 : Int} {u3 : Vl} {mem : Mem}  (H : (240 < a2 → P (-9) mem) ∧ (a2 ≤ 240 → (a1 = 0 → P (-9) mem) ∧ (¬ a1 = 0 → (rdy mem) ∧ ((moD mem 22 23) ∧ ((∀ s : Int, 0 ≤ s → s < 4 → mem 23 s.toNat ≤ 99990) ∧ ((0 ≤ mem 21 3 ∧ mem 21 3 ≤ 23) ∧ ((0 ≤ mem 21 2 ∧ mem 21 2 ≤ 1000) ∧ (∀ m6 : Mem, phP_21 mem m6 → (w_X9_firstThrough_50 P a1 a2 0 m6))))))))) : w_X9_firstThrough_29 P a1 a2 u3 mem := by
  unfold w_X9_firstThrough_29
  refine q_iload_n dX9_firstThrough_29 rfl ?_
  refine q_sipush dX9_firstThrough_30 rfl (by decide) ?_
  refine q_icmp_gt (tgt := 105) dX9_firstThrough_33 (by decide) (fun c33 => ?_) (fun c33 => ?_)
  · have H := H.1 c33
    refine q_bipush dX9_firstThrough_105 rfl (by decide) ?_
    exact q_iret dX9_firstThrough_107 rfl ⟨_, rfl, rfl, H⟩
  · have H := H.2 c33
    refine q_iload_n dX9_firstThrough_36 rfl ?_
    refine q_if_eq (tgt := 105) dX9_firstThrough_37 (by decide) (fun c37 => ?_) (fun c37 => ?_)
    · have H := H.1 c37
      refine q_bipush dX9_firstThrough_105 rfl (by decide) ?_
      exact q_iret dX9_firstThrough_107 rfl ⟨_, rfl, rfl, H⟩
    · have H := H.2 c37
      refine q_aload_n dX9_firstThrough_40 rfl ?_
      refine q_aload_n dX9_firstThrough_41 rfl ?_
      refine q_getr (r := 21) dX9_firstThrough_42 lf_RX9_33 s0 rfl rfl ?_
      obtain ⟨h1, H⟩ := H
      obtain ⟨h2, H⟩ := H
      obtain ⟨h3, H⟩ := H
      obtain ⟨h4, H⟩ := H
      obtain ⟨h5, H⟩ := H
      refine q_cVn (as := [vR _]) dX9_firstThrough_45 kmX9_passHour kvX9_passHour lm_RX9_208 ⟨by decide, by decide⟩ s0 ⟨by decide, rfl⟩ rfl rfl (Nat.le_of_ble_eq_true rfl) (c_X9_passHour_21 h1 h2 h3 h4 h5) (fun m1 hq => ?_)
      have H := H m1 hq
      refine q_iconst dX9_firstThrough_48 (by decide) ?_
      refine q_istore_n dX9_firstThrough_49 (by decide) rfl ?_
      exact H
set_option maxRecDepth 20000 in
theorem v_X9_firstThrough_50 {P : Int → Mem → Prop} {a1 : Int} {a2 : Int} {a3 : Int} {mem : Mem}  (H : ((mem 7 2) ≤ a3 → (inR (a2 + 1)) ∧ (w_X9_firstThrough_29 P a1 (a2 + 1) (vI a3) mem)) ∧ (a3 < (mem 7 2) → (0 ≤ a1) ∧ ((0 ≤ a3) ∧ ((a3 < 31) ∧ ((¬ ((a1 / ((2 ^ a3.toNat : Nat) : Int)) % 2 = 1) → (inR (a3 + 1)) ∧ (w_X9_firstThrough_50 P a1 a2 (a3 + 1) mem)) ∧ (((a1 / ((2 ^ a3.toNat : Nat) : Int)) % 2 = 1) → (hsD mem) ∧ ((moD mem 22 23) ∧ ((a3 < mem 7 2) ∧ ((¬ (thD mem 23 a3) = 0 → (inR (a3 + 1)) ∧ (w_X9_firstThrough_50 P a1 a2 (a3 + 1) mem)) ∧ ((thD mem 23 a3) = 0 → (inR (a2 * 4)) ∧ ((inR ((a2 * 4) + a3)) ∧ (P ((a2 * 4) + a3) mem)))))))))))) : w_X9_firstThrough_50 P a1 a2 a3 mem := by
  unfold w_X9_firstThrough_50
  refine q_iload_n dX9_firstThrough_50 rfl ?_
  refine q_aload_n dX9_firstThrough_51 rfl ?_
  refine q_getr (r := 4) dX9_firstThrough_52 lf_RX9_19 s0 rfl rfl ?_
  refine q_getr (r := 7) dX9_firstThrough_55 lf_RX9_144 s4 rfl rfl ?_
  refine q_cVi (as := []) dX9_firstThrough_58 kmX6_size kvX6_size lm_RX9_214 ⟨by decide, by decide⟩ s7 ⟨by decide, rfl⟩ rfl rfl (Nat.le_of_ble_eq_true rfl) (c_X6_size s7) (fun v m1 hq => ?_)
  obtain ⟨rfl, rfl⟩ := hq
  refine q_icmp_ge (tgt := 99) dX9_firstThrough_61 (by decide) (fun c61 => ?_) (fun c61 => ?_)
  · have H := H.1 c61
    obtain ⟨h1, H⟩ := H
    refine q_iinc dX9_firstThrough_99 rfl h1 rfl ?_
    refine q_goto (tgt := 29) dX9_firstThrough_102 (by decide) ?_
    exact H
  · have H := H.2 c61
    refine q_iload_n dX9_firstThrough_64 rfl ?_
    refine q_iload_n dX9_firstThrough_65 rfl ?_
    obtain ⟨h2, H⟩ := H
    obtain ⟨h3, H⟩ := H
    obtain ⟨h4, H⟩ := H
    refine q_cSi (as := [vI _, vI _]) dX9_firstThrough_66 kmX9_hasBit ktX9_hasBit lm_RX9_238 ⟨by decide, by decide⟩ rfl rfl (Nat.le_of_ble_eq_true rfl) (c_X9_hasBit h2 h3 h4) (fun v m1 hq => ?_)
    obtain ⟨rfl, rfl⟩ := hq
    refine q_if_eq (tgt := 93) dX9_firstThrough_69 (by decide) (fun c69 => ?_) (fun c69 => ?_)
    · have H := H.1 (b_no c69)
      obtain ⟨h5, H⟩ := H
      refine q_iinc dX9_firstThrough_93 rfl h5 rfl ?_
      refine q_goto (tgt := 50) dX9_firstThrough_96 (by decide) ?_
      exact H
    · have H := H.2 (b_yes c69)
      refine q_aload_n dX9_firstThrough_72 rfl ?_
      refine q_getr (r := 4) dX9_firstThrough_73 lf_RX9_19 s0 rfl rfl ?_
      refine q_iload_n dX9_firstThrough_76 rfl ?_
      refine q_aload_n dX9_firstThrough_77 rfl ?_
      refine q_getr (r := 21) dX9_firstThrough_78 lf_RX9_33 s0 rfl rfl ?_
      obtain ⟨h6, H⟩ := H
      obtain ⟨h7, H⟩ := H
      obtain ⟨h8, H⟩ := H
      refine q_cVi (as := [vI _, vR _]) dX9_firstThrough_81 kmX3_thickNow kvX3_thickNow lm_RX9_154 ⟨by decide, by decide⟩ s4 ⟨by decide, rfl⟩ rfl rfl (Nat.le_of_ble_eq_true rfl) (c_X3_thickNow s21 s22 s23 h6 h7 h3 h8) (fun v m1 hq => ?_)
      obtain ⟨rfl, rfl⟩ := hq
      refine q_if_ne (tgt := 93) dX9_firstThrough_84 (by decide) (fun c84 => ?_) (fun c84 => ?_)
      · have H := H.1 c84
        obtain ⟨h9, H⟩ := H
        refine q_iinc dX9_firstThrough_93 rfl h9 rfl ?_
        refine q_goto (tgt := 50) dX9_firstThrough_96 (by decide) ?_
        exact H
      · have H := H.2 c84
        refine q_iload_n dX9_firstThrough_87 rfl ?_
        refine q_iconst dX9_firstThrough_88 (by decide) ?_
        obtain ⟨h10, H⟩ := H
        refine q_imul dX9_firstThrough_89 h10 ?_
        refine q_iload_n dX9_firstThrough_90 rfl ?_
        obtain ⟨h11, H⟩ := H
        refine q_iadd dX9_firstThrough_91 h11 ?_
        exact q_iret dX9_firstThrough_92 rfl ⟨_, rfl, rfl, H⟩
set_option maxRecDepth 20000 in
theorem v_X9_firstThrough {P : Int → Mem → Prop} {mem : Mem}  (H : ∀ m1 : Mem, cpP mem m1 → ((hsD m1) ∧ ((moD m1 22 23) ∧ ((nextOK (m1 4 5) (m1 4 3) (m1 37)) ∧ ((thOK m1) ∧ (∀ m6 : Mem, shoP m1 22 23 m6 → ((hsD m6) ∧ ((moD m6 19 20) ∧ (w_X9_firstThrough_29 P ((bitF (whD m6) (m6 7 2).toNat : Nat) : Int) 1 (vJ 0) m6))))))))) : Tot mX9_firstThrough 0 0 [vR 0] SH mem (Pr SH P) := by
  refine Tot.of rfl (Nat.le_of_ble_eq_true rfl) (by simp [isJ]) (ls := [vR 0, vJ 0, vJ 0, vJ 0]) rfl ?_
  refine q_aload_n dX9_firstThrough_0 rfl ?_
  refine q_getr (r := 21) dX9_firstThrough_1 lf_RX9_33 s0 rfl rfl ?_
  refine q_aload_n dX9_firstThrough_4 rfl ?_
  refine q_getr (r := 18) dX9_firstThrough_5 lf_RX9_29 s0 rfl rfl ?_
  refine q_cVn (as := [vR _]) dX9_firstThrough_8 kmX4_copyFrom kvX4_copyFrom lm_RX9_233 ⟨by decide, by decide⟩ s21 ⟨by decide, rfl⟩ rfl rfl (Nat.le_of_ble_eq_true rfl) (c_X4_copyFrom) (fun m1 hq => ?_)
  have H := H m1 hq
  refine q_aload_n dX9_firstThrough_11 rfl ?_
  refine q_getr (r := 34) dX9_firstThrough_12 lf_RX9_71 s0 rfl rfl ?_
  refine q_aload_n dX9_firstThrough_15 rfl ?_
  refine q_getr (r := 21) dX9_firstThrough_16 lf_RX9_33 s0 rfl rfl ?_
  obtain ⟨h2, H⟩ := H
  obtain ⟨h3, H⟩ := H
  obtain ⟨h4, H⟩ := H
  obtain ⟨h5, H⟩ := H
  refine q_cVn (as := [vR _]) dX9_firstThrough_19 kmX1_show kvX1_show lm_RX9_164 ⟨by decide, by decide⟩ s34 ⟨by decide, rfl⟩ rfl rfl (Nat.le_of_ble_eq_true rfl) (c_X1_show s21 s22 s23 (by decide) h2 h3 h4 h5) (fun m1 hq => ?_)
  have H := H m1 hq
  refine q_aload_n dX9_firstThrough_22 rfl ?_
  obtain ⟨h7, H⟩ := H
  obtain ⟨h8, H⟩ := H
  refine q_cVi (as := []) dX9_firstThrough_23 kmX9_wholeBits kvX9_wholeBits lm_RX9_235 ⟨by decide, by decide⟩ s0 ⟨by decide, rfl⟩ rfl rfl (Nat.le_of_ble_eq_true rfl) (c_X9_wholeBits h7 h8) (fun v m1 hq => ?_)
  obtain ⟨rfl, rfl⟩ := hq
  refine q_istore_n dX9_firstThrough_26 (by decide) rfl ?_
  refine q_iconst dX9_firstThrough_27 (by decide) ?_
  refine q_istore_n dX9_firstThrough_28 (by decide) rfl ?_
  exact H


theorem okD_of {m0 m : Mem} (ho : okD m0) (hL : Fr [21, 22, 23, 35, 36, 38, 39, 40] m0 m) (hy : rdy m) : okD m := by
  obtain ⟨a, b, c, d, e⟩ := ho
  refine ⟨hy.1, (moD_fr hL (by decide) (by decide)).mpr b, ?_, ?_, ?_⟩
  · rw [hL.at 4, hL.at 37]; exact c
  · exact hy.2.1.1.1.2.2.2.2.2
  · unfold paOK; rw [hL.at 24, hL.at 25]; exact e
theorem ft_in {m0 m6 m : Mem} {j : Nat} (ho : okD m0) (h6 : ft6 m0 m6) (hI : ftI m0 m6 (j + 1) m) (hj : j + 1 ≤ 240) (hprev : ∀ k s : Int, 1 ≤ k → k < (j : Int) + 1 → 0 ≤ s → s < m0 7 2 → whD m0 s → ¬ zeD m0 (m6 35) k s) (K : ∀ u : Vl, (∀ s : Int, 0 ≤ s → s < m0 7 2 → whD m0 s → ¬ zeD m0 (m6 35) ((j : Int) + 1) s) → w_X9_firstThrough_29 (ftQ m0) (bitF (whD m0) (m0 7 2).toNat : Nat) ((j : Int) + 1 + 1) u m) :
    ∀ (k : Nat) (a3 : Int), 0 ≤ a3 → a3 ≤ m0 7 2 → (m0 7 2 - a3).toNat ≤ k → (∀ s : Int, 0 ≤ s → s < a3 → whD m0 s → ¬ zeD m0 (m6 35) ((j : Int) + 1) s) → w_X9_firstThrough_50 (ftQ m0) (bitF (whD m0) (m0 7 2).toNat : Nat) ((j : Int) + 1) a3 m := by
  obtain ⟨hF, hy, hmo, hw, hth, hh, hd0, hd1⟩ := hI
  have hL : Fr [21, 22, 23, 35, 36, 38, 39, 40] m0 m := (h6.1.mono (by decide)).tr (hF.mono (by decide))
  have e7 : m 7 = m0 7 := hL.at 7
  have hns := ho.1.2.2.2.2.2.2.1
  intro k
  induction k with
  | zero =>
    intro a3 h0 h1 hk hx
    refine v_X9_firstThrough_50 ⟨fun _ => ⟨by unfold inR; omega, K _ (fun s s0 s1 => hx s s0 (by omega))⟩, fun q => ?_⟩
    rw [e7] at q
    omega
  | succ k ih =>
    intro a3 h0 h1 hk hx
    refine v_X9_firstThrough_50 ⟨fun q => ⟨by unfold inR; omega, K _ (fun s s0 s1 => hx s s0 (by rw [e7] at q; omega))⟩, fun q => ?_⟩
    have q7 := q
    rw [e7] at q
    have hbt : ((((bitF (whD m0) (m0 7 2).toNat : Nat) : Int) / ((2 ^ a3.toNat : Nat) : Int)) % 2 = 1) ↔ whD m0 a3 := by
      have e : ((a3.toNat : Nat) : Int) = a3 := by omega
      rw [bit_t, bitF_test, e]
      exact ⟨fun z => z.2, fun z => ⟨by omega, z⟩⟩
    have hz : thD m 23 a3 = 0 ↔ zeD m0 (m6 35) ((j : Int) + 1) a3 := by
      have e : ((j : Int) + 1).toNat = j + 1 := by omega
      show max 0 (shT m a3 - (if 0 ≤ a3 ∧ a3 < 4 then m 23 a3.toNat else 0) / 10) = 0 ↔ max 0 (shT m0 a3 - wsD m0 (m6 35) ((j : Int) + 1).toNat a3 / 10) = 0
      rw [if_pos ⟨h0, by omega⟩, (hw a3 h0 (by omega)).1, (sh_fr hL).2.2.1, e]
    refine ⟨Int.natCast_nonneg _, h0, by omega, fun y => ⟨by unfold inR; omega, ?_⟩, fun y => ⟨hy.1, hmo, q7, fun x => ⟨by unfold inR; omega, ?_⟩, fun x => ⟨by unfold inR; omega, by unfold inR; omega, ?_⟩⟩⟩
    · refine ih _ (by omega) (by omega) (by omega) (fun s s0 s1 hs => ?_)
      by_cases e : s = a3
      · rw [e] at hs
        exact absurd (hbt.mpr hs) y
      · exact hx s s0 (by omega) hs
    · refine ih _ (by omega) (by omega) (by omega) (fun s s0 s1 hs => ?_)
      by_cases e : s = a3
      · rw [e]
        exact fun z => x (hz.mpr z)
      · exact hx s s0 (by omega) hs
    · exact ⟨⟨m6 35, h6.2.2, Or.inr ⟨(j : Int) + 1, a3, ⟨by omega, by omega⟩, ⟨h0, q⟩, hbt.mp y, hz.mp x, rfl, hprev, hx⟩⟩, hL, okD_of ho hL hy⟩
theorem ft_out {m0 m6 : Mem} (ho : okD m0) (h6 : ft6 m0 m6) : ∀ (k j : Nat) (u : Vl) (m : Mem), 240 - j ≤ k → j ≤ 240 → ftI m0 m6 j m → (∀ k s : Int, 1 ≤ k → k < (j : Int) + 1 → 0 ≤ s → s < m0 7 2 → whD m0 s → ¬ zeD m0 (m6 35) k s) → w_X9_firstThrough_29 (ftQ m0) (bitF (whD m0) (m0 7 2).toNat : Nat) ((j : Int) + 1) u m := by
  intro k
  induction k with
  | zero =>
    intro j u m hk hj hI hp
    have hL : Fr [21, 22, 23, 35, 36, 38, 39, 40] m0 m := (h6.1.mono (by decide)).tr (hI.1.mono (by decide))
    exact v_X9_firstThrough_29 ⟨fun q => ⟨⟨m6 35, h6.2.2, Or.inl ⟨rfl, fun k s k1 k2 s0 s1 => hp k s k1 (by omega) s0 s1⟩⟩, hL, okD_of ho hL hI.2.1⟩, fun q => by omega⟩
  | succ k ih =>
    intro j u m hk hj hI hp
    have hL : Fr [21, 22, 23, 35, 36, 38, 39, 40] m0 m := (h6.1.mono (by decide)).tr (hI.1.mono (by decide))
    have hns := ho.1.2.2.2.2.2.2.1
    refine v_X9_firstThrough_29 ⟨fun q => ⟨⟨m6 35, h6.2.2, Or.inl ⟨rfl, fun k s k1 k2 s0 s1 => hp k s k1 (by omega) s0 s1⟩⟩, hL, okD_of ho hL hI.2.1⟩, fun q => ⟨fun z => ⟨⟨m6 35, h6.2.2, Or.inl ⟨rfl, fun k s k1 k2 s0 s1 hs => ?_⟩⟩, hL, okD_of ho hL hI.2.1⟩, fun z => ⟨hI.2.1, hI.2.2.1, fun s s0 s1 => ?_, ?_, ?_, fun m' h' => ?_⟩⟩⟩
    · have z' : bitF (whD m0) (m0 7 2).toNat = 0 := by omega
      have := (bitF_test (p := whD m0) s.toNat (m0 7 2).toNat).mpr ⟨by omega, by rw [show ((s.toNat : Nat) : Int) = s by omega]; exact hs⟩
      rw [z', Nat.zero_testBit] at this
      exact absurd this (by decide)
    · have := (hI.2.2.2.1 s s0 s1).2
      omega
    · have := hI.2.2.2.2.2.1
      omega
    · have := hI.2.2.2.2.2.2
      omega
    · have hI' := ft_pass (by omega) h6 hI h'
      refine ft_in ho h6 hI' (by omega) hp (fun u hx => ?_) _ 0 (by omega) (by omega) (Nat.le_refl _) (fun s s0 s1 => by omega)
      exact ih (j + 1) u m' (by omega) (by omega) hI' (fun k s k1 k2 s0 s1 => by
        by_cases e : k = (j : Int) + 1
        · rw [e]; exact hx s s0 s1
        · exact hp k s k1 (by omega) s0 s1)
theorem c_X9_firstThrough {m0 : Mem} (ho : okD m0) (ht : thrOK m0) : Tot mX9_firstThrough 0 0 [vR 0] SH m0 (Pr SH (ftQ m0)) := by
  refine v_X9_firstThrough (fun m1 h1 => ?_)
  obtain ⟨hF1, hd, hh, hc⟩ := h1
  have ho1 : okD m1 := okD_fr hF1 ho
  have hm1 : moD m1 22 23 := by
    have hb := (moD_fr hF1 (by decide) (by decide)).mpr ho.2.1
    have e1 : ∀ s : Int, 0 ≤ s → s < 4 → m1 22 s.toNat = m1 19 s.toNat := fun s s0 s1 => by rw [(hc s s0 s1).1, hF1.at 19]
    have e2 : ∀ s : Int, 0 ≤ s → s < 4 → m1 23 s.toNat = m1 20 s.toNat := fun s s0 s1 => by rw [(hc s s0 s1).2, hF1.at 20]
    refine ⟨fun s s0 s1 => ?_, fun s t x s0 s1 t0 t1 => ?_⟩
    · rw [e1 s s0 s1, e2 s s0 s1]
      exact hb.1 s s0 s1
    · rw [e1 s s0 s1, e1 t t0 t1]
      exact hb.2 s t x s0 s1 t0 t1
  refine ⟨ho1.1, hm1, ho1.2.2.1, ho1.2.2.2.1, fun m6 h6 => ?_⟩
  have hL : Fr [21, 22, 23, 35, 36, 38, 40] m0 m6 := (hF1.mono (by decide)).tr (h6.1.mono (by decide))
  have hF6 : Fr [35, 36, 38, 40] m1 m6 := h6.1
  have hy6 : rdy m6 := ⟨(hsD_fr h6.1).mpr ho1.1, h6.2.1, h6.2.2.1⟩
  have hns := ho.1.2.2.2.2.2.2.1
  have ewh : whD m6 = whD m0 := by
    unfold whD
    funext s
    show (_ ∧ 0 < max 0 (shT m6 s - (if 0 ≤ s ∧ s < 4 then m6 20 s.toNat else 0) / 10)) = (_ ∧ 0 < max 0 (shT m0 s - (if 0 ≤ s ∧ s < 4 then m0 20 s.toNat else 0) / 10))
    rw [hL.at 19, hL.at 20, (sh_fr hL).2.2.1]
  rw [ewh, hL.at 7]
  refine ⟨hy6.1, (moD_fr hL (by decide) (by decide)).mpr ho.2.1, ?_⟩
  have h66 : ft6 m0 m6 := by
    refine ⟨hL, fun s s0 s1 => by rw [hF6.at 22, (hc s s0 s1).1], fun x x0 x1 => ?_⟩
    rw [h6.2.2.2.1 x x0 x1]
    unfold onD
    rw [hF1.at 4, hF1.at 7, (sh_fr hF1).1, (sh_fr hF1).2.1]
    refine onF_cg _ x (fun s s0 sk => ⟨rfl, rfl, (hc s s0 (by omega)).1⟩)
  refine ft_out ho h66 240 0 _ m6 (by omega) (by omega) ⟨Fr.rf, hy6, (moD_fr h6.1 (by decide) (by decide)).mpr hm1, fun s s0 s1 => ?_, fun s s0 s1 => ?_, ?_, ?_⟩ (fun k s k1 k2 s0 s1 => by omega)
  · rw [hF6.at 23, (hc s s0 s1).2]
    refine ⟨rfl, (ho.2.1.1 s s0 s1).2.1, ?_⟩
    have := ht.1 s s0 s1
    omega
  · rw [h6.2.2.2.2 s s0 (by rw [hF1.at 7]; exact s1)]
    show max 0 (shT m1 s - (if 0 ≤ s ∧ s < 4 then m1 23 s.toNat else 0) / 10) = max 0 (shT m6 s - (if 0 ≤ s ∧ s < 4 then m6 23 s.toNat else 0) / 10)
    rw [hF6.at 23, (sh_fr hF6).2.2.1]
  · rw [hF6.at 21, hh]
    have := ht.2.1
    omega
  · rw [hF6.at 21, hd]
    have := ht.2.2
    omega
set_option maxRecDepth 20000 in
theorem v_X9_through {w : Int} {P : Int → Mem → Prop} {mem : Mem}  (H : ((0 ≤ w ∧ w ≤ 1) → (okD mem) ∧ ((thrOK mem) ∧ (∀ (v3 : Int) (m4 : Mem), ftQ mem v3 m4 → ((¬ v3 = (-9) → (¬ w = 0 → (0 ≤ v3) ∧ (P (v3 % 4) m4)) ∧ (w = 0 → (0 ≤ v3) ∧ (P (v3 / 4) m4))) ∧ (v3 = (-9) → P (-9) m4))))) ∧ (¬ (0 ≤ w ∧ w ≤ 1) → P (-1) mem)) : Tot mX9_through 0 0 [vR 0, vI w] SH mem (Pr SH P) := by
  refine Tot.of rfl (Nat.le_of_ble_eq_true rfl) (by simp [isJ]) (ls := [vR 0, vI w, vJ 0]) rfl ?_
  refine q_iload_n dX9_through_0 rfl ?_
  refine q_iconst dX9_through_1 (by decide) ?_
  refine q_iconst dX9_through_2 (by decide) ?_
  refine q_cSi (as := [vI _, vI _, vI _]) dX9_through_3 kmX9_isWithin ktX9_isWithin lm_RX9_97 ⟨by decide, by decide⟩ rfl rfl (Nat.le_of_ble_eq_true rfl) (c_X9_isWithin) (fun v m1 hq => ?_)
  obtain ⟨rfl, rfl⟩ := hq
  refine q_if_ne (tgt := 11) dX9_through_6 (by decide) (fun c6 => ?_) (fun c6 => ?_)
  · have H := H.1 (b_yes c6)
    refine q_aload_n dX9_through_11 rfl ?_
    obtain ⟨h1, H⟩ := H
    obtain ⟨h2, H⟩ := H
    refine q_cVi (as := []) dX9_through_12 kmX9_firstThrough kvX9_firstThrough lm_RX9_230 ⟨by decide, by decide⟩ s0 ⟨by decide, rfl⟩ rfl rfl (Nat.le_of_ble_eq_true rfl) (c_X9_firstThrough h1 h2) (fun v m1 hq => ?_)
    have H := H v m1 hq
    refine q_istore_n dX9_through_15 (by decide) rfl ?_
    refine q_iload_n dX9_through_16 rfl ?_
    refine q_bipush dX9_through_17 rfl (by decide) ?_
    refine q_icmp_ne (tgt := 25) dX9_through_19 (by decide) (fun c19 => ?_) (fun c19 => ?_)
    · have H := H.1 c19
      refine q_iload_n dX9_through_25 rfl ?_
      refine q_if_ne (tgt := 35) dX9_through_26 (by decide) (fun c26 => ?_) (fun c26 => ?_)
      · have H := H.1 c26
        refine q_iload_n dX9_through_35 rfl ?_
        refine q_iconst dX9_through_36 (by decide) ?_
        obtain ⟨h5, H⟩ := H
        refine q_irem dX9_through_37 h5 (by decide) ?_
        exact q_iret dX9_through_38 rfl ⟨_, rfl, rfl, H⟩
      · have H := H.2 c26
        refine q_iload_n dX9_through_29 rfl ?_
        refine q_iconst dX9_through_30 (by decide) ?_
        obtain ⟨h6, H⟩ := H
        refine q_idiv dX9_through_31 h6 (by decide) ?_
        refine q_goto (tgt := 38) dX9_through_32 (by decide) ?_
        exact q_iret dX9_through_38 rfl ⟨_, rfl, rfl, H⟩
    · have H := H.2 c19
      refine q_bipush dX9_through_22 rfl (by decide) ?_
      exact q_iret dX9_through_24 rfl ⟨_, rfl, rfl, H⟩
  · have H := H.2 (b_no c6)
    refine q_iconst dX9_through_9 (by decide) ?_
    exact q_iret dX9_through_10 rfl ⟨_, rfl, rfl, H⟩


def thQ (m0 : Mem) (w v : Int) (m : Mem) : Prop := (¬ (0 ≤ w ∧ w ≤ 1) ∧ v = -1 ∧ m = m0) ∨ ((0 ≤ w ∧ w ≤ 1) ∧ ∃ f, ftQ m0 f m ∧ v = if f = -9 then -9 else if w = 0 then f / 4 else f % 4)
theorem c_X9_through {m0 : Mem} {w : Int} (ho : okD m0) (ht : thrOK m0) : Tot mX9_through 0 0 [vR 0, vI w] SH m0 (Pr SH (thQ m0 w)) := by
  refine v_X9_through ⟨fun q => ⟨ho, ht, fun v2 m3 h3 => ?_⟩, fun q => Or.inl ⟨q, rfl, rfl⟩⟩
  have hv : v2 = -9 ∨ 0 ≤ v2 := by
    obtain ⟨⟨on, -, h | ⟨k, s, hk, hs, -, -, e, -⟩⟩, -⟩ := h3
    · exact Or.inl h.1
    · exact Or.inr (by omega)
  refine ⟨fun z => ⟨fun y => ⟨by omega, Or.inr ⟨q, v2, h3, ?_⟩⟩, fun y => ⟨by omega, Or.inr ⟨q, v2, h3, ?_⟩⟩⟩, fun z => Or.inr ⟨q, v2, h3, ?_⟩⟩
  · rw [if_neg z, if_neg y]
  · rw [if_neg z, if_pos y]
  · rw [if_pos z]
