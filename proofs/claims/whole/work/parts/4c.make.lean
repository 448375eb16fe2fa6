/-! THE CONSTRUCTORS -/
theorem mnew_z {m : Mem} {k j : Nat} : mnew m k k j = 0 := if_pos rfl
theorem Fr.new {ks : List Nat} {m m' : Mem} {c : Nat} (h : Fr ks m m') (hc : c ∈ ks) : Fr ks m (mnew m' c) := fun k hk => by
  rw [mnew_ne k (fun e => hk (e ▸ hc))]
  exact h k hk
theorem q_newk {M : MD} {scr : Option (Nat × (Nat → Int32))} {mc ms mcT msT : Nat} {Q : Po} {pc idx ci k : Nat} {ls st : List Vl} {sh : Sh} {mem : Mem} {sh' : Sh} (hd : decode M.2.1 pc = .ok (.new idx, 3)) (hc : ci < 11) (hl : Cond.classLink M.1.cls idx (RA ci) ∈ gdW) (hw : Cond.instantiable (RA ci) (nA ci) ∈ gdW ∧ Cond.initialized (RA ci) ∈ gdW) (h1000 : sh.length < 1000) (hk : sh.length = k) (he : sh ++ [(ci, 0, List.replicate (nA ci) 0)] = sh') (hmc : 1 + mc = mcT) (hms : nA ci + ms = msT)
    (kk : WP M scr mc ms Q (pc + 3) ls (vR k :: st) sh' (mnew mem k)) : WP M scr mcT msT Q pc ls st sh mem := by
  subst hk
  exact q_new hd hc hl hw h1000 he hmc hms kk
theorem q_newik {M : MD} {scr : Option (Nat × (Nat → Int32))} {mc ms mcT msT : Nat} {Q : Po} {pc k : Nat} {a : Int} {ls st : List Vl} {sh : Sh} {mem : Mem} {sh' : Sh} (hd : decode M.2.1 pc = .ok (.newarray .int, 2)) (hw : Cond.arrayClass .int ∈ gdW) (h0 : 0 ≤ a) (ha : a ≤ 1000) (h1000 : sh.length < 1000) (hk : sh.length = k) (he : sh ++ [(11, a.toNat, [])] = sh') (hmc : 1 + mc = mcT) (hms : a.toNat + ms = msT)
    (kk : WP M scr mc ms Q (pc + 2) ls (vR k :: st) sh' (mnew mem k)) : WP M scr mcT msT Q pc ls (vI a :: st) sh mem := by
  subst hk
  exact q_newi hd hw h0 ha h1000 he hmc hms kk
theorem q_newzk {M : MD} {scr : Option (Nat × (Nat → Int32))} {mc ms mcT msT : Nat} {Q : Po} {pc k : Nat} {a : Int} {ls st : List Vl} {sh : Sh} {mem : Mem} {sh' : Sh} (hd : decode M.2.1 pc = .ok (.newarray .boolean, 2)) (hw : Cond.arrayClass .boolean ∈ gdW) (h0 : 0 ≤ a) (ha : a ≤ 1000) (h1000 : sh.length < 1000) (hk : sh.length = k) (he : sh ++ [(12, a.toNat, [])] = sh') (hmc : 1 + mc = mcT) (hms : a.toNat + ms = msT)
    (kk : WP M scr mc ms Q (pc + 2) ls (vR k :: st) sh' (mnew mem k)) : WP M scr mcT msT Q pc ls (vI a :: st) sh mem := by
  subst hk
  exact q_newz hd hw h0 ha h1000 he hmc hms kk
theorem q_cIn {M M' : MD} {scr : Option (Nat × (Nat → Int32))} {mc ms mc' ms' mcT msT : Nat} {Q : Po} {pc idx n h : Nat} {ls st st0 as : List Vl} {sh sh2 : Sh} {mem : Mem} {P : Mem → Prop} (hd : decode M.2.1 pc = .ok (.invokespecial idx, 3)) (hm : KM M' n) (hiv : M'.1.name = "<init>" ∧ M'.2.2.2.1 = none ∧ Cond.instanceMethod M'.1 ∈ gdW) (hl : Cond.methodLink M.1.cls idx M'.1 ∈ gdW ∨ ∃ host, Cond.methodLinkNest M.1.cls idx M'.1 host ∈ lw_tbl) (hR : KR M M') (hn : as.length = n) (hst : as.reverse ++ vR h :: st = st0) (hlen : st.length ≤ 4) (hT : Tot M' mc' ms' (vR h :: as) sh mem (Pn sh2 P)) (hmc : mc' + mc = mcT) (hms : ms' + ms = msT)
    (kk : ∀ (mem' : Mem), P mem' → WP M scr mc ms Q (pc + 3) ls st sh2 mem') : WP M scr mcT msT Q pc ls st0 sh mem :=
  q_callI hd hm hiv hl hR hn hst hlen hT hmc hms (fun r sh' mem' hq _ => by obtain ⟨rfl, rfl, hp⟩ := hq; exact kk mem' hp)
set_option maxRecDepth 20000 in
theorem v_X3_begin_g4 {sh : Sh} {P : Mem → Prop} {mem : Mem} (ha : sh[4]? = some (3, 0, [6, 8, 10, 0, 0, 0, 0, 0])) (hb : sh[5]? = some (6, 0, [0, 7, 0])) (hc : sh[7]? = some (6, 0, [0, 9, 0])) (hd : sh[9]? = some (6, 0, [0, 11, 0])) (H : (inR (3 * 2)) ∧ (∀ m2 : Mem, m2 = mset (mset (mset mem 4 3 3) 4 4 2) 4 5 (min 12 (3 * 2)) → (∀ m3 : Mem, m3 = (mset m2 4 6 5) → (∀ m4 : Mem, m4 = (mset m3 4 7 0) → (∀ m5 : Mem, m5 = mset m4 5 2 0 → (∀ m6 : Mem, m6 = mset m5 7 2 0 → (∀ m7 : Mem, m7 = mset m6 9 2 0 → (P m7)))))))) : Tot mX3_begin 0 0 [vR 4] sh mem (Pn sh P) := by
  refine Tot.of rfl (Nat.le_of_ble_eq_true rfl) (by simp [isJ]) (ls := [vR 4]) rfl ?_
  refine q_aload_n dX3_begin_0 rfl ?_
  refine q_iconst dX3_begin_1 (by decide) ?_
  refine q_iconst dX3_begin_2 (by decide) ?_
  obtain ⟨h1, H⟩ := H
  refine q_cVn (as := [vI _, vI _]) dX3_begin_3 kmX3_form kvX3_form lm_RX3_29 ⟨by decide, by decide⟩ ha ⟨by decide, rfl⟩ rfl rfl (Nat.le_of_ble_eq_true rfl) (c_X3_form ha h1) (fun m1 hq => ?_)
  have H := H m1 hq
  refine q_aload_n dX3_begin_6 rfl ?_
  refine q_iconst dX3_begin_7 (by decide) ?_
  refine q_puti dX3_begin_8 lf_RX3_33 ha rfl (Or.inl rfl) fit_int ?_
  have H := H _ rfl
  refine q_aload_n dX3_begin_11 rfl ?_
  refine q_iconst dX3_begin_12 (by decide) ?_
  refine q_puti dX3_begin_13 lf_RX3_37 ha rfl (Or.inl rfl) (fun _ => by decide) ?_
  have H := H _ rfl
  refine q_aload_n dX3_begin_16 rfl ?_
  refine q_getr (r := 5) dX3_begin_17 lf_RX3_14 ha rfl rfl ?_
  refine q_cVn (as := []) dX3_begin_20 kmX6_drop kvX6_drop lm_RX3_41 ⟨by decide, by decide⟩ hb ⟨by decide, rfl⟩ rfl rfl (Nat.le_of_ble_eq_true rfl) (c_X6_drop hb) (fun m1 hq => ?_)
  have H := H m1 hq
  refine q_aload_n dX3_begin_23 rfl ?_
  refine q_getr (r := 7) dX3_begin_24 lf_RX3_20 ha rfl rfl ?_
  refine q_cVn (as := []) dX3_begin_27 kmX6_drop kvX6_drop lm_RX3_41 ⟨by decide, by decide⟩ hc ⟨by decide, rfl⟩ rfl rfl (Nat.le_of_ble_eq_true rfl) (c_X6_drop hc) (fun m1 hq => ?_)
  have H := H m1 hq
  refine q_aload_n dX3_begin_30 rfl ?_
  refine q_getr (r := 9) dX3_begin_31 lf_RX3_23 ha rfl rfl ?_
  refine q_cVn (as := []) dX3_begin_34 kmX6_drop kvX6_drop lm_RX3_41 ⟨by decide, by decide⟩ hd ⟨by decide, rfl⟩ rfl rfl (Nat.le_of_ble_eq_true rfl) (c_X6_drop hd) (fun m1 hq => ?_)
  have H := H m1 hq
  exact q_vret dX3_begin_37 rfl ⟨rfl, rfl, H⟩

def hgP_4 (m0 m : Mem) : Prop := Fr [4, 5, 7, 9] m0 m ∧ m 4 3 = 3 ∧ m 4 4 = 2 ∧ m 4 5 = 6 ∧ m 4 6 = 5 ∧ (m 5 0 = m0 5 0 ∧ m 5 2 = 0) ∧ (m 7 0 = m0 7 0 ∧ m 7 2 = 0) ∧ m 9 0 = m0 9 0 ∧ m 9 2 = 0
theorem hg_4 {m0 : Mem} : (inR (3 * 2)) ∧ (∀ m2 : Mem, m2 = mset (mset (mset m0 4 3 3) 4 4 2) 4 5 (min 12 (3 * 2)) → (∀ m3 : Mem, m3 = (mset m2 4 6 5) → (∀ m4 : Mem, m4 = (mset m3 4 7 0) → (∀ m5 : Mem, m5 = mset m4 5 2 0 → (∀ m6 : Mem, m6 = mset m5 7 2 0 → (∀ m7 : Mem, m7 = mset m6 9 2 0 → (hgP_4 m0 m7))))))) := by
  refine ⟨by decide, fun m2 e2 m3 e3 m4 e4 m5 e5 m6 e6 m7 e7 => ⟨?_, ?_⟩⟩
  · rw [e7, e6, e5, e4, e3, e2]
    exact ((((((((Fr.rf.set (by decide)).set (by decide)).set (by decide)).set (by decide)).set (by decide)).set (by decide)).set (by decide)).set (by decide))
  · subst e7 e6 e5 e4 e3 e2
    simp [mset]
    decide
def hiP_4 (m0 m : Mem) : Prop := Fr [4, 5, 6, 7, 8, 9, 10] m0 m ∧ m 4 3 = 3 ∧ m 4 4 = 2 ∧ m 4 5 = 6 ∧ m 4 6 = 5 ∧ (m 5 0 = 3 ∧ m 5 2 = 0) ∧ (m 7 0 = 4 ∧ m 7 2 = 0) ∧ m 9 0 = 3 ∧ m 9 2 = 0
theorem hi_4 {m0 m3 m : Mem} (hF : Fr [4, 5, 6, 7, 8, 9, 10] m0 m3) (h1 : m3 5 0 = 3) (h2 : m3 7 0 = 4) (h3 : m3 9 0 = 3) (h : hgP_4 m3 m) : hiP_4 m0 m := by
  obtain ⟨g, g1, g2, g3, g4, g5, g6, g7, g8⟩ := h
  exact ⟨hF.tr (g.mono (by decide)), g1, g2, g3, g4, ⟨by rw [g5.1, h1], g5.2⟩, ⟨by rw [g6.1, h2], g6.2⟩, by rw [g7, h3], g8⟩
set_option maxRecDepth 20000 in
theorem v_X3_begin_g11 {sh : Sh} {P : Mem → Prop} {mem : Mem} (ha : sh[11]? = some (3, 0, [13, 15, 17, 0, 0, 0, 0, 0])) (hb : sh[12]? = some (6, 0, [0, 14, 0])) (hc : sh[14]? = some (6, 0, [0, 16, 0])) (hd : sh[16]? = some (6, 0, [0, 18, 0])) (H : (inR (3 * 2)) ∧ (∀ m2 : Mem, m2 = mset (mset (mset mem 11 3 3) 11 4 2) 11 5 (min 12 (3 * 2)) → (∀ m3 : Mem, m3 = (mset m2 11 6 5) → (∀ m4 : Mem, m4 = (mset m3 11 7 0) → (∀ m5 : Mem, m5 = mset m4 12 2 0 → (∀ m6 : Mem, m6 = mset m5 14 2 0 → (∀ m7 : Mem, m7 = mset m6 16 2 0 → (P m7)))))))) : Tot mX3_begin 0 0 [vR 11] sh mem (Pn sh P) := by
  refine Tot.of rfl (Nat.le_of_ble_eq_true rfl) (by simp [isJ]) (ls := [vR 11]) rfl ?_
  refine q_aload_n dX3_begin_0 rfl ?_
  refine q_iconst dX3_begin_1 (by decide) ?_
  refine q_iconst dX3_begin_2 (by decide) ?_
  obtain ⟨h1, H⟩ := H
  refine q_cVn (as := [vI _, vI _]) dX3_begin_3 kmX3_form kvX3_form lm_RX3_29 ⟨by decide, by decide⟩ ha ⟨by decide, rfl⟩ rfl rfl (Nat.le_of_ble_eq_true rfl) (c_X3_form ha h1) (fun m1 hq => ?_)
  have H := H m1 hq
  refine q_aload_n dX3_begin_6 rfl ?_
  refine q_iconst dX3_begin_7 (by decide) ?_
  refine q_puti dX3_begin_8 lf_RX3_33 ha rfl (Or.inl rfl) fit_int ?_
  have H := H _ rfl
  refine q_aload_n dX3_begin_11 rfl ?_
  refine q_iconst dX3_begin_12 (by decide) ?_
  refine q_puti dX3_begin_13 lf_RX3_37 ha rfl (Or.inl rfl) (fun _ => by decide) ?_
  have H := H _ rfl
  refine q_aload_n dX3_begin_16 rfl ?_
  refine q_getr (r := 12) dX3_begin_17 lf_RX3_14 ha rfl rfl ?_
  refine q_cVn (as := []) dX3_begin_20 kmX6_drop kvX6_drop lm_RX3_41 ⟨by decide, by decide⟩ hb ⟨by decide, rfl⟩ rfl rfl (Nat.le_of_ble_eq_true rfl) (c_X6_drop hb) (fun m1 hq => ?_)
  have H := H m1 hq
  refine q_aload_n dX3_begin_23 rfl ?_
  refine q_getr (r := 14) dX3_begin_24 lf_RX3_20 ha rfl rfl ?_
  refine q_cVn (as := []) dX3_begin_27 kmX6_drop kvX6_drop lm_RX3_41 ⟨by decide, by decide⟩ hc ⟨by decide, rfl⟩ rfl rfl (Nat.le_of_ble_eq_true rfl) (c_X6_drop hc) (fun m1 hq => ?_)
  have H := H m1 hq
  refine q_aload_n dX3_begin_30 rfl ?_
  refine q_getr (r := 16) dX3_begin_31 lf_RX3_23 ha rfl rfl ?_
  refine q_cVn (as := []) dX3_begin_34 kmX6_drop kvX6_drop lm_RX3_41 ⟨by decide, by decide⟩ hd ⟨by decide, rfl⟩ rfl rfl (Nat.le_of_ble_eq_true rfl) (c_X6_drop hd) (fun m1 hq => ?_)
  have H := H m1 hq
  exact q_vret dX3_begin_37 rfl ⟨rfl, rfl, H⟩

def hgP_11 (m0 m : Mem) : Prop := Fr [11, 12, 14, 16] m0 m ∧ m 11 3 = 3 ∧ m 11 4 = 2 ∧ m 11 5 = 6 ∧ m 11 6 = 5 ∧ (m 12 0 = m0 12 0 ∧ m 12 2 = 0) ∧ (m 14 0 = m0 14 0 ∧ m 14 2 = 0) ∧ m 16 0 = m0 16 0 ∧ m 16 2 = 0
theorem hg_11 {m0 : Mem} : (inR (3 * 2)) ∧ (∀ m2 : Mem, m2 = mset (mset (mset m0 11 3 3) 11 4 2) 11 5 (min 12 (3 * 2)) → (∀ m3 : Mem, m3 = (mset m2 11 6 5) → (∀ m4 : Mem, m4 = (mset m3 11 7 0) → (∀ m5 : Mem, m5 = mset m4 12 2 0 → (∀ m6 : Mem, m6 = mset m5 14 2 0 → (∀ m7 : Mem, m7 = mset m6 16 2 0 → (hgP_11 m0 m7))))))) := by
  refine ⟨by decide, fun m2 e2 m3 e3 m4 e4 m5 e5 m6 e6 m7 e7 => ⟨?_, ?_⟩⟩
  · rw [e7, e6, e5, e4, e3, e2]
    exact ((((((((Fr.rf.set (by decide)).set (by decide)).set (by decide)).set (by decide)).set (by decide)).set (by decide)).set (by decide)).set (by decide))
  · subst e7 e6 e5 e4 e3 e2
    simp [mset]
    decide
def hiP_11 (m0 m : Mem) : Prop := Fr [11, 12, 13, 14, 15, 16, 17] m0 m ∧ m 11 3 = 3 ∧ m 11 4 = 2 ∧ m 11 5 = 6 ∧ m 11 6 = 5 ∧ (m 12 0 = 3 ∧ m 12 2 = 0) ∧ (m 14 0 = 4 ∧ m 14 2 = 0) ∧ m 16 0 = 3 ∧ m 16 2 = 0
theorem hi_11 {m0 m3 m : Mem} (hF : Fr [11, 12, 13, 14, 15, 16, 17] m0 m3) (h1 : m3 12 0 = 3) (h2 : m3 14 0 = 4) (h3 : m3 16 0 = 3) (h : hgP_11 m3 m) : hiP_11 m0 m := by
  obtain ⟨g, g1, g2, g3, g4, g5, g6, g7, g8⟩ := h
  exact ⟨hF.tr (g.mono (by decide)), g1, g2, g3, g4, ⟨by rw [g5.1, h1], g5.2⟩, ⟨by rw [g6.1, h2], g6.2⟩, by rw [g7, h3], g8⟩

def in9 (m : Mem) : Prop := m 0 14 = 0 ∧ m 1 2 = 0 ∧ (∀ j : Nat, m 2 j = 0) ∧ (m 4 3 = 3 ∧ m 4 4 = 2 ∧ m 4 5 = 6 ∧ m 4 6 = 5) ∧ (m 5 0 = 3 ∧ m 5 2 = 0) ∧ (m 7 0 = 4 ∧ m 7 2 = 0) ∧ (m 9 0 = 3 ∧ m 9 2 = 0) ∧ m 12 0 = 3 ∧ m 14 0 = 4 ∧ m 16 0 = 3 ∧ (m 18 2 = 0 ∧ m 18 3 = 0) ∧ (∀ s : Int, 0 ≤ s → s < 4 → m 19 s.toNat = -9 ∧ m 20 s.toNat = 0) ∧ (m 24 1 = 0 ∧ m 24 2 = 0) ∧ m 25 0 = 10 ∧ m 27 0 = 2 ∧ (∀ j : Nat, m 29 j = 0) ∧ (m 30 0 = 4 ∧ m 30 2 = 0) ∧ (m 32 0 = 4 ∧ m 32 2 = 0) ∧ (∀ j : Nat, m 36 j = 0) ∧ ∀ e : Int, 0 ≤ e → e < 48 → m 37 e.toNat = meaV 3 6 e
def in10 (m0 m : Mem) : Prop := Fr [44, 45, 46, 47, 48, 49, 50, 51, 52, 53, 54, 55, 56, 57, 58, 59, 60, 61, 62, 63, 64, 65, 66] m0 m ∧ (m 44 0 = 3 ∧ m 44 1 = 2 ∧ m 44 2 = 5 ∧ m 44 3 = 0 ∧ m 44 5 = 0 ∧ m 44 7 = 0 ∧ m 44 11 = 0 ∧ m 44 14 = 0 ∧ m 44 16 = 0 ∧ m 44 18 = 0 ∧ m 44 20 = 0) ∧ (∀ j : Int, 0 ≤ j → j < 10 → m 48 j.toNat = if 2 ≤ j ∧ j ≤ 5 then -9 else 0) ∧ (∀ j : Nat, m 51 j = 0) ∧ ∀ j : Nat, m 54 j = 0
def SA0 : Sh := [(9, 0, [0, 0, 0, 0, 0, 0, 0, 0, 0, 0, 0, 0, 0, 0, 0])]
def SA1 : Sh := [(9, 0, [0, 0, 0, 0, 0, 0, 0, 0, 0, 0, 0, 0, 0, 0, 0]), (8, 0, [0, 0, 0, 0, 0, 0, 0])]
def SA2 : Sh := [(9, 0, [0, 0, 0, 0, 0, 0, 0, 0, 0, 0, 0, 0, 0, 0, 0]), (8, 0, [0, 0, 0, 0, 0, 0, 0]), (11, 200, [])]
def SA3 : Sh := [(9, 0, [0, 0, 0, 0, 0, 0, 0, 0, 0, 0, 0, 0, 0, 0, 0]), (8, 0, [3, 0, 0, 0, 0, 0, 0]), (11, 200, [])]
def SA4 : Sh := [(9, 0, [0, 0, 0, 0, 0, 0, 0, 0, 0, 0, 0, 0, 0, 0, 0]), (8, 0, [3, 0, 0, 0, 0, 0, 0]), (11, 200, []), (11, 4, [])]
def SA5 : Sh := [(9, 0, [0, 0, 0, 0, 0, 0, 0, 0, 0, 0, 0, 0, 0, 0, 0]), (8, 0, [3, 4, 0, 0, 0, 0, 0]), (11, 200, []), (11, 4, [])]
set_option maxRecDepth 20000 in
theorem in_X8_init_1 {m0 : Mem} : Tot mX8_init 2 204 [vR 1] SA1 m0 (Pn SA5 (fun m => m = mnew (mnew m0 2) 3)) := by
  refine Tot.of rfl (Nat.le_of_ble_eq_true rfl) (by simp [isJ]) (ls := [vR 1]) rfl ?_
  refine q_aload_n dX8_init_0 rfl ?_
  refine q_objinit dX8_init_1 lm_RX8_3 k_oin ⟨by decide, by decide⟩ (Nat.le_of_ble_eq_true rfl) ?_
  refine q_aload_n dX8_init_4 rfl ?_
  refine q_sipush dX8_init_5 rfl (by decide) ?_
  refine q_newik (k := 2) (a := 200) (sh' := SA2) (mc := 1) (ms := 4) dX8_init_8 k_ai (by decide) (by decide) (by decide) rfl rfl rfl rfl ?_
  refine q_putr (r := 2) (sh := SA2) (sh' := SA3) dX8_init_10 lf_RX8_9 rfl rfl (by decide) (by decide) (Or.inr ⟨rfl, rfl, rfl, lg_RX8_9⟩) rfl ?_
  refine q_aload_n dX8_init_13 rfl ?_
  refine q_iconst dX8_init_14 (by decide) ?_
  refine q_newik (k := 3) (a := 4) (sh' := SA4) (mc := 0) (ms := 0) dX8_init_15 k_ai (by decide) (by decide) (by decide) rfl rfl rfl rfl ?_
  refine q_putr (r := 3) (sh := SA4) (sh' := SA5) dX8_init_17 lf_RX8_15 rfl rfl (by decide) (by decide) (Or.inr ⟨rfl, rfl, rfl, lg_RX8_15⟩) rfl ?_
  refine q_vret dX8_init_20 rfl ⟨rfl, rfl, ?_⟩
  rfl
def SA6 : Sh := [(9, 0, [2, 0, 0, 0, 0, 0, 0, 0, 0, 0, 0, 0, 0, 0, 0]), (8, 0, [3, 4, 0, 0, 0, 0, 0]), (11, 200, []), (11, 4, [])]
def SA7 : Sh := [(9, 0, [2, 0, 0, 0, 0, 0, 0, 0, 0, 0, 0, 0, 0, 0, 0]), (8, 0, [3, 4, 0, 0, 0, 0, 0]), (11, 200, []), (11, 4, []), (3, 0, [0, 0, 0, 0, 0, 0, 0, 0])]
def SA8 : Sh := [(9, 0, [2, 0, 0, 0, 0, 0, 0, 0, 0, 0, 0, 0, 0, 0, 0]), (8, 0, [3, 4, 0, 0, 0, 0, 0]), (11, 200, []), (11, 4, []), (3, 0, [0, 0, 0, 0, 0, 0, 0, 0]), (6, 0, [0, 0, 0])]
def SA9 : Sh := [(9, 0, [2, 0, 0, 0, 0, 0, 0, 0, 0, 0, 0, 0, 0, 0, 0]), (8, 0, [3, 4, 0, 0, 0, 0, 0]), (11, 200, []), (11, 4, []), (3, 0, [0, 0, 0, 0, 0, 0, 0, 0]), (6, 0, [0, 0, 0]), (11, 12, [])]
def SA10 : Sh := [(9, 0, [2, 0, 0, 0, 0, 0, 0, 0, 0, 0, 0, 0, 0, 0, 0]), (8, 0, [3, 4, 0, 0, 0, 0, 0]), (11, 200, []), (11, 4, []), (3, 0, [0, 0, 0, 0, 0, 0, 0, 0]), (6, 0, [0, 7, 0]), (11, 12, [])]
set_option maxRecDepth 20000 in
theorem in_X6_init_5 {m0 : Mem} : Tot mX6_init 1 12 [vR 5, vI 3] SA8 m0 (Pn SA10 (fun m => m = mnew (mset m0 5 0 3) 6)) := by
  refine Tot.of rfl (Nat.le_of_ble_eq_true rfl) (by simp [isJ]) (ls := [vR 5, vI 3]) rfl ?_
  refine q_aload_n dX6_init_0 rfl ?_
  refine q_objinit dX6_init_1 lm_RX6_1 k_oin ⟨by decide, by decide⟩ (Nat.le_of_ble_eq_true rfl) ?_
  refine q_aload_n dX6_init_4 rfl ?_
  refine q_iconst dX6_init_5 (by decide) ?_
  refine q_iload_n dX6_init_6 rfl ?_
  refine q_max dX6_init_7 lm_RX6_7 k_max (by decide) (Nat.le_of_ble_eq_true rfl) ?_
  rw [show (max (0 : Int) 3) = 3 by decide]
  refine q_puti dX6_init_10 lf_RX6_13 (sh := SA8) rfl rfl (Or.inr ⟨rfl, rfl, rfl, lg_RX6_13⟩) fit_int ?_
  refine q_aload_n dX6_init_13 rfl ?_
  refine q_aload_n dX6_init_14 rfl ?_
  refine q_geti dX6_init_15 lf_RX6_13 (sh := SA8) rfl rfl ?_
  rw [mset_eq]
  refine q_iconst dX6_init_18 (by decide) ?_
  refine q_imul dX6_init_19 (by decide) ?_
  rw [show ((3 : Int) * 4) = 12 by decide]
  refine q_newik (k := 6) (a := 12) (sh' := SA9) (mc := 0) (ms := 0) dX6_init_20 k_ai (by decide) (by decide) (by decide) rfl rfl rfl rfl ?_
  refine q_putr (r := 6) (sh := SA9) (sh' := SA10) dX6_init_22 lf_RX6_19 rfl rfl (by decide) (by decide) (Or.inr ⟨rfl, rfl, rfl, lg_RX6_19⟩) rfl ?_
  refine q_vret dX6_init_25 rfl ⟨rfl, rfl, ?_⟩
  rfl
def SA11 : Sh := [(9, 0, [2, 0, 0, 0, 0, 0, 0, 0, 0, 0, 0, 0, 0, 0, 0]), (8, 0, [3, 4, 0, 0, 0, 0, 0]), (11, 200, []), (11, 4, []), (3, 0, [6, 0, 0, 0, 0, 0, 0, 0]), (6, 0, [0, 7, 0]), (11, 12, [])]
def SA12 : Sh := [(9, 0, [2, 0, 0, 0, 0, 0, 0, 0, 0, 0, 0, 0, 0, 0, 0]), (8, 0, [3, 4, 0, 0, 0, 0, 0]), (11, 200, []), (11, 4, []), (3, 0, [6, 0, 0, 0, 0, 0, 0, 0]), (6, 0, [0, 7, 0]), (11, 12, []), (6, 0, [0, 0, 0])]
def SA13 : Sh := [(9, 0, [2, 0, 0, 0, 0, 0, 0, 0, 0, 0, 0, 0, 0, 0, 0]), (8, 0, [3, 4, 0, 0, 0, 0, 0]), (11, 200, []), (11, 4, []), (3, 0, [6, 0, 0, 0, 0, 0, 0, 0]), (6, 0, [0, 7, 0]), (11, 12, []), (6, 0, [0, 0, 0]), (11, 16, [])]
def SA14 : Sh := [(9, 0, [2, 0, 0, 0, 0, 0, 0, 0, 0, 0, 0, 0, 0, 0, 0]), (8, 0, [3, 4, 0, 0, 0, 0, 0]), (11, 200, []), (11, 4, []), (3, 0, [6, 0, 0, 0, 0, 0, 0, 0]), (6, 0, [0, 7, 0]), (11, 12, []), (6, 0, [0, 9, 0]), (11, 16, [])]
set_option maxRecDepth 20000 in
theorem in_X6_init_7 {m0 : Mem} : Tot mX6_init 1 16 [vR 7, vI 4] SA12 m0 (Pn SA14 (fun m => m = mnew (mset m0 7 0 4) 8)) := by
  refine Tot.of rfl (Nat.le_of_ble_eq_true rfl) (by simp [isJ]) (ls := [vR 7, vI 4]) rfl ?_
  refine q_aload_n dX6_init_0 rfl ?_
  refine q_objinit dX6_init_1 lm_RX6_1 k_oin ⟨by decide, by decide⟩ (Nat.le_of_ble_eq_true rfl) ?_
  refine q_aload_n dX6_init_4 rfl ?_
  refine q_iconst dX6_init_5 (by decide) ?_
  refine q_iload_n dX6_init_6 rfl ?_
  refine q_max dX6_init_7 lm_RX6_7 k_max (by decide) (Nat.le_of_ble_eq_true rfl) ?_
  rw [show (max (0 : Int) 4) = 4 by decide]
  refine q_puti dX6_init_10 lf_RX6_13 (sh := SA12) rfl rfl (Or.inr ⟨rfl, rfl, rfl, lg_RX6_13⟩) fit_int ?_
  refine q_aload_n dX6_init_13 rfl ?_
  refine q_aload_n dX6_init_14 rfl ?_
  refine q_geti dX6_init_15 lf_RX6_13 (sh := SA12) rfl rfl ?_
  rw [mset_eq]
  refine q_iconst dX6_init_18 (by decide) ?_
  refine q_imul dX6_init_19 (by decide) ?_
  rw [show ((4 : Int) * 4) = 16 by decide]
  refine q_newik (k := 8) (a := 16) (sh' := SA13) (mc := 0) (ms := 0) dX6_init_20 k_ai (by decide) (by decide) (by decide) rfl rfl rfl rfl ?_
  refine q_putr (r := 8) (sh := SA13) (sh' := SA14) dX6_init_22 lf_RX6_19 rfl rfl (by decide) (by decide) (Or.inr ⟨rfl, rfl, rfl, lg_RX6_19⟩) rfl ?_
  refine q_vret dX6_init_25 rfl ⟨rfl, rfl, ?_⟩
  rfl
def SA15 : Sh := [(9, 0, [2, 0, 0, 0, 0, 0, 0, 0, 0, 0, 0, 0, 0, 0, 0]), (8, 0, [3, 4, 0, 0, 0, 0, 0]), (11, 200, []), (11, 4, []), (3, 0, [6, 8, 0, 0, 0, 0, 0, 0]), (6, 0, [0, 7, 0]), (11, 12, []), (6, 0, [0, 9, 0]), (11, 16, [])]
def SA16 : Sh := [(9, 0, [2, 0, 0, 0, 0, 0, 0, 0, 0, 0, 0, 0, 0, 0, 0]), (8, 0, [3, 4, 0, 0, 0, 0, 0]), (11, 200, []), (11, 4, []), (3, 0, [6, 8, 0, 0, 0, 0, 0, 0]), (6, 0, [0, 7, 0]), (11, 12, []), (6, 0, [0, 9, 0]), (11, 16, []), (6, 0, [0, 0, 0])]
def SA17 : Sh := [(9, 0, [2, 0, 0, 0, 0, 0, 0, 0, 0, 0, 0, 0, 0, 0, 0]), (8, 0, [3, 4, 0, 0, 0, 0, 0]), (11, 200, []), (11, 4, []), (3, 0, [6, 8, 0, 0, 0, 0, 0, 0]), (6, 0, [0, 7, 0]), (11, 12, []), (6, 0, [0, 9, 0]), (11, 16, []), (6, 0, [0, 0, 0]), (11, 12, [])]
def SA18 : Sh := [(9, 0, [2, 0, 0, 0, 0, 0, 0, 0, 0, 0, 0, 0, 0, 0, 0]), (8, 0, [3, 4, 0, 0, 0, 0, 0]), (11, 200, []), (11, 4, []), (3, 0, [6, 8, 0, 0, 0, 0, 0, 0]), (6, 0, [0, 7, 0]), (11, 12, []), (6, 0, [0, 9, 0]), (11, 16, []), (6, 0, [0, 11, 0]), (11, 12, [])]
set_option maxRecDepth 20000 in
theorem in_X6_init_9 {m0 : Mem} : Tot mX6_init 1 12 [vR 9, vI 3] SA16 m0 (Pn SA18 (fun m => m = mnew (mset m0 9 0 3) 10)) := by
  refine Tot.of rfl (Nat.le_of_ble_eq_true rfl) (by simp [isJ]) (ls := [vR 9, vI 3]) rfl ?_
  refine q_aload_n dX6_init_0 rfl ?_
  refine q_objinit dX6_init_1 lm_RX6_1 k_oin ⟨by decide, by decide⟩ (Nat.le_of_ble_eq_true rfl) ?_
  refine q_aload_n dX6_init_4 rfl ?_
  refine q_iconst dX6_init_5 (by decide) ?_
  refine q_iload_n dX6_init_6 rfl ?_
  refine q_max dX6_init_7 lm_RX6_7 k_max (by decide) (Nat.le_of_ble_eq_true rfl) ?_
  rw [show (max (0 : Int) 3) = 3 by decide]
  refine q_puti dX6_init_10 lf_RX6_13 (sh := SA16) rfl rfl (Or.inr ⟨rfl, rfl, rfl, lg_RX6_13⟩) fit_int ?_
  refine q_aload_n dX6_init_13 rfl ?_
  refine q_aload_n dX6_init_14 rfl ?_
  refine q_geti dX6_init_15 lf_RX6_13 (sh := SA16) rfl rfl ?_
  rw [mset_eq]
  refine q_iconst dX6_init_18 (by decide) ?_
  refine q_imul dX6_init_19 (by decide) ?_
  rw [show ((3 : Int) * 4) = 12 by decide]
  refine q_newik (k := 10) (a := 12) (sh' := SA17) (mc := 0) (ms := 0) dX6_init_20 k_ai (by decide) (by decide) (by decide) rfl rfl rfl rfl ?_
  refine q_putr (r := 10) (sh := SA17) (sh' := SA18) dX6_init_22 lf_RX6_19 rfl rfl (by decide) (by decide) (Or.inr ⟨rfl, rfl, rfl, lg_RX6_19⟩) rfl ?_
  refine q_vret dX6_init_25 rfl ⟨rfl, rfl, ?_⟩
  rfl
def SA19 : Sh := [(9, 0, [2, 0, 0, 0, 0, 0, 0, 0, 0, 0, 0, 0, 0, 0, 0]), (8, 0, [3, 4, 0, 0, 0, 0, 0]), (11, 200, []), (11, 4, []), (3, 0, [6, 8, 10, 0, 0, 0, 0, 0]), (6, 0, [0, 7, 0]), (11, 12, []), (6, 0, [0, 9, 0]), (11, 16, []), (6, 0, [0, 11, 0]), (11, 12, [])]
set_option maxRecDepth 20000 in
theorem in_X3_init_4 {m0 : Mem} : Tot mX3_init 6 49 [vR 4] SA7 m0 (Pn SA19 (hiP_4 m0)) := by
  refine Tot.of rfl (Nat.le_of_ble_eq_true rfl) (by simp [isJ]) (ls := [vR 4]) rfl ?_
  refine q_aload_n dX3_init_0 rfl ?_
  refine q_objinit dX3_init_1 lm_RX3_3 k_oin ⟨by decide, by decide⟩ (Nat.le_of_ble_eq_true rfl) ?_
  refine q_aload_n dX3_init_4 rfl ?_
  refine q_newk (k := 5) (sh' := SA8) (mc := 5) (ms := 46) dX3_init_5 (by decide) lc_RX3_9 kn6 (by decide) rfl rfl rfl rfl ?_
  refine q_dup dX3_init_8 rfl ?_
  refine q_iconst dX3_init_9 (by decide) ?_
  refine q_cIn (as := [vI 3]) (mc' := 1) (ms' := 12) (mc := 4) (ms := 34) dX3_init_10 kmX6_init kiX6_init (Or.inl lm_RX3_11) ⟨by decide, by decide⟩ rfl rfl (Nat.le_of_ble_eq_true rfl) (in_X6_init_5) rfl rfl (fun m1 h1 => ?_)
  have F1 : Fr [5, 6] m0 m1 := (by rw [h1]; exact ((Fr.rf.new (by decide)).set (by decide)).new (by decide))
  refine q_putr (r := 5) (sh := SA10) (sh' := SA11) dX3_init_13 lf_RX3_14 rfl rfl (by decide) (by decide) (Or.inr ⟨rfl, rfl, rfl, lg_RX3_14⟩) rfl ?_
  refine q_aload_n dX3_init_16 rfl ?_
  refine q_newk (k := 7) (sh' := SA12) (mc := 3) (ms := 31) dX3_init_17 (by decide) lc_RX3_9 kn6 (by decide) rfl rfl rfl rfl ?_
  refine q_dup dX3_init_20 rfl ?_
  refine q_iconst dX3_init_21 (by decide) ?_
  refine q_cIn (as := [vI 4]) (mc' := 1) (ms' := 16) (mc := 2) (ms := 15) dX3_init_22 kmX6_init kiX6_init (Or.inl lm_RX3_11) ⟨by decide, by decide⟩ rfl rfl (Nat.le_of_ble_eq_true rfl) (in_X6_init_7) rfl rfl (fun m2 h2 => ?_)
  have F2 : Fr [7, 8] m1 m2 := (by rw [h2]; exact ((Fr.rf.new (by decide)).set (by decide)).new (by decide))
  refine q_putr (r := 7) (sh := SA14) (sh' := SA15) dX3_init_25 lf_RX3_20 rfl rfl (by decide) (by decide) (Or.inr ⟨rfl, rfl, rfl, lg_RX3_20⟩) rfl ?_
  refine q_aload_n dX3_init_28 rfl ?_
  refine q_newk (k := 9) (sh' := SA16) (mc := 1) (ms := 12) dX3_init_29 (by decide) lc_RX3_9 kn6 (by decide) rfl rfl rfl rfl ?_
  refine q_dup dX3_init_32 rfl ?_
  refine q_iconst dX3_init_33 (by decide) ?_
  refine q_cIn (as := [vI 3]) (mc' := 1) (ms' := 12) (mc := 0) (ms := 0) dX3_init_34 kmX6_init kiX6_init (Or.inl lm_RX3_11) ⟨by decide, by decide⟩ rfl rfl (Nat.le_of_ble_eq_true rfl) (in_X6_init_9) rfl rfl (fun m3 h3 => ?_)
  have F3 : Fr [9, 10] m2 m3 := (by rw [h3]; exact ((Fr.rf.new (by decide)).set (by decide)).new (by decide))
  refine q_putr (r := 9) (sh := SA18) (sh' := SA19) dX3_init_37 lf_RX3_23 rfl rfl (by decide) (by decide) (Or.inr ⟨rfl, rfl, rfl, lg_RX3_23⟩) rfl ?_
  refine q_aload_n dX3_init_40 rfl ?_
  refine q_cVn (as := []) dX3_init_41 kmX3_begin kvX3_begin lm_RX3_26 ⟨by decide, by decide⟩ (sh := SA19) rfl ⟨by decide, rfl⟩ rfl rfl (Nat.le_of_ble_eq_true rfl) (v_X3_begin_g4 (sh := SA19) (P := hgP_4 m3) rfl rfl rfl rfl (hg_4)) (fun m4 h4 => ?_)
  have F4 : Fr [4, 5, 7, 9] m3 m4 := (Fr.rf.tr (h4.1.mono (by decide)))
  refine q_vret dX3_init_44 rfl ⟨rfl, rfl, ?_⟩
  refine hi_4 ?_ ?_ ?_ ?_ h4
  · exact ((F1.mono (by decide)).tr (F2.mono (by decide))).tr (F3.mono (by decide))
  · rw [F3.at 5, F2.at 5, h1, mnew_ne 5 (by decide)]; exact mset_eq
  · rw [F3.at 7, h2, mnew_ne 7 (by decide)]; exact mset_eq
  · rw [h3, mnew_ne 9 (by decide)]; exact mset_eq
def SA20 : Sh := [(9, 0, [2, 5, 0, 0, 0, 0, 0, 0, 0, 0, 0, 0, 0, 0, 0]), (8, 0, [3, 4, 0, 0, 0, 0, 0]), (11, 200, []), (11, 4, []), (3, 0, [6, 8, 10, 0, 0, 0, 0, 0]), (6, 0, [0, 7, 0]), (11, 12, []), (6, 0, [0, 9, 0]), (11, 16, []), (6, 0, [0, 11, 0]), (11, 12, [])]
def SA21 : Sh := [(9, 0, [2, 5, 0, 0, 0, 0, 0, 0, 0, 0, 0, 0, 0, 0, 0]), (8, 0, [3, 4, 0, 0, 0, 0, 0]), (11, 200, []), (11, 4, []), (3, 0, [6, 8, 10, 0, 0, 0, 0, 0]), (6, 0, [0, 7, 0]), (11, 12, []), (6, 0, [0, 9, 0]), (11, 16, []), (6, 0, [0, 11, 0]), (11, 12, []), (3, 0, [0, 0, 0, 0, 0, 0, 0, 0])]
def SA22 : Sh := [(9, 0, [2, 5, 0, 0, 0, 0, 0, 0, 0, 0, 0, 0, 0, 0, 0]), (8, 0, [3, 4, 0, 0, 0, 0, 0]), (11, 200, []), (11, 4, []), (3, 0, [6, 8, 10, 0, 0, 0, 0, 0]), (6, 0, [0, 7, 0]), (11, 12, []), (6, 0, [0, 9, 0]), (11, 16, []), (6, 0, [0, 11, 0]), (11, 12, []), (3, 0, [0, 0, 0, 0, 0, 0, 0, 0]), (6, 0, [0, 0, 0])]
def SA23 : Sh := [(9, 0, [2, 5, 0, 0, 0, 0, 0, 0, 0, 0, 0, 0, 0, 0, 0]), (8, 0, [3, 4, 0, 0, 0, 0, 0]), (11, 200, []), (11, 4, []), (3, 0, [6, 8, 10, 0, 0, 0, 0, 0]), (6, 0, [0, 7, 0]), (11, 12, []), (6, 0, [0, 9, 0]), (11, 16, []), (6, 0, [0, 11, 0]), (11, 12, []), (3, 0, [0, 0, 0, 0, 0, 0, 0, 0]), (6, 0, [0, 0, 0]), (11, 12, [])]
def SA24 : Sh := [(9, 0, [2, 5, 0, 0, 0, 0, 0, 0, 0, 0, 0, 0, 0, 0, 0]), (8, 0, [3, 4, 0, 0, 0, 0, 0]), (11, 200, []), (11, 4, []), (3, 0, [6, 8, 10, 0, 0, 0, 0, 0]), (6, 0, [0, 7, 0]), (11, 12, []), (6, 0, [0, 9, 0]), (11, 16, []), (6, 0, [0, 11, 0]), (11, 12, []), (3, 0, [0, 0, 0, 0, 0, 0, 0, 0]), (6, 0, [0, 14, 0]), (11, 12, [])]
set_option maxRecDepth 20000 in
theorem in_X6_init_12 {m0 : Mem} : Tot mX6_init 1 12 [vR 12, vI 3] SA22 m0 (Pn SA24 (fun m => m = mnew (mset m0 12 0 3) 13)) := by
  refine Tot.of rfl (Nat.le_of_ble_eq_true rfl) (by simp [isJ]) (ls := [vR 12, vI 3]) rfl ?_
  refine q_aload_n dX6_init_0 rfl ?_
  refine q_objinit dX6_init_1 lm_RX6_1 k_oin ⟨by decide, by decide⟩ (Nat.le_of_ble_eq_true rfl) ?_
  refine q_aload_n dX6_init_4 rfl ?_
  refine q_iconst dX6_init_5 (by decide) ?_
  refine q_iload_n dX6_init_6 rfl ?_
  refine q_max dX6_init_7 lm_RX6_7 k_max (by decide) (Nat.le_of_ble_eq_true rfl) ?_
  rw [show (max (0 : Int) 3) = 3 by decide]
  refine q_puti dX6_init_10 lf_RX6_13 (sh := SA22) rfl rfl (Or.inr ⟨rfl, rfl, rfl, lg_RX6_13⟩) fit_int ?_
  refine q_aload_n dX6_init_13 rfl ?_
  refine q_aload_n dX6_init_14 rfl ?_
  refine q_geti dX6_init_15 lf_RX6_13 (sh := SA22) rfl rfl ?_
  rw [mset_eq]
  refine q_iconst dX6_init_18 (by decide) ?_
  refine q_imul dX6_init_19 (by decide) ?_
  rw [show ((3 : Int) * 4) = 12 by decide]
  refine q_newik (k := 13) (a := 12) (sh' := SA23) (mc := 0) (ms := 0) dX6_init_20 k_ai (by decide) (by decide) (by decide) rfl rfl rfl rfl ?_
  refine q_putr (r := 13) (sh := SA23) (sh' := SA24) dX6_init_22 lf_RX6_19 rfl rfl (by decide) (by decide) (Or.inr ⟨rfl, rfl, rfl, lg_RX6_19⟩) rfl ?_
  refine q_vret dX6_init_25 rfl ⟨rfl, rfl, ?_⟩
  rfl
def SA25 : Sh := [(9, 0, [2, 5, 0, 0, 0, 0, 0, 0, 0, 0, 0, 0, 0, 0, 0]), (8, 0, [3, 4, 0, 0, 0, 0, 0]), (11, 200, []), (11, 4, []), (3, 0, [6, 8, 10, 0, 0, 0, 0, 0]), (6, 0, [0, 7, 0]), (11, 12, []), (6, 0, [0, 9, 0]), (11, 16, []), (6, 0, [0, 11, 0]), (11, 12, []), (3, 0, [13, 0, 0, 0, 0, 0, 0, 0]), (6, 0, [0, 14, 0]), (11, 12, [])]
def SA26 : Sh := [(9, 0, [2, 5, 0, 0, 0, 0, 0, 0, 0, 0, 0, 0, 0, 0, 0]), (8, 0, [3, 4, 0, 0, 0, 0, 0]), (11, 200, []), (11, 4, []), (3, 0, [6, 8, 10, 0, 0, 0, 0, 0]), (6, 0, [0, 7, 0]), (11, 12, []), (6, 0, [0, 9, 0]), (11, 16, []), (6, 0, [0, 11, 0]), (11, 12, []), (3, 0, [13, 0, 0, 0, 0, 0, 0, 0]), (6, 0, [0, 14, 0]), (11, 12, []), (6, 0, [0, 0, 0])]
def SA27 : Sh := [(9, 0, [2, 5, 0, 0, 0, 0, 0, 0, 0, 0, 0, 0, 0, 0, 0]), (8, 0, [3, 4, 0, 0, 0, 0, 0]), (11, 200, []), (11, 4, []), (3, 0, [6, 8, 10, 0, 0, 0, 0, 0]), (6, 0, [0, 7, 0]), (11, 12, []), (6, 0, [0, 9, 0]), (11, 16, []), (6, 0, [0, 11, 0]), (11, 12, []), (3, 0, [13, 0, 0, 0, 0, 0, 0, 0]), (6, 0, [0, 14, 0]), (11, 12, []), (6, 0, [0, 0, 0]), (11, 16, [])]
def SA28 : Sh := [(9, 0, [2, 5, 0, 0, 0, 0, 0, 0, 0, 0, 0, 0, 0, 0, 0]), (8, 0, [3, 4, 0, 0, 0, 0, 0]), (11, 200, []), (11, 4, []), (3, 0, [6, 8, 10, 0, 0, 0, 0, 0]), (6, 0, [0, 7, 0]), (11, 12, []), (6, 0, [0, 9, 0]), (11, 16, []), (6, 0, [0, 11, 0]), (11, 12, []), (3, 0, [13, 0, 0, 0, 0, 0, 0, 0]), (6, 0, [0, 14, 0]), (11, 12, []), (6, 0, [0, 16, 0]), (11, 16, [])]
set_option maxRecDepth 20000 in
theorem in_X6_init_14 {m0 : Mem} : Tot mX6_init 1 16 [vR 14, vI 4] SA26 m0 (Pn SA28 (fun m => m = mnew (mset m0 14 0 4) 15)) := by
  refine Tot.of rfl (Nat.le_of_ble_eq_true rfl) (by simp [isJ]) (ls := [vR 14, vI 4]) rfl ?_
  refine q_aload_n dX6_init_0 rfl ?_
  refine q_objinit dX6_init_1 lm_RX6_1 k_oin ⟨by decide, by decide⟩ (Nat.le_of_ble_eq_true rfl) ?_
  refine q_aload_n dX6_init_4 rfl ?_
  refine q_iconst dX6_init_5 (by decide) ?_
  refine q_iload_n dX6_init_6 rfl ?_
  refine q_max dX6_init_7 lm_RX6_7 k_max (by decide) (Nat.le_of_ble_eq_true rfl) ?_
  rw [show (max (0 : Int) 4) = 4 by decide]
  refine q_puti dX6_init_10 lf_RX6_13 (sh := SA26) rfl rfl (Or.inr ⟨rfl, rfl, rfl, lg_RX6_13⟩) fit_int ?_
  refine q_aload_n dX6_init_13 rfl ?_
  refine q_aload_n dX6_init_14 rfl ?_
  refine q_geti dX6_init_15 lf_RX6_13 (sh := SA26) rfl rfl ?_
  rw [mset_eq]
  refine q_iconst dX6_init_18 (by decide) ?_
  refine q_imul dX6_init_19 (by decide) ?_
  rw [show ((4 : Int) * 4) = 16 by decide]
  refine q_newik (k := 15) (a := 16) (sh' := SA27) (mc := 0) (ms := 0) dX6_init_20 k_ai (by decide) (by decide) (by decide) rfl rfl rfl rfl ?_
  refine q_putr (r := 15) (sh := SA27) (sh' := SA28) dX6_init_22 lf_RX6_19 rfl rfl (by decide) (by decide) (Or.inr ⟨rfl, rfl, rfl, lg_RX6_19⟩) rfl ?_
  refine q_vret dX6_init_25 rfl ⟨rfl, rfl, ?_⟩
  rfl
def SA29 : Sh := [(9, 0, [2, 5, 0, 0, 0, 0, 0, 0, 0, 0, 0, 0, 0, 0, 0]), (8, 0, [3, 4, 0, 0, 0, 0, 0]), (11, 200, []), (11, 4, []), (3, 0, [6, 8, 10, 0, 0, 0, 0, 0]), (6, 0, [0, 7, 0]), (11, 12, []), (6, 0, [0, 9, 0]), (11, 16, []), (6, 0, [0, 11, 0]), (11, 12, []), (3, 0, [13, 15, 0, 0, 0, 0, 0, 0]), (6, 0, [0, 14, 0]), (11, 12, []), (6, 0, [0, 16, 0]), (11, 16, [])]
def SA30 : Sh := [(9, 0, [2, 5, 0, 0, 0, 0, 0, 0, 0, 0, 0, 0, 0, 0, 0]), (8, 0, [3, 4, 0, 0, 0, 0, 0]), (11, 200, []), (11, 4, []), (3, 0, [6, 8, 10, 0, 0, 0, 0, 0]), (6, 0, [0, 7, 0]), (11, 12, []), (6, 0, [0, 9, 0]), (11, 16, []), (6, 0, [0, 11, 0]), (11, 12, []), (3, 0, [13, 15, 0, 0, 0, 0, 0, 0]), (6, 0, [0, 14, 0]), (11, 12, []), (6, 0, [0, 16, 0]), (11, 16, []), (6, 0, [0, 0, 0])]
def SA31 : Sh := [(9, 0, [2, 5, 0, 0, 0, 0, 0, 0, 0, 0, 0, 0, 0, 0, 0]), (8, 0, [3, 4, 0, 0, 0, 0, 0]), (11, 200, []), (11, 4, []), (3, 0, [6, 8, 10, 0, 0, 0, 0, 0]), (6, 0, [0, 7, 0]), (11, 12, []), (6, 0, [0, 9, 0]), (11, 16, []), (6, 0, [0, 11, 0]), (11, 12, []), (3, 0, [13, 15, 0, 0, 0, 0, 0, 0]), (6, 0, [0, 14, 0]), (11, 12, []), (6, 0, [0, 16, 0]), (11, 16, []), (6, 0, [0, 0, 0]), (11, 12, [])]
def SA32 : Sh := [(9, 0, [2, 5, 0, 0, 0, 0, 0, 0, 0, 0, 0, 0, 0, 0, 0]), (8, 0, [3, 4, 0, 0, 0, 0, 0]), (11, 200, []), (11, 4, []), (3, 0, [6, 8, 10, 0, 0, 0, 0, 0]), (6, 0, [0, 7, 0]), (11, 12, []), (6, 0, [0, 9, 0]), (11, 16, []), (6, 0, [0, 11, 0]), (11, 12, []), (3, 0, [13, 15, 0, 0, 0, 0, 0, 0]), (6, 0, [0, 14, 0]), (11, 12, []), (6, 0, [0, 16, 0]), (11, 16, []), (6, 0, [0, 18, 0]), (11, 12, [])]
set_option maxRecDepth 20000 in
theorem in_X6_init_16 {m0 : Mem} : Tot mX6_init 1 12 [vR 16, vI 3] SA30 m0 (Pn SA32 (fun m => m = mnew (mset m0 16 0 3) 17)) := by
  refine Tot.of rfl (Nat.le_of_ble_eq_true rfl) (by simp [isJ]) (ls := [vR 16, vI 3]) rfl ?_
  refine q_aload_n dX6_init_0 rfl ?_
  refine q_objinit dX6_init_1 lm_RX6_1 k_oin ⟨by decide, by decide⟩ (Nat.le_of_ble_eq_true rfl) ?_
  refine q_aload_n dX6_init_4 rfl ?_
  refine q_iconst dX6_init_5 (by decide) ?_
  refine q_iload_n dX6_init_6 rfl ?_
  refine q_max dX6_init_7 lm_RX6_7 k_max (by decide) (Nat.le_of_ble_eq_true rfl) ?_
  rw [show (max (0 : Int) 3) = 3 by decide]
  refine q_puti dX6_init_10 lf_RX6_13 (sh := SA30) rfl rfl (Or.inr ⟨rfl, rfl, rfl, lg_RX6_13⟩) fit_int ?_
  refine q_aload_n dX6_init_13 rfl ?_
  refine q_aload_n dX6_init_14 rfl ?_
  refine q_geti dX6_init_15 lf_RX6_13 (sh := SA30) rfl rfl ?_
  rw [mset_eq]
  refine q_iconst dX6_init_18 (by decide) ?_
  refine q_imul dX6_init_19 (by decide) ?_
  rw [show ((3 : Int) * 4) = 12 by decide]
  refine q_newik (k := 17) (a := 12) (sh' := SA31) (mc := 0) (ms := 0) dX6_init_20 k_ai (by decide) (by decide) (by decide) rfl rfl rfl rfl ?_
  refine q_putr (r := 17) (sh := SA31) (sh' := SA32) dX6_init_22 lf_RX6_19 rfl rfl (by decide) (by decide) (Or.inr ⟨rfl, rfl, rfl, lg_RX6_19⟩) rfl ?_
  refine q_vret dX6_init_25 rfl ⟨rfl, rfl, ?_⟩
  rfl
def SA33 : Sh := [(9, 0, [2, 5, 0, 0, 0, 0, 0, 0, 0, 0, 0, 0, 0, 0, 0]), (8, 0, [3, 4, 0, 0, 0, 0, 0]), (11, 200, []), (11, 4, []), (3, 0, [6, 8, 10, 0, 0, 0, 0, 0]), (6, 0, [0, 7, 0]), (11, 12, []), (6, 0, [0, 9, 0]), (11, 16, []), (6, 0, [0, 11, 0]), (11, 12, []), (3, 0, [13, 15, 17, 0, 0, 0, 0, 0]), (6, 0, [0, 14, 0]), (11, 12, []), (6, 0, [0, 16, 0]), (11, 16, []), (6, 0, [0, 18, 0]), (11, 12, [])]
set_option maxRecDepth 20000 in
theorem in_X3_init_11 {m0 : Mem} : Tot mX3_init 6 49 [vR 11] SA21 m0 (Pn SA33 (hiP_11 m0)) := by
  refine Tot.of rfl (Nat.le_of_ble_eq_true rfl) (by simp [isJ]) (ls := [vR 11]) rfl ?_
  refine q_aload_n dX3_init_0 rfl ?_
  refine q_objinit dX3_init_1 lm_RX3_3 k_oin ⟨by decide, by decide⟩ (Nat.le_of_ble_eq_true rfl) ?_
  refine q_aload_n dX3_init_4 rfl ?_
  refine q_newk (k := 12) (sh' := SA22) (mc := 5) (ms := 46) dX3_init_5 (by decide) lc_RX3_9 kn6 (by decide) rfl rfl rfl rfl ?_
  refine q_dup dX3_init_8 rfl ?_
  refine q_iconst dX3_init_9 (by decide) ?_
  refine q_cIn (as := [vI 3]) (mc' := 1) (ms' := 12) (mc := 4) (ms := 34) dX3_init_10 kmX6_init kiX6_init (Or.inl lm_RX3_11) ⟨by decide, by decide⟩ rfl rfl (Nat.le_of_ble_eq_true rfl) (in_X6_init_12) rfl rfl (fun m1 h1 => ?_)
  have F1 : Fr [12, 13] m0 m1 := (by rw [h1]; exact ((Fr.rf.new (by decide)).set (by decide)).new (by decide))
  refine q_putr (r := 12) (sh := SA24) (sh' := SA25) dX3_init_13 lf_RX3_14 rfl rfl (by decide) (by decide) (Or.inr ⟨rfl, rfl, rfl, lg_RX3_14⟩) rfl ?_
  refine q_aload_n dX3_init_16 rfl ?_
  refine q_newk (k := 14) (sh' := SA26) (mc := 3) (ms := 31) dX3_init_17 (by decide) lc_RX3_9 kn6 (by decide) rfl rfl rfl rfl ?_
  refine q_dup dX3_init_20 rfl ?_
  refine q_iconst dX3_init_21 (by decide) ?_
  refine q_cIn (as := [vI 4]) (mc' := 1) (ms' := 16) (mc := 2) (ms := 15) dX3_init_22 kmX6_init kiX6_init (Or.inl lm_RX3_11) ⟨by decide, by decide⟩ rfl rfl (Nat.le_of_ble_eq_true rfl) (in_X6_init_14) rfl rfl (fun m2 h2 => ?_)
  have F2 : Fr [14, 15] m1 m2 := (by rw [h2]; exact ((Fr.rf.new (by decide)).set (by decide)).new (by decide))
  refine q_putr (r := 14) (sh := SA28) (sh' := SA29) dX3_init_25 lf_RX3_20 rfl rfl (by decide) (by decide) (Or.inr ⟨rfl, rfl, rfl, lg_RX3_20⟩) rfl ?_
  refine q_aload_n dX3_init_28 rfl ?_
  refine q_newk (k := 16) (sh' := SA30) (mc := 1) (ms := 12) dX3_init_29 (by decide) lc_RX3_9 kn6 (by decide) rfl rfl rfl rfl ?_
  refine q_dup dX3_init_32 rfl ?_
  refine q_iconst dX3_init_33 (by decide) ?_
  refine q_cIn (as := [vI 3]) (mc' := 1) (ms' := 12) (mc := 0) (ms := 0) dX3_init_34 kmX6_init kiX6_init (Or.inl lm_RX3_11) ⟨by decide, by decide⟩ rfl rfl (Nat.le_of_ble_eq_true rfl) (in_X6_init_16) rfl rfl (fun m3 h3 => ?_)
  have F3 : Fr [16, 17] m2 m3 := (by rw [h3]; exact ((Fr.rf.new (by decide)).set (by decide)).new (by decide))
  refine q_putr (r := 16) (sh := SA32) (sh' := SA33) dX3_init_37 lf_RX3_23 rfl rfl (by decide) (by decide) (Or.inr ⟨rfl, rfl, rfl, lg_RX3_23⟩) rfl ?_
  refine q_aload_n dX3_init_40 rfl ?_
  refine q_cVn (as := []) dX3_init_41 kmX3_begin kvX3_begin lm_RX3_26 ⟨by decide, by decide⟩ (sh := SA33) rfl ⟨by decide, rfl⟩ rfl rfl (Nat.le_of_ble_eq_true rfl) (v_X3_begin_g11 (sh := SA33) (P := hgP_11 m3) rfl rfl rfl rfl (hg_11)) (fun m4 h4 => ?_)
  have F4 : Fr [11, 12, 14, 16] m3 m4 := (Fr.rf.tr (h4.1.mono (by decide)))
  refine q_vret dX3_init_44 rfl ⟨rfl, rfl, ?_⟩
  refine hi_11 ?_ ?_ ?_ ?_ h4
  · exact ((F1.mono (by decide)).tr (F2.mono (by decide))).tr (F3.mono (by decide))
  · rw [F3.at 12, F2.at 12, h1, mnew_ne 12 (by decide)]; exact mset_eq
  · rw [F3.at 14, h2, mnew_ne 14 (by decide)]; exact mset_eq
  · rw [h3, mnew_ne 16 (by decide)]; exact mset_eq
def SA34 : Sh := [(9, 0, [2, 5, 12, 0, 0, 0, 0, 0, 0, 0, 0, 0, 0, 0, 0]), (8, 0, [3, 4, 0, 0, 0, 0, 0]), (11, 200, []), (11, 4, []), (3, 0, [6, 8, 10, 0, 0, 0, 0, 0]), (6, 0, [0, 7, 0]), (11, 12, []), (6, 0, [0, 9, 0]), (11, 16, []), (6, 0, [0, 11, 0]), (11, 12, []), (3, 0, [13, 15, 17, 0, 0, 0, 0, 0]), (6, 0, [0, 14, 0]), (11, 12, []), (6, 0, [0, 16, 0]), (11, 16, []), (6, 0, [0, 18, 0]), (11, 12, [])]
def SA35 : Sh := [(9, 0, [2, 5, 12, 0, 0, 0, 0, 0, 0, 0, 0, 0, 0, 0, 0]), (8, 0, [3, 4, 0, 0, 0, 0, 0]), (11, 200, []), (11, 4, []), (3, 0, [6, 8, 10, 0, 0, 0, 0, 0]), (6, 0, [0, 7, 0]), (11, 12, []), (6, 0, [0, 9, 0]), (11, 16, []), (6, 0, [0, 11, 0]), (11, 12, []), (3, 0, [13, 15, 17, 0, 0, 0, 0, 0]), (6, 0, [0, 14, 0]), (11, 12, []), (6, 0, [0, 16, 0]), (11, 16, []), (6, 0, [0, 18, 0]), (11, 12, []), (4, 0, [0, 0, 0, 0])]
def SA36 : Sh := [(9, 0, [2, 5, 12, 0, 0, 0, 0, 0, 0, 0, 0, 0, 0, 0, 0]), (8, 0, [3, 4, 0, 0, 0, 0, 0]), (11, 200, []), (11, 4, []), (3, 0, [6, 8, 10, 0, 0, 0, 0, 0]), (6, 0, [0, 7, 0]), (11, 12, []), (6, 0, [0, 9, 0]), (11, 16, []), (6, 0, [0, 11, 0]), (11, 12, []), (3, 0, [13, 15, 17, 0, 0, 0, 0, 0]), (6, 0, [0, 14, 0]), (11, 12, []), (6, 0, [0, 16, 0]), (11, 16, []), (6, 0, [0, 18, 0]), (11, 12, []), (4, 0, [0, 0, 0, 0]), (11, 4, [])]
def SA37 : Sh := [(9, 0, [2, 5, 12, 0, 0, 0, 0, 0, 0, 0, 0, 0, 0, 0, 0]), (8, 0, [3, 4, 0, 0, 0, 0, 0]), (11, 200, []), (11, 4, []), (3, 0, [6, 8, 10, 0, 0, 0, 0, 0]), (6, 0, [0, 7, 0]), (11, 12, []), (6, 0, [0, 9, 0]), (11, 16, []), (6, 0, [0, 11, 0]), (11, 12, []), (3, 0, [13, 15, 17, 0, 0, 0, 0, 0]), (6, 0, [0, 14, 0]), (11, 12, []), (6, 0, [0, 16, 0]), (11, 16, []), (6, 0, [0, 18, 0]), (11, 12, []), (4, 0, [20, 0, 0, 0]), (11, 4, [])]
def SA38 : Sh := [(9, 0, [2, 5, 12, 0, 0, 0, 0, 0, 0, 0, 0, 0, 0, 0, 0]), (8, 0, [3, 4, 0, 0, 0, 0, 0]), (11, 200, []), (11, 4, []), (3, 0, [6, 8, 10, 0, 0, 0, 0, 0]), (6, 0, [0, 7, 0]), (11, 12, []), (6, 0, [0, 9, 0]), (11, 16, []), (6, 0, [0, 11, 0]), (11, 12, []), (3, 0, [13, 15, 17, 0, 0, 0, 0, 0]), (6, 0, [0, 14, 0]), (11, 12, []), (6, 0, [0, 16, 0]), (11, 16, []), (6, 0, [0, 18, 0]), (11, 12, []), (4, 0, [20, 0, 0, 0]), (11, 4, []), (11, 4, [])]
def SA39 : Sh := [(9, 0, [2, 5, 12, 0, 0, 0, 0, 0, 0, 0, 0, 0, 0, 0, 0]), (8, 0, [3, 4, 0, 0, 0, 0, 0]), (11, 200, []), (11, 4, []), (3, 0, [6, 8, 10, 0, 0, 0, 0, 0]), (6, 0, [0, 7, 0]), (11, 12, []), (6, 0, [0, 9, 0]), (11, 16, []), (6, 0, [0, 11, 0]), (11, 12, []), (3, 0, [13, 15, 17, 0, 0, 0, 0, 0]), (6, 0, [0, 14, 0]), (11, 12, []), (6, 0, [0, 16, 0]), (11, 16, []), (6, 0, [0, 18, 0]), (11, 12, []), (4, 0, [20, 21, 0, 0]), (11, 4, []), (11, 4, [])]
set_option maxRecDepth 20000 in
theorem in_X4_init_18 {m0 : Mem} : Tot mX4_init 2 8 [vR 18] SA35 m0 (Pn SA39 (fun m => Fr [18, 19, 20] m0 m ∧ m 18 2 = 0 ∧ m 18 3 = 0 ∧ ∀ s : Int, 0 ≤ s → s < 4 → m 19 s.toNat = -9 ∧ m 20 s.toNat = 0)) := by
  refine Tot.of rfl (Nat.le_of_ble_eq_true rfl) (by simp [isJ]) (ls := [vR 18]) rfl ?_
  refine q_aload_n dX4_init_0 rfl ?_
  refine q_objinit dX4_init_1 lm_RX4_3 k_oin ⟨by decide, by decide⟩ (Nat.le_of_ble_eq_true rfl) ?_
  refine q_aload_n dX4_init_4 rfl ?_
  refine q_iconst dX4_init_5 (by decide) ?_
  refine q_newik (k := 19) (a := 4) (sh' := SA36) (mc := 1) (ms := 4) dX4_init_6 k_ai (by decide) (by decide) (by decide) rfl rfl rfl rfl ?_
  refine q_putr (r := 19) (sh := SA36) (sh' := SA37) dX4_init_8 lf_RX4_9 rfl rfl (by decide) (by decide) (Or.inr ⟨rfl, rfl, rfl, lg_RX4_9⟩) rfl ?_
  refine q_aload_n dX4_init_11 rfl ?_
  refine q_iconst dX4_init_12 (by decide) ?_
  refine q_newik (k := 20) (a := 4) (sh' := SA38) (mc := 0) (ms := 0) dX4_init_13 k_ai (by decide) (by decide) (by decide) rfl rfl rfl rfl ?_
  refine q_putr (r := 20) (sh := SA38) (sh' := SA39) dX4_init_15 lf_RX4_15 rfl rfl (by decide) (by decide) (Or.inr ⟨rfl, rfl, rfl, lg_RX4_15⟩) rfl ?_
  refine q_aload_n dX4_init_18 rfl ?_
  refine q_cVn (as := []) dX4_init_19 kmX4_begin kvX4_begin lm_RX4_18 ⟨by decide, by decide⟩ (sh := SA39) rfl ⟨by decide, rfl⟩ rfl rfl (Nat.le_of_ble_eq_true rfl) (c_X4_begin (sh := SA39) (h := 18) (ca := 19) (wo := 20) rfl rfl rfl) (fun m1 h1 => ?_)
  have F1 : Fr [18, 19, 20] m0 m1 := (((Fr.rf.new (by decide)).new (by decide)).tr (h1.1.mono (by decide)))
  refine q_vret dX4_init_22 rfl ⟨rfl, rfl, ?_⟩
  exact ⟨F1, h1.2⟩
def SA40 : Sh := [(9, 0, [2, 5, 12, 19, 0, 0, 0, 0, 0, 0, 0, 0, 0, 0, 0]), (8, 0, [3, 4, 0, 0, 0, 0, 0]), (11, 200, []), (11, 4, []), (3, 0, [6, 8, 10, 0, 0, 0, 0, 0]), (6, 0, [0, 7, 0]), (11, 12, []), (6, 0, [0, 9, 0]), (11, 16, []), (6, 0, [0, 11, 0]), (11, 12, []), (3, 0, [13, 15, 17, 0, 0, 0, 0, 0]), (6, 0, [0, 14, 0]), (11, 12, []), (6, 0, [0, 16, 0]), (11, 16, []), (6, 0, [0, 18, 0]), (11, 12, []), (4, 0, [20, 21, 0, 0]), (11, 4, []), (11, 4, [])]
def SA41 : Sh := [(9, 0, [2, 5, 12, 19, 0, 0, 0, 0, 0, 0, 0, 0, 0, 0, 0]), (8, 0, [3, 4, 0, 0, 0, 0, 0]), (11, 200, []), (11, 4, []), (3, 0, [6, 8, 10, 0, 0, 0, 0, 0]), (6, 0, [0, 7, 0]), (11, 12, []), (6, 0, [0, 9, 0]), (11, 16, []), (6, 0, [0, 11, 0]), (11, 12, []), (3, 0, [13, 15, 17, 0, 0, 0, 0, 0]), (6, 0, [0, 14, 0]), (11, 12, []), (6, 0, [0, 16, 0]), (11, 16, []), (6, 0, [0, 18, 0]), (11, 12, []), (4, 0, [20, 21, 0, 0]), (11, 4, []), (11, 4, []), (4, 0, [0, 0, 0, 0])]
def SA42 : Sh := [(9, 0, [2, 5, 12, 19, 0, 0, 0, 0, 0, 0, 0, 0, 0, 0, 0]), (8, 0, [3, 4, 0, 0, 0, 0, 0]), (11, 200, []), (11, 4, []), (3, 0, [6, 8, 10, 0, 0, 0, 0, 0]), (6, 0, [0, 7, 0]), (11, 12, []), (6, 0, [0, 9, 0]), (11, 16, []), (6, 0, [0, 11, 0]), (11, 12, []), (3, 0, [13, 15, 17, 0, 0, 0, 0, 0]), (6, 0, [0, 14, 0]), (11, 12, []), (6, 0, [0, 16, 0]), (11, 16, []), (6, 0, [0, 18, 0]), (11, 12, []), (4, 0, [20, 21, 0, 0]), (11, 4, []), (11, 4, []), (4, 0, [0, 0, 0, 0]), (11, 4, [])]
def SA43 : Sh := [(9, 0, [2, 5, 12, 19, 0, 0, 0, 0, 0, 0, 0, 0, 0, 0, 0]), (8, 0, [3, 4, 0, 0, 0, 0, 0]), (11, 200, []), (11, 4, []), (3, 0, [6, 8, 10, 0, 0, 0, 0, 0]), (6, 0, [0, 7, 0]), (11, 12, []), (6, 0, [0, 9, 0]), (11, 16, []), (6, 0, [0, 11, 0]), (11, 12, []), (3, 0, [13, 15, 17, 0, 0, 0, 0, 0]), (6, 0, [0, 14, 0]), (11, 12, []), (6, 0, [0, 16, 0]), (11, 16, []), (6, 0, [0, 18, 0]), (11, 12, []), (4, 0, [20, 21, 0, 0]), (11, 4, []), (11, 4, []), (4, 0, [23, 0, 0, 0]), (11, 4, [])]
def SA44 : Sh := [(9, 0, [2, 5, 12, 19, 0, 0, 0, 0, 0, 0, 0, 0, 0, 0, 0]), (8, 0, [3, 4, 0, 0, 0, 0, 0]), (11, 200, []), (11, 4, []), (3, 0, [6, 8, 10, 0, 0, 0, 0, 0]), (6, 0, [0, 7, 0]), (11, 12, []), (6, 0, [0, 9, 0]), (11, 16, []), (6, 0, [0, 11, 0]), (11, 12, []), (3, 0, [13, 15, 17, 0, 0, 0, 0, 0]), (6, 0, [0, 14, 0]), (11, 12, []), (6, 0, [0, 16, 0]), (11, 16, []), (6, 0, [0, 18, 0]), (11, 12, []), (4, 0, [20, 21, 0, 0]), (11, 4, []), (11, 4, []), (4, 0, [23, 0, 0, 0]), (11, 4, []), (11, 4, [])]
def SA45 : Sh := [(9, 0, [2, 5, 12, 19, 0, 0, 0, 0, 0, 0, 0, 0, 0, 0, 0]), (8, 0, [3, 4, 0, 0, 0, 0, 0]), (11, 200, []), (11, 4, []), (3, 0, [6, 8, 10, 0, 0, 0, 0, 0]), (6, 0, [0, 7, 0]), (11, 12, []), (6, 0, [0, 9, 0]), (11, 16, []), (6, 0, [0, 11, 0]), (11, 12, []), (3, 0, [13, 15, 17, 0, 0, 0, 0, 0]), (6, 0, [0, 14, 0]), (11, 12, []), (6, 0, [0, 16, 0]), (11, 16, []), (6, 0, [0, 18, 0]), (11, 12, []), (4, 0, [20, 21, 0, 0]), (11, 4, []), (11, 4, []), (4, 0, [23, 24, 0, 0]), (11, 4, []), (11, 4, [])]
set_option maxRecDepth 20000 in
theorem in_X4_init_21 {m0 : Mem} : Tot mX4_init 2 8 [vR 21] SA41 m0 (Pn SA45 (fun m => Fr [21, 22, 23] m0 m ∧ m 21 2 = 0 ∧ m 21 3 = 0 ∧ ∀ s : Int, 0 ≤ s → s < 4 → m 22 s.toNat = -9 ∧ m 23 s.toNat = 0)) := by
  refine Tot.of rfl (Nat.le_of_ble_eq_true rfl) (by simp [isJ]) (ls := [vR 21]) rfl ?_
  refine q_aload_n dX4_init_0 rfl ?_
  refine q_objinit dX4_init_1 lm_RX4_3 k_oin ⟨by decide, by decide⟩ (Nat.le_of_ble_eq_true rfl) ?_
  refine q_aload_n dX4_init_4 rfl ?_
  refine q_iconst dX4_init_5 (by decide) ?_
  refine q_newik (k := 22) (a := 4) (sh' := SA42) (mc := 1) (ms := 4) dX4_init_6 k_ai (by decide) (by decide) (by decide) rfl rfl rfl rfl ?_
  refine q_putr (r := 22) (sh := SA42) (sh' := SA43) dX4_init_8 lf_RX4_9 rfl rfl (by decide) (by decide) (Or.inr ⟨rfl, rfl, rfl, lg_RX4_9⟩) rfl ?_
  refine q_aload_n dX4_init_11 rfl ?_
  refine q_iconst dX4_init_12 (by decide) ?_
  refine q_newik (k := 23) (a := 4) (sh' := SA44) (mc := 0) (ms := 0) dX4_init_13 k_ai (by decide) (by decide) (by decide) rfl rfl rfl rfl ?_
  refine q_putr (r := 23) (sh := SA44) (sh' := SA45) dX4_init_15 lf_RX4_15 rfl rfl (by decide) (by decide) (Or.inr ⟨rfl, rfl, rfl, lg_RX4_15⟩) rfl ?_
  refine q_aload_n dX4_init_18 rfl ?_
  refine q_cVn (as := []) dX4_init_19 kmX4_begin kvX4_begin lm_RX4_18 ⟨by decide, by decide⟩ (sh := SA45) rfl ⟨by decide, rfl⟩ rfl rfl (Nat.le_of_ble_eq_true rfl) (c_X4_begin (sh := SA45) (h := 21) (ca := 22) (wo := 23) rfl rfl rfl) (fun m1 h1 => ?_)
  have F1 : Fr [21, 22, 23] m0 m1 := (((Fr.rf.new (by decide)).new (by decide)).tr (h1.1.mono (by decide)))
  refine q_vret dX4_init_22 rfl ⟨rfl, rfl, ?_⟩
  exact ⟨F1, h1.2⟩
def SA46 : Sh := [(9, 0, [2, 5, 12, 19, 22, 0, 0, 0, 0, 0, 0, 0, 0, 0, 0]), (8, 0, [3, 4, 0, 0, 0, 0, 0]), (11, 200, []), (11, 4, []), (3, 0, [6, 8, 10, 0, 0, 0, 0, 0]), (6, 0, [0, 7, 0]), (11, 12, []), (6, 0, [0, 9, 0]), (11, 16, []), (6, 0, [0, 11, 0]), (11, 12, []), (3, 0, [13, 15, 17, 0, 0, 0, 0, 0]), (6, 0, [0, 14, 0]), (11, 12, []), (6, 0, [0, 16, 0]), (11, 16, []), (6, 0, [0, 18, 0]), (11, 12, []), (4, 0, [20, 21, 0, 0]), (11, 4, []), (11, 4, []), (4, 0, [23, 24, 0, 0]), (11, 4, []), (11, 4, [])]
def SA47 : Sh := [(9, 0, [2, 5, 12, 19, 22, 0, 0, 0, 0, 0, 0, 0, 0, 0, 0]), (8, 0, [3, 4, 0, 0, 0, 0, 0]), (11, 200, []), (11, 4, []), (3, 0, [6, 8, 10, 0, 0, 0, 0, 0]), (6, 0, [0, 7, 0]), (11, 12, []), (6, 0, [0, 9, 0]), (11, 16, []), (6, 0, [0, 11, 0]), (11, 12, []), (3, 0, [13, 15, 17, 0, 0, 0, 0, 0]), (6, 0, [0, 14, 0]), (11, 12, []), (6, 0, [0, 16, 0]), (11, 16, []), (6, 0, [0, 18, 0]), (11, 12, []), (4, 0, [20, 21, 0, 0]), (11, 4, []), (11, 4, []), (4, 0, [23, 24, 0, 0]), (11, 4, []), (11, 4, []), (5, 0, [0, 0, 0])]
def SA48 : Sh := [(9, 0, [2, 5, 12, 19, 22, 0, 0, 0, 0, 0, 0, 0, 0, 0, 0]), (8, 0, [3, 4, 0, 0, 0, 0, 0]), (11, 200, []), (11, 4, []), (3, 0, [6, 8, 10, 0, 0, 0, 0, 0]), (6, 0, [0, 7, 0]), (11, 12, []), (6, 0, [0, 9, 0]), (11, 16, []), (6, 0, [0, 11, 0]), (11, 12, []), (3, 0, [13, 15, 17, 0, 0, 0, 0, 0]), (6, 0, [0, 14, 0]), (11, 12, []), (6, 0, [0, 16, 0]), (11, 16, []), (6, 0, [0, 18, 0]), (11, 12, []), (4, 0, [20, 21, 0, 0]), (11, 4, []), (11, 4, []), (4, 0, [23, 24, 0, 0]), (11, 4, []), (11, 4, []), (5, 0, [0, 0, 0]), (7, 0, [0, 0])]
def SA49 : Sh := [(9, 0, [2, 5, 12, 19, 22, 0, 0, 0, 0, 0, 0, 0, 0, 0, 0]), (8, 0, [3, 4, 0, 0, 0, 0, 0]), (11, 200, []), (11, 4, []), (3, 0, [6, 8, 10, 0, 0, 0, 0, 0]), (6, 0, [0, 7, 0]), (11, 12, []), (6, 0, [0, 9, 0]), (11, 16, []), (6, 0, [0, 11, 0]), (11, 12, []), (3, 0, [13, 15, 17, 0, 0, 0, 0, 0]), (6, 0, [0, 14, 0]), (11, 12, []), (6, 0, [0, 16, 0]), (11, 16, []), (6, 0, [0, 18, 0]), (11, 12, []), (4, 0, [20, 21, 0, 0]), (11, 4, []), (11, 4, []), (4, 0, [23, 24, 0, 0]), (11, 4, []), (11, 4, []), (5, 0, [0, 0, 0]), (7, 0, [0, 0]), (11, 100, [])]
def SA50 : Sh := [(9, 0, [2, 5, 12, 19, 22, 0, 0, 0, 0, 0, 0, 0, 0, 0, 0]), (8, 0, [3, 4, 0, 0, 0, 0, 0]), (11, 200, []), (11, 4, []), (3, 0, [6, 8, 10, 0, 0, 0, 0, 0]), (6, 0, [0, 7, 0]), (11, 12, []), (6, 0, [0, 9, 0]), (11, 16, []), (6, 0, [0, 11, 0]), (11, 12, []), (3, 0, [13, 15, 17, 0, 0, 0, 0, 0]), (6, 0, [0, 14, 0]), (11, 12, []), (6, 0, [0, 16, 0]), (11, 16, []), (6, 0, [0, 18, 0]), (11, 12, []), (4, 0, [20, 21, 0, 0]), (11, 4, []), (11, 4, []), (4, 0, [23, 24, 0, 0]), (11, 4, []), (11, 4, []), (5, 0, [0, 0, 0]), (7, 0, [0, 27]), (11, 100, [])]
set_option maxRecDepth 20000 in
theorem in_X7_init_25 {m0 : Mem} : Tot mX7_init 1 100 [vR 25, vI 10] SA48 m0 (Pn SA50 (fun m => m = mnew (mset m0 25 0 10) 26)) := by
  refine Tot.of rfl (Nat.le_of_ble_eq_true rfl) (by simp [isJ]) (ls := [vR 25, vI 10]) rfl ?_
  refine q_aload_n dX7_init_0 rfl ?_
  refine q_objinit dX7_init_1 lm_RX7_3 k_oin ⟨by decide, by decide⟩ (Nat.le_of_ble_eq_true rfl) ?_
  refine q_aload_n dX7_init_4 rfl ?_
  refine q_iconst dX7_init_5 (by decide) ?_
  refine q_iload_n dX7_init_6 rfl ?_
  refine q_max dX7_init_7 lm_RX7_9 k_max (by decide) (Nat.le_of_ble_eq_true rfl) ?_
  rw [show (max (0 : Int) 10) = 10 by decide]
  refine q_puti dX7_init_10 lf_RX7_15 (sh := SA48) rfl rfl (Or.inr ⟨rfl, rfl, rfl, lg_RX7_15⟩) fit_int ?_
  refine q_aload_n dX7_init_13 rfl ?_
  refine q_aload_n dX7_init_14 rfl ?_
  refine q_geti dX7_init_15 lf_RX7_15 (sh := SA48) rfl rfl ?_
  rw [mset_eq]
  refine q_bipush dX7_init_18 rfl (by decide) ?_
  refine q_imul dX7_init_20 (by decide) ?_
  rw [show ((10 : Int) * 10) = 100 by decide]
  refine q_newik (k := 26) (a := 100) (sh' := SA49) (mc := 0) (ms := 0) dX7_init_21 k_ai (by decide) (by decide) (by decide) rfl rfl rfl rfl ?_
  refine q_putr (r := 26) (sh := SA49) (sh' := SA50) dX7_init_23 lf_RX7_21 rfl rfl (by decide) (by decide) (Or.inr ⟨rfl, rfl, rfl, lg_RX7_21⟩) rfl ?_
  refine q_vret dX7_init_26 rfl ⟨rfl, rfl, ?_⟩
  rfl
def SA51 : Sh := [(9, 0, [2, 5, 12, 19, 22, 0, 0, 0, 0, 0, 0, 0, 0, 0, 0]), (8, 0, [3, 4, 0, 0, 0, 0, 0]), (11, 200, []), (11, 4, []), (3, 0, [6, 8, 10, 0, 0, 0, 0, 0]), (6, 0, [0, 7, 0]), (11, 12, []), (6, 0, [0, 9, 0]), (11, 16, []), (6, 0, [0, 11, 0]), (11, 12, []), (3, 0, [13, 15, 17, 0, 0, 0, 0, 0]), (6, 0, [0, 14, 0]), (11, 12, []), (6, 0, [0, 16, 0]), (11, 16, []), (6, 0, [0, 18, 0]), (11, 12, []), (4, 0, [20, 21, 0, 0]), (11, 4, []), (11, 4, []), (4, 0, [23, 24, 0, 0]), (11, 4, []), (11, 4, []), (5, 0, [26, 0, 0]), (7, 0, [0, 27]), (11, 100, [])]
set_option maxRecDepth 20000 in
theorem in_X5_init_24 {m0 : Mem} : Tot mX5_init 2 102 [vR 24] SA47 m0 (Pn SA51 (fun m => m = mnew (mset (mnew m0 25) 25 0 10) 26)) := by
  refine Tot.of rfl (Nat.le_of_ble_eq_true rfl) (by simp [isJ]) (ls := [vR 24]) rfl ?_
  refine q_aload_n dX5_init_0 rfl ?_
  refine q_objinit dX5_init_1 lm_RX5_1 k_oin ⟨by decide, by decide⟩ (Nat.le_of_ble_eq_true rfl) ?_
  refine q_aload_n dX5_init_4 rfl ?_
  refine q_newk (k := 25) (sh' := SA48) (mc := 1) (ms := 100) dX5_init_5 (by decide) lc_RX5_7 kn7 (by decide) rfl rfl rfl rfl ?_
  refine q_dup dX5_init_8 rfl ?_
  refine q_bipush dX5_init_9 rfl (by decide) ?_
  refine q_cIn (as := [vI 10]) (mc' := 1) (ms' := 100) (mc := 0) (ms := 0) dX5_init_11 kmX7_init kiX7_init (Or.inl lm_RX5_11) ⟨by decide, by decide⟩ rfl rfl (Nat.le_of_ble_eq_true rfl) (in_X7_init_25) rfl rfl (fun m1 h1 => ?_)
  have F1 : Fr [25, 26] m0 m1 := (by rw [h1]; exact ((Fr.rf.new (by decide)).set (by decide)).new (by decide))
  refine q_putr (r := 25) (sh := SA50) (sh' := SA51) dX5_init_14 lf_RX5_14 rfl rfl (by decide) (by decide) (Or.inr ⟨rfl, rfl, rfl, lg_RX5_14⟩) rfl ?_
  refine q_vret dX5_init_17 rfl ⟨rfl, rfl, ?_⟩
  rw [h1]
def SA52 : Sh := [(9, 0, [2, 5, 12, 19, 22, 25, 0, 0, 0, 0, 0, 0, 0, 0, 0]), (8, 0, [3, 4, 0, 0, 0, 0, 0]), (11, 200, []), (11, 4, []), (3, 0, [6, 8, 10, 0, 0, 0, 0, 0]), (6, 0, [0, 7, 0]), (11, 12, []), (6, 0, [0, 9, 0]), (11, 16, []), (6, 0, [0, 11, 0]), (11, 12, []), (3, 0, [13, 15, 17, 0, 0, 0, 0, 0]), (6, 0, [0, 14, 0]), (11, 12, []), (6, 0, [0, 16, 0]), (11, 16, []), (6, 0, [0, 18, 0]), (11, 12, []), (4, 0, [20, 21, 0, 0]), (11, 4, []), (11, 4, []), (4, 0, [23, 24, 0, 0]), (11, 4, []), (11, 4, []), (5, 0, [26, 0, 0]), (7, 0, [0, 27]), (11, 100, [])]
def SA53 : Sh := [(9, 0, [2, 5, 12, 19, 22, 25, 0, 0, 0, 0, 0, 0, 0, 0, 0]), (8, 0, [3, 4, 0, 0, 0, 0, 0]), (11, 200, []), (11, 4, []), (3, 0, [6, 8, 10, 0, 0, 0, 0, 0]), (6, 0, [0, 7, 0]), (11, 12, []), (6, 0, [0, 9, 0]), (11, 16, []), (6, 0, [0, 11, 0]), (11, 12, []), (3, 0, [13, 15, 17, 0, 0, 0, 0, 0]), (6, 0, [0, 14, 0]), (11, 12, []), (6, 0, [0, 16, 0]), (11, 16, []), (6, 0, [0, 18, 0]), (11, 12, []), (4, 0, [20, 21, 0, 0]), (11, 4, []), (11, 4, []), (4, 0, [23, 24, 0, 0]), (11, 4, []), (11, 4, []), (5, 0, [26, 0, 0]), (7, 0, [0, 27]), (11, 100, []), (7, 0, [0, 0])]
def SA54 : Sh := [(9, 0, [2, 5, 12, 19, 22, 25, 0, 0, 0, 0, 0, 0, 0, 0, 0]), (8, 0, [3, 4, 0, 0, 0, 0, 0]), (11, 200, []), (11, 4, []), (3, 0, [6, 8, 10, 0, 0, 0, 0, 0]), (6, 0, [0, 7, 0]), (11, 12, []), (6, 0, [0, 9, 0]), (11, 16, []), (6, 0, [0, 11, 0]), (11, 12, []), (3, 0, [13, 15, 17, 0, 0, 0, 0, 0]), (6, 0, [0, 14, 0]), (11, 12, []), (6, 0, [0, 16, 0]), (11, 16, []), (6, 0, [0, 18, 0]), (11, 12, []), (4, 0, [20, 21, 0, 0]), (11, 4, []), (11, 4, []), (4, 0, [23, 24, 0, 0]), (11, 4, []), (11, 4, []), (5, 0, [26, 0, 0]), (7, 0, [0, 27]), (11, 100, []), (7, 0, [0, 0]), (11, 20, [])]
def SA55 : Sh := [(9, 0, [2, 5, 12, 19, 22, 25, 0, 0, 0, 0, 0, 0, 0, 0, 0]), (8, 0, [3, 4, 0, 0, 0, 0, 0]), (11, 200, []), (11, 4, []), (3, 0, [6, 8, 10, 0, 0, 0, 0, 0]), (6, 0, [0, 7, 0]), (11, 12, []), (6, 0, [0, 9, 0]), (11, 16, []), (6, 0, [0, 11, 0]), (11, 12, []), (3, 0, [13, 15, 17, 0, 0, 0, 0, 0]), (6, 0, [0, 14, 0]), (11, 12, []), (6, 0, [0, 16, 0]), (11, 16, []), (6, 0, [0, 18, 0]), (11, 12, []), (4, 0, [20, 21, 0, 0]), (11, 4, []), (11, 4, []), (4, 0, [23, 24, 0, 0]), (11, 4, []), (11, 4, []), (5, 0, [26, 0, 0]), (7, 0, [0, 27]), (11, 100, []), (7, 0, [0, 29]), (11, 20, [])]
set_option maxRecDepth 20000 in
theorem in_X7_init_27 {m0 : Mem} : Tot mX7_init 1 20 [vR 27, vI 2] SA53 m0 (Pn SA55 (fun m => m = mnew (mset m0 27 0 2) 28)) := by
  refine Tot.of rfl (Nat.le_of_ble_eq_true rfl) (by simp [isJ]) (ls := [vR 27, vI 2]) rfl ?_
  refine q_aload_n dX7_init_0 rfl ?_
  refine q_objinit dX7_init_1 lm_RX7_3 k_oin ⟨by decide, by decide⟩ (Nat.le_of_ble_eq_true rfl) ?_
  refine q_aload_n dX7_init_4 rfl ?_
  refine q_iconst dX7_init_5 (by decide) ?_
  refine q_iload_n dX7_init_6 rfl ?_
  refine q_max dX7_init_7 lm_RX7_9 k_max (by decide) (Nat.le_of_ble_eq_true rfl) ?_
  rw [show (max (0 : Int) 2) = 2 by decide]
  refine q_puti dX7_init_10 lf_RX7_15 (sh := SA53) rfl rfl (Or.inr ⟨rfl, rfl, rfl, lg_RX7_15⟩) fit_int ?_
  refine q_aload_n dX7_init_13 rfl ?_
  refine q_aload_n dX7_init_14 rfl ?_
  refine q_geti dX7_init_15 lf_RX7_15 (sh := SA53) rfl rfl ?_
  rw [mset_eq]
  refine q_bipush dX7_init_18 rfl (by decide) ?_
  refine q_imul dX7_init_20 (by decide) ?_
  rw [show ((2 : Int) * 10) = 20 by decide]
  refine q_newik (k := 28) (a := 20) (sh' := SA54) (mc := 0) (ms := 0) dX7_init_21 k_ai (by decide) (by decide) (by decide) rfl rfl rfl rfl ?_
  refine q_putr (r := 28) (sh := SA54) (sh' := SA55) dX7_init_23 lf_RX7_21 rfl rfl (by decide) (by decide) (Or.inr ⟨rfl, rfl, rfl, lg_RX7_21⟩) rfl ?_
  refine q_vret dX7_init_26 rfl ⟨rfl, rfl, ?_⟩
  rfl
def SA56 : Sh := [(9, 0, [2, 5, 12, 19, 22, 25, 28, 0, 0, 0, 0, 0, 0, 0, 0]), (8, 0, [3, 4, 0, 0, 0, 0, 0]), (11, 200, []), (11, 4, []), (3, 0, [6, 8, 10, 0, 0, 0, 0, 0]), (6, 0, [0, 7, 0]), (11, 12, []), (6, 0, [0, 9, 0]), (11, 16, []), (6, 0, [0, 11, 0]), (11, 12, []), (3, 0, [13, 15, 17, 0, 0, 0, 0, 0]), (6, 0, [0, 14, 0]), (11, 12, []), (6, 0, [0, 16, 0]), (11, 16, []), (6, 0, [0, 18, 0]), (11, 12, []), (4, 0, [20, 21, 0, 0]), (11, 4, []), (11, 4, []), (4, 0, [23, 24, 0, 0]), (11, 4, []), (11, 4, []), (5, 0, [26, 0, 0]), (7, 0, [0, 27]), (11, 100, []), (7, 0, [0, 29]), (11, 20, [])]
def SA57 : Sh := [(9, 0, [2, 5, 12, 19, 22, 25, 28, 0, 0, 0, 0, 0, 0, 0, 0]), (8, 0, [3, 4, 0, 0, 0, 0, 0]), (11, 200, []), (11, 4, []), (3, 0, [6, 8, 10, 0, 0, 0, 0, 0]), (6, 0, [0, 7, 0]), (11, 12, []), (6, 0, [0, 9, 0]), (11, 16, []), (6, 0, [0, 11, 0]), (11, 12, []), (3, 0, [13, 15, 17, 0, 0, 0, 0, 0]), (6, 0, [0, 14, 0]), (11, 12, []), (6, 0, [0, 16, 0]), (11, 16, []), (6, 0, [0, 18, 0]), (11, 12, []), (4, 0, [20, 21, 0, 0]), (11, 4, []), (11, 4, []), (4, 0, [23, 24, 0, 0]), (11, 4, []), (11, 4, []), (5, 0, [26, 0, 0]), (7, 0, [0, 27]), (11, 100, []), (7, 0, [0, 29]), (11, 20, []), (12, 2, [])]
def SA58 : Sh := [(9, 0, [2, 5, 12, 19, 22, 25, 28, 30, 0, 0, 0, 0, 0, 0, 0]), (8, 0, [3, 4, 0, 0, 0, 0, 0]), (11, 200, []), (11, 4, []), (3, 0, [6, 8, 10, 0, 0, 0, 0, 0]), (6, 0, [0, 7, 0]), (11, 12, []), (6, 0, [0, 9, 0]), (11, 16, []), (6, 0, [0, 11, 0]), (11, 12, []), (3, 0, [13, 15, 17, 0, 0, 0, 0, 0]), (6, 0, [0, 14, 0]), (11, 12, []), (6, 0, [0, 16, 0]), (11, 16, []), (6, 0, [0, 18, 0]), (11, 12, []), (4, 0, [20, 21, 0, 0]), (11, 4, []), (11, 4, []), (4, 0, [23, 24, 0, 0]), (11, 4, []), (11, 4, []), (5, 0, [26, 0, 0]), (7, 0, [0, 27]), (11, 100, []), (7, 0, [0, 29]), (11, 20, []), (12, 2, [])]
def SA59 : Sh := [(9, 0, [2, 5, 12, 19, 22, 25, 28, 30, 0, 0, 0, 0, 0, 0, 0]), (8, 0, [3, 4, 0, 0, 0, 0, 0]), (11, 200, []), (11, 4, []), (3, 0, [6, 8, 10, 0, 0, 0, 0, 0]), (6, 0, [0, 7, 0]), (11, 12, []), (6, 0, [0, 9, 0]), (11, 16, []), (6, 0, [0, 11, 0]), (11, 12, []), (3, 0, [13, 15, 17, 0, 0, 0, 0, 0]), (6, 0, [0, 14, 0]), (11, 12, []), (6, 0, [0, 16, 0]), (11, 16, []), (6, 0, [0, 18, 0]), (11, 12, []), (4, 0, [20, 21, 0, 0]), (11, 4, []), (11, 4, []), (4, 0, [23, 24, 0, 0]), (11, 4, []), (11, 4, []), (5, 0, [26, 0, 0]), (7, 0, [0, 27]), (11, 100, []), (7, 0, [0, 29]), (11, 20, []), (12, 2, []), (6, 0, [0, 0, 0])]
def SA60 : Sh := [(9, 0, [2, 5, 12, 19, 22, 25, 28, 30, 0, 0, 0, 0, 0, 0, 0]), (8, 0, [3, 4, 0, 0, 0, 0, 0]), (11, 200, []), (11, 4, []), (3, 0, [6, 8, 10, 0, 0, 0, 0, 0]), (6, 0, [0, 7, 0]), (11, 12, []), (6, 0, [0, 9, 0]), (11, 16, []), (6, 0, [0, 11, 0]), (11, 12, []), (3, 0, [13, 15, 17, 0, 0, 0, 0, 0]), (6, 0, [0, 14, 0]), (11, 12, []), (6, 0, [0, 16, 0]), (11, 16, []), (6, 0, [0, 18, 0]), (11, 12, []), (4, 0, [20, 21, 0, 0]), (11, 4, []), (11, 4, []), (4, 0, [23, 24, 0, 0]), (11, 4, []), (11, 4, []), (5, 0, [26, 0, 0]), (7, 0, [0, 27]), (11, 100, []), (7, 0, [0, 29]), (11, 20, []), (12, 2, []), (6, 0, [0, 0, 0]), (11, 16, [])]
def SA61 : Sh := [(9, 0, [2, 5, 12, 19, 22, 25, 28, 30, 0, 0, 0, 0, 0, 0, 0]), (8, 0, [3, 4, 0, 0, 0, 0, 0]), (11, 200, []), (11, 4, []), (3, 0, [6, 8, 10, 0, 0, 0, 0, 0]), (6, 0, [0, 7, 0]), (11, 12, []), (6, 0, [0, 9, 0]), (11, 16, []), (6, 0, [0, 11, 0]), (11, 12, []), (3, 0, [13, 15, 17, 0, 0, 0, 0, 0]), (6, 0, [0, 14, 0]), (11, 12, []), (6, 0, [0, 16, 0]), (11, 16, []), (6, 0, [0, 18, 0]), (11, 12, []), (4, 0, [20, 21, 0, 0]), (11, 4, []), (11, 4, []), (4, 0, [23, 24, 0, 0]), (11, 4, []), (11, 4, []), (5, 0, [26, 0, 0]), (7, 0, [0, 27]), (11, 100, []), (7, 0, [0, 29]), (11, 20, []), (12, 2, []), (6, 0, [0, 32, 0]), (11, 16, [])]
set_option maxRecDepth 20000 in
theorem in_X6_init_30 {m0 : Mem} : Tot mX6_init 1 16 [vR 30, vI 4] SA59 m0 (Pn SA61 (fun m => m = mnew (mset m0 30 0 4) 31)) := by
  refine Tot.of rfl (Nat.le_of_ble_eq_true rfl) (by simp [isJ]) (ls := [vR 30, vI 4]) rfl ?_
  refine q_aload_n dX6_init_0 rfl ?_
  refine q_objinit dX6_init_1 lm_RX6_1 k_oin ⟨by decide, by decide⟩ (Nat.le_of_ble_eq_true rfl) ?_
  refine q_aload_n dX6_init_4 rfl ?_
  refine q_iconst dX6_init_5 (by decide) ?_
  refine q_iload_n dX6_init_6 rfl ?_
  refine q_max dX6_init_7 lm_RX6_7 k_max (by decide) (Nat.le_of_ble_eq_true rfl) ?_
  rw [show (max (0 : Int) 4) = 4 by decide]
  refine q_puti dX6_init_10 lf_RX6_13 (sh := SA59) rfl rfl (Or.inr ⟨rfl, rfl, rfl, lg_RX6_13⟩) fit_int ?_
  refine q_aload_n dX6_init_13 rfl ?_
  refine q_aload_n dX6_init_14 rfl ?_
  refine q_geti dX6_init_15 lf_RX6_13 (sh := SA59) rfl rfl ?_
  rw [mset_eq]
  refine q_iconst dX6_init_18 (by decide) ?_
  refine q_imul dX6_init_19 (by decide) ?_
  rw [show ((4 : Int) * 4) = 16 by decide]
  refine q_newik (k := 31) (a := 16) (sh' := SA60) (mc := 0) (ms := 0) dX6_init_20 k_ai (by decide) (by decide) (by decide) rfl rfl rfl rfl ?_
  refine q_putr (r := 31) (sh := SA60) (sh' := SA61) dX6_init_22 lf_RX6_19 rfl rfl (by decide) (by decide) (Or.inr ⟨rfl, rfl, rfl, lg_RX6_19⟩) rfl ?_
  refine q_vret dX6_init_25 rfl ⟨rfl, rfl, ?_⟩
  rfl
def SA62 : Sh := [(9, 0, [2, 5, 12, 19, 22, 25, 28, 30, 31, 0, 0, 0, 0, 0, 0]), (8, 0, [3, 4, 0, 0, 0, 0, 0]), (11, 200, []), (11, 4, []), (3, 0, [6, 8, 10, 0, 0, 0, 0, 0]), (6, 0, [0, 7, 0]), (11, 12, []), (6, 0, [0, 9, 0]), (11, 16, []), (6, 0, [0, 11, 0]), (11, 12, []), (3, 0, [13, 15, 17, 0, 0, 0, 0, 0]), (6, 0, [0, 14, 0]), (11, 12, []), (6, 0, [0, 16, 0]), (11, 16, []), (6, 0, [0, 18, 0]), (11, 12, []), (4, 0, [20, 21, 0, 0]), (11, 4, []), (11, 4, []), (4, 0, [23, 24, 0, 0]), (11, 4, []), (11, 4, []), (5, 0, [26, 0, 0]), (7, 0, [0, 27]), (11, 100, []), (7, 0, [0, 29]), (11, 20, []), (12, 2, []), (6, 0, [0, 32, 0]), (11, 16, [])]
def SA63 : Sh := [(9, 0, [2, 5, 12, 19, 22, 25, 28, 30, 31, 0, 0, 0, 0, 0, 0]), (8, 0, [3, 4, 0, 0, 0, 0, 0]), (11, 200, []), (11, 4, []), (3, 0, [6, 8, 10, 0, 0, 0, 0, 0]), (6, 0, [0, 7, 0]), (11, 12, []), (6, 0, [0, 9, 0]), (11, 16, []), (6, 0, [0, 11, 0]), (11, 12, []), (3, 0, [13, 15, 17, 0, 0, 0, 0, 0]), (6, 0, [0, 14, 0]), (11, 12, []), (6, 0, [0, 16, 0]), (11, 16, []), (6, 0, [0, 18, 0]), (11, 12, []), (4, 0, [20, 21, 0, 0]), (11, 4, []), (11, 4, []), (4, 0, [23, 24, 0, 0]), (11, 4, []), (11, 4, []), (5, 0, [26, 0, 0]), (7, 0, [0, 27]), (11, 100, []), (7, 0, [0, 29]), (11, 20, []), (12, 2, []), (6, 0, [0, 32, 0]), (11, 16, []), (6, 0, [0, 0, 0])]
def SA64 : Sh := [(9, 0, [2, 5, 12, 19, 22, 25, 28, 30, 31, 0, 0, 0, 0, 0, 0]), (8, 0, [3, 4, 0, 0, 0, 0, 0]), (11, 200, []), (11, 4, []), (3, 0, [6, 8, 10, 0, 0, 0, 0, 0]), (6, 0, [0, 7, 0]), (11, 12, []), (6, 0, [0, 9, 0]), (11, 16, []), (6, 0, [0, 11, 0]), (11, 12, []), (3, 0, [13, 15, 17, 0, 0, 0, 0, 0]), (6, 0, [0, 14, 0]), (11, 12, []), (6, 0, [0, 16, 0]), (11, 16, []), (6, 0, [0, 18, 0]), (11, 12, []), (4, 0, [20, 21, 0, 0]), (11, 4, []), (11, 4, []), (4, 0, [23, 24, 0, 0]), (11, 4, []), (11, 4, []), (5, 0, [26, 0, 0]), (7, 0, [0, 27]), (11, 100, []), (7, 0, [0, 29]), (11, 20, []), (12, 2, []), (6, 0, [0, 32, 0]), (11, 16, []), (6, 0, [0, 0, 0]), (11, 16, [])]
def SA65 : Sh := [(9, 0, [2, 5, 12, 19, 22, 25, 28, 30, 31, 0, 0, 0, 0, 0, 0]), (8, 0, [3, 4, 0, 0, 0, 0, 0]), (11, 200, []), (11, 4, []), (3, 0, [6, 8, 10, 0, 0, 0, 0, 0]), (6, 0, [0, 7, 0]), (11, 12, []), (6, 0, [0, 9, 0]), (11, 16, []), (6, 0, [0, 11, 0]), (11, 12, []), (3, 0, [13, 15, 17, 0, 0, 0, 0, 0]), (6, 0, [0, 14, 0]), (11, 12, []), (6, 0, [0, 16, 0]), (11, 16, []), (6, 0, [0, 18, 0]), (11, 12, []), (4, 0, [20, 21, 0, 0]), (11, 4, []), (11, 4, []), (4, 0, [23, 24, 0, 0]), (11, 4, []), (11, 4, []), (5, 0, [26, 0, 0]), (7, 0, [0, 27]), (11, 100, []), (7, 0, [0, 29]), (11, 20, []), (12, 2, []), (6, 0, [0, 32, 0]), (11, 16, []), (6, 0, [0, 34, 0]), (11, 16, [])]
set_option maxRecDepth 20000 in
theorem in_X6_init_32 {m0 : Mem} : Tot mX6_init 1 16 [vR 32, vI 4] SA63 m0 (Pn SA65 (fun m => m = mnew (mset m0 32 0 4) 33)) := by
  refine Tot.of rfl (Nat.le_of_ble_eq_true rfl) (by simp [isJ]) (ls := [vR 32, vI 4]) rfl ?_
  refine q_aload_n dX6_init_0 rfl ?_
  refine q_objinit dX6_init_1 lm_RX6_1 k_oin ⟨by decide, by decide⟩ (Nat.le_of_ble_eq_true rfl) ?_
  refine q_aload_n dX6_init_4 rfl ?_
  refine q_iconst dX6_init_5 (by decide) ?_
  refine q_iload_n dX6_init_6 rfl ?_
  refine q_max dX6_init_7 lm_RX6_7 k_max (by decide) (Nat.le_of_ble_eq_true rfl) ?_
  rw [show (max (0 : Int) 4) = 4 by decide]
  refine q_puti dX6_init_10 lf_RX6_13 (sh := SA63) rfl rfl (Or.inr ⟨rfl, rfl, rfl, lg_RX6_13⟩) fit_int ?_
  refine q_aload_n dX6_init_13 rfl ?_
  refine q_aload_n dX6_init_14 rfl ?_
  refine q_geti dX6_init_15 lf_RX6_13 (sh := SA63) rfl rfl ?_
  rw [mset_eq]
  refine q_iconst dX6_init_18 (by decide) ?_
  refine q_imul dX6_init_19 (by decide) ?_
  rw [show ((4 : Int) * 4) = 16 by decide]
  refine q_newik (k := 33) (a := 16) (sh' := SA64) (mc := 0) (ms := 0) dX6_init_20 k_ai (by decide) (by decide) (by decide) rfl rfl rfl rfl ?_
  refine q_putr (r := 33) (sh := SA64) (sh' := SA65) dX6_init_22 lf_RX6_19 rfl rfl (by decide) (by decide) (Or.inr ⟨rfl, rfl, rfl, lg_RX6_19⟩) rfl ?_
  refine q_vret dX6_init_25 rfl ⟨rfl, rfl, ?_⟩
  rfl
def SA66 : Sh := [(9, 0, [2, 5, 12, 19, 22, 25, 28, 30, 31, 33, 0, 0, 0, 0, 0]), (8, 0, [3, 4, 0, 0, 0, 0, 0]), (11, 200, []), (11, 4, []), (3, 0, [6, 8, 10, 0, 0, 0, 0, 0]), (6, 0, [0, 7, 0]), (11, 12, []), (6, 0, [0, 9, 0]), (11, 16, []), (6, 0, [0, 11, 0]), (11, 12, []), (3, 0, [13, 15, 17, 0, 0, 0, 0, 0]), (6, 0, [0, 14, 0]), (11, 12, []), (6, 0, [0, 16, 0]), (11, 16, []), (6, 0, [0, 18, 0]), (11, 12, []), (4, 0, [20, 21, 0, 0]), (11, 4, []), (11, 4, []), (4, 0, [23, 24, 0, 0]), (11, 4, []), (11, 4, []), (5, 0, [26, 0, 0]), (7, 0, [0, 27]), (11, 100, []), (7, 0, [0, 29]), (11, 20, []), (12, 2, []), (6, 0, [0, 32, 0]), (11, 16, []), (6, 0, [0, 34, 0]), (11, 16, [])]
def SA67 : Sh := [(9, 0, [2, 5, 12, 19, 22, 25, 28, 30, 31, 33, 0, 0, 0, 0, 0]), (8, 0, [3, 4, 0, 0, 0, 0, 0]), (11, 200, []), (11, 4, []), (3, 0, [6, 8, 10, 0, 0, 0, 0, 0]), (6, 0, [0, 7, 0]), (11, 12, []), (6, 0, [0, 9, 0]), (11, 16, []), (6, 0, [0, 11, 0]), (11, 12, []), (3, 0, [13, 15, 17, 0, 0, 0, 0, 0]), (6, 0, [0, 14, 0]), (11, 12, []), (6, 0, [0, 16, 0]), (11, 16, []), (6, 0, [0, 18, 0]), (11, 12, []), (4, 0, [20, 21, 0, 0]), (11, 4, []), (11, 4, []), (4, 0, [23, 24, 0, 0]), (11, 4, []), (11, 4, []), (5, 0, [26, 0, 0]), (7, 0, [0, 27]), (11, 100, []), (7, 0, [0, 29]), (11, 20, []), (12, 2, []), (6, 0, [0, 32, 0]), (11, 16, []), (6, 0, [0, 34, 0]), (11, 16, []), (1, 0, [0, 0, 0, 0, 0, 0, 0])]
def SA68 : Sh := [(9, 0, [2, 5, 12, 19, 22, 25, 28, 30, 31, 33, 0, 0, 0, 0, 0]), (8, 0, [3, 4, 0, 0, 0, 0, 0]), (11, 200, []), (11, 4, []), (3, 0, [6, 8, 10, 0, 0, 0, 0, 0]), (6, 0, [0, 7, 0]), (11, 12, []), (6, 0, [0, 9, 0]), (11, 16, []), (6, 0, [0, 11, 0]), (11, 12, []), (3, 0, [13, 15, 17, 0, 0, 0, 0, 0]), (6, 0, [0, 14, 0]), (11, 12, []), (6, 0, [0, 16, 0]), (11, 16, []), (6, 0, [0, 18, 0]), (11, 12, []), (4, 0, [20, 21, 0, 0]), (11, 4, []), (11, 4, []), (4, 0, [23, 24, 0, 0]), (11, 4, []), (11, 4, []), (5, 0, [26, 0, 0]), (7, 0, [0, 27]), (11, 100, []), (7, 0, [0, 29]), (11, 20, []), (12, 2, []), (6, 0, [0, 32, 0]), (11, 16, []), (6, 0, [0, 34, 0]), (11, 16, []), (1, 0, [0, 0, 0, 0, 0, 0, 0]), (11, 12, [])]
def SA69 : Sh := [(9, 0, [2, 5, 12, 19, 22, 25, 28, 30, 31, 33, 0, 0, 0, 0, 0]), (8, 0, [3, 4, 0, 0, 0, 0, 0]), (11, 200, []), (11, 4, []), (3, 0, [6, 8, 10, 0, 0, 0, 0, 0]), (6, 0, [0, 7, 0]), (11, 12, []), (6, 0, [0, 9, 0]), (11, 16, []), (6, 0, [0, 11, 0]), (11, 12, []), (3, 0, [13, 15, 17, 0, 0, 0, 0, 0]), (6, 0, [0, 14, 0]), (11, 12, []), (6, 0, [0, 16, 0]), (11, 16, []), (6, 0, [0, 18, 0]), (11, 12, []), (4, 0, [20, 21, 0, 0]), (11, 4, []), (11, 4, []), (4, 0, [23, 24, 0, 0]), (11, 4, []), (11, 4, []), (5, 0, [26, 0, 0]), (7, 0, [0, 27]), (11, 100, []), (7, 0, [0, 29]), (11, 20, []), (12, 2, []), (6, 0, [0, 32, 0]), (11, 16, []), (6, 0, [0, 34, 0]), (11, 16, []), (1, 0, [0, 36, 0, 0, 0, 0, 0]), (11, 12, [])]
def SA70 : Sh := [(9, 0, [2, 5, 12, 19, 22, 25, 28, 30, 31, 33, 0, 0, 0, 0, 0]), (8, 0, [3, 4, 0, 0, 0, 0, 0]), (11, 200, []), (11, 4, []), (3, 0, [6, 8, 10, 0, 0, 0, 0, 0]), (6, 0, [0, 7, 0]), (11, 12, []), (6, 0, [0, 9, 0]), (11, 16, []), (6, 0, [0, 11, 0]), (11, 12, []), (3, 0, [13, 15, 17, 0, 0, 0, 0, 0]), (6, 0, [0, 14, 0]), (11, 12, []), (6, 0, [0, 16, 0]), (11, 16, []), (6, 0, [0, 18, 0]), (11, 12, []), (4, 0, [20, 21, 0, 0]), (11, 4, []), (11, 4, []), (4, 0, [23, 24, 0, 0]), (11, 4, []), (11, 4, []), (5, 0, [26, 0, 0]), (7, 0, [0, 27]), (11, 100, []), (7, 0, [0, 29]), (11, 20, []), (12, 2, []), (6, 0, [0, 32, 0]), (11, 16, []), (6, 0, [0, 34, 0]), (11, 16, []), (1, 0, [0, 36, 0, 0, 0, 0, 0]), (11, 12, []), (11, 4, [])]
def SA71 : Sh := [(9, 0, [2, 5, 12, 19, 22, 25, 28, 30, 31, 33, 0, 0, 0, 0, 0]), (8, 0, [3, 4, 0, 0, 0, 0, 0]), (11, 200, []), (11, 4, []), (3, 0, [6, 8, 10, 0, 0, 0, 0, 0]), (6, 0, [0, 7, 0]), (11, 12, []), (6, 0, [0, 9, 0]), (11, 16, []), (6, 0, [0, 11, 0]), (11, 12, []), (3, 0, [13, 15, 17, 0, 0, 0, 0, 0]), (6, 0, [0, 14, 0]), (11, 12, []), (6, 0, [0, 16, 0]), (11, 16, []), (6, 0, [0, 18, 0]), (11, 12, []), (4, 0, [20, 21, 0, 0]), (11, 4, []), (11, 4, []), (4, 0, [23, 24, 0, 0]), (11, 4, []), (11, 4, []), (5, 0, [26, 0, 0]), (7, 0, [0, 27]), (11, 100, []), (7, 0, [0, 29]), (11, 20, []), (12, 2, []), (6, 0, [0, 32, 0]), (11, 16, []), (6, 0, [0, 34, 0]), (11, 16, []), (1, 0, [0, 36, 37, 0, 0, 0, 0]), (11, 12, []), (11, 4, [])]
def SA72 : Sh := [(9, 0, [2, 5, 12, 19, 22, 25, 28, 30, 31, 33, 0, 0, 0, 0, 0]), (8, 0, [3, 4, 0, 0, 0, 0, 0]), (11, 200, []), (11, 4, []), (3, 0, [6, 8, 10, 0, 0, 0, 0, 0]), (6, 0, [0, 7, 0]), (11, 12, []), (6, 0, [0, 9, 0]), (11, 16, []), (6, 0, [0, 11, 0]), (11, 12, []), (3, 0, [13, 15, 17, 0, 0, 0, 0, 0]), (6, 0, [0, 14, 0]), (11, 12, []), (6, 0, [0, 16, 0]), (11, 16, []), (6, 0, [0, 18, 0]), (11, 12, []), (4, 0, [20, 21, 0, 0]), (11, 4, []), (11, 4, []), (4, 0, [23, 24, 0, 0]), (11, 4, []), (11, 4, []), (5, 0, [26, 0, 0]), (7, 0, [0, 27]), (11, 100, []), (7, 0, [0, 29]), (11, 20, []), (12, 2, []), (6, 0, [0, 32, 0]), (11, 16, []), (6, 0, [0, 34, 0]), (11, 16, []), (1, 0, [0, 36, 37, 0, 0, 0, 0]), (11, 12, []), (11, 4, []), (11, 48, [])]
def SA73 : Sh := [(9, 0, [2, 5, 12, 19, 22, 25, 28, 30, 31, 33, 0, 0, 0, 0, 0]), (8, 0, [3, 4, 0, 0, 0, 0, 0]), (11, 200, []), (11, 4, []), (3, 0, [6, 8, 10, 0, 0, 0, 0, 0]), (6, 0, [0, 7, 0]), (11, 12, []), (6, 0, [0, 9, 0]), (11, 16, []), (6, 0, [0, 11, 0]), (11, 12, []), (3, 0, [13, 15, 17, 0, 0, 0, 0, 0]), (6, 0, [0, 14, 0]), (11, 12, []), (6, 0, [0, 16, 0]), (11, 16, []), (6, 0, [0, 18, 0]), (11, 12, []), (4, 0, [20, 21, 0, 0]), (11, 4, []), (11, 4, []), (4, 0, [23, 24, 0, 0]), (11, 4, []), (11, 4, []), (5, 0, [26, 0, 0]), (7, 0, [0, 27]), (11, 100, []), (7, 0, [0, 29]), (11, 20, []), (12, 2, []), (6, 0, [0, 32, 0]), (11, 16, []), (6, 0, [0, 34, 0]), (11, 16, []), (1, 0, [0, 36, 37, 38, 0, 0, 0]), (11, 12, []), (11, 4, []), (11, 48, [])]
def SA74 : Sh := [(9, 0, [2, 5, 12, 19, 22, 25, 28, 30, 31, 33, 0, 0, 0, 0, 0]), (8, 0, [3, 4, 0, 0, 0, 0, 0]), (11, 200, []), (11, 4, []), (3, 0, [6, 8, 10, 0, 0, 0, 0, 0]), (6, 0, [0, 7, 0]), (11, 12, []), (6, 0, [0, 9, 0]), (11, 16, []), (6, 0, [0, 11, 0]), (11, 12, []), (3, 0, [13, 15, 17, 0, 0, 0, 0, 0]), (6, 0, [0, 14, 0]), (11, 12, []), (6, 0, [0, 16, 0]), (11, 16, []), (6, 0, [0, 18, 0]), (11, 12, []), (4, 0, [20, 21, 0, 0]), (11, 4, []), (11, 4, []), (4, 0, [23, 24, 0, 0]), (11, 4, []), (11, 4, []), (5, 0, [26, 0, 0]), (7, 0, [0, 27]), (11, 100, []), (7, 0, [0, 29]), (11, 20, []), (12, 2, []), (6, 0, [0, 32, 0]), (11, 16, []), (6, 0, [0, 34, 0]), (11, 16, []), (1, 0, [0, 36, 37, 38, 0, 0, 0]), (11, 12, []), (11, 4, []), (11, 48, []), (11, 48, [])]
def SA75 : Sh := [(9, 0, [2, 5, 12, 19, 22, 25, 28, 30, 31, 33, 0, 0, 0, 0, 0]), (8, 0, [3, 4, 0, 0, 0, 0, 0]), (11, 200, []), (11, 4, []), (3, 0, [6, 8, 10, 0, 0, 0, 0, 0]), (6, 0, [0, 7, 0]), (11, 12, []), (6, 0, [0, 9, 0]), (11, 16, []), (6, 0, [0, 11, 0]), (11, 12, []), (3, 0, [13, 15, 17, 0, 0, 0, 0, 0]), (6, 0, [0, 14, 0]), (11, 12, []), (6, 0, [0, 16, 0]), (11, 16, []), (6, 0, [0, 18, 0]), (11, 12, []), (4, 0, [20, 21, 0, 0]), (11, 4, []), (11, 4, []), (4, 0, [23, 24, 0, 0]), (11, 4, []), (11, 4, []), (5, 0, [26, 0, 0]), (7, 0, [0, 27]), (11, 100, []), (7, 0, [0, 29]), (11, 20, []), (12, 2, []), (6, 0, [0, 32, 0]), (11, 16, []), (6, 0, [0, 34, 0]), (11, 16, []), (1, 0, [0, 36, 37, 38, 39, 0, 0]), (11, 12, []), (11, 4, []), (11, 48, []), (11, 48, [])]
def SA76 : Sh := [(9, 0, [2, 5, 12, 19, 22, 25, 28, 30, 31, 33, 0, 0, 0, 0, 0]), (8, 0, [3, 4, 0, 0, 0, 0, 0]), (11, 200, []), (11, 4, []), (3, 0, [6, 8, 10, 0, 0, 0, 0, 0]), (6, 0, [0, 7, 0]), (11, 12, []), (6, 0, [0, 9, 0]), (11, 16, []), (6, 0, [0, 11, 0]), (11, 12, []), (3, 0, [13, 15, 17, 0, 0, 0, 0, 0]), (6, 0, [0, 14, 0]), (11, 12, []), (6, 0, [0, 16, 0]), (11, 16, []), (6, 0, [0, 18, 0]), (11, 12, []), (4, 0, [20, 21, 0, 0]), (11, 4, []), (11, 4, []), (4, 0, [23, 24, 0, 0]), (11, 4, []), (11, 4, []), (5, 0, [26, 0, 0]), (7, 0, [0, 27]), (11, 100, []), (7, 0, [0, 29]), (11, 20, []), (12, 2, []), (6, 0, [0, 32, 0]), (11, 16, []), (6, 0, [0, 34, 0]), (11, 16, []), (1, 0, [0, 36, 37, 38, 39, 0, 0]), (11, 12, []), (11, 4, []), (11, 48, []), (11, 48, []), (11, 144, [])]
def SA77 : Sh := [(9, 0, [2, 5, 12, 19, 22, 25, 28, 30, 31, 33, 0, 0, 0, 0, 0]), (8, 0, [3, 4, 0, 0, 0, 0, 0]), (11, 200, []), (11, 4, []), (3, 0, [6, 8, 10, 0, 0, 0, 0, 0]), (6, 0, [0, 7, 0]), (11, 12, []), (6, 0, [0, 9, 0]), (11, 16, []), (6, 0, [0, 11, 0]), (11, 12, []), (3, 0, [13, 15, 17, 0, 0, 0, 0, 0]), (6, 0, [0, 14, 0]), (11, 12, []), (6, 0, [0, 16, 0]), (11, 16, []), (6, 0, [0, 18, 0]), (11, 12, []), (4, 0, [20, 21, 0, 0]), (11, 4, []), (11, 4, []), (4, 0, [23, 24, 0, 0]), (11, 4, []), (11, 4, []), (5, 0, [26, 0, 0]), (7, 0, [0, 27]), (11, 100, []), (7, 0, [0, 29]), (11, 20, []), (12, 2, []), (6, 0, [0, 32, 0]), (11, 16, []), (6, 0, [0, 34, 0]), (11, 16, []), (1, 0, [0, 36, 37, 38, 39, 40, 0]), (11, 12, []), (11, 4, []), (11, 48, []), (11, 48, []), (11, 144, [])]
def SA78 : Sh := [(9, 0, [2, 5, 12, 19, 22, 25, 28, 30, 31, 33, 0, 0, 0, 0, 0]), (8, 0, [3, 4, 0, 0, 0, 0, 0]), (11, 200, []), (11, 4, []), (3, 0, [6, 8, 10, 0, 0, 0, 0, 0]), (6, 0, [0, 7, 0]), (11, 12, []), (6, 0, [0, 9, 0]), (11, 16, []), (6, 0, [0, 11, 0]), (11, 12, []), (3, 0, [13, 15, 17, 0, 0, 0, 0, 0]), (6, 0, [0, 14, 0]), (11, 12, []), (6, 0, [0, 16, 0]), (11, 16, []), (6, 0, [0, 18, 0]), (11, 12, []), (4, 0, [20, 21, 0, 0]), (11, 4, []), (11, 4, []), (4, 0, [23, 24, 0, 0]), (11, 4, []), (11, 4, []), (5, 0, [26, 0, 0]), (7, 0, [0, 27]), (11, 100, []), (7, 0, [0, 29]), (11, 20, []), (12, 2, []), (6, 0, [0, 32, 0]), (11, 16, []), (6, 0, [0, 34, 0]), (11, 16, []), (1, 0, [0, 36, 37, 38, 39, 40, 0]), (11, 12, []), (11, 4, []), (11, 48, []), (11, 48, []), (11, 144, []), (12, 12, [])]
def SA79 : Sh := [(9, 0, [2, 5, 12, 19, 22, 25, 28, 30, 31, 33, 0, 0, 0, 0, 0]), (8, 0, [3, 4, 0, 0, 0, 0, 0]), (11, 200, []), (11, 4, []), (3, 0, [6, 8, 10, 0, 0, 0, 0, 0]), (6, 0, [0, 7, 0]), (11, 12, []), (6, 0, [0, 9, 0]), (11, 16, []), (6, 0, [0, 11, 0]), (11, 12, []), (3, 0, [13, 15, 17, 0, 0, 0, 0, 0]), (6, 0, [0, 14, 0]), (11, 12, []), (6, 0, [0, 16, 0]), (11, 16, []), (6, 0, [0, 18, 0]), (11, 12, []), (4, 0, [20, 21, 0, 0]), (11, 4, []), (11, 4, []), (4, 0, [23, 24, 0, 0]), (11, 4, []), (11, 4, []), (5, 0, [26, 0, 0]), (7, 0, [0, 27]), (11, 100, []), (7, 0, [0, 29]), (11, 20, []), (12, 2, []), (6, 0, [0, 32, 0]), (11, 16, []), (6, 0, [0, 34, 0]), (11, 16, []), (1, 0, [0, 36, 37, 38, 39, 40, 41]), (11, 12, []), (11, 4, []), (11, 48, []), (11, 48, []), (11, 144, []), (12, 12, [])]
def SA80 : Sh := [(9, 0, [2, 5, 12, 19, 22, 25, 28, 30, 31, 33, 0, 0, 0, 0, 0]), (8, 0, [3, 4, 0, 0, 0, 0, 0]), (11, 200, []), (11, 4, []), (3, 0, [6, 8, 10, 0, 0, 0, 0, 0]), (6, 0, [0, 7, 0]), (11, 12, []), (6, 0, [0, 9, 0]), (11, 16, []), (6, 0, [0, 11, 0]), (11, 12, []), (3, 0, [13, 15, 17, 0, 0, 0, 0, 0]), (6, 0, [0, 14, 0]), (11, 12, []), (6, 0, [0, 16, 0]), (11, 16, []), (6, 0, [0, 18, 0]), (11, 12, []), (4, 0, [20, 21, 0, 0]), (11, 4, []), (11, 4, []), (4, 0, [23, 24, 0, 0]), (11, 4, []), (11, 4, []), (5, 0, [26, 0, 0]), (7, 0, [0, 27]), (11, 100, []), (7, 0, [0, 29]), (11, 20, []), (12, 2, []), (6, 0, [0, 32, 0]), (11, 16, []), (6, 0, [0, 34, 0]), (11, 16, []), (1, 0, [5, 36, 37, 38, 39, 40, 41]), (11, 12, []), (11, 4, []), (11, 48, []), (11, 48, []), (11, 144, []), (12, 12, [])]
set_option maxRecDepth 20000 in
theorem in_X1_init_34 {m0 : Mem} (hq : m0 4 3 = 3 ∧ m0 4 5 = 6) : Tot mX1_init 6 268 [vR 34, vR 4] SA67 m0 (Pn SA80 (fun m => Fr [34, 35, 36, 37, 38, 39, 40] m0 m ∧ (∀ j : Nat, m 36 j = 0) ∧ ∀ e : Int, 0 ≤ e → e < 48 → m 37 e.toNat = meaV 3 6 e)) := by
  refine Tot.of rfl (Nat.le_of_ble_eq_true rfl) (by simp [isJ]) (ls := [vR 34, vR 4]) rfl ?_
  refine q_aload_n dX1_init_0 rfl ?_
  refine q_objinit dX1_init_1 lm_RX1_3 k_oin ⟨by decide, by decide⟩ (Nat.le_of_ble_eq_true rfl) ?_
  refine q_aload_n dX1_init_4 rfl ?_
  refine q_bipush dX1_init_5 rfl (by decide) ?_
  refine q_newik (k := 35) (a := 12) (sh' := SA68) (mc := 5) (ms := 256) dX1_init_7 k_ai (by decide) (by decide) (by decide) rfl rfl rfl rfl ?_
  refine q_putr (r := 35) (sh := SA68) (sh' := SA69) dX1_init_9 lf_RX1_9 rfl rfl (by decide) (by decide) (Or.inr ⟨rfl, rfl, rfl, lg_RX1_9⟩) rfl ?_
  refine q_aload_n dX1_init_12 rfl ?_
  refine q_iconst dX1_init_13 (by decide) ?_
  refine q_newik (k := 36) (a := 4) (sh' := SA70) (mc := 4) (ms := 252) dX1_init_14 k_ai (by decide) (by decide) (by decide) rfl rfl rfl rfl ?_
  refine q_putr (r := 36) (sh := SA70) (sh' := SA71) dX1_init_16 lf_RX1_15 rfl rfl (by decide) (by decide) (Or.inr ⟨rfl, rfl, rfl, lg_RX1_15⟩) rfl ?_
  refine q_aload_n dX1_init_19 rfl ?_
  refine q_bipush dX1_init_20 rfl (by decide) ?_
  refine q_newik (k := 37) (a := 48) (sh' := SA72) (mc := 3) (ms := 204) dX1_init_22 k_ai (by decide) (by decide) (by decide) rfl rfl rfl rfl ?_
  refine q_putr (r := 37) (sh := SA72) (sh' := SA73) dX1_init_24 lf_RX1_18 rfl rfl (by decide) (by decide) (Or.inr ⟨rfl, rfl, rfl, lg_RX1_18⟩) rfl ?_
  refine q_aload_n dX1_init_27 rfl ?_
  refine q_bipush dX1_init_28 rfl (by decide) ?_
  refine q_newik (k := 38) (a := 48) (sh' := SA74) (mc := 2) (ms := 156) dX1_init_30 k_ai (by decide) (by decide) (by decide) rfl rfl rfl rfl ?_
  refine q_putr (r := 38) (sh := SA74) (sh' := SA75) dX1_init_32 lf_RX1_21 rfl rfl (by decide) (by decide) (Or.inr ⟨rfl, rfl, rfl, lg_RX1_21⟩) rfl ?_
  refine q_aload_n dX1_init_35 rfl ?_
  refine q_sipush dX1_init_36 rfl (by decide) ?_
  refine q_newik (k := 39) (a := 144) (sh' := SA76) (mc := 1) (ms := 12) dX1_init_39 k_ai (by decide) (by decide) (by decide) rfl rfl rfl rfl ?_
  refine q_putr (r := 39) (sh := SA76) (sh' := SA77) dX1_init_41 lf_RX1_24 rfl rfl (by decide) (by decide) (Or.inr ⟨rfl, rfl, rfl, lg_RX1_24⟩) rfl ?_
  refine q_aload_n dX1_init_44 rfl ?_
  refine q_bipush dX1_init_45 rfl (by decide) ?_
  refine q_newzk (k := 40) (a := 12) (sh' := SA78) (mc := 0) (ms := 0) dX1_init_47 k_az (by decide) (by decide) (by decide) rfl rfl rfl rfl ?_
  refine q_putr (r := 40) (sh := SA78) (sh' := SA79) dX1_init_49 lf_RX1_27 rfl rfl (by decide) (by decide) (Or.inr ⟨rfl, rfl, rfl, lg_RX1_27⟩) rfl ?_
  refine q_aload_n dX1_init_52 rfl ?_
  refine q_aload_n dX1_init_53 rfl ?_
  refine q_putr (r := 4) (sh := SA79) (sh' := SA80) dX1_init_54 lf_RX1_31 rfl rfl (by decide) (by decide) (Or.inr ⟨rfl, rfl, rfl, lg_RX1_31⟩) rfl ?_
  refine q_aload_n dX1_init_57 rfl ?_
  refine q_cVn (as := []) dX1_init_58 kmX1_measure kvX1_measure lm_RX1_35 ⟨by decide, by decide⟩ (sh := SA80) rfl ⟨by decide, rfl⟩ rfl rfl (Nat.le_of_ble_eq_true rfl) (c_X1_measure (sh := SA80) rfl rfl rfl (by rw [(((((((Fr.rf.new (by decide)).new (by decide)).new (by decide)).new (by decide)).new (by decide)).new (by decide)) : Fr [34, 35, 36, 37, 38, 39, 40] m0 (mnew (mnew (mnew (mnew (mnew (mnew m0 35) 36) 37) 38) 39) 40)).at 4, hq.1]; decide) (by rw [(((((((Fr.rf.new (by decide)).new (by decide)).new (by decide)).new (by decide)).new (by decide)).new (by decide)) : Fr [34, 35, 36, 37, 38, 39, 40] m0 (mnew (mnew (mnew (mnew (mnew (mnew m0 35) 36) 37) 38) 39) 40)).at 4, hq.1]; decide) (by rw [(((((((Fr.rf.new (by decide)).new (by decide)).new (by decide)).new (by decide)).new (by decide)).new (by decide)) : Fr [34, 35, 36, 37, 38, 39, 40] m0 (mnew (mnew (mnew (mnew (mnew (mnew m0 35) 36) 37) 38) 39) 40)).at 4, hq.2]; decide)) (fun m1 h1 => ?_)
  have F1 : Fr [35, 36, 37, 38, 39, 40] m0 m1 := (((((((Fr.rf.new (by decide)).new (by decide)).new (by decide)).new (by decide)).new (by decide)).new (by decide)).tr (h1.1.mono (by decide)))
  refine q_vret dX1_init_61 rfl ⟨rfl, rfl, ?_⟩
  refine ⟨F1.mono (by decide), fun j => ?_, fun e e0 e1 => ?_⟩
  · rw [h1.1.at 36, mnew_ne 36 (by decide), mnew_ne 36 (by decide), mnew_ne 36 (by decide), mnew_ne 36 (by decide)]; exact mnew_z
  · rw [h1.2 e e0 e1]
    rw [(((((((Fr.rf.new (by decide)).new (by decide)).new (by decide)).new (by decide)).new (by decide)).new (by decide)) : Fr [34, 35, 36, 37, 38, 39, 40] m0 (mnew (mnew (mnew (mnew (mnew (mnew m0 35) 36) 37) 38) 39) 40)).at 4, hq.1, hq.2]
def SA81 : Sh := [(9, 0, [2, 5, 12, 19, 22, 25, 28, 30, 31, 33, 35, 0, 0, 0, 0]), (8, 0, [3, 4, 0, 0, 0, 0, 0]), (11, 200, []), (11, 4, []), (3, 0, [6, 8, 10, 0, 0, 0, 0, 0]), (6, 0, [0, 7, 0]), (11, 12, []), (6, 0, [0, 9, 0]), (11, 16, []), (6, 0, [0, 11, 0]), (11, 12, []), (3, 0, [13, 15, 17, 0, 0, 0, 0, 0]), (6, 0, [0, 14, 0]), (11, 12, []), (6, 0, [0, 16, 0]), (11, 16, []), (6, 0, [0, 18, 0]), (11, 12, []), (4, 0, [20, 21, 0, 0]), (11, 4, []), (11, 4, []), (4, 0, [23, 24, 0, 0]), (11, 4, []), (11, 4, []), (5, 0, [26, 0, 0]), (7, 0, [0, 27]), (11, 100, []), (7, 0, [0, 29]), (11, 20, []), (12, 2, []), (6, 0, [0, 32, 0]), (11, 16, []), (6, 0, [0, 34, 0]), (11, 16, []), (1, 0, [5, 36, 37, 38, 39, 40, 41]), (11, 12, []), (11, 4, []), (11, 48, []), (11, 48, []), (11, 144, []), (12, 12, [])]
def SA82 : Sh := [(9, 0, [2, 5, 12, 19, 22, 25, 28, 30, 31, 33, 35, 0, 0, 0, 0]), (8, 0, [3, 4, 0, 0, 0, 0, 0]), (11, 200, []), (11, 4, []), (3, 0, [6, 8, 10, 0, 0, 0, 0, 0]), (6, 0, [0, 7, 0]), (11, 12, []), (6, 0, [0, 9, 0]), (11, 16, []), (6, 0, [0, 11, 0]), (11, 12, []), (3, 0, [13, 15, 17, 0, 0, 0, 0, 0]), (6, 0, [0, 14, 0]), (11, 12, []), (6, 0, [0, 16, 0]), (11, 16, []), (6, 0, [0, 18, 0]), (11, 12, []), (4, 0, [20, 21, 0, 0]), (11, 4, []), (11, 4, []), (4, 0, [23, 24, 0, 0]), (11, 4, []), (11, 4, []), (5, 0, [26, 0, 0]), (7, 0, [0, 27]), (11, 100, []), (7, 0, [0, 29]), (11, 20, []), (12, 2, []), (6, 0, [0, 32, 0]), (11, 16, []), (6, 0, [0, 34, 0]), (11, 16, []), (1, 0, [5, 36, 37, 38, 39, 40, 41]), (11, 12, []), (11, 4, []), (11, 48, []), (11, 48, []), (11, 144, []), (12, 12, []), (2, 0, [0, 0])]
def SA83 : Sh := [(9, 0, [2, 5, 12, 19, 22, 25, 28, 30, 31, 33, 35, 0, 0, 0, 0]), (8, 0, [3, 4, 0, 0, 0, 0, 0]), (11, 200, []), (11, 4, []), (3, 0, [6, 8, 10, 0, 0, 0, 0, 0]), (6, 0, [0, 7, 0]), (11, 12, []), (6, 0, [0, 9, 0]), (11, 16, []), (6, 0, [0, 11, 0]), (11, 12, []), (3, 0, [13, 15, 17, 0, 0, 0, 0, 0]), (6, 0, [0, 14, 0]), (11, 12, []), (6, 0, [0, 16, 0]), (11, 16, []), (6, 0, [0, 18, 0]), (11, 12, []), (4, 0, [20, 21, 0, 0]), (11, 4, []), (11, 4, []), (4, 0, [23, 24, 0, 0]), (11, 4, []), (11, 4, []), (5, 0, [26, 0, 0]), (7, 0, [0, 27]), (11, 100, []), (7, 0, [0, 29]), (11, 20, []), (12, 2, []), (6, 0, [0, 32, 0]), (11, 16, []), (6, 0, [0, 34, 0]), (11, 16, []), (1, 0, [5, 36, 37, 38, 39, 40, 41]), (11, 12, []), (11, 4, []), (11, 48, []), (11, 48, []), (11, 144, []), (12, 12, []), (2, 0, [5, 0])]
def SA84 : Sh := [(9, 0, [2, 5, 12, 19, 22, 25, 28, 30, 31, 33, 35, 0, 0, 0, 0]), (8, 0, [3, 4, 0, 0, 0, 0, 0]), (11, 200, []), (11, 4, []), (3, 0, [6, 8, 10, 0, 0, 0, 0, 0]), (6, 0, [0, 7, 0]), (11, 12, []), (6, 0, [0, 9, 0]), (11, 16, []), (6, 0, [0, 11, 0]), (11, 12, []), (3, 0, [13, 15, 17, 0, 0, 0, 0, 0]), (6, 0, [0, 14, 0]), (11, 12, []), (6, 0, [0, 16, 0]), (11, 16, []), (6, 0, [0, 18, 0]), (11, 12, []), (4, 0, [20, 21, 0, 0]), (11, 4, []), (11, 4, []), (4, 0, [23, 24, 0, 0]), (11, 4, []), (11, 4, []), (5, 0, [26, 0, 0]), (7, 0, [0, 27]), (11, 100, []), (7, 0, [0, 29]), (11, 20, []), (12, 2, []), (6, 0, [0, 32, 0]), (11, 16, []), (6, 0, [0, 34, 0]), (11, 16, []), (1, 0, [5, 36, 37, 38, 39, 40, 41]), (11, 12, []), (11, 4, []), (11, 48, []), (11, 48, []), (11, 144, []), (12, 12, []), (2, 0, [5, 35])]
set_option maxRecDepth 20000 in
theorem in_X2_init_41 {m0 : Mem} : Tot mX2_init 0 0 [vR 41, vR 4, vR 34] SA82 m0 (Pn SA84 (fun m => m = m0)) := by
  refine Tot.of rfl (Nat.le_of_ble_eq_true rfl) (by simp [isJ]) (ls := [vR 41, vR 4, vR 34]) rfl ?_
  refine q_aload_n dX2_init_0 rfl ?_
  refine q_objinit dX2_init_1 lm_RX2_3 k_oin ⟨by decide, by decide⟩ (Nat.le_of_ble_eq_true rfl) ?_
  refine q_aload_n dX2_init_4 rfl ?_
  refine q_aload_n dX2_init_5 rfl ?_
  refine q_putr (r := 4) (sh := SA82) (sh' := SA83) dX2_init_6 lf_RX2_9 rfl rfl (by decide) (by decide) (Or.inr ⟨rfl, rfl, rfl, lg_RX2_9⟩) rfl ?_
  refine q_aload_n dX2_init_9 rfl ?_
  refine q_aload_n dX2_init_10 rfl ?_
  refine q_putr (r := 34) (sh := SA83) (sh' := SA84) dX2_init_11 lf_RX2_15 rfl rfl (by decide) (by decide) (Or.inr ⟨rfl, rfl, rfl, lg_RX2_15⟩) rfl ?_
  refine q_vret dX2_init_14 rfl ⟨rfl, rfl, ?_⟩
  rfl
def SA85 : Sh := [(9, 0, [2, 5, 12, 19, 22, 25, 28, 30, 31, 33, 35, 42, 0, 0, 0]), (8, 0, [3, 4, 0, 0, 0, 0, 0]), (11, 200, []), (11, 4, []), (3, 0, [6, 8, 10, 0, 0, 0, 0, 0]), (6, 0, [0, 7, 0]), (11, 12, []), (6, 0, [0, 9, 0]), (11, 16, []), (6, 0, [0, 11, 0]), (11, 12, []), (3, 0, [13, 15, 17, 0, 0, 0, 0, 0]), (6, 0, [0, 14, 0]), (11, 12, []), (6, 0, [0, 16, 0]), (11, 16, []), (6, 0, [0, 18, 0]), (11, 12, []), (4, 0, [20, 21, 0, 0]), (11, 4, []), (11, 4, []), (4, 0, [23, 24, 0, 0]), (11, 4, []), (11, 4, []), (5, 0, [26, 0, 0]), (7, 0, [0, 27]), (11, 100, []), (7, 0, [0, 29]), (11, 20, []), (12, 2, []), (6, 0, [0, 32, 0]), (11, 16, []), (6, 0, [0, 34, 0]), (11, 16, []), (1, 0, [5, 36, 37, 38, 39, 40, 41]), (11, 12, []), (11, 4, []), (11, 48, []), (11, 48, []), (11, 144, []), (12, 12, []), (2, 0, [5, 35])]
def SA86 : Sh := [(9, 0, [2, 5, 12, 19, 22, 25, 28, 30, 31, 33, 35, 42, 0, 0, 0]), (8, 0, [3, 4, 0, 0, 0, 0, 0]), (11, 200, []), (11, 4, []), (3, 0, [6, 8, 10, 0, 0, 0, 0, 0]), (6, 0, [0, 7, 0]), (11, 12, []), (6, 0, [0, 9, 0]), (11, 16, []), (6, 0, [0, 11, 0]), (11, 12, []), (3, 0, [13, 15, 17, 0, 0, 0, 0, 0]), (6, 0, [0, 14, 0]), (11, 12, []), (6, 0, [0, 16, 0]), (11, 16, []), (6, 0, [0, 18, 0]), (11, 12, []), (4, 0, [20, 21, 0, 0]), (11, 4, []), (11, 4, []), (4, 0, [23, 24, 0, 0]), (11, 4, []), (11, 4, []), (5, 0, [26, 0, 0]), (7, 0, [0, 27]), (11, 100, []), (7, 0, [0, 29]), (11, 20, []), (12, 2, []), (6, 0, [0, 32, 0]), (11, 16, []), (6, 0, [0, 34, 0]), (11, 16, []), (1, 0, [5, 36, 37, 38, 39, 40, 41]), (11, 12, []), (11, 4, []), (11, 48, []), (11, 48, []), (11, 144, []), (12, 12, []), (2, 0, [5, 35]), (0, 0, [0, 0, 0, 0])]
def SA87 : Sh := [(9, 0, [2, 5, 12, 19, 22, 25, 28, 30, 31, 33, 35, 42, 0, 0, 0]), (8, 0, [3, 4, 0, 0, 0, 0, 0]), (11, 200, []), (11, 4, []), (3, 0, [6, 8, 10, 0, 0, 0, 0, 0]), (6, 0, [0, 7, 0]), (11, 12, []), (6, 0, [0, 9, 0]), (11, 16, []), (6, 0, [0, 11, 0]), (11, 12, []), (3, 0, [13, 15, 17, 0, 0, 0, 0, 0]), (6, 0, [0, 14, 0]), (11, 12, []), (6, 0, [0, 16, 0]), (11, 16, []), (6, 0, [0, 18, 0]), (11, 12, []), (4, 0, [20, 21, 0, 0]), (11, 4, []), (11, 4, []), (4, 0, [23, 24, 0, 0]), (11, 4, []), (11, 4, []), (5, 0, [26, 0, 0]), (7, 0, [0, 27]), (11, 100, []), (7, 0, [0, 29]), (11, 20, []), (12, 2, []), (6, 0, [0, 32, 0]), (11, 16, []), (6, 0, [0, 34, 0]), (11, 16, []), (1, 0, [5, 36, 37, 38, 39, 40, 41]), (11, 12, []), (11, 4, []), (11, 48, []), (11, 48, []), (11, 144, []), (12, 12, []), (2, 0, [5, 35]), (0, 0, [5, 0, 0, 0])]
def SA88 : Sh := [(9, 0, [2, 5, 12, 19, 22, 25, 28, 30, 31, 33, 35, 42, 0, 0, 0]), (8, 0, [3, 4, 0, 0, 0, 0, 0]), (11, 200, []), (11, 4, []), (3, 0, [6, 8, 10, 0, 0, 0, 0, 0]), (6, 0, [0, 7, 0]), (11, 12, []), (6, 0, [0, 9, 0]), (11, 16, []), (6, 0, [0, 11, 0]), (11, 12, []), (3, 0, [13, 15, 17, 0, 0, 0, 0, 0]), (6, 0, [0, 14, 0]), (11, 12, []), (6, 0, [0, 16, 0]), (11, 16, []), (6, 0, [0, 18, 0]), (11, 12, []), (4, 0, [20, 21, 0, 0]), (11, 4, []), (11, 4, []), (4, 0, [23, 24, 0, 0]), (11, 4, []), (11, 4, []), (5, 0, [26, 0, 0]), (7, 0, [0, 27]), (11, 100, []), (7, 0, [0, 29]), (11, 20, []), (12, 2, []), (6, 0, [0, 32, 0]), (11, 16, []), (6, 0, [0, 34, 0]), (11, 16, []), (1, 0, [5, 36, 37, 38, 39, 40, 41]), (11, 12, []), (11, 4, []), (11, 48, []), (11, 48, []), (11, 144, []), (12, 12, []), (2, 0, [5, 35]), (0, 0, [5, 35, 0, 0])]
def SA89 : Sh := [(9, 0, [2, 5, 12, 19, 22, 25, 28, 30, 31, 33, 35, 42, 0, 0, 0]), (8, 0, [3, 4, 0, 0, 0, 0, 0]), (11, 200, []), (11, 4, []), (3, 0, [6, 8, 10, 0, 0, 0, 0, 0]), (6, 0, [0, 7, 0]), (11, 12, []), (6, 0, [0, 9, 0]), (11, 16, []), (6, 0, [0, 11, 0]), (11, 12, []), (3, 0, [13, 15, 17, 0, 0, 0, 0, 0]), (6, 0, [0, 14, 0]), (11, 12, []), (6, 0, [0, 16, 0]), (11, 16, []), (6, 0, [0, 18, 0]), (11, 12, []), (4, 0, [20, 21, 0, 0]), (11, 4, []), (11, 4, []), (4, 0, [23, 24, 0, 0]), (11, 4, []), (11, 4, []), (5, 0, [26, 0, 0]), (7, 0, [0, 27]), (11, 100, []), (7, 0, [0, 29]), (11, 20, []), (12, 2, []), (6, 0, [0, 32, 0]), (11, 16, []), (6, 0, [0, 34, 0]), (11, 16, []), (1, 0, [5, 36, 37, 38, 39, 40, 41]), (11, 12, []), (11, 4, []), (11, 48, []), (11, 48, []), (11, 144, []), (12, 12, []), (2, 0, [5, 35]), (0, 0, [5, 35, 42, 0])]
set_option maxRecDepth 20000 in
theorem in_X0_init_42 {m0 : Mem} : Tot mX0_init 0 0 [vR 42, vR 4, vR 34, vR 41] SA86 m0 (Pn SA89 (fun m => m = mset m0 42 3 28561000)) := by
  refine Tot.of rfl (Nat.le_of_ble_eq_true rfl) (by simp [isJ]) (ls := [vR 42, vR 4, vR 34, vR 41]) rfl ?_
  refine q_aload_n dX0_init_0 rfl ?_
  refine q_objinit dX0_init_1 lm_RX0_5 k_oin ⟨by decide, by decide⟩ (Nat.le_of_ble_eq_true rfl) ?_
  refine q_aload_n dX0_init_4 rfl ?_
  refine q_ldc (n := 28561000) dX0_init_5 lk_RX0_11 (by decide) ?_
  refine q_puti dX0_init_7 lf_RX0_12 (sh := SA86) rfl rfl (Or.inl rfl) fit_int ?_
  refine q_aload_n dX0_init_10 rfl ?_
  refine q_aload_n dX0_init_11 rfl ?_
  refine q_putr (r := 4) (sh := SA86) (sh' := SA87) dX0_init_12 lf_RX0_16 rfl rfl (by decide) (by decide) (Or.inr ⟨rfl, rfl, rfl, lg_RX0_16⟩) rfl ?_
  refine q_aload_n dX0_init_15 rfl ?_
  refine q_aload_n dX0_init_16 rfl ?_
  refine q_putr (r := 34) (sh := SA87) (sh' := SA88) dX0_init_17 lf_RX0_20 rfl rfl (by decide) (by decide) (Or.inr ⟨rfl, rfl, rfl, lg_RX0_20⟩) rfl ?_
  refine q_aload_n dX0_init_20 rfl ?_
  refine q_aload_n dX0_init_21 rfl ?_
  refine q_putr (r := 41) (sh := SA88) (sh' := SA89) dX0_init_22 lf_RX0_24 rfl rfl (by decide) (by decide) (Or.inr ⟨rfl, rfl, rfl, lg_RX0_24⟩) rfl ?_
  refine q_vret dX0_init_25 rfl ⟨rfl, rfl, ?_⟩
  rfl
def SA90 : Sh := [(9, 0, [2, 5, 12, 19, 22, 25, 28, 30, 31, 33, 35, 42, 43, 0, 0]), (8, 0, [3, 4, 0, 0, 0, 0, 0]), (11, 200, []), (11, 4, []), (3, 0, [6, 8, 10, 0, 0, 0, 0, 0]), (6, 0, [0, 7, 0]), (11, 12, []), (6, 0, [0, 9, 0]), (11, 16, []), (6, 0, [0, 11, 0]), (11, 12, []), (3, 0, [13, 15, 17, 0, 0, 0, 0, 0]), (6, 0, [0, 14, 0]), (11, 12, []), (6, 0, [0, 16, 0]), (11, 16, []), (6, 0, [0, 18, 0]), (11, 12, []), (4, 0, [20, 21, 0, 0]), (11, 4, []), (11, 4, []), (4, 0, [23, 24, 0, 0]), (11, 4, []), (11, 4, []), (5, 0, [26, 0, 0]), (7, 0, [0, 27]), (11, 100, []), (7, 0, [0, 29]), (11, 20, []), (12, 2, []), (6, 0, [0, 32, 0]), (11, 16, []), (6, 0, [0, 34, 0]), (11, 16, []), (1, 0, [5, 36, 37, 38, 39, 40, 41]), (11, 12, []), (11, 4, []), (11, 48, []), (11, 48, []), (11, 144, []), (12, 12, []), (2, 0, [5, 35]), (0, 0, [5, 35, 42, 0])]
def SA91 : Sh := [(9, 0, [2, 5, 12, 19, 22, 25, 28, 30, 31, 33, 35, 42, 43, 0, 0]), (8, 0, [3, 4, 0, 0, 0, 0, 0]), (11, 200, []), (11, 4, []), (3, 0, [6, 8, 10, 0, 0, 0, 0, 0]), (6, 0, [0, 7, 0]), (11, 12, []), (6, 0, [0, 9, 0]), (11, 16, []), (6, 0, [0, 11, 0]), (11, 12, []), (3, 0, [13, 15, 17, 0, 0, 0, 0, 0]), (6, 0, [0, 14, 0]), (11, 12, []), (6, 0, [0, 16, 0]), (11, 16, []), (6, 0, [0, 18, 0]), (11, 12, []), (4, 0, [20, 21, 0, 0]), (11, 4, []), (11, 4, []), (4, 0, [23, 24, 0, 0]), (11, 4, []), (11, 4, []), (5, 0, [26, 0, 0]), (7, 0, [0, 27]), (11, 100, []), (7, 0, [0, 29]), (11, 20, []), (12, 2, []), (6, 0, [0, 32, 0]), (11, 16, []), (6, 0, [0, 34, 0]), (11, 16, []), (1, 0, [5, 36, 37, 38, 39, 40, 41]), (11, 12, []), (11, 4, []), (11, 48, []), (11, 48, []), (11, 144, []), (12, 12, []), (2, 0, [5, 35]), (0, 0, [5, 35, 42, 0]), (11, 12, [])]
def SA92 : Sh := [(9, 0, [2, 5, 12, 19, 22, 25, 28, 30, 31, 33, 35, 42, 43, 44, 0]), (8, 0, [3, 4, 0, 0, 0, 0, 0]), (11, 200, []), (11, 4, []), (3, 0, [6, 8, 10, 0, 0, 0, 0, 0]), (6, 0, [0, 7, 0]), (11, 12, []), (6, 0, [0, 9, 0]), (11, 16, []), (6, 0, [0, 11, 0]), (11, 12, []), (3, 0, [13, 15, 17, 0, 0, 0, 0, 0]), (6, 0, [0, 14, 0]), (11, 12, []), (6, 0, [0, 16, 0]), (11, 16, []), (6, 0, [0, 18, 0]), (11, 12, []), (4, 0, [20, 21, 0, 0]), (11, 4, []), (11, 4, []), (4, 0, [23, 24, 0, 0]), (11, 4, []), (11, 4, []), (5, 0, [26, 0, 0]), (7, 0, [0, 27]), (11, 100, []), (7, 0, [0, 29]), (11, 20, []), (12, 2, []), (6, 0, [0, 32, 0]), (11, 16, []), (6, 0, [0, 34, 0]), (11, 16, []), (1, 0, [5, 36, 37, 38, 39, 40, 41]), (11, 12, []), (11, 4, []), (11, 48, []), (11, 48, []), (11, 144, []), (12, 12, []), (2, 0, [5, 35]), (0, 0, [5, 35, 42, 0]), (11, 12, [])]

