/-! THE LAW FROM ITS ENTRY -/
theorem in9_new {m : Mem} (h : in9 m) : in9 (mnew m 44) := by
  unfold in9 at h ⊢
  rw [mnew_ne 0 (by decide), mnew_ne 1 (by decide), mnew_ne 2 (by decide), mnew_ne 4 (by decide), mnew_ne 5 (by decide), mnew_ne 7 (by decide), mnew_ne 9 (by decide), mnew_ne 12 (by decide), mnew_ne 14 (by decide), mnew_ne 16 (by decide), mnew_ne 18 (by decide), mnew_ne 19 (by decide), mnew_ne 20 (by decide), mnew_ne 24 (by decide), mnew_ne 25 (by decide), mnew_ne 27 (by decide), mnew_ne 29 (by decide), mnew_ne 30 (by decide), mnew_ne 32 (by decide), mnew_ne 36 (by decide), mnew_ne 37 (by decide)]
  exact h
set_option maxRecDepth 20000 in
theorem law_wp {L : Nat} {xs : Nat → Int32} (hL : L ≤ 320) {mem : Mem} : WP mL_law (some (L, xs)) 67 1362 lawQ 0 [vR 1000, vJ 0, vJ 0, vJ 0] [] [] mem := by
  refine q_newk (k := 0) (sh' := SA0) (mc := 66) (ms := 1347) dL_law_0 (by decide) lc_RL_7 kn9 (by decide) rfl rfl rfl rfl ?_
  refine q_dup dL_law_3 rfl ?_
  refine q_cIn (as := []) (mc' := 43) (ms' := 809) (mc := 23) (ms := 538) dL_law_4 kmX9_init kiX9_init (Or.inl lm_RL_9) ⟨by decide, by decide⟩ rfl rfl (Nat.le_of_ble_eq_true rfl) (in_X9 (fun j => mnew_z)) rfl rfl (fun m1 h1 => ?_)
  refine q_astore_n dL_law_7 (by decide) rfl ?_
  refine q_newk (k := 44) (sh' := SA93) (mc := 22) (ms := 495) dL_law_8 (by decide) lc_RL_10 kn10 (by decide) rfl rfl rfl rfl ?_
  refine q_dup dL_law_11 rfl ?_
  refine q_cIn (as := []) (mc' := 22) (ms' := 495) (mc := 0) (ms := 0) dL_law_12 kmX10_init kiX10_init (Or.inl lm_RL_12) ⟨by decide, by decide⟩ rfl rfl (Nat.le_of_ble_eq_true rfl) (in_X10 (fun j => mnew_z)) rfl rfl (fun m2 h2 => ?_)
  refine q_astore_n dL_law_15 (by decide) rfl ?_
  refine q_iconst dL_law_16 (by decide) ?_
  refine q_istore_n dL_law_17 (by decide) rfl ?_
  have h := law_loop (xs := xs) hL L 0 m2 (by decide) (by omega) (rel0 (in9_new h1) h2)
  exact h

