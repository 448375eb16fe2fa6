/-! THE LAW: its cases -/
abbrev lawQ : Po := Pr SH (fun v _ => v = 1)
def lawH (L : Nat) (xs : Nat → Int32) (i : Int) (m : Mem) : Prop := WP mL_law (some (L, xs)) 0 0 lawQ 18 [vR 1000, vR 0, vR 44, vI i] [] SH m
theorem lw_next {L : Nat} {xs : Nat → Int32} {i : Int} {m : Mem} (hL : L ≤ 320) (i0 : 0 ≤ i) (iL : i + 5 ≤ L) (h : lawH L xs (i + 5) m) : WP mL_law (some (L, xs)) 0 0 lawQ 1003 [vR 1000, vR 0, vR 44, vI i] [] SH m := by
  refine q_iinc dL_law_1003 rfl (by unfold inR; omega) rfl ?_
  exact q_goto (tgt := 18) dL_law_1006 (by decide) h
theorem lw_false {L : Nat} {xs : Nat → Int32} {a b : Int} {P : Prop} (e : a = b) (h : ¬ a = b) : P := absurd e h
theorem lw_type {K : Int} {L : Nat} {xs : Nat → Int32} {i : Int} {m : Mem} (hL : L ≤ 320) (i0 : 0 ≤ i) (iL : i + 5 ≤ L) (hK : K ≤ 1000) (hR : RelX K m m) (hn : ∀ m2 : Mem, RelX (K + 1) m2 m2 → lawH L xs (i + 5) m2) : WP mL_law (some (L, xs)) 0 0 lawQ 176 [vR 1000, vR 0, vR 44, vI i] [] SH m := by
  obtain ⟨hok, hthr⟩ := rel_ok hR
  have hR0 := hR
  obtain ⟨⟨-, c2, c3, c4, c5, c6, c7⟩, -, -, -, -, r6, r7, -, r9, -⟩ := hR0
  refine q_aload_n dL_law_176 rfl ?_
  refine q_aload_n dL_law_177 rfl ?_
  refine q_iload_n dL_law_178 rfl ?_
  refine q_iconst dL_law_179 (by decide) ?_
  refine q_iadd dL_law_180 (by unfold inR; omega) ?_
  refine q_sld dL_law_181 (by omega) (by omega) ?_
  refine q_cVi (as := [vI _]) dL_law_182 kmX9_type kvX9_type lm_RL_13 ⟨by decide, by decide⟩ s0 ⟨by decide, rfl⟩ rfl rfl (Nat.le_of_ble_eq_true rfl) (c_X9_type c4.1.1) (fun v m1 h1 => ?_)
  obtain ⟨hR1, hz⟩ := lw_two z_type f_type hR h1
  obtain ⟨g1, g2, g3, g4, g5, g6, g7, g8, g9⟩ := rel_m hR1
  refine q_aload_n dL_law_185 rfl ?_
  refine q_aload_n dL_law_186 rfl ?_
  refine q_iload_n dL_law_187 rfl ?_
  refine q_iconst dL_law_188 (by decide) ?_
  refine q_iadd dL_law_189 (by unfold inR; omega) ?_
  refine q_sld dL_law_190 (by omega) (by omega) ?_
  refine q_cVi (as := [vI _]) dL_law_191 kmX10_type kvX10_type lm_RL_17 ⟨by decide, by decide⟩ s44 ⟨by decide, rfl⟩ rfl rfl (Nat.le_of_ble_eq_true rfl) (c_X10_type g5.1) (fun w m2 h2 => ?_)
  obtain ⟨e, hR2⟩ := hz w m2 h2
  exact q_icmp_eq (tgt := 1003) dL_law_194 (by decide) (fun _ => lw_next hL i0 iL (hn m2 hR2)) (fun c => absurd e c)
theorem lw_clear {K : Int} {L : Nat} {xs : Nat → Int32} {i : Int} {m : Mem} (hL : L ≤ 320) (i0 : 0 ≤ i) (iL : i + 5 ≤ L) (hK : K ≤ 1000) (hR : RelX K m m) (hn : ∀ m2 : Mem, RelX (K + 1) m2 m2 → lawH L xs (i + 5) m2) : WP mL_law (some (L, xs)) 0 0 lawQ 199 [vR 1000, vR 0, vR 44, vI i] [] SH m := by
  obtain ⟨hok, hthr⟩ := rel_ok hR
  have hR0 := hR
  obtain ⟨⟨-, c2, c3, c4, c5, c6, c7⟩, -, -, -, -, r6, r7, -, r9, -⟩ := hR0
  refine q_aload_n dL_law_199 rfl ?_
  refine q_cVi (as := []) dL_law_200 kmX9_clear kvX9_clear lm_RL_18 ⟨by decide, by decide⟩ s0 ⟨by decide, rfl⟩ rfl rfl (Nat.le_of_ble_eq_true rfl) (c_X9_clear ) (fun v m1 h1 => ?_)
  obtain ⟨hR1, hz⟩ := lw_two z_clear f_clear hR h1
  obtain ⟨g1, g2, g3, g4, g5, g6, g7, g8, g9⟩ := rel_m hR1
  refine q_aload_n dL_law_203 rfl ?_
  refine q_cVi (as := []) dL_law_204 kmX10_clear kvX10_clear lm_RL_22 ⟨by decide, by decide⟩ s44 ⟨by decide, rfl⟩ rfl rfl (Nat.le_of_ble_eq_true rfl) (c_X10_clear ) (fun w m2 h2 => ?_)
  obtain ⟨e, hR2⟩ := hz w m2 h2
  exact q_icmp_eq (tgt := 1003) dL_law_207 (by decide) (fun _ => lw_next hL i0 iL (hn m2 hR2)) (fun c => absurd e c)
theorem lw_house {K : Int} {L : Nat} {xs : Nat → Int32} {i : Int} {m : Mem} (hL : L ≤ 320) (i0 : 0 ≤ i) (iL : i + 5 ≤ L) (hK : K ≤ 1000) (hR : RelX K m m) (hn : ∀ m2 : Mem, RelX (K + 1) m2 m2 → lawH L xs (i + 5) m2) : WP mL_law (some (L, xs)) 0 0 lawQ 212 [vR 1000, vR 0, vR 44, vI i] [] SH m := by
  obtain ⟨hok, hthr⟩ := rel_ok hR
  have hR0 := hR
  obtain ⟨⟨-, c2, c3, c4, c5, c6, c7⟩, -, -, -, -, r6, r7, -, r9, -⟩ := hR0
  refine q_aload_n dL_law_212 rfl ?_
  refine q_cVi (as := []) dL_law_213 kmX9_house kvX9_house lm_RL_23 ⟨by decide, by decide⟩ s0 ⟨by decide, rfl⟩ rfl rfl (Nat.le_of_ble_eq_true rfl) (c_X9_house c4 c6 c5) (fun v m1 h1 => ?_)
  obtain ⟨hR1, hz⟩ := lw_two z_house f_house hR h1
  obtain ⟨g1, g2, g3, g4, g5, g6, g7, g8, g9⟩ := rel_m hR1
  refine q_aload_n dL_law_216 rfl ?_
  refine q_cVi (as := []) dL_law_217 kmX10_house kvX10_house lm_RL_26 ⟨by decide, by decide⟩ s44 ⟨by decide, rfl⟩ rfl rfl (Nat.le_of_ble_eq_true rfl) (c_X10_house g5) (fun w m2 h2 => ?_)
  obtain ⟨e, hR2⟩ := hz w m2 h2
  exact q_icmp_eq (tgt := 1003) dL_law_220 (by decide) (fun _ => lw_next hL i0 iL (hn m2 hR2)) (fun c => absurd e c)
theorem lw_noise {K : Int} {L : Nat} {xs : Nat → Int32} {i : Int} {m : Mem} (hL : L ≤ 320) (i0 : 0 ≤ i) (iL : i + 5 ≤ L) (hK : K ≤ 1000) (hR : RelX K m m) (hn : ∀ m2 : Mem, RelX (K + 1) m2 m2 → lawH L xs (i + 5) m2) : WP mL_law (some (L, xs)) 0 0 lawQ 225 [vR 1000, vR 0, vR 44, vI i] [] SH m := by
  obtain ⟨hok, hthr⟩ := rel_ok hR
  have hR0 := hR
  obtain ⟨⟨-, c2, c3, c4, c5, c6, c7⟩, -, -, -, -, r6, r7, -, r9, -⟩ := hR0
  refine q_aload_n dL_law_225 rfl ?_
  refine q_aload_n dL_law_226 rfl ?_
  refine q_iload_n dL_law_227 rfl ?_
  refine q_iconst dL_law_228 (by decide) ?_
  refine q_iadd dL_law_229 (by unfold inR; omega) ?_
  refine q_sld dL_law_230 (by omega) (by omega) ?_
  refine q_aload_n dL_law_231 rfl ?_
  refine q_iload_n dL_law_232 rfl ?_
  refine q_iconst dL_law_233 (by decide) ?_
  refine q_iadd dL_law_234 (by unfold inR; omega) ?_
  refine q_sld dL_law_235 (by omega) (by omega) ?_
  refine q_cVi (as := [vI _, vI _]) dL_law_236 kmX9_noise kvX9_noise lm_RL_27 ⟨by decide, by decide⟩ s0 ⟨by decide, rfl⟩ rfl rfl (Nat.le_of_ble_eq_true rfl) (c_X9_noise hok.1) (fun v m1 h1 => ?_)
  obtain ⟨hR1, hz⟩ := lw_two z_noise f_pv hR h1
  obtain ⟨g1, g2, g3, g4, g5, g6, g7, g8, g9⟩ := rel_m hR1
  refine q_aload_n dL_law_239 rfl ?_
  refine q_aload_n dL_law_240 rfl ?_
  refine q_iload_n dL_law_241 rfl ?_
  refine q_iconst dL_law_242 (by decide) ?_
  refine q_iadd dL_law_243 (by unfold inR; omega) ?_
  refine q_sld dL_law_244 (by omega) (by omega) ?_
  refine q_aload_n dL_law_245 rfl ?_
  refine q_iload_n dL_law_246 rfl ?_
  refine q_iconst dL_law_247 (by decide) ?_
  refine q_iadd dL_law_248 (by unfold inR; omega) ?_
  refine q_sld dL_law_249 (by omega) (by omega) ?_
  refine q_cVi (as := [vI _, vI _]) dL_law_250 kmX10_noise kvX10_noise lm_RL_31 ⟨by decide, by decide⟩ s44 ⟨by decide, rfl⟩ rfl rfl (Nat.le_of_ble_eq_true rfl) (c_X10_noise g1) (fun w m2 h2 => ?_)
  obtain ⟨e, hR2⟩ := hz w m2 h2
  exact q_icmp_eq (tgt := 1003) dL_law_253 (by decide) (fun _ => lw_next hL i0 iL (hn m2 hR2)) (fun c => absurd e c)
theorem lw_sheet {K : Int} {L : Nat} {xs : Nat → Int32} {i : Int} {m : Mem} (hL : L ≤ 320) (i0 : 0 ≤ i) (iL : i + 5 ≤ L) (hK : K ≤ 1000) (hR : RelX K m m) (hn : ∀ m2 : Mem, RelX (K + 1) m2 m2 → lawH L xs (i + 5) m2) : WP mL_law (some (L, xs)) 0 0 lawQ 258 [vR 1000, vR 0, vR 44, vI i] [] SH m := by
  obtain ⟨hok, hthr⟩ := rel_ok hR
  have hR0 := hR
  obtain ⟨⟨-, c2, c3, c4, c5, c6, c7⟩, -, -, -, -, r6, r7, -, r9, -⟩ := hR0
  refine q_aload_n dL_law_258 rfl ?_
  refine q_aload_n dL_law_259 rfl ?_
  refine q_iload_n dL_law_260 rfl ?_
  refine q_iconst dL_law_261 (by decide) ?_
  refine q_iadd dL_law_262 (by unfold inR; omega) ?_
  refine q_sld dL_law_263 (by omega) (by omega) ?_
  refine q_aload_n dL_law_264 rfl ?_
  refine q_iload_n dL_law_265 rfl ?_
  refine q_iconst dL_law_266 (by decide) ?_
  refine q_iadd dL_law_267 (by unfold inR; omega) ?_
  refine q_sld dL_law_268 (by omega) (by omega) ?_
  refine q_cVi (as := [vI _, vI _]) dL_law_269 kmX9_sheet kvX9_sheet lm_RL_32 ⟨by decide, by decide⟩ s0 ⟨by decide, rfl⟩ rfl rfl (Nat.le_of_ble_eq_true rfl) (c_X9_sheet hok) (fun v m1 h1 => ?_)
  obtain ⟨hR1, hz⟩ := lw_two z_sheet f_pv hR h1
  obtain ⟨g1, g2, g3, g4, g5, g6, g7, g8, g9⟩ := rel_m hR1
  refine q_aload_n dL_law_272 rfl ?_
  refine q_aload_n dL_law_273 rfl ?_
  refine q_iload_n dL_law_274 rfl ?_
  refine q_iconst dL_law_275 (by decide) ?_
  refine q_iadd dL_law_276 (by unfold inR; omega) ?_
  refine q_sld dL_law_277 (by omega) (by omega) ?_
  refine q_aload_n dL_law_278 rfl ?_
  refine q_iload_n dL_law_279 rfl ?_
  refine q_iconst dL_law_280 (by decide) ?_
  refine q_iadd dL_law_281 (by unfold inR; omega) ?_
  refine q_sld dL_law_282 (by omega) (by omega) ?_
  refine q_cVi (as := [vI _, vI _]) dL_law_283 kmX10_sheet kvX10_sheet lm_RL_35 ⟨by decide, by decide⟩ s44 ⟨by decide, rfl⟩ rfl rfl (Nat.le_of_ble_eq_true rfl) (c_X10_sheet g1 g2) (fun w m2 h2 => ?_)
  obtain ⟨e, hR2⟩ := hz w m2 h2
  exact q_icmp_eq (tgt := 1003) dL_law_286 (by decide) (fun _ => lw_next hL i0 iL (hn m2 hR2)) (fun c => absurd e c)
theorem lw_room {K : Int} {L : Nat} {xs : Nat → Int32} {i : Int} {m : Mem} (hL : L ≤ 320) (i0 : 0 ≤ i) (iL : i + 5 ≤ L) (hK : K ≤ 1000) (hR : RelX K m m) (hn : ∀ m2 : Mem, RelX (K + 1) m2 m2 → lawH L xs (i + 5) m2) : WP mL_law (some (L, xs)) 0 0 lawQ 291 [vR 1000, vR 0, vR 44, vI i] [] SH m := by
  obtain ⟨hok, hthr⟩ := rel_ok hR
  have hR0 := hR
  obtain ⟨⟨-, c2, c3, c4, c5, c6, c7⟩, -, -, -, -, r6, r7, -, r9, -⟩ := hR0
  refine q_aload_n dL_law_291 rfl ?_
  refine q_aload_n dL_law_292 rfl ?_
  refine q_iload_n dL_law_293 rfl ?_
  refine q_iconst dL_law_294 (by decide) ?_
  refine q_iadd dL_law_295 (by unfold inR; omega) ?_
  refine q_sld dL_law_296 (by omega) (by omega) ?_
  refine q_aload_n dL_law_297 rfl ?_
  refine q_iload_n dL_law_298 rfl ?_
  refine q_iconst dL_law_299 (by decide) ?_
  refine q_iadd dL_law_300 (by unfold inR; omega) ?_
  refine q_sld dL_law_301 (by omega) (by omega) ?_
  refine q_cVi (as := [vI _, vI _]) dL_law_302 kmX9_room kvX9_room lm_RL_36 ⟨by decide, by decide⟩ s0 ⟨by decide, rfl⟩ rfl rfl (Nat.le_of_ble_eq_true rfl) (c_X9_room hok.1) (fun v m1 h1 => ?_)
  obtain ⟨hR1, hz⟩ := lw_two z_room f_pv hR h1
  obtain ⟨g1, g2, g3, g4, g5, g6, g7, g8, g9⟩ := rel_m hR1
  refine q_aload_n dL_law_305 rfl ?_
  refine q_aload_n dL_law_306 rfl ?_
  refine q_iload_n dL_law_307 rfl ?_
  refine q_iconst dL_law_308 (by decide) ?_
  refine q_iadd dL_law_309 (by unfold inR; omega) ?_
  refine q_sld dL_law_310 (by omega) (by omega) ?_
  refine q_aload_n dL_law_311 rfl ?_
  refine q_iload_n dL_law_312 rfl ?_
  refine q_iconst dL_law_313 (by decide) ?_
  refine q_iadd dL_law_314 (by unfold inR; omega) ?_
  refine q_sld dL_law_315 (by omega) (by omega) ?_
  refine q_cVi (as := [vI _, vI _]) dL_law_316 kmX10_room kvX10_room lm_RL_39 ⟨by decide, by decide⟩ s44 ⟨by decide, rfl⟩ rfl rfl (Nat.le_of_ble_eq_true rfl) (c_X10_room g1) (fun w m2 h2 => ?_)
  obtain ⟨e, hR2⟩ := hz w m2 h2
  exact q_icmp_eq (tgt := 1003) dL_law_319 (by decide) (fun _ => lw_next hL i0 iL (hn m2 hR2)) (fun c => absurd e c)
theorem lw_onCell {K : Int} {L : Nat} {xs : Nat → Int32} {i : Int} {m : Mem} (hL : L ≤ 320) (i0 : 0 ≤ i) (iL : i + 5 ≤ L) (hK : K ≤ 1000) (hR : RelX K m m) (hn : ∀ m2 : Mem, RelX (K + 1) m2 m2 → lawH L xs (i + 5) m2) : WP mL_law (some (L, xs)) 0 0 lawQ 324 [vR 1000, vR 0, vR 44, vI i] [] SH m := by
  obtain ⟨hok, hthr⟩ := rel_ok hR
  have hR0 := hR
  obtain ⟨⟨-, c2, c3, c4, c5, c6, c7⟩, -, -, -, -, r6, r7, -, r9, -⟩ := hR0
  refine q_aload_n dL_law_324 rfl ?_
  refine q_aload_n dL_law_325 rfl ?_
  refine q_iload_n dL_law_326 rfl ?_
  refine q_iconst dL_law_327 (by decide) ?_
  refine q_iadd dL_law_328 (by unfold inR; omega) ?_
  refine q_sld dL_law_329 (by omega) (by omega) ?_
  refine q_cVi (as := [vI _]) dL_law_330 kmX9_onCell kvX9_onCell lm_RL_40 ⟨by decide, by decide⟩ s0 ⟨by decide, rfl⟩ rfl rfl (Nat.le_of_ble_eq_true rfl) (c_X9_onCell hok) (fun v m1 h1 => ?_)
  obtain ⟨hR1, hz⟩ := lw_two z_onCell f_onCell hR h1
  obtain ⟨g1, g2, g3, g4, g5, g6, g7, g8, g9⟩ := rel_m hR1
  refine q_aload_n dL_law_333 rfl ?_
  refine q_aload_n dL_law_334 rfl ?_
  refine q_iload_n dL_law_335 rfl ?_
  refine q_iconst dL_law_336 (by decide) ?_
  refine q_iadd dL_law_337 (by unfold inR; omega) ?_
  refine q_sld dL_law_338 (by omega) (by omega) ?_
  refine q_cVi (as := [vI _]) dL_law_339 kmX10_onCell kvX10_onCell lm_RL_43 ⟨by decide, by decide⟩ s44 ⟨by decide, rfl⟩ rfl rfl (Nat.le_of_ble_eq_true rfl) (c_X10_onCell g1 g2) (fun w m2 h2 => ?_)
  obtain ⟨e, hR2⟩ := hz w m2 h2
  exact q_icmp_eq (tgt := 1003) dL_law_342 (by decide) (fun _ => lw_next hL i0 iL (hn m2 hR2)) (fun c => absurd e c)
theorem lw_loud {K : Int} {L : Nat} {xs : Nat → Int32} {i : Int} {m : Mem} (hL : L ≤ 320) (i0 : 0 ≤ i) (iL : i + 5 ≤ L) (hK : K ≤ 1000) (hR : RelX K m m) (hn : ∀ m2 : Mem, RelX (K + 1) m2 m2 → lawH L xs (i + 5) m2) : WP mL_law (some (L, xs)) 0 0 lawQ 347 [vR 1000, vR 0, vR 44, vI i] [] SH m := by
  obtain ⟨hok, hthr⟩ := rel_ok hR
  have hR0 := hR
  obtain ⟨⟨-, c2, c3, c4, c5, c6, c7⟩, -, -, -, -, r6, r7, -, r9, -⟩ := hR0
  refine q_aload_n dL_law_347 rfl ?_
  refine q_aload_n dL_law_348 rfl ?_
  refine q_iload_n dL_law_349 rfl ?_
  refine q_iconst dL_law_350 (by decide) ?_
  refine q_iadd dL_law_351 (by unfold inR; omega) ?_
  refine q_sld dL_law_352 (by omega) (by omega) ?_
  refine q_aload_n dL_law_353 rfl ?_
  refine q_iload_n dL_law_354 rfl ?_
  refine q_iconst dL_law_355 (by decide) ?_
  refine q_iadd dL_law_356 (by unfold inR; omega) ?_
  refine q_sld dL_law_357 (by omega) (by omega) ?_
  refine q_cVi (as := [vI _, vI _]) dL_law_358 kmX9_loud kvX9_loud lm_RL_44 ⟨by decide, by decide⟩ s0 ⟨by decide, rfl⟩ rfl rfl (Nat.le_of_ble_eq_true rfl) (c_X9_loud hok) (fun v m1 h1 => ?_)
  obtain ⟨hR1, hz⟩ := lw_two z_loud f_loud hR h1
  obtain ⟨g1, g2, g3, g4, g5, g6, g7, g8, g9⟩ := rel_m hR1
  refine q_aload_n dL_law_361 rfl ?_
  refine q_aload_n dL_law_362 rfl ?_
  refine q_iload_n dL_law_363 rfl ?_
  refine q_iconst dL_law_364 (by decide) ?_
  refine q_iadd dL_law_365 (by unfold inR; omega) ?_
  refine q_sld dL_law_366 (by omega) (by omega) ?_
  refine q_aload_n dL_law_367 rfl ?_
  refine q_iload_n dL_law_368 rfl ?_
  refine q_iconst dL_law_369 (by decide) ?_
  refine q_iadd dL_law_370 (by unfold inR; omega) ?_
  refine q_sld dL_law_371 (by omega) (by omega) ?_
  refine q_cVi (as := [vI _, vI _]) dL_law_372 kmX10_loud kvX10_loud lm_RL_47 ⟨by decide, by decide⟩ s44 ⟨by decide, rfl⟩ rfl rfl (Nat.le_of_ble_eq_true rfl) (c_X10_loud g1 g2) (fun w m2 h2 => ?_)
  obtain ⟨e, hR2⟩ := hz w m2 h2
  exact q_icmp_eq (tgt := 1003) dL_law_375 (by decide) (fun _ => lw_next hL i0 iL (hn m2 hR2)) (fun c => absurd e c)
theorem lw_now {K : Int} {L : Nat} {xs : Nat → Int32} {i : Int} {m : Mem} (hL : L ≤ 320) (i0 : 0 ≤ i) (iL : i + 5 ≤ L) (hK : K ≤ 1000) (hR : RelX K m m) (hn : ∀ m2 : Mem, RelX (K + 1) m2 m2 → lawH L xs (i + 5) m2) : WP mL_law (some (L, xs)) 0 0 lawQ 380 [vR 1000, vR 0, vR 44, vI i] [] SH m := by
  obtain ⟨hok, hthr⟩ := rel_ok hR
  have hR0 := hR
  obtain ⟨⟨-, c2, c3, c4, c5, c6, c7⟩, -, -, -, -, r6, r7, -, r9, -⟩ := hR0
  refine q_aload_n dL_law_380 rfl ?_
  refine q_aload_n dL_law_381 rfl ?_
  refine q_iload_n dL_law_382 rfl ?_
  refine q_iconst dL_law_383 (by decide) ?_
  refine q_iadd dL_law_384 (by unfold inR; omega) ?_
  refine q_sld dL_law_385 (by omega) (by omega) ?_
  refine q_cVi (as := [vI _]) dL_law_386 kmX9_now kvX9_now lm_RL_48 ⟨by decide, by decide⟩ s0 ⟨by decide, rfl⟩ rfl rfl (Nat.le_of_ble_eq_true rfl) (c_X9_now ) (fun v m1 h1 => ?_)
  obtain ⟨hR1, hz⟩ := lw_two z_now f_pv hR h1
  obtain ⟨g1, g2, g3, g4, g5, g6, g7, g8, g9⟩ := rel_m hR1
  refine q_aload_n dL_law_389 rfl ?_
  refine q_aload_n dL_law_390 rfl ?_
  refine q_iload_n dL_law_391 rfl ?_
  refine q_iconst dL_law_392 (by decide) ?_
  refine q_iadd dL_law_393 (by unfold inR; omega) ?_
  refine q_sld dL_law_394 (by omega) (by omega) ?_
  refine q_cVi (as := [vI _]) dL_law_395 kmX10_now kvX10_now lm_RL_51 ⟨by decide, by decide⟩ s44 ⟨by decide, rfl⟩ rfl rfl (Nat.le_of_ble_eq_true rfl) (c_X10_now g1) (fun w m2 h2 => ?_)
  obtain ⟨e, hR2⟩ := hz w m2 h2
  exact q_icmp_eq (tgt := 1003) dL_law_398 (by decide) (fun _ => lw_next hL i0 iL (hn m2 hR2)) (fun c => absurd e c)
theorem lw_lay {K : Int} {L : Nat} {xs : Nat → Int32} {i : Int} {m : Mem} (hL : L ≤ 320) (i0 : 0 ≤ i) (iL : i + 5 ≤ L) (hK : K ≤ 1000) (hR : RelX K m m) (hn : ∀ m2 : Mem, RelX (K + 1) m2 m2 → lawH L xs (i + 5) m2) : WP mL_law (some (L, xs)) 0 0 lawQ 403 [vR 1000, vR 0, vR 44, vI i] [] SH m := by
  obtain ⟨hok, hthr⟩ := rel_ok hR
  have hR0 := hR
  obtain ⟨⟨-, c2, c3, c4, c5, c6, c7⟩, -, -, -, -, r6, r7, -, r9, -⟩ := hR0
  refine q_aload_n dL_law_403 rfl ?_
  refine q_aload_n dL_law_404 rfl ?_
  refine q_iload_n dL_law_405 rfl ?_
  refine q_iconst dL_law_406 (by decide) ?_
  refine q_iadd dL_law_407 (by unfold inR; omega) ?_
  refine q_sld dL_law_408 (by omega) (by omega) ?_
  refine q_aload_n dL_law_409 rfl ?_
  refine q_iload_n dL_law_410 rfl ?_
  refine q_iconst dL_law_411 (by decide) ?_
  refine q_iadd dL_law_412 (by unfold inR; omega) ?_
  refine q_sld dL_law_413 (by omega) (by omega) ?_
  refine q_cVi (as := [vI _, vI _]) dL_law_414 kmX9_lay kvX9_lay lm_RL_52 ⟨by decide, by decide⟩ s0 ⟨by decide, rfl⟩ rfl rfl (Nat.le_of_ble_eq_true rfl) (c_X9_lay hok) (fun v m1 h1 => ?_)
  obtain ⟨hR1, hz⟩ := lw_two z_lay f_lay hR h1
  obtain ⟨g1, g2, g3, g4, g5, g6, g7, g8, g9⟩ := rel_m hR1
  refine q_aload_n dL_law_417 rfl ?_
  refine q_aload_n dL_law_418 rfl ?_
  refine q_iload_n dL_law_419 rfl ?_
  refine q_iconst dL_law_420 (by decide) ?_
  refine q_iadd dL_law_421 (by unfold inR; omega) ?_
  refine q_sld dL_law_422 (by omega) (by omega) ?_
  refine q_aload_n dL_law_423 rfl ?_
  refine q_iload_n dL_law_424 rfl ?_
  refine q_iconst dL_law_425 (by decide) ?_
  refine q_iadd dL_law_426 (by unfold inR; omega) ?_
  refine q_sld dL_law_427 (by omega) (by omega) ?_
  refine q_cVi (as := [vI _, vI _]) dL_law_428 kmX10_lay kvX10_lay lm_RL_55 ⟨by decide, by decide⟩ s44 ⟨by decide, rfl⟩ rfl rfl (Nat.le_of_ble_eq_true rfl) (c_X10_lay g1 g2 g6) (fun w m2 h2 => ?_)
  obtain ⟨e, hR2⟩ := hz w m2 h2
  exact q_icmp_eq (tgt := 1003) dL_law_431 (by decide) (fun _ => lw_next hL i0 iL (hn m2 hR2)) (fun c => absurd e c)
theorem lw_lift {K : Int} {L : Nat} {xs : Nat → Int32} {i : Int} {m : Mem} (hL : L ≤ 320) (i0 : 0 ≤ i) (iL : i + 5 ≤ L) (hK : K ≤ 1000) (hR : RelX K m m) (hn : ∀ m2 : Mem, RelX (K + 1) m2 m2 → lawH L xs (i + 5) m2) : WP mL_law (some (L, xs)) 0 0 lawQ 436 [vR 1000, vR 0, vR 44, vI i] [] SH m := by
  obtain ⟨hok, hthr⟩ := rel_ok hR
  have hR0 := hR
  obtain ⟨⟨-, c2, c3, c4, c5, c6, c7⟩, -, -, -, -, r6, r7, -, r9, -⟩ := hR0
  refine q_aload_n dL_law_436 rfl ?_
  refine q_aload_n dL_law_437 rfl ?_
  refine q_iload_n dL_law_438 rfl ?_
  refine q_iconst dL_law_439 (by decide) ?_
  refine q_iadd dL_law_440 (by unfold inR; omega) ?_
  refine q_sld dL_law_441 (by omega) (by omega) ?_
  refine q_cVi (as := [vI _]) dL_law_442 kmX9_lift kvX9_lift lm_RL_56 ⟨by decide, by decide⟩ s0 ⟨by decide, rfl⟩ rfl rfl (Nat.le_of_ble_eq_true rfl) (c_X9_lift hok) (fun v m1 h1 => ?_)
  obtain ⟨hR1, hz⟩ := lw_two z_lift f_lift hR h1
  obtain ⟨g1, g2, g3, g4, g5, g6, g7, g8, g9⟩ := rel_m hR1
  refine q_aload_n dL_law_445 rfl ?_
  refine q_aload_n dL_law_446 rfl ?_
  refine q_iload_n dL_law_447 rfl ?_
  refine q_iconst dL_law_448 (by decide) ?_
  refine q_iadd dL_law_449 (by unfold inR; omega) ?_
  refine q_sld dL_law_450 (by omega) (by omega) ?_
  refine q_cVi (as := [vI _]) dL_law_451 kmX10_lift kvX10_lift lm_RL_59 ⟨by decide, by decide⟩ s44 ⟨by decide, rfl⟩ rfl rfl (Nat.le_of_ble_eq_true rfl) (c_X10_lift g1 g6) (fun w m2 h2 => ?_)
  obtain ⟨e, hR2⟩ := hz w m2 h2
  exact q_icmp_eq (tgt := 1003) dL_law_454 (by decide) (fun _ => lw_next hL i0 iL (hn m2 hR2)) (fun c => absurd e c)
theorem lw_turn {K : Int} {L : Nat} {xs : Nat → Int32} {i : Int} {m : Mem} (hL : L ≤ 320) (i0 : 0 ≤ i) (iL : i + 5 ≤ L) (hK : K ≤ 1000) (hR : RelX K m m) (hn : ∀ m2 : Mem, RelX (K + 1) m2 m2 → lawH L xs (i + 5) m2) : WP mL_law (some (L, xs)) 0 0 lawQ 459 [vR 1000, vR 0, vR 44, vI i] [] SH m := by
  obtain ⟨hok, hthr⟩ := rel_ok hR
  have hR0 := hR
  obtain ⟨⟨-, c2, c3, c4, c5, c6, c7⟩, -, -, -, -, r6, r7, -, r9, -⟩ := hR0
  refine q_aload_n dL_law_459 rfl ?_
  refine q_aload_n dL_law_460 rfl ?_
  refine q_iload_n dL_law_461 rfl ?_
  refine q_iconst dL_law_462 (by decide) ?_
  refine q_iadd dL_law_463 (by unfold inR; omega) ?_
  refine q_sld dL_law_464 (by omega) (by omega) ?_
  refine q_cVi (as := [vI _]) dL_law_465 kmX9_turn kvX9_turn lm_RL_60 ⟨by decide, by decide⟩ s0 ⟨by decide, rfl⟩ rfl rfl (Nat.le_of_ble_eq_true rfl) (c_X9_turn hok) (fun v m1 h1 => ?_)
  obtain ⟨hR1, hz⟩ := lw_two z_turn f_turn hR h1
  obtain ⟨g1, g2, g3, g4, g5, g6, g7, g8, g9⟩ := rel_m hR1
  refine q_aload_n dL_law_468 rfl ?_
  refine q_aload_n dL_law_469 rfl ?_
  refine q_iload_n dL_law_470 rfl ?_
  refine q_iconst dL_law_471 (by decide) ?_
  refine q_iadd dL_law_472 (by unfold inR; omega) ?_
  refine q_sld dL_law_473 (by omega) (by omega) ?_
  refine q_cVi (as := [vI _]) dL_law_474 kmX10_turn kvX10_turn lm_RL_63 ⟨by decide, by decide⟩ s44 ⟨by decide, rfl⟩ rfl rfl (Nat.le_of_ble_eq_true rfl) (c_X10_turn g1 g2 g6) (fun w m2 h2 => ?_)
  obtain ⟨e, hR2⟩ := hz w m2 h2
  exact q_icmp_eq (tgt := 1003) dL_law_477 (by decide) (fun _ => lw_next hL i0 iL (hn m2 hR2)) (fun c => absurd e c)
theorem lw_hour {K : Int} {L : Nat} {xs : Nat → Int32} {i : Int} {m : Mem} (hL : L ≤ 320) (i0 : 0 ≤ i) (iL : i + 5 ≤ L) (hK : K ≤ 1000) (hR : RelX K m m) (hn : ∀ m2 : Mem, RelX (K + 1) m2 m2 → lawH L xs (i + 5) m2) : WP mL_law (some (L, xs)) 0 0 lawQ 482 [vR 1000, vR 0, vR 44, vI i] [] SH m := by
  obtain ⟨hok, hthr⟩ := rel_ok hR
  have hR0 := hR
  obtain ⟨⟨-, c2, c3, c4, c5, c6, c7⟩, -, -, -, -, r6, r7, -, r9, -⟩ := hR0
  have hw9 : ∀ s : Int, 0 ≤ s → s < 4 → m 20 s.toNat ≤ 99990 := fun s s0 s1 => Int.le_trans (hthr.1 s s0 s1) (by decide)
  refine q_aload_n dL_law_482 rfl ?_
  refine q_cVi (as := []) dL_law_483 kmX9_hour kvX9_hour lm_RL_64 ⟨by decide, by decide⟩ s0 ⟨by decide, rfl⟩ rfl rfl (Nat.le_of_ble_eq_true rfl) (c_X9_hour hok hw9 hthr.2.2.1 hthr.2.1) (fun v m1 h1 => ?_)
  obtain ⟨hR1, hz⟩ := lw_two z_hour f_hour hR h1
  obtain ⟨g1, g2, g3, g4, g5, g6, g7, g8, g9⟩ := rel_m hR1
  have gw9 : ∀ s : Int, 0 ≤ s → s < m1 44 5 → 0 ≤ m1 48 (6 + s).toNat ∧ m1 48 (6 + s).toNat ≤ 99990 := fun s s0 s1 => ⟨(g9 s s0 s1).1, Int.le_trans (g9 s s0 s1).2 (by decide)⟩
  refine q_aload_n dL_law_486 rfl ?_
  refine q_cVi (as := []) dL_law_487 kmX10_hour kvX10_hour lm_RL_67 ⟨by decide, by decide⟩ s44 ⟨by decide, rfl⟩ rfl rfl (Nat.le_of_ble_eq_true rfl) (c_X10_hour g1 g2 g6 g7 g8 gw9) (fun w m2 h2 => ?_)
  obtain ⟨e, hR2⟩ := hz w m2 h2
  exact q_icmp_eq (tgt := 1003) dL_law_490 (by decide) (fun _ => lw_next hL i0 iL (hn m2 hR2)) (fun c => absurd e c)
theorem lw_undo {K : Int} {L : Nat} {xs : Nat → Int32} {i : Int} {m : Mem} (hL : L ≤ 320) (i0 : 0 ≤ i) (iL : i + 5 ≤ L) (hK : K ≤ 1000) (hR : RelX K m m) (hn : ∀ m2 : Mem, RelX (K + 1) m2 m2 → lawH L xs (i + 5) m2) : WP mL_law (some (L, xs)) 0 0 lawQ 495 [vR 1000, vR 0, vR 44, vI i] [] SH m := by
  obtain ⟨hok, hthr⟩ := rel_ok hR
  have hR0 := hR
  obtain ⟨⟨-, c2, c3, c4, c5, c6, c7⟩, -, -, -, -, r6, r7, -, r9, -⟩ := hR0
  refine q_aload_n dL_law_495 rfl ?_
  refine q_cVi (as := []) dL_law_496 kmX9_undo kvX9_undo lm_RL_68 ⟨by decide, by decide⟩ s0 ⟨by decide, rfl⟩ rfl rfl (Nat.le_of_ble_eq_true rfl) (c_X9_undo hok.2.2.2.2) (fun v m1 h1 => ?_)
  obtain ⟨hR1, hz⟩ := lw_two z_undo f_undo hR h1
  obtain ⟨g1, g2, g3, g4, g5, g6, g7, g8, g9⟩ := rel_m hR1
  refine q_aload_n dL_law_499 rfl ?_
  refine q_cVi (as := []) dL_law_500 kmX10_undo kvX10_undo lm_RL_71 ⟨by decide, by decide⟩ s44 ⟨by decide, rfl⟩ rfl rfl (Nat.le_of_ble_eq_true rfl) (c_X10_undo g6) (fun w m2 h2 => ?_)
  obtain ⟨e, hR2⟩ := hz w m2 h2
  exact q_icmp_eq (tgt := 1003) dL_law_503 (by decide) (fun _ => lw_next hL i0 iL (hn m2 hR2)) (fun c => absurd e c)
theorem lw_waked {K : Int} {L : Nat} {xs : Nat → Int32} {i : Int} {m : Mem} (hL : L ≤ 320) (i0 : 0 ≤ i) (iL : i + 5 ≤ L) (hK : K ≤ 1000) (hR : RelX K m m) (hn : ∀ m2 : Mem, RelX (K + 1) m2 m2 → lawH L xs (i + 5) m2) : WP mL_law (some (L, xs)) 0 0 lawQ 508 [vR 1000, vR 0, vR 44, vI i] [] SH m := by
  obtain ⟨hok, hthr⟩ := rel_ok hR
  have hR0 := hR
  obtain ⟨⟨-, c2, c3, c4, c5, c6, c7⟩, -, -, -, -, r6, r7, -, r9, -⟩ := hR0
  refine q_aload_n dL_law_508 rfl ?_
  refine q_aload_n dL_law_509 rfl ?_
  refine q_iload_n dL_law_510 rfl ?_
  refine q_iconst dL_law_511 (by decide) ?_
  refine q_iadd dL_law_512 (by unfold inR; omega) ?_
  refine q_sld dL_law_513 (by omega) (by omega) ?_
  refine q_cVi (as := [vI _]) dL_law_514 kmX9_waked kvX9_waked lm_RL_72 ⟨by decide, by decide⟩ s0 ⟨by decide, rfl⟩ rfl rfl (Nat.le_of_ble_eq_true rfl) (c_X9_waked hok) (fun v m1 h1 => ?_)
  obtain ⟨hR1, hz⟩ := lw_two z_waked f_waked hR h1
  obtain ⟨g1, g2, g3, g4, g5, g6, g7, g8, g9⟩ := rel_m hR1
  refine q_aload_n dL_law_517 rfl ?_
  refine q_aload_n dL_law_518 rfl ?_
  refine q_iload_n dL_law_519 rfl ?_
  refine q_iconst dL_law_520 (by decide) ?_
  refine q_iadd dL_law_521 (by unfold inR; omega) ?_
  refine q_sld dL_law_522 (by omega) (by omega) ?_
  refine q_cVi (as := [vI _]) dL_law_523 kmX10_waked kvX10_waked lm_RL_75 ⟨by decide, by decide⟩ s44 ⟨by decide, rfl⟩ rfl rfl (Nat.le_of_ble_eq_true rfl) (c_X10_waked g1 g2) (fun w m2 h2 => ?_)
  obtain ⟨e, hR2⟩ := hz w m2 h2
  exact q_icmp_eq (tgt := 1003) dL_law_526 (by decide) (fun _ => lw_next hL i0 iL (hn m2 hR2)) (fun c => absurd e c)
theorem lw_through {K : Int} {L : Nat} {xs : Nat → Int32} {i : Int} {m : Mem} (hL : L ≤ 320) (i0 : 0 ≤ i) (iL : i + 5 ≤ L) (hK : K ≤ 1000) (hR : RelX K m m) (hn : ∀ m2 : Mem, RelX (K + 1) m2 m2 → lawH L xs (i + 5) m2) : WP mL_law (some (L, xs)) 0 0 lawQ 531 [vR 1000, vR 0, vR 44, vI i] [] SH m := by
  obtain ⟨hok, hthr⟩ := rel_ok hR
  have hR0 := hR
  obtain ⟨⟨-, c2, c3, c4, c5, c6, c7⟩, -, -, -, -, r6, r7, -, r9, -⟩ := hR0
  refine q_aload_n dL_law_531 rfl ?_
  refine q_aload_n dL_law_532 rfl ?_
  refine q_iload_n dL_law_533 rfl ?_
  refine q_iconst dL_law_534 (by decide) ?_
  refine q_iadd dL_law_535 (by unfold inR; omega) ?_
  refine q_sld dL_law_536 (by omega) (by omega) ?_
  refine q_cVi (as := [vI _]) dL_law_537 kmX9_through kvX9_through lm_RL_76 ⟨by decide, by decide⟩ s0 ⟨by decide, rfl⟩ rfl rfl (Nat.le_of_ble_eq_true rfl) (c_X9_through hok hthr) (fun v m1 h1 => ?_)
  obtain ⟨hR1, hz⟩ := lw_two z_through f_through hR h1
  obtain ⟨g1, g2, g3, g4, g5, g6, g7, g8, g9⟩ := rel_m hR1
  refine q_aload_n dL_law_540 rfl ?_
  refine q_aload_n dL_law_541 rfl ?_
  refine q_iload_n dL_law_542 rfl ?_
  refine q_iconst dL_law_543 (by decide) ?_
  refine q_iadd dL_law_544 (by unfold inR; omega) ?_
  refine q_sld dL_law_545 (by omega) (by omega) ?_
  refine q_cVi (as := [vI _]) dL_law_546 kmX10_through kvX10_through lm_RL_79 ⟨by decide, by decide⟩ s44 ⟨by decide, rfl⟩ rfl rfl (Nat.le_of_ble_eq_true rfl) (c_X10_through g1 g2 g8 (fun s s0 s1 => (g9 s s0 s1).2)) (fun w m2 h2 => ?_)
  obtain ⟨e, hR2⟩ := hz w m2 h2
  exact q_icmp_eq (tgt := 1003) dL_law_549 (by decide) (fun _ => lw_next hL i0 iL (hn m2 hR2)) (fun c => absurd e c)
theorem lw_toBuy {K : Int} {L : Nat} {xs : Nat → Int32} {i : Int} {m : Mem} (hL : L ≤ 320) (i0 : 0 ≤ i) (iL : i + 5 ≤ L) (hK : K ≤ 1000) (hR : RelX K m m) (hn : ∀ m2 : Mem, RelX (K + 1) m2 m2 → lawH L xs (i + 5) m2) : WP mL_law (some (L, xs)) 0 0 lawQ 554 [vR 1000, vR 0, vR 44, vI i] [] SH m := by
  obtain ⟨hok, hthr⟩ := rel_ok hR
  have hR0 := hR
  obtain ⟨⟨-, c2, c3, c4, c5, c6, c7⟩, -, -, -, -, r6, r7, -, r9, -⟩ := hR0
  refine q_aload_n dL_law_554 rfl ?_
  refine q_aload_n dL_law_555 rfl ?_
  refine q_iload_n dL_law_556 rfl ?_
  refine q_iconst dL_law_557 (by decide) ?_
  refine q_iadd dL_law_558 (by unfold inR; omega) ?_
  refine q_sld dL_law_559 (by omega) (by omega) ?_
  refine q_cVi (as := [vI _]) dL_law_560 kmX9_toBuy kvX9_toBuy lm_RL_80 ⟨by decide, by decide⟩ s0 ⟨by decide, rfl⟩ rfl rfl (Nat.le_of_ble_eq_true rfl) (c_X9_toBuy hok) (fun v m1 h1 => ?_)
  obtain ⟨hR1, hz⟩ := lw_two z_toBuy f_toBuy hR h1
  obtain ⟨g1, g2, g3, g4, g5, g6, g7, g8, g9⟩ := rel_m hR1
  refine q_aload_n dL_law_563 rfl ?_
  refine q_aload_n dL_law_564 rfl ?_
  refine q_iload_n dL_law_565 rfl ?_
  refine q_iconst dL_law_566 (by decide) ?_
  refine q_iadd dL_law_567 (by unfold inR; omega) ?_
  refine q_sld dL_law_568 (by omega) (by omega) ?_
  refine q_cVi (as := [vI _]) dL_law_569 kmX10_toBuy kvX10_toBuy lm_RL_83 ⟨by decide, by decide⟩ s44 ⟨by decide, rfl⟩ rfl rfl (Nat.le_of_ble_eq_true rfl) (c_X10_toBuy g1 g2) (fun w m2 h2 => ?_)
  obtain ⟨e, hR2⟩ := hz w m2 h2
  exact q_icmp_eq (tgt := 1003) dL_law_572 (by decide) (fun _ => lw_next hL i0 iL (hn m2 hR2)) (fun c => absurd e c)
theorem lw_gain {K : Int} {L : Nat} {xs : Nat → Int32} {i : Int} {m : Mem} (hL : L ≤ 320) (i0 : 0 ≤ i) (iL : i + 5 ≤ L) (hK : K ≤ 1000) (hR : RelX K m m) (hn : ∀ m2 : Mem, RelX (K + 1) m2 m2 → lawH L xs (i + 5) m2) : WP mL_law (some (L, xs)) 0 0 lawQ 577 [vR 1000, vR 0, vR 44, vI i] [] SH m := by
  obtain ⟨hok, hthr⟩ := rel_ok hR
  have hR0 := hR
  obtain ⟨⟨-, c2, c3, c4, c5, c6, c7⟩, -, -, -, -, r6, r7, -, r9, -⟩ := hR0
  refine q_aload_n dL_law_577 rfl ?_
  refine q_aload_n dL_law_578 rfl ?_
  refine q_iload_n dL_law_579 rfl ?_
  refine q_iconst dL_law_580 (by decide) ?_
  refine q_iadd dL_law_581 (by unfold inR; omega) ?_
  refine q_sld dL_law_582 (by omega) (by omega) ?_
  refine q_cVi (as := [vI _]) dL_law_583 kmX9_gain kvX9_gain lm_RL_84 ⟨by decide, by decide⟩ s0 ⟨by decide, rfl⟩ rfl rfl (Nat.le_of_ble_eq_true rfl) (c_X9_gain hok) (fun v m1 h1 => ?_)
  obtain ⟨hR1, hz⟩ := lw_two z_gain f_gain hR h1
  obtain ⟨g1, g2, g3, g4, g5, g6, g7, g8, g9⟩ := rel_m hR1
  refine q_aload_n dL_law_586 rfl ?_
  refine q_aload_n dL_law_587 rfl ?_
  refine q_iload_n dL_law_588 rfl ?_
  refine q_iconst dL_law_589 (by decide) ?_
  refine q_iadd dL_law_590 (by unfold inR; omega) ?_
  refine q_sld dL_law_591 (by omega) (by omega) ?_
  refine q_cVi (as := [vI _]) dL_law_592 kmX10_gain kvX10_gain lm_RL_87 ⟨by decide, by decide⟩ s44 ⟨by decide, rfl⟩ rfl rfl (Nat.le_of_ble_eq_true rfl) (c_X10_gain g1 g2) (fun w m2 h2 => ?_)
  obtain ⟨e, hR2⟩ := hz w m2 h2
  exact q_icmp_eq (tgt := 1003) dL_law_595 (by decide) (fun _ => lw_next hL i0 iL (hn m2 hR2)) (fun c => absurd e c)
theorem lw_hear {K : Int} {L : Nat} {xs : Nat → Int32} {i : Int} {m : Mem} (hL : L ≤ 320) (i0 : 0 ≤ i) (iL : i + 5 ≤ L) (hK : K ≤ 1000) (hR : RelX K m m) (hn : ∀ m2 : Mem, RelX (K + 1) m2 m2 → lawH L xs (i + 5) m2) : WP mL_law (some (L, xs)) 0 0 lawQ 600 [vR 1000, vR 0, vR 44, vI i] [] SH m := by
  obtain ⟨hok, hthr⟩ := rel_ok hR
  have hR0 := hR
  obtain ⟨⟨-, c2, c3, c4, c5, c6, c7⟩, -, -, -, -, r6, r7, -, r9, -⟩ := hR0
  refine q_aload_n dL_law_600 rfl ?_
  refine q_aload_n dL_law_601 rfl ?_
  refine q_iload_n dL_law_602 rfl ?_
  refine q_iconst dL_law_603 (by decide) ?_
  refine q_iadd dL_law_604 (by unfold inR; omega) ?_
  refine q_sld dL_law_605 (by omega) (by omega) ?_
  refine q_aload_n dL_law_606 rfl ?_
  refine q_iload_n dL_law_607 rfl ?_
  refine q_iconst dL_law_608 (by decide) ?_
  refine q_iadd dL_law_609 (by unfold inR; omega) ?_
  refine q_sld dL_law_610 (by omega) (by omega) ?_
  refine q_cVi (as := [vI _, vI _]) dL_law_611 kmX9_hear kvX9_hear lm_RL_88 ⟨by decide, by decide⟩ s0 ⟨by decide, rfl⟩ rfl rfl (Nat.le_of_ble_eq_true rfl) (c_X9_hear c2.1) (fun v m1 h1 => ?_)
  obtain ⟨hR1, hz⟩ := lw_two z_hear f_hear hR h1
  obtain ⟨g1, g2, g3, g4, g5, g6, g7, g8, g9⟩ := rel_m hR1
  have hx : heX m m1 := hR1.2.2.2.2.2.1
  have hy : 0 ≤ m 30 2 ∧ m 30 2 ≤ 4 := c2.1.2
  have ghe : 0 ≤ m1 44 14 ∧ m1 44 14 ≤ 4 := by rw [← hx.1]; exact hy
  refine q_aload_n dL_law_614 rfl ?_
  refine q_aload_n dL_law_615 rfl ?_
  refine q_iload_n dL_law_616 rfl ?_
  refine q_iconst dL_law_617 (by decide) ?_
  refine q_iadd dL_law_618 (by unfold inR; omega) ?_
  refine q_sld dL_law_619 (by omega) (by omega) ?_
  refine q_aload_n dL_law_620 rfl ?_
  refine q_iload_n dL_law_621 rfl ?_
  refine q_iconst dL_law_622 (by decide) ?_
  refine q_iadd dL_law_623 (by unfold inR; omega) ?_
  refine q_sld dL_law_624 (by omega) (by omega) ?_
  refine q_cVi (as := [vI _, vI _]) dL_law_625 kmX10_hear kvX10_hear lm_RL_91 ⟨by decide, by decide⟩ s44 ⟨by decide, rfl⟩ rfl rfl (Nat.le_of_ble_eq_true rfl) (c_X10_hear g1 ghe) (fun w m2 h2 => ?_)
  obtain ⟨e, hR2⟩ := hz w m2 h2
  exact q_icmp_eq (tgt := 1003) dL_law_628 (by decide) (fun _ => lw_next hL i0 iL (hn m2 hR2)) (fun c => absurd e c)
theorem lw_forget {K : Int} {L : Nat} {xs : Nat → Int32} {i : Int} {m : Mem} (hL : L ≤ 320) (i0 : 0 ≤ i) (iL : i + 5 ≤ L) (hK : K ≤ 1000) (hR : RelX K m m) (hn : ∀ m2 : Mem, RelX (K + 1) m2 m2 → lawH L xs (i + 5) m2) : WP mL_law (some (L, xs)) 0 0 lawQ 633 [vR 1000, vR 0, vR 44, vI i] [] SH m := by
  obtain ⟨hok, hthr⟩ := rel_ok hR
  have hR0 := hR
  obtain ⟨⟨-, c2, c3, c4, c5, c6, c7⟩, -, -, -, -, r6, r7, -, r9, -⟩ := hR0
  refine q_aload_n dL_law_633 rfl ?_
  refine q_aload_n dL_law_634 rfl ?_
  refine q_iload_n dL_law_635 rfl ?_
  refine q_iconst dL_law_636 (by decide) ?_
  refine q_iadd dL_law_637 (by unfold inR; omega) ?_
  refine q_sld dL_law_638 (by omega) (by omega) ?_
  refine q_cVi (as := [vI _]) dL_law_639 kmX9_forget kvX9_forget lm_RL_92 ⟨by decide, by decide⟩ s0 ⟨by decide, rfl⟩ rfl rfl (Nat.le_of_ble_eq_true rfl) (c_X9_forget ) (fun v m1 h1 => ?_)
  obtain ⟨hR1, hz⟩ := lw_two z_forget f_forget hR h1
  obtain ⟨g1, g2, g3, g4, g5, g6, g7, g8, g9⟩ := rel_m hR1
  refine q_aload_n dL_law_642 rfl ?_
  refine q_aload_n dL_law_643 rfl ?_
  refine q_iload_n dL_law_644 rfl ?_
  refine q_iconst dL_law_645 (by decide) ?_
  refine q_iadd dL_law_646 (by unfold inR; omega) ?_
  refine q_sld dL_law_647 (by omega) (by omega) ?_
  refine q_cVi (as := [vI _]) dL_law_648 kmX10_forget kvX10_forget lm_RL_95 ⟨by decide, by decide⟩ s44 ⟨by decide, rfl⟩ rfl rfl (Nat.le_of_ble_eq_true rfl) (c_X10_forget ) (fun w m2 h2 => ?_)
  obtain ⟨e, hR2⟩ := hz w m2 h2
  exact q_icmp_eq (tgt := 1003) dL_law_651 (by decide) (fun _ => lw_next hL i0 iL (hn m2 hR2)) (fun c => absurd e c)
theorem lw_sources {K : Int} {L : Nat} {xs : Nat → Int32} {i : Int} {m : Mem} (hL : L ≤ 320) (i0 : 0 ≤ i) (iL : i + 5 ≤ L) (hK : K ≤ 1000) (hR : RelX K m m) (hn : ∀ m2 : Mem, RelX (K + 1) m2 m2 → lawH L xs (i + 5) m2) : WP mL_law (some (L, xs)) 0 0 lawQ 656 [vR 1000, vR 0, vR 44, vI i] [] SH m := by
  obtain ⟨hok, hthr⟩ := rel_ok hR
  have hR0 := hR
  obtain ⟨⟨-, c2, c3, c4, c5, c6, c7⟩, -, -, -, -, r6, r7, -, r9, -⟩ := hR0
  refine q_aload_n dL_law_656 rfl ?_
  refine q_cVi (as := []) dL_law_657 kmX9_sources kvX9_sources lm_RL_96 ⟨by decide, by decide⟩ s0 ⟨by decide, rfl⟩ rfl rfl (Nat.le_of_ble_eq_true rfl) (c_X9_sources hok c2) (fun v m1 h1 => ?_)
  obtain ⟨hR1, hz⟩ := lw_two z_sources f_sources hR h1
  obtain ⟨g1, g2, g3, g4, g5, g6, g7, g8, g9⟩ := rel_m hR1
  refine q_aload_n dL_law_660 rfl ?_
  refine q_cVi (as := []) dL_law_661 kmX10_sources kvX10_sources lm_RL_99 ⟨by decide, by decide⟩ s44 ⟨by decide, rfl⟩ rfl rfl (Nat.le_of_ble_eq_true rfl) (c_X10_sources g1 g2 g3) (fun w m2 h2 => ?_)
  obtain ⟨e, hR2⟩ := hz w m2 h2
  exact q_icmp_eq (tgt := 1003) dL_law_664 (by decide) (fun _ => lw_next hL i0 iL (hn m2 hR2)) (fun c => absurd e c)
theorem lw_strengths {K : Int} {L : Nat} {xs : Nat → Int32} {i : Int} {m : Mem} (hL : L ≤ 320) (i0 : 0 ≤ i) (iL : i + 5 ≤ L) (hK : K ≤ 1000) (hR : RelX K m m) (hn : ∀ m2 : Mem, RelX (K + 1) m2 m2 → lawH L xs (i + 5) m2) : WP mL_law (some (L, xs)) 0 0 lawQ 669 [vR 1000, vR 0, vR 44, vI i] [] SH m := by
  obtain ⟨hok, hthr⟩ := rel_ok hR
  have hR0 := hR
  obtain ⟨⟨-, c2, c3, c4, c5, c6, c7⟩, -, -, -, -, r6, r7, -, r9, -⟩ := hR0
  refine q_aload_n dL_law_669 rfl ?_
  refine q_aload_n dL_law_670 rfl ?_
  refine q_iload_n dL_law_671 rfl ?_
  refine q_iconst dL_law_672 (by decide) ?_
  refine q_iadd dL_law_673 (by unfold inR; omega) ?_
  refine q_sld dL_law_674 (by omega) (by omega) ?_
  refine q_cVi (as := [vI _]) dL_law_675 kmX9_strengths kvX9_strengths lm_RL_100 ⟨by decide, by decide⟩ s0 ⟨by decide, rfl⟩ rfl rfl (Nat.le_of_ble_eq_true rfl) (c_X9_strengths hok c2) (fun v m1 h1 => ?_)
  obtain ⟨hR1, hz⟩ := lw_two z_strengths f_strengths hR h1
  obtain ⟨g1, g2, g3, g4, g5, g6, g7, g8, g9⟩ := rel_m hR1
  refine q_aload_n dL_law_678 rfl ?_
  refine q_aload_n dL_law_679 rfl ?_
  refine q_iload_n dL_law_680 rfl ?_
  refine q_iconst dL_law_681 (by decide) ?_
  refine q_iadd dL_law_682 (by unfold inR; omega) ?_
  refine q_sld dL_law_683 (by omega) (by omega) ?_
  refine q_cVi (as := [vI _]) dL_law_684 kmX10_strengths kvX10_strengths lm_RL_103 ⟨by decide, by decide⟩ s44 ⟨by decide, rfl⟩ rfl rfl (Nat.le_of_ble_eq_true rfl) (c_X10_strengths g1 g2 g3) (fun w m2 h2 => ?_)
  obtain ⟨e, hR2⟩ := hz w m2 h2
  exact q_icmp_eq (tgt := 1003) dL_law_687 (by decide) (fun _ => lw_next hL i0 iL (hn m2 hR2)) (fun c => absurd e c)
theorem lw_hired {K : Int} {L : Nat} {xs : Nat → Int32} {i : Int} {m : Mem} (hL : L ≤ 320) (i0 : 0 ≤ i) (iL : i + 5 ≤ L) (hK : K ≤ 1000) (hR : RelX K m m) (hn : ∀ m2 : Mem, RelX (K + 1) m2 m2 → lawH L xs (i + 5) m2) : WP mL_law (some (L, xs)) 0 0 lawQ 692 [vR 1000, vR 0, vR 44, vI i] [] SH m := by
  obtain ⟨hok, hthr⟩ := rel_ok hR
  have hR0 := hR
  obtain ⟨⟨-, c2, c3, c4, c5, c6, c7⟩, -, -, -, -, r6, r7, -, r9, -⟩ := hR0
  refine q_aload_n dL_law_692 rfl ?_
  refine q_aload_n dL_law_693 rfl ?_
  refine q_iload_n dL_law_694 rfl ?_
  refine q_iconst dL_law_695 (by decide) ?_
  refine q_iadd dL_law_696 (by unfold inR; omega) ?_
  refine q_sld dL_law_697 (by omega) (by omega) ?_
  refine q_aload_n dL_law_698 rfl ?_
  refine q_iload_n dL_law_699 rfl ?_
  refine q_iconst dL_law_700 (by decide) ?_
  refine q_iadd dL_law_701 (by unfold inR; omega) ?_
  refine q_sld dL_law_702 (by omega) (by omega) ?_
  refine q_aload_n dL_law_703 rfl ?_
  refine q_iload_n dL_law_704 rfl ?_
  refine q_iconst dL_law_705 (by decide) ?_
  refine q_iadd dL_law_706 (by unfold inR; omega) ?_
  refine q_sld dL_law_707 (by omega) (by omega) ?_
  refine q_cVi (as := [vI _, vI _, vI _]) dL_law_708 kmX9_hired kvX9_hired lm_RL_104 ⟨by decide, by decide⟩ s0 ⟨by decide, rfl⟩ rfl rfl (Nat.le_of_ble_eq_true rfl) (c_X9_hired hok) (fun v m1 h1 => ?_)
  obtain ⟨hR1, hz⟩ := lw_two z_hired f_hired hR h1
  obtain ⟨g1, g2, g3, g4, g5, g6, g7, g8, g9⟩ := rel_m hR1
  refine q_aload_n dL_law_711 rfl ?_
  refine q_aload_n dL_law_712 rfl ?_
  refine q_iload_n dL_law_713 rfl ?_
  refine q_iconst dL_law_714 (by decide) ?_
  refine q_iadd dL_law_715 (by unfold inR; omega) ?_
  refine q_sld dL_law_716 (by omega) (by omega) ?_
  refine q_aload_n dL_law_717 rfl ?_
  refine q_iload_n dL_law_718 rfl ?_
  refine q_iconst dL_law_719 (by decide) ?_
  refine q_iadd dL_law_720 (by unfold inR; omega) ?_
  refine q_sld dL_law_721 (by omega) (by omega) ?_
  refine q_aload_n dL_law_722 rfl ?_
  refine q_iload_n dL_law_723 rfl ?_
  refine q_iconst dL_law_724 (by decide) ?_
  refine q_iadd dL_law_725 (by unfold inR; omega) ?_
  refine q_sld dL_law_726 (by omega) (by omega) ?_
  refine q_cVi (as := [vI _, vI _, vI _]) dL_law_727 kmX10_hired kvX10_hired lm_RL_108 ⟨by decide, by decide⟩ s44 ⟨by decide, rfl⟩ rfl rfl (Nat.le_of_ble_eq_true rfl) (c_X10_hired g1 g2) (fun w m2 h2 => ?_)
  obtain ⟨e, hR2⟩ := hz w m2 h2
  exact q_icmp_eq (tgt := 1003) dL_law_730 (by decide) (fun _ => lw_next hL i0 iL (hn m2 hR2)) (fun c => absurd e c)
theorem lw_way {K : Int} {L : Nat} {xs : Nat → Int32} {i : Int} {m : Mem} (hL : L ≤ 320) (i0 : 0 ≤ i) (iL : i + 5 ≤ L) (hK : K ≤ 1000) (hR : RelX K m m) (hn : ∀ m2 : Mem, RelX (K + 1) m2 m2 → lawH L xs (i + 5) m2) : WP mL_law (some (L, xs)) 0 0 lawQ 735 [vR 1000, vR 0, vR 44, vI i] [] SH m := by
  obtain ⟨hok, hthr⟩ := rel_ok hR
  have hR0 := hR
  obtain ⟨⟨-, c2, c3, c4, c5, c6, c7⟩, -, -, -, -, r6, r7, -, r9, -⟩ := hR0
  refine q_aload_n dL_law_735 rfl ?_
  refine q_aload_n dL_law_736 rfl ?_
  refine q_iload_n dL_law_737 rfl ?_
  refine q_iconst dL_law_738 (by decide) ?_
  refine q_iadd dL_law_739 (by unfold inR; omega) ?_
  refine q_sld dL_law_740 (by omega) (by omega) ?_
  refine q_aload_n dL_law_741 rfl ?_
  refine q_iload_n dL_law_742 rfl ?_
  refine q_iconst dL_law_743 (by decide) ?_
  refine q_iadd dL_law_744 (by unfold inR; omega) ?_
  refine q_sld dL_law_745 (by omega) (by omega) ?_
  refine q_aload_n dL_law_746 rfl ?_
  refine q_iload_n dL_law_747 rfl ?_
  refine q_iconst dL_law_748 (by decide) ?_
  refine q_iadd dL_law_749 (by unfold inR; omega) ?_
  refine q_sld dL_law_750 (by omega) (by omega) ?_
  refine q_cVi (as := [vI _, vI _, vI _]) dL_law_751 kmX9_way kvX9_way lm_RL_109 ⟨by decide, by decide⟩ s0 ⟨by decide, rfl⟩ rfl rfl (Nat.le_of_ble_eq_true rfl) (c_X9_way hok) (fun v m1 h1 => ?_)
  obtain ⟨hR1, hz⟩ := lw_two z_way f_way hR h1
  obtain ⟨g1, g2, g3, g4, g5, g6, g7, g8, g9⟩ := rel_m hR1
  refine q_aload_n dL_law_754 rfl ?_
  refine q_aload_n dL_law_755 rfl ?_
  refine q_iload_n dL_law_756 rfl ?_
  refine q_iconst dL_law_757 (by decide) ?_
  refine q_iadd dL_law_758 (by unfold inR; omega) ?_
  refine q_sld dL_law_759 (by omega) (by omega) ?_
  refine q_aload_n dL_law_760 rfl ?_
  refine q_iload_n dL_law_761 rfl ?_
  refine q_iconst dL_law_762 (by decide) ?_
  refine q_iadd dL_law_763 (by unfold inR; omega) ?_
  refine q_sld dL_law_764 (by omega) (by omega) ?_
  refine q_aload_n dL_law_765 rfl ?_
  refine q_iload_n dL_law_766 rfl ?_
  refine q_iconst dL_law_767 (by decide) ?_
  refine q_iadd dL_law_768 (by unfold inR; omega) ?_
  refine q_sld dL_law_769 (by omega) (by omega) ?_
  refine q_cVi (as := [vI _, vI _, vI _]) dL_law_770 kmX10_way kvX10_way lm_RL_112 ⟨by decide, by decide⟩ s44 ⟨by decide, rfl⟩ rfl rfl (Nat.le_of_ble_eq_true rfl) (c_X10_way g1 g2) (fun w m2 h2 => ?_)
  obtain ⟨e, hR2⟩ := hz w m2 h2
  exact q_icmp_eq (tgt := 1003) dL_law_773 (by decide) (fun _ => lw_next hL i0 iL (hn m2 hR2)) (fun c => absurd e c)
theorem lw_tap {K : Int} {L : Nat} {xs : Nat → Int32} {i : Int} {m : Mem} (hL : L ≤ 320) (i0 : 0 ≤ i) (iL : i + 5 ≤ L) (hK : K ≤ 1000) (hR : RelX K m m) (hn : ∀ m2 : Mem, RelX (K + 1) m2 m2 → lawH L xs (i + 5) m2) : WP mL_law (some (L, xs)) 0 0 lawQ 778 [vR 1000, vR 0, vR 44, vI i] [] SH m := by
  obtain ⟨hok, hthr⟩ := rel_ok hR
  have hR0 := hR
  obtain ⟨⟨-, c2, c3, c4, c5, c6, c7⟩, -, -, -, -, r6, r7, -, r9, -⟩ := hR0
  refine q_aload_n dL_law_778 rfl ?_
  refine q_aload_n dL_law_779 rfl ?_
  refine q_iload_n dL_law_780 rfl ?_
  refine q_iconst dL_law_781 (by decide) ?_
  refine q_iadd dL_law_782 (by unfold inR; omega) ?_
  refine q_sld dL_law_783 (by omega) (by omega) ?_
  refine q_aload_n dL_law_784 rfl ?_
  refine q_iload_n dL_law_785 rfl ?_
  refine q_iconst dL_law_786 (by decide) ?_
  refine q_iadd dL_law_787 (by unfold inR; omega) ?_
  refine q_sld dL_law_788 (by omega) (by omega) ?_
  refine q_aload_n dL_law_789 rfl ?_
  refine q_iload_n dL_law_790 rfl ?_
  refine q_iconst dL_law_791 (by decide) ?_
  refine q_iadd dL_law_792 (by unfold inR; omega) ?_
  refine q_sld dL_law_793 (by omega) (by omega) ?_
  refine q_aload_n dL_law_794 rfl ?_
  refine q_iload_n dL_law_795 rfl ?_
  refine q_iconst dL_law_796 (by decide) ?_
  refine q_iadd dL_law_797 (by unfold inR; omega) ?_
  refine q_sld dL_law_798 (by omega) (by omega) ?_
  refine q_cVi (as := [vI _, vI _, vI _, vI _]) dL_law_799 kmX9_tap kvX9_tap lm_RL_113 ⟨by decide, by decide⟩ s0 ⟨by decide, rfl⟩ rfl rfl (Nat.le_of_ble_eq_true rfl) (c_X9_tap c3.1) (fun v m1 h1 => ?_)
  obtain ⟨hR1, hz⟩ := lw_two z_tap f_tap hR h1
  obtain ⟨g1, g2, g3, g4, g5, g6, g7, g8, g9⟩ := rel_m hR1
  have hx : tpX m m1 := hR1.2.2.2.2.2.2.1
  have hy : 0 ≤ m 32 2 ∧ m 32 2 ≤ 4 := c3.1.2
  have gta : 0 ≤ m1 44 16 ∧ m1 44 16 ≤ 4 := by rw [← hx.1]; exact hy
  refine q_aload_n dL_law_802 rfl ?_
  refine q_aload_n dL_law_803 rfl ?_
  refine q_iload_n dL_law_804 rfl ?_
  refine q_iconst dL_law_805 (by decide) ?_
  refine q_iadd dL_law_806 (by unfold inR; omega) ?_
  refine q_sld dL_law_807 (by omega) (by omega) ?_
  refine q_aload_n dL_law_808 rfl ?_
  refine q_iload_n dL_law_809 rfl ?_
  refine q_iconst dL_law_810 (by decide) ?_
  refine q_iadd dL_law_811 (by unfold inR; omega) ?_
  refine q_sld dL_law_812 (by omega) (by omega) ?_
  refine q_aload_n dL_law_813 rfl ?_
  refine q_iload_n dL_law_814 rfl ?_
  refine q_iconst dL_law_815 (by decide) ?_
  refine q_iadd dL_law_816 (by unfold inR; omega) ?_
  refine q_sld dL_law_817 (by omega) (by omega) ?_
  refine q_aload_n dL_law_818 rfl ?_
  refine q_iload_n dL_law_819 rfl ?_
  refine q_iconst dL_law_820 (by decide) ?_
  refine q_iadd dL_law_821 (by unfold inR; omega) ?_
  refine q_sld dL_law_822 (by omega) (by omega) ?_
  refine q_cVi (as := [vI _, vI _, vI _, vI _]) dL_law_823 kmX10_tap kvX10_tap lm_RL_117 ⟨by decide, by decide⟩ s44 ⟨by decide, rfl⟩ rfl rfl (Nat.le_of_ble_eq_true rfl) (c_X10_tap g1 gta) (fun w m2 h2 => ?_)
  obtain ⟨e, hR2⟩ := hz w m2 h2
  exact q_icmp_eq (tgt := 1003) dL_law_826 (by decide) (fun _ => lw_next hL i0 iL (hn m2 hR2)) (fun c => absurd e c)
theorem lw_mayBe {K : Int} {L : Nat} {xs : Nat → Int32} {i : Int} {m : Mem} (hL : L ≤ 320) (i0 : 0 ≤ i) (iL : i + 5 ≤ L) (hK : K ≤ 1000) (hR : RelX K m m) (hn : ∀ m2 : Mem, RelX (K + 1) m2 m2 → lawH L xs (i + 5) m2) : WP mL_law (some (L, xs)) 0 0 lawQ 831 [vR 1000, vR 0, vR 44, vI i] [] SH m := by
  obtain ⟨hok, hthr⟩ := rel_ok hR
  have hR0 := hR
  obtain ⟨⟨-, c2, c3, c4, c5, c6, c7⟩, -, -, -, -, r6, r7, -, r9, -⟩ := hR0
  refine q_aload_n dL_law_831 rfl ?_
  refine q_cVi (as := []) dL_law_832 kmX9_mayBe kvX9_mayBe lm_RL_118 ⟨by decide, by decide⟩ s0 ⟨by decide, rfl⟩ rfl rfl (Nat.le_of_ble_eq_true rfl) (c_X9_mayBe hok c3) (fun v m1 h1 => ?_)
  obtain ⟨hR1, hz⟩ := lw_two z_mayBe f_mayBe hR h1
  obtain ⟨g1, g2, g3, g4, g5, g6, g7, g8, g9⟩ := rel_m hR1
  refine q_aload_n dL_law_835 rfl ?_
  refine q_cVi (as := []) dL_law_836 kmX10_mayBe kvX10_mayBe lm_RL_121 ⟨by decide, by decide⟩ s44 ⟨by decide, rfl⟩ rfl rfl (Nat.le_of_ble_eq_true rfl) (c_X10_mayBe g1 g2 g4) (fun w m2 h2 => ?_)
  obtain ⟨e, hR2⟩ := hz w m2 h2
  exact q_icmp_eq (tgt := 1003) dL_law_839 (by decide) (fun _ => lw_next hL i0 iL (hn m2 hR2)) (fun c => absurd e c)
theorem lw_odds {K : Int} {L : Nat} {xs : Nat → Int32} {i : Int} {m : Mem} (hL : L ≤ 320) (i0 : 0 ≤ i) (iL : i + 5 ≤ L) (hK : K ≤ 1000) (hR : RelX K m m) (hn : ∀ m2 : Mem, RelX (K + 1) m2 m2 → lawH L xs (i + 5) m2) : WP mL_law (some (L, xs)) 0 0 lawQ 844 [vR 1000, vR 0, vR 44, vI i] [] SH m := by
  obtain ⟨hok, hthr⟩ := rel_ok hR
  have hR0 := hR
  obtain ⟨⟨-, c2, c3, c4, c5, c6, c7⟩, -, -, -, -, r6, r7, -, r9, -⟩ := hR0
  refine q_aload_n dL_law_844 rfl ?_
  refine q_aload_n dL_law_845 rfl ?_
  refine q_iload_n dL_law_846 rfl ?_
  refine q_iconst dL_law_847 (by decide) ?_
  refine q_iadd dL_law_848 (by unfold inR; omega) ?_
  refine q_sld dL_law_849 (by omega) (by omega) ?_
  refine q_aload_n dL_law_850 rfl ?_
  refine q_iload_n dL_law_851 rfl ?_
  refine q_iconst dL_law_852 (by decide) ?_
  refine q_iadd dL_law_853 (by unfold inR; omega) ?_
  refine q_sld dL_law_854 (by omega) (by omega) ?_
  refine q_aload_n dL_law_855 rfl ?_
  refine q_iload_n dL_law_856 rfl ?_
  refine q_iconst dL_law_857 (by decide) ?_
  refine q_iadd dL_law_858 (by unfold inR; omega) ?_
  refine q_sld dL_law_859 (by omega) (by omega) ?_
  refine q_cVi (as := [vI _, vI _, vI _]) dL_law_860 kmX9_odds kvX9_odds lm_RL_122 ⟨by decide, by decide⟩ s0 ⟨by decide, rfl⟩ rfl rfl (Nat.le_of_ble_eq_true rfl) (c_X9_odds hok) (fun v m1 h1 => ?_)
  obtain ⟨hR1, hz⟩ := lw_two z_odds f_odds hR h1
  obtain ⟨g1, g2, g3, g4, g5, g6, g7, g8, g9⟩ := rel_m hR1
  refine q_aload_n dL_law_863 rfl ?_
  refine q_aload_n dL_law_864 rfl ?_
  refine q_iload_n dL_law_865 rfl ?_
  refine q_iconst dL_law_866 (by decide) ?_
  refine q_iadd dL_law_867 (by unfold inR; omega) ?_
  refine q_sld dL_law_868 (by omega) (by omega) ?_
  refine q_aload_n dL_law_869 rfl ?_
  refine q_iload_n dL_law_870 rfl ?_
  refine q_iconst dL_law_871 (by decide) ?_
  refine q_iadd dL_law_872 (by unfold inR; omega) ?_
  refine q_sld dL_law_873 (by omega) (by omega) ?_
  refine q_aload_n dL_law_874 rfl ?_
  refine q_iload_n dL_law_875 rfl ?_
  refine q_iconst dL_law_876 (by decide) ?_
  refine q_iadd dL_law_877 (by unfold inR; omega) ?_
  refine q_sld dL_law_878 (by omega) (by omega) ?_
  refine q_cVi (as := [vI _, vI _, vI _]) dL_law_879 kmX10_odds kvX10_odds lm_RL_125 ⟨by decide, by decide⟩ s44 ⟨by decide, rfl⟩ rfl rfl (Nat.le_of_ble_eq_true rfl) (c_X10_odds g1 g2) (fun w m2 h2 => ?_)
  obtain ⟨e, hR2⟩ := hz w m2 h2
  exact q_icmp_eq (tgt := 1003) dL_law_882 (by decide) (fun _ => lw_next hL i0 iL (hn m2 hR2)) (fun c => absurd e c)
theorem lw_rate {K : Int} {L : Nat} {xs : Nat → Int32} {i : Int} {m : Mem} (hL : L ≤ 320) (i0 : 0 ≤ i) (iL : i + 5 ≤ L) (hK : K ≤ 1000) (hR : RelX K m m) (hn : ∀ m2 : Mem, RelX (K + 1) m2 m2 → lawH L xs (i + 5) m2) : WP mL_law (some (L, xs)) 0 0 lawQ 887 [vR 1000, vR 0, vR 44, vI i] [] SH m := by
  obtain ⟨hok, hthr⟩ := rel_ok hR
  have hR0 := hR
  obtain ⟨⟨-, c2, c3, c4, c5, c6, c7⟩, -, -, -, -, r6, r7, -, r9, -⟩ := hR0
  have htr : trB 1000000000000 m := by unfold trB trX at *; omega
  refine q_aload_n dL_law_887 rfl ?_
  refine q_aload_n dL_law_888 rfl ?_
  refine q_iload_n dL_law_889 rfl ?_
  refine q_iconst dL_law_890 (by decide) ?_
  refine q_iadd dL_law_891 (by unfold inR; omega) ?_
  refine q_sld dL_law_892 (by omega) (by omega) ?_
  refine q_aload_n dL_law_893 rfl ?_
  refine q_iload_n dL_law_894 rfl ?_
  refine q_iconst dL_law_895 (by decide) ?_
  refine q_iadd dL_law_896 (by unfold inR; omega) ?_
  refine q_sld dL_law_897 (by omega) (by omega) ?_
  refine q_cVi (as := [vI _, vI _]) dL_law_898 kmX9_rate kvX9_rate lm_RL_126 ⟨by decide, by decide⟩ s0 ⟨by decide, rfl⟩ rfl rfl (Nat.le_of_ble_eq_true rfl) (c_X9_rate hok.1 hok.2.1 htr hthr.2.1) (fun v m1 h1 => ?_)
  obtain ⟨hR1, hz⟩ := lw_two z_rate f_rate hR h1
  obtain ⟨g1, g2, g3, g4, g5, g6, g7, g8, g9⟩ := rel_m hR1
  have hx : trX K m m1 := hR1.2.2.2.2.2.2.2.2.1
  have gtr : tmB 1000000000000 m1 := by unfold tmB trX at *; omega
  refine q_aload_n dL_law_901 rfl ?_
  refine q_aload_n dL_law_902 rfl ?_
  refine q_iload_n dL_law_903 rfl ?_
  refine q_iconst dL_law_904 (by decide) ?_
  refine q_iadd dL_law_905 (by unfold inR; omega) ?_
  refine q_sld dL_law_906 (by omega) (by omega) ?_
  refine q_aload_n dL_law_907 rfl ?_
  refine q_iload_n dL_law_908 rfl ?_
  refine q_iconst dL_law_909 (by decide) ?_
  refine q_iadd dL_law_910 (by unfold inR; omega) ?_
  refine q_sld dL_law_911 (by omega) (by omega) ?_
  refine q_cVi (as := [vI _, vI _]) dL_law_912 kmX10_rate kvX10_rate lm_RL_129 ⟨by decide, by decide⟩ s44 ⟨by decide, rfl⟩ rfl rfl (Nat.le_of_ble_eq_true rfl) (c_X10_rate g1 g2 gtr g8) (fun w m2 h2 => ?_)
  obtain ⟨e, hR2⟩ := hz w m2 h2
  exact q_icmp_eq (tgt := 1003) dL_law_915 (by decide) (fun _ => lw_next hL i0 iL (hn m2 hR2)) (fun c => absurd e c)
theorem lw_keep {K : Int} {L : Nat} {xs : Nat → Int32} {i : Int} {m : Mem} (hL : L ≤ 320) (i0 : 0 ≤ i) (iL : i + 5 ≤ L) (hK : K ≤ 1000) (hR : RelX K m m) (hn : ∀ m2 : Mem, RelX (K + 1) m2 m2 → lawH L xs (i + 5) m2) : WP mL_law (some (L, xs)) 0 0 lawQ 920 [vR 1000, vR 0, vR 44, vI i] [] SH m := by
  obtain ⟨hok, hthr⟩ := rel_ok hR
  have hR0 := hR
  obtain ⟨⟨-, c2, c3, c4, c5, c6, c7⟩, -, -, -, -, r6, r7, -, r9, -⟩ := hR0
  refine q_aload_n dL_law_920 rfl ?_
  refine q_aload_n dL_law_921 rfl ?_
  refine q_iload_n dL_law_922 rfl ?_
  refine q_iconst dL_law_923 (by decide) ?_
  refine q_iadd dL_law_924 (by unfold inR; omega) ?_
  refine q_sld dL_law_925 (by omega) (by omega) ?_
  refine q_cVi (as := [vI _]) dL_law_926 kmX9_keep kvX9_keep lm_RL_130 ⟨by decide, by decide⟩ s0 ⟨by decide, rfl⟩ rfl rfl (Nat.le_of_ble_eq_true rfl) (c_X9_keep c7) (fun v m1 h1 => ?_)
  obtain ⟨hR1, hz⟩ := lw_two z_keep f_keep hR h1
  obtain ⟨g1, g2, g3, g4, g5, g6, g7, g8, g9⟩ := rel_m hR1
  refine q_aload_n dL_law_929 rfl ?_
  refine q_aload_n dL_law_930 rfl ?_
  refine q_iload_n dL_law_931 rfl ?_
  refine q_iconst dL_law_932 (by decide) ?_
  refine q_iadd dL_law_933 (by unfold inR; omega) ?_
  refine q_sld dL_law_934 (by omega) (by omega) ?_
  refine q_cVi (as := [vI _]) dL_law_935 kmX10_keep kvX10_keep lm_RL_133 ⟨by decide, by decide⟩ s44 ⟨by decide, rfl⟩ rfl rfl (Nat.le_of_ble_eq_true rfl) (c_X10_keep ) (fun w m2 h2 => ?_)
  obtain ⟨e, hR2⟩ := hz w m2 h2
  exact q_icmp_eq (tgt := 1003) dL_law_938 (by decide) (fun _ => lw_next hL i0 iL (hn m2 hR2)) (fun c => absurd e c)
theorem lw_back {K : Int} {L : Nat} {xs : Nat → Int32} {i : Int} {m : Mem} (hL : L ≤ 320) (i0 : 0 ≤ i) (iL : i + 5 ≤ L) (hK : K ≤ 1000) (hR : RelX K m m) (hn : ∀ m2 : Mem, RelX (K + 1) m2 m2 → lawH L xs (i + 5) m2) : WP mL_law (some (L, xs)) 0 0 lawQ 943 [vR 1000, vR 0, vR 44, vI i] [] SH m := by
  obtain ⟨hok, hthr⟩ := rel_ok hR
  have hR0 := hR
  obtain ⟨⟨-, c2, c3, c4, c5, c6, c7⟩, -, -, -, -, r6, r7, -, r9, -⟩ := hR0
  refine q_aload_n dL_law_943 rfl ?_
  refine q_aload_n dL_law_944 rfl ?_
  refine q_iload_n dL_law_945 rfl ?_
  refine q_iconst dL_law_946 (by decide) ?_
  refine q_iadd dL_law_947 (by unfold inR; omega) ?_
  refine q_sld dL_law_948 (by omega) (by omega) ?_
  refine q_cVi (as := [vI _]) dL_law_949 kmX9_back kvX9_back lm_RL_134 ⟨by decide, by decide⟩ s0 ⟨by decide, rfl⟩ rfl rfl (Nat.le_of_ble_eq_true rfl) (c_X9_back c7) (fun v m1 h1 => ?_)
  obtain ⟨hR1, hz⟩ := lw_two z_back f_back hR h1
  obtain ⟨g1, g2, g3, g4, g5, g6, g7, g8, g9⟩ := rel_m hR1
  refine q_aload_n dL_law_952 rfl ?_
  refine q_aload_n dL_law_953 rfl ?_
  refine q_iload_n dL_law_954 rfl ?_
  refine q_iconst dL_law_955 (by decide) ?_
  refine q_iadd dL_law_956 (by unfold inR; omega) ?_
  refine q_sld dL_law_957 (by omega) (by omega) ?_
  refine q_cVi (as := [vI _]) dL_law_958 kmX10_back kvX10_back lm_RL_137 ⟨by decide, by decide⟩ s44 ⟨by decide, rfl⟩ rfl rfl (Nat.le_of_ble_eq_true rfl) (c_X10_back ) (fun w m2 h2 => ?_)
  obtain ⟨e, hR2⟩ := hz w m2 h2
  exact q_icmp_eq (tgt := 1003) dL_law_961 (by decide) (fun _ => lw_next hL i0 iL (hn m2 hR2)) (fun c => absurd e c)
theorem lw_count {K : Int} {L : Nat} {xs : Nat → Int32} {i : Int} {m : Mem} (hL : L ≤ 320) (i0 : 0 ≤ i) (iL : i + 5 ≤ L) (hK : K ≤ 1000) (hR : RelX K m m) (hn : ∀ m2 : Mem, RelX (K + 1) m2 m2 → lawH L xs (i + 5) m2) : WP mL_law (some (L, xs)) 0 0 lawQ 966 [vR 1000, vR 0, vR 44, vI i] [] SH m := by
  obtain ⟨hok, hthr⟩ := rel_ok hR
  have hR0 := hR
  obtain ⟨⟨-, c2, c3, c4, c5, c6, c7⟩, -, -, -, -, r6, r7, -, r9, -⟩ := hR0
  refine q_aload_n dL_law_966 rfl ?_
  refine q_aload_n dL_law_967 rfl ?_
  refine q_iload_n dL_law_968 rfl ?_
  refine q_iconst dL_law_969 (by decide) ?_
  refine q_iadd dL_law_970 (by unfold inR; omega) ?_
  refine q_sld dL_law_971 (by omega) (by omega) ?_
  refine q_cVi (as := [vI _]) dL_law_972 kmX9_count kvX9_count lm_RL_138 ⟨by decide, by decide⟩ s0 ⟨by decide, rfl⟩ rfl rfl (Nat.le_of_ble_eq_true rfl) (c_X9_count ) (fun v m1 h1 => ?_)
  obtain ⟨hR1, hz⟩ := lw_two z_count f_pv hR h1
  obtain ⟨g1, g2, g3, g4, g5, g6, g7, g8, g9⟩ := rel_m hR1
  refine q_aload_n dL_law_975 rfl ?_
  refine q_aload_n dL_law_976 rfl ?_
  refine q_iload_n dL_law_977 rfl ?_
  refine q_iconst dL_law_978 (by decide) ?_
  refine q_iadd dL_law_979 (by unfold inR; omega) ?_
  refine q_sld dL_law_980 (by omega) (by omega) ?_
  refine q_cVi (as := [vI _]) dL_law_981 kmX10_count kvX10_count lm_RL_141 ⟨by decide, by decide⟩ s44 ⟨by decide, rfl⟩ rfl rfl (Nat.le_of_ble_eq_true rfl) (c_X10_count ) (fun w m2 h2 => ?_)
  obtain ⟨e, hR2⟩ := hz w m2 h2
  exact q_icmp_eq (tgt := 1003) dL_law_984 (by decide) (fun _ => lw_next hL i0 iL (hn m2 hR2)) (fun c => absurd e c)
theorem lw_trace {K : Int} {L : Nat} {xs : Nat → Int32} {i : Int} {m : Mem} (hL : L ≤ 320) (i0 : 0 ≤ i) (iL : i + 5 ≤ L) (hK : K ≤ 1000) (hR : RelX K m m) (hn : ∀ m2 : Mem, RelX (K + 1) m2 m2 → lawH L xs (i + 5) m2) : WP mL_law (some (L, xs)) 0 0 lawQ 989 [vR 1000, vR 0, vR 44, vI i] [] SH m := by
  obtain ⟨hok, hthr⟩ := rel_ok hR
  have hR0 := hR
  obtain ⟨⟨-, c2, c3, c4, c5, c6, c7⟩, -, -, -, -, r6, r7, -, r9, -⟩ := hR0
  refine q_aload_n dL_law_989 rfl ?_
  refine q_cVl (as := []) dL_law_990 kmX9_trace kvX9_trace lm_RL_142 ⟨by decide, by decide⟩ s0 ⟨by decide, rfl⟩ rfl rfl (Nat.le_of_ble_eq_true rfl) (c_X9_trace ) (fun v m1 h1 => ?_)
  obtain ⟨hR1, hz⟩ := lw_two z_trace f_pv hR h1
  obtain ⟨g1, g2, g3, g4, g5, g6, g7, g8, g9⟩ := rel_m hR1
  refine q_aload_n dL_law_993 rfl ?_
  refine q_cVl (as := []) dL_law_994 kmX10_trace kvX10_trace lm_RL_146 ⟨by decide, by decide⟩ s44 ⟨by decide, rfl⟩ rfl rfl (Nat.le_of_ble_eq_true rfl) (c_X10_trace ) (fun w m2 h2 => ?_)
  obtain ⟨e, hR2⟩ := hz w m2 h2
  refine q_lcmp dL_law_997 ?_
  exact q_if_eq (tgt := 1003) dL_law_998 (by decide) (fun _ => lw_next hL i0 iL (hn m2 hR2)) (fun c => absurd (by rw [e]; simp) c)

