/-! THE LAW: its loop -/
theorem law_loop {L : Nat} {xs : Nat → Int32} (hL : L ≤ 320) : ∀ (k : Nat) (K : Int) (m : Mem), 0 ≤ K → ((L : Int) - 5 * K).toNat ≤ k → RelX K m m → lawH L xs (5 * K) m := by
  intro k
  induction k with
  | zero =>
    intro K m h0 hk hR
    unfold lawH
    refine q_iload_n dL_law_18 rfl ?_
    refine q_aload_n dL_law_19 rfl ?_
    refine q_slen (by omega) dL_law_20 ?_
    refine q_iconst dL_law_21 (by decide) ?_
    refine q_isub dL_law_22 (by unfold inR; omega) ?_
    refine q_icmp_gt (tgt := 1009) dL_law_23 (by decide) (fun _ => ?_) (fun c => by omega)
    refine q_iconst dL_law_1009 (by decide) ?_
    exact q_zret dL_law_1010 rfl (by decide) ⟨_, rfl, rfl, rfl⟩
  | succ k ih =>
    intro K m h0 hk hR
    unfold lawH
    refine q_iload_n dL_law_18 rfl ?_
    refine q_aload_n dL_law_19 rfl ?_
    refine q_slen (by omega) dL_law_20 ?_
    refine q_iconst dL_law_21 (by decide) ?_
    refine q_isub dL_law_22 (by unfold inR; omega) ?_
    refine q_icmp_gt (tgt := 1009) dL_law_23 (by decide) (fun _ => ?_) (fun c => ?_)
    · refine q_iconst dL_law_1009 (by decide) ?_
      exact q_zret dL_law_1010 rfl (by decide) ⟨_, rfl, rfl, rfl⟩
    · have i0 : 0 ≤ 5 * K := by omega
      have iL : 5 * K + 5 ≤ (L : Int) := by omega
      have hK : K ≤ 1000 := by omega
      have hn : ∀ m2 : Mem, RelX (K + 1) m2 m2 → lawH L xs (5 * K + 5) m2 := fun m2 h => by
        have e : 5 * K + 5 = 5 * (K + 1) := by omega
        rw [e]
        exact ih (K + 1) m2 (by omega) (by omega) h
      refine q_aload_n dL_law_26 rfl ?_
      refine q_iload_n dL_law_27 rfl ?_
      refine q_sld dL_law_28 (by omega) (by omega) ?_
      refine q_bipush dL_law_29 rfl (by decide) ?_
      refine q_and31 dL_law_31 ?_
      refine q_tsk (dt := 1003) [(0, 176), (1, 199), (2, 212), (3, 225), (4, 258), (5, 291), (6, 324), (7, 347), (8, 380), (9, 403), (10, 436), (11, 459), (12, 482), (13, 495), (14, 508), (15, 531), (16, 554), (17, 577), (18, 600), (19, 633), (20, 656), (21, 669), (22, 692), (23, 735), (24, 778), (25, 831), (26, 844), (27, 887), (28, 920), (29, 943), (30, 966), (31, 989)] dL_law_32 rfl rfl (by decide) (by decide) ?_ ?_
      · refine List.forall_mem_cons.mpr ⟨fun _ => lw_type hL i0 iL hK hR hn, List.forall_mem_cons.mpr ⟨fun _ => lw_clear hL i0 iL hK hR hn, List.forall_mem_cons.mpr ⟨fun _ => lw_house hL i0 iL hK hR hn, List.forall_mem_cons.mpr ⟨fun _ => lw_noise hL i0 iL hK hR hn, List.forall_mem_cons.mpr ⟨fun _ => lw_sheet hL i0 iL hK hR hn, List.forall_mem_cons.mpr ⟨fun _ => lw_room hL i0 iL hK hR hn, List.forall_mem_cons.mpr ⟨fun _ => lw_onCell hL i0 iL hK hR hn, List.forall_mem_cons.mpr ⟨fun _ => lw_loud hL i0 iL hK hR hn, List.forall_mem_cons.mpr ⟨fun _ => lw_now hL i0 iL hK hR hn, List.forall_mem_cons.mpr ⟨fun _ => lw_lay hL i0 iL hK hR hn, List.forall_mem_cons.mpr ⟨fun _ => lw_lift hL i0 iL hK hR hn, List.forall_mem_cons.mpr ⟨fun _ => lw_turn hL i0 iL hK hR hn, List.forall_mem_cons.mpr ⟨fun _ => lw_hour hL i0 iL hK hR hn, List.forall_mem_cons.mpr ⟨fun _ => lw_undo hL i0 iL hK hR hn, List.forall_mem_cons.mpr ⟨fun _ => lw_waked hL i0 iL hK hR hn, List.forall_mem_cons.mpr ⟨fun _ => lw_through hL i0 iL hK hR hn, List.forall_mem_cons.mpr ⟨fun _ => lw_toBuy hL i0 iL hK hR hn, List.forall_mem_cons.mpr ⟨fun _ => lw_gain hL i0 iL hK hR hn, List.forall_mem_cons.mpr ⟨fun _ => lw_hear hL i0 iL hK hR hn, List.forall_mem_cons.mpr ⟨fun _ => lw_forget hL i0 iL hK hR hn, List.forall_mem_cons.mpr ⟨fun _ => lw_sources hL i0 iL hK hR hn, List.forall_mem_cons.mpr ⟨fun _ => lw_strengths hL i0 iL hK hR hn, List.forall_mem_cons.mpr ⟨fun _ => lw_hired hL i0 iL hK hR hn, List.forall_mem_cons.mpr ⟨fun _ => lw_way hL i0 iL hK hR hn, List.forall_mem_cons.mpr ⟨fun _ => lw_tap hL i0 iL hK hR hn, List.forall_mem_cons.mpr ⟨fun _ => lw_mayBe hL i0 iL hK hR hn, List.forall_mem_cons.mpr ⟨fun _ => lw_odds hL i0 iL hK hR hn, List.forall_mem_cons.mpr ⟨fun _ => lw_rate hL i0 iL hK hR hn, List.forall_mem_cons.mpr ⟨fun _ => lw_keep hL i0 iL hK hR hn, List.forall_mem_cons.mpr ⟨fun _ => lw_back hL i0 iL hK hR hn, List.forall_mem_cons.mpr ⟨fun _ => lw_count hL i0 iL hK hR hn, List.forall_mem_cons.mpr ⟨fun _ => lw_trace hL i0 iL hK hR hn, fun _ h => nomatch h⟩⟩⟩⟩⟩⟩⟩⟩⟩⟩⟩⟩⟩⟩⟩⟩⟩⟩⟩⟩⟩⟩⟩⟩⟩⟩⟩⟩⟩⟩⟩⟩
      · intro c; omega

