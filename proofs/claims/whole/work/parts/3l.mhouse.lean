/-! THE MODEL'S TEXT: fall, yard, items, house -/
theorem c_X10_readFall {m0 : Mem} {i : Int} {P : PS} (hq : nxQ m0) (h25 : m0 44 25 = 0) (hs : sdP m0 P) (hk : psOK i P) : Tot mX10_readFall 0 0 [vR 44] SH m0 (Pn SH (itO m0 102 (mayP 102 i P) P)) := by
  obtain ⟨⟨y0, y1, y2, y3⟩, ⟨n1, n2, n3⟩, r1, r2, r3⟩ := hs
  have hmay : mayP 102 i P ↔ P.ft = 0 := by unfold mayP; omega
  refine v_X10_readFall ⟨fun q => ⟨hq, fun m2 h2 => ?_⟩, fun q => ⟨hq, fun ms h2 => ⟨fun z => ?_, fun z => ?_⟩⟩⟩
  · have := it_no (c := 102) (may := mayP 102 i P) (P := P) hq (by rw [hmay]; omega) h2
    exact ⟨fun w => absurd w this.2, fun _ => this.1⟩
  · have hmy : mayP 102 i P := by rw [hmay]; omega
    obtain ⟨hnx, e25, ho⟩ := it_beg (c := 102) (cells := P.w * P.h) (off := 2) (N := 1) (row := 55) hq h25 h2
    have htx : txM ms := by
      unfold txM
      rw [hnx.2 20 (by decide) (by decide) (by decide) (by decide), hnx.1.at 54]
      exact hq.1
    have hr : (55 : Nat) ≠ 44 ∧ (55 : Nat) ≠ 54 := by decide
    refine ⟨fo_nxQ hr htx ho, by decide, by decide, fun v1 m1 h1 => ?_⟩
    obtain ⟨o1, -⟩ := fo_step hr (by decide) ho (by decide) (by decide) (fun _ f _ => by simp [loF]) (by simp [hiF]) h1
    have hstop : ∀ (b : Int) (mr : Mem), ((b = 1 ∧ m1 44 23 = 3) ∨ (b = 0 ∧ m1 44 23 ≠ 3)) → muP m1 b mr → ∀ m' : Mem, m' = mset mr 44 27 1 → itO m0 102 (mayP 102 i P) P m' := by
      intro b mr hb hp m' e'
      have hro := fo_stop hr o1 hb hp
      refine it_fin (by decide) hnx hro hmy rfl (by decide) (by rw [e']; exact Fr.rf.set (by decide)) (fun k hk => by rw [e', mset_at, if_neg (by omega)]) (fun g hg => ?_)
      have x : ∀ k : Nat, (25 < k) → k ≠ 27 → m' 44 k = m0 44 k := fun k hk hk2 => by rw [e', mset_at, if_neg (by omega), hro.2.1.2 k (by omega), hnx.2 k (by omega) (by omega) (by omega) (by omega)]
      have xo : ∀ j : Nat, j ≠ 44 → j ≠ 55 → m' j = m0 j := fun j h1 h2 => by rw [e', mset_ne j h1, hro.2.1.1 j (by simp; omega), hnx.1 j (by simp; omega)]
      have xr : m' 55 = mr 55 := by rw [e', mset_ne 55 (by decide)]
      have xold : ∀ e : Nat, e ≠ 2 → m' 55 e = m0 55 e := fun e he => by rw [xr, hro.2.2.1 e (by omega), hnx.1.at 55]
      have hg0 : g 0 = mr 55 2 := hg 0 (by decide)
      rw [show ent 102 g P = mkP P.w P.h (g 0) 1 P.nn P.ns P.nr P.N P.S P.R from by unfold ent; rw [if_neg (by decide), if_pos rfl]]
      exact ⟨⟨by rw [xold 0 (by decide)]; exact y0, by rw [xold 1 (by decide)]; exact y1, by rw [xr]; exact hg0.symm, by rw [e', mset_eq]; rfl⟩, ⟨by rw [x 28 (by decide) (by decide)]; exact n1, by rw [x 30 (by decide) (by decide)]; exact n2, by rw [x 32 (by decide) (by decide)]; exact n3⟩, by rw [xo 56 (by decide) (by decide)]; exact r1, by rw [xo 57 (by decide) (by decide)]; exact r2, by rw [xo 58 (by decide) (by decide)]; exact r3⟩
    exact ⟨fun w => ⟨fo_nxQ hr htx o1, fun mr hp => hstop 0 mr (Or.inr ⟨rfl, w⟩) hp⟩, fun w => ⟨fo_nxQ hr htx o1, fun mr hp => hstop 1 mr (Or.inl ⟨rfl, w⟩) hp⟩⟩
  · exact absurd (it_beg (c := 102) (cells := P.w * P.h) (off := 2) (N := 1) (row := 55) hq h25 h2).2.1 z
theorem c_X10_readYard {m0 : Mem} {i b : Int} {P : PS} (hq : nxQ m0) (h25 : m0 44 25 = 0) (hs : sdP m0 P) (hb : (b = 1 ∧ i = 0) ∨ (b = 0 ∧ i ≠ 0)) : Tot mX10_readYard 0 0 [vR 44, vI b] SH m0 (Pn SH (itO m0 103 (mayP 103 i P) P)) := by
  obtain ⟨⟨y0, y1, y2, y3⟩, ⟨n1, n2, n3⟩, r1, r2, r3⟩ := hs
  have hmay : mayP 103 i P ↔ i = 0 := by unfold mayP; omega
  refine v_X10_readYard ⟨hq, fun ms h2 => ?_⟩
  rcases hb with ⟨e, hi⟩ | ⟨e, hi⟩
  · subst e
    have hmy : mayP 103 i P := by rw [hmay]; omega
    obtain ⟨hnx, e25, ho⟩ := it_beg (c := 103) (cells := P.w * P.h) (off := 0) (N := 2) (row := 55) hq h25 h2
    refine ⟨fun _ => ?_, fun z => absurd e25 z⟩
    have htx : txM ms := by
      unfold txM
      rw [hnx.2 20 (by decide) (by decide) (by decide) (by decide), hnx.1.at 54]
      exact hq.1
    have hr : (55 : Nat) ≠ 44 ∧ (55 : Nat) ≠ 54 := by decide
    refine ⟨fo_nxQ hr htx ho, by decide, by decide, fun v1 m1 h1 => ?_⟩
    obtain ⟨o1, -⟩ := fo_step hr (by decide) ho (by decide) (by decide) (fun _ f _ => by simp [loF]) (by simp [hiF]) h1
    refine ⟨fo_nxQ hr htx o1, by decide, by decide, fun v2 m2 h2 => ?_⟩
    obtain ⟨o2, -⟩ := fo_step hr (by decide) o1 (by decide) (by decide) (fun _ f _ => by simp [loF]) (by simp [hiF]) h2
    have hstop : ∀ (b : Int) (mr : Mem), ((b = 1 ∧ m2 44 23 = 3) ∨ (b = 0 ∧ m2 44 23 ≠ 3)) → muP m2 b mr → itO m0 103 (mayP 103 i P) P mr := by
      intro b mr hb hp
      have hro := fo_stop hr o2 hb hp
      refine it_fin (by decide) hnx hro hmy rfl (by decide) Fr.rf (fun k hk => rfl) (fun g hg => ?_)
      have x : ∀ k : Nat, (25 < k) → mr 44 k = m0 44 k := fun k hk => by rw [hro.2.1.2 k (by omega), hnx.2 k (by omega) (by omega) (by omega) (by omega)]
      have xo : ∀ j : Nat, j ≠ 44 → j ≠ 55 → mr j = m0 j := fun j h1 h2 => by rw [hro.2.1.1 j (by simp; omega), hnx.1 j (by simp; omega)]
      have xold : mr 55 2 = m0 55 2 := by rw [hro.2.2.1 2 (by omega), hnx.1.at 55]
      have hg0 : g 0 = mr 55 0 := hg 0 (by decide)
      have hg1 : g 1 = mr 55 1 := hg 1 (by decide)
      rw [show ent 103 g P = mkP (g 0) (g 1) P.fa P.ft P.nn P.ns P.nr P.N P.S P.R from by unfold ent; rw [if_pos rfl]]
      exact ⟨⟨hg0.symm, hg1.symm, by rw [xold]; exact y2, by rw [x 27 (by decide)]; exact y3⟩, ⟨by rw [x 28 (by decide)]; exact n1, by rw [x 30 (by decide)]; exact n2, by rw [x 32 (by decide)]; exact n3⟩, by rw [xo 56 (by decide) (by decide)]; exact r1, by rw [xo 57 (by decide) (by decide)]; exact r2, by rw [xo 58 (by decide) (by decide)]; exact r3⟩
    exact ⟨fun w => ⟨fo_nxQ hr htx o2, fun mr hp => hstop 0 mr (Or.inr ⟨rfl, w⟩) hp⟩, fun w => ⟨fo_nxQ hr htx o2, fun mr hp => hstop 1 mr (Or.inl ⟨rfl, w⟩) hp⟩⟩
  · subst e
    have := it_no (c := 103) (may := mayP 103 i P) (P := P) hq (by rw [hmay]; exact hi) h2
    exact ⟨fun w => absurd w this.2, fun _ => this.1⟩
set_option maxRecDepth 20000 in
theorem v_X10_readItem {i : Int} {Q0 : PS} {b : Int} {P : Mem → Prop} {mem : Mem}  (H : (¬ (mem 44 23) = 1 → (0 = 102 → (nxQ mem) ∧ ((mem 44 25 = 0) ∧ ((sdP mem Q0) ∧ ((psOK i Q0) ∧ (∀ m5 : Mem, itO mem 102 (mayP 102 i Q0) Q0 m5 → (P m5)))))) ∧ (0 = 103 → (nxQ mem) ∧ ((mem 44 25 = 0) ∧ ((sdP mem Q0) ∧ (((b = 1 ∧ i = 0) ∨ (b = 0 ∧ i ≠ 0)) ∧ (∀ m10 : Mem, itO mem 103 (mayP 103 i Q0) Q0 m10 → (P m10)))))) ∧ (0 = 110 → (nxQ mem) ∧ ((mem 44 25 = 0) ∧ ((sdP mem Q0) ∧ ((psOK i Q0) ∧ (∀ m15 : Mem, itO mem 110 (mayP 110 i Q0) Q0 m15 → (P m15)))))) ∧ (0 = 114 → (nxQ mem) ∧ ((mem 44 25 = 0) ∧ ((sdP mem Q0) ∧ ((psOK i Q0) ∧ (∀ m20 : Mem, itO mem 114 (mayP 114 i Q0) Q0 m20 → (P m20)))))) ∧ (0 = 115 → (nxQ mem) ∧ ((mem 44 25 = 0) ∧ ((sdP mem Q0) ∧ ((psOK i Q0) ∧ (∀ m25 : Mem, itO mem 115 (mayP 115 i Q0) Q0 m25 → (P m25)))))) ∧ (¬ 0 = 102 ∧ ¬ 0 = 103 ∧ ¬ 0 = 110 ∧ ¬ 0 = 114 ∧ ¬ 0 = 115 → ∀ m26 : Mem, m26 = (mset mem 44 25 1) → (P m26))) ∧ ((mem 44 23) = 1 → ((mem 44 24) = 102 → (nxQ mem) ∧ ((mem 44 25 = 0) ∧ ((sdP mem Q0) ∧ ((psOK i Q0) ∧ (∀ m31 : Mem, itO mem 102 (mayP 102 i Q0) Q0 m31 → (P m31)))))) ∧ ((mem 44 24) = 103 → (nxQ mem) ∧ ((mem 44 25 = 0) ∧ ((sdP mem Q0) ∧ (((b = 1 ∧ i = 0) ∨ (b = 0 ∧ i ≠ 0)) ∧ (∀ m36 : Mem, itO mem 103 (mayP 103 i Q0) Q0 m36 → (P m36)))))) ∧ ((mem 44 24) = 110 → (nxQ mem) ∧ ((mem 44 25 = 0) ∧ ((sdP mem Q0) ∧ ((psOK i Q0) ∧ (∀ m41 : Mem, itO mem 110 (mayP 110 i Q0) Q0 m41 → (P m41)))))) ∧ ((mem 44 24) = 114 → (nxQ mem) ∧ ((mem 44 25 = 0) ∧ ((sdP mem Q0) ∧ ((psOK i Q0) ∧ (∀ m46 : Mem, itO mem 114 (mayP 114 i Q0) Q0 m46 → (P m46)))))) ∧ ((mem 44 24) = 115 → (nxQ mem) ∧ ((mem 44 25 = 0) ∧ ((sdP mem Q0) ∧ ((psOK i Q0) ∧ (∀ m51 : Mem, itO mem 115 (mayP 115 i Q0) Q0 m51 → (P m51)))))) ∧ (¬ (mem 44 24) = 102 ∧ ¬ (mem 44 24) = 103 ∧ ¬ (mem 44 24) = 110 ∧ ¬ (mem 44 24) = 114 ∧ ¬ (mem 44 24) = 115 → ∀ m52 : Mem, m52 = (mset mem 44 25 1) → (P m52)))) : Tot mX10_readItem 0 0 [vR 44, vI b] SH mem (Pn SH P) := by
  refine Tot.of rfl (Nat.le_of_ble_eq_true rfl) (by simp [isJ]) (ls := [vR 44, vI b, vJ 0]) rfl ?_
  refine q_aload_n dX10_readItem_0 rfl ?_
  refine q_geti dX10_readItem_1 lf_RX10_110 s44 rfl ?_
  refine q_iconst dX10_readItem_4 (by decide) ?_
  refine q_icmp_ne (tgt := 15) dX10_readItem_5 (by decide) (fun c5 => ?_) (fun c5 => ?_)
  · have H := H.1 c5
    refine q_iconst dX10_readItem_15 (by decide) ?_
    refine q_istore_n dX10_readItem_16 (by decide) rfl ?_
    refine q_iload_n dX10_readItem_17 rfl ?_
    refine q_tsk (dt := 124) [(102, 96), (103, 88), (104, 124), (105, 124), (106, 124), (107, 124), (108, 124), (109, 124), (110, 103), (111, 124), (112, 124), (113, 124), (114, 117), (115, 110)] dX10_readItem_18 rfl rfl (by decide) (by decide) ?_ ?_
    · refine List.forall_mem_cons.mpr ⟨fun ha => ?_, List.forall_mem_cons.mpr ⟨fun ha => ?_, List.forall_mem_cons.mpr ⟨fun ha => ?_, List.forall_mem_cons.mpr ⟨fun ha => ?_, List.forall_mem_cons.mpr ⟨fun ha => ?_, List.forall_mem_cons.mpr ⟨fun ha => ?_, List.forall_mem_cons.mpr ⟨fun ha => ?_, List.forall_mem_cons.mpr ⟨fun ha => ?_, List.forall_mem_cons.mpr ⟨fun ha => ?_, List.forall_mem_cons.mpr ⟨fun ha => ?_, List.forall_mem_cons.mpr ⟨fun ha => ?_, List.forall_mem_cons.mpr ⟨fun ha => ?_, List.forall_mem_cons.mpr ⟨fun ha => ?_, List.forall_mem_cons.mpr ⟨fun ha => ?_, fun _ h => nomatch h⟩⟩⟩⟩⟩⟩⟩⟩⟩⟩⟩⟩⟩⟩
      · have H := H.1 (by simp only at ha; omega)
        refine q_aload_n dX10_readItem_96 rfl ?_
        obtain ⟨h1, H⟩ := H
        obtain ⟨h2, H⟩ := H
        obtain ⟨h3, H⟩ := H
        obtain ⟨h4, H⟩ := H
        refine q_cVn (as := []) dX10_readItem_97 kmX10_readFall kvX10_readFall lm_RX10_150 ⟨by decide, by decide⟩ s44 ⟨by decide, rfl⟩ rfl rfl (Nat.le_of_ble_eq_true rfl) (c_X10_readFall h1 h2 h3 h4) (fun m1 hq => ?_)
        have H := H m1 hq
        refine q_goto (tgt := 129) dX10_readItem_100 (by decide) ?_
        exact q_vret dX10_readItem_129 rfl ⟨rfl, rfl, H⟩
      · have H := H.2.1 (by simp only at ha; omega)
        refine q_aload_n dX10_readItem_88 rfl ?_
        refine q_iload_n dX10_readItem_89 rfl ?_
        obtain ⟨h6, H⟩ := H
        obtain ⟨h7, H⟩ := H
        obtain ⟨h8, H⟩ := H
        obtain ⟨h9, H⟩ := H
        refine q_cVn (as := [vI _]) dX10_readItem_90 kmX10_readYard kvX10_readYard lm_RX10_147 ⟨by decide, by decide⟩ s44 ⟨by decide, rfl⟩ rfl rfl (Nat.le_of_ble_eq_true rfl) (c_X10_readYard h6 h7 h8 h9) (fun m1 hq => ?_)
        have H := H m1 hq
        refine q_goto (tgt := 129) dX10_readItem_93 (by decide) ?_
        exact q_vret dX10_readItem_129 rfl ⟨rfl, rfl, H⟩
      · have H := H.2.2.2.2.2 (by simp only at ha; omega)
        refine q_aload_n dX10_readItem_124 rfl ?_
        refine q_iconst dX10_readItem_125 (by decide) ?_
        refine q_puti dX10_readItem_126 lf_RX10_116 s44 rfl (Or.inl rfl) (fun _ => by decide) ?_
        have H := H _ rfl
        exact q_vret dX10_readItem_129 rfl ⟨rfl, rfl, H⟩
      · have H := H.2.2.2.2.2 (by simp only at ha; omega)
        refine q_aload_n dX10_readItem_124 rfl ?_
        refine q_iconst dX10_readItem_125 (by decide) ?_
        refine q_puti dX10_readItem_126 lf_RX10_116 s44 rfl (Or.inl rfl) (fun _ => by decide) ?_
        have H := H _ rfl
        exact q_vret dX10_readItem_129 rfl ⟨rfl, rfl, H⟩
      · have H := H.2.2.2.2.2 (by simp only at ha; omega)
        refine q_aload_n dX10_readItem_124 rfl ?_
        refine q_iconst dX10_readItem_125 (by decide) ?_
        refine q_puti dX10_readItem_126 lf_RX10_116 s44 rfl (Or.inl rfl) (fun _ => by decide) ?_
        have H := H _ rfl
        exact q_vret dX10_readItem_129 rfl ⟨rfl, rfl, H⟩
      · have H := H.2.2.2.2.2 (by simp only at ha; omega)
        refine q_aload_n dX10_readItem_124 rfl ?_
        refine q_iconst dX10_readItem_125 (by decide) ?_
        refine q_puti dX10_readItem_126 lf_RX10_116 s44 rfl (Or.inl rfl) (fun _ => by decide) ?_
        have H := H _ rfl
        exact q_vret dX10_readItem_129 rfl ⟨rfl, rfl, H⟩
      · have H := H.2.2.2.2.2 (by simp only at ha; omega)
        refine q_aload_n dX10_readItem_124 rfl ?_
        refine q_iconst dX10_readItem_125 (by decide) ?_
        refine q_puti dX10_readItem_126 lf_RX10_116 s44 rfl (Or.inl rfl) (fun _ => by decide) ?_
        have H := H _ rfl
        exact q_vret dX10_readItem_129 rfl ⟨rfl, rfl, H⟩
      · have H := H.2.2.2.2.2 (by simp only at ha; omega)
        refine q_aload_n dX10_readItem_124 rfl ?_
        refine q_iconst dX10_readItem_125 (by decide) ?_
        refine q_puti dX10_readItem_126 lf_RX10_116 s44 rfl (Or.inl rfl) (fun _ => by decide) ?_
        have H := H _ rfl
        exact q_vret dX10_readItem_129 rfl ⟨rfl, rfl, H⟩
      · have H := H.2.2.1 (by simp only at ha; omega)
        refine q_aload_n dX10_readItem_103 rfl ?_
        obtain ⟨h11, H⟩ := H
        obtain ⟨h12, H⟩ := H
        obtain ⟨h13, H⟩ := H
        obtain ⟨h14, H⟩ := H
        refine q_cVn (as := []) dX10_readItem_104 kmX10_readNoise kvX10_readNoise lm_RX10_153 ⟨by decide, by decide⟩ s44 ⟨by decide, rfl⟩ rfl rfl (Nat.le_of_ble_eq_true rfl) (c_X10_readNoise h11 h12 h13 h14) (fun m1 hq => ?_)
        have H := H m1 hq
        refine q_goto (tgt := 129) dX10_readItem_107 (by decide) ?_
        exact q_vret dX10_readItem_129 rfl ⟨rfl, rfl, H⟩
      · have H := H.2.2.2.2.2 (by simp only at ha; omega)
        refine q_aload_n dX10_readItem_124 rfl ?_
        refine q_iconst dX10_readItem_125 (by decide) ?_
        refine q_puti dX10_readItem_126 lf_RX10_116 s44 rfl (Or.inl rfl) (fun _ => by decide) ?_
        have H := H _ rfl
        exact q_vret dX10_readItem_129 rfl ⟨rfl, rfl, H⟩
      · have H := H.2.2.2.2.2 (by simp only at ha; omega)
        refine q_aload_n dX10_readItem_124 rfl ?_
        refine q_iconst dX10_readItem_125 (by decide) ?_
        refine q_puti dX10_readItem_126 lf_RX10_116 s44 rfl (Or.inl rfl) (fun _ => by decide) ?_
        have H := H _ rfl
        exact q_vret dX10_readItem_129 rfl ⟨rfl, rfl, H⟩
      · have H := H.2.2.2.2.2 (by simp only at ha; omega)
        refine q_aload_n dX10_readItem_124 rfl ?_
        refine q_iconst dX10_readItem_125 (by decide) ?_
        refine q_puti dX10_readItem_126 lf_RX10_116 s44 rfl (Or.inl rfl) (fun _ => by decide) ?_
        have H := H _ rfl
        exact q_vret dX10_readItem_129 rfl ⟨rfl, rfl, H⟩
      · have H := H.2.2.2.1 (by simp only at ha; omega)
        refine q_aload_n dX10_readItem_117 rfl ?_
        obtain ⟨h16, H⟩ := H
        obtain ⟨h17, H⟩ := H
        obtain ⟨h18, H⟩ := H
        obtain ⟨h19, H⟩ := H
        refine q_cVn (as := []) dX10_readItem_118 kmX10_readRoom kvX10_readRoom lm_RX10_159 ⟨by decide, by decide⟩ s44 ⟨by decide, rfl⟩ rfl rfl (Nat.le_of_ble_eq_true rfl) (c_X10_readRoom h16 h17 h18 h19) (fun m1 hq => ?_)
        have H := H m1 hq
        refine q_goto (tgt := 129) dX10_readItem_121 (by decide) ?_
        exact q_vret dX10_readItem_129 rfl ⟨rfl, rfl, H⟩
      · have H := H.2.2.2.2.1 (by simp only at ha; omega)
        refine q_aload_n dX10_readItem_110 rfl ?_
        obtain ⟨h21, H⟩ := H
        obtain ⟨h22, H⟩ := H
        obtain ⟨h23, H⟩ := H
        obtain ⟨h24, H⟩ := H
        refine q_cVn (as := []) dX10_readItem_111 kmX10_readSheet kvX10_readSheet lm_RX10_156 ⟨by decide, by decide⟩ s44 ⟨by decide, rfl⟩ rfl rfl (Nat.le_of_ble_eq_true rfl) (c_X10_readSheet h21 h22 h23 h24) (fun m1 hq => ?_)
        have H := H m1 hq
        refine q_goto (tgt := 129) dX10_readItem_114 (by decide) ?_
        exact q_vret dX10_readItem_129 rfl ⟨rfl, rfl, H⟩
    · intro ho
      have H := H.2.2.2.2.2 (by omega)
      refine q_aload_n dX10_readItem_124 rfl ?_
      refine q_iconst dX10_readItem_125 (by decide) ?_
      refine q_puti dX10_readItem_126 lf_RX10_116 s44 rfl (Or.inl rfl) (fun _ => by decide) ?_
      have H := H _ rfl
      exact q_vret dX10_readItem_129 rfl ⟨rfl, rfl, H⟩
  · have H := H.2 c5
    refine q_aload_n dX10_readItem_8 rfl ?_
    refine q_geti dX10_readItem_9 lf_RX10_113 s44 rfl ?_
    refine q_goto (tgt := 16) dX10_readItem_12 (by decide) ?_
    refine q_istore_n dX10_readItem_16 (by decide) rfl ?_
    refine q_iload_n dX10_readItem_17 rfl ?_
    refine q_tsk (dt := 124) [(102, 96), (103, 88), (104, 124), (105, 124), (106, 124), (107, 124), (108, 124), (109, 124), (110, 103), (111, 124), (112, 124), (113, 124), (114, 117), (115, 110)] dX10_readItem_18 rfl rfl (by decide) (by decide) ?_ ?_
    · refine List.forall_mem_cons.mpr ⟨fun ha => ?_, List.forall_mem_cons.mpr ⟨fun ha => ?_, List.forall_mem_cons.mpr ⟨fun ha => ?_, List.forall_mem_cons.mpr ⟨fun ha => ?_, List.forall_mem_cons.mpr ⟨fun ha => ?_, List.forall_mem_cons.mpr ⟨fun ha => ?_, List.forall_mem_cons.mpr ⟨fun ha => ?_, List.forall_mem_cons.mpr ⟨fun ha => ?_, List.forall_mem_cons.mpr ⟨fun ha => ?_, List.forall_mem_cons.mpr ⟨fun ha => ?_, List.forall_mem_cons.mpr ⟨fun ha => ?_, List.forall_mem_cons.mpr ⟨fun ha => ?_, List.forall_mem_cons.mpr ⟨fun ha => ?_, List.forall_mem_cons.mpr ⟨fun ha => ?_, fun _ h => nomatch h⟩⟩⟩⟩⟩⟩⟩⟩⟩⟩⟩⟩⟩⟩
      · have H := H.1 (by simp only at ha; omega)
        refine q_aload_n dX10_readItem_96 rfl ?_
        obtain ⟨h27, H⟩ := H
        obtain ⟨h28, H⟩ := H
        obtain ⟨h29, H⟩ := H
        obtain ⟨h30, H⟩ := H
        refine q_cVn (as := []) dX10_readItem_97 kmX10_readFall kvX10_readFall lm_RX10_150 ⟨by decide, by decide⟩ s44 ⟨by decide, rfl⟩ rfl rfl (Nat.le_of_ble_eq_true rfl) (c_X10_readFall h27 h28 h29 h30) (fun m1 hq => ?_)
        have H := H m1 hq
        refine q_goto (tgt := 129) dX10_readItem_100 (by decide) ?_
        exact q_vret dX10_readItem_129 rfl ⟨rfl, rfl, H⟩
      · have H := H.2.1 (by simp only at ha; omega)
        refine q_aload_n dX10_readItem_88 rfl ?_
        refine q_iload_n dX10_readItem_89 rfl ?_
        obtain ⟨h32, H⟩ := H
        obtain ⟨h33, H⟩ := H
        obtain ⟨h34, H⟩ := H
        obtain ⟨h35, H⟩ := H
        refine q_cVn (as := [vI _]) dX10_readItem_90 kmX10_readYard kvX10_readYard lm_RX10_147 ⟨by decide, by decide⟩ s44 ⟨by decide, rfl⟩ rfl rfl (Nat.le_of_ble_eq_true rfl) (c_X10_readYard h32 h33 h34 h35) (fun m1 hq => ?_)
        have H := H m1 hq
        refine q_goto (tgt := 129) dX10_readItem_93 (by decide) ?_
        exact q_vret dX10_readItem_129 rfl ⟨rfl, rfl, H⟩
      · have H := H.2.2.2.2.2 (by simp only at ha; omega)
        refine q_aload_n dX10_readItem_124 rfl ?_
        refine q_iconst dX10_readItem_125 (by decide) ?_
        refine q_puti dX10_readItem_126 lf_RX10_116 s44 rfl (Or.inl rfl) (fun _ => by decide) ?_
        have H := H _ rfl
        exact q_vret dX10_readItem_129 rfl ⟨rfl, rfl, H⟩
      · have H := H.2.2.2.2.2 (by simp only at ha; omega)
        refine q_aload_n dX10_readItem_124 rfl ?_
        refine q_iconst dX10_readItem_125 (by decide) ?_
        refine q_puti dX10_readItem_126 lf_RX10_116 s44 rfl (Or.inl rfl) (fun _ => by decide) ?_
        have H := H _ rfl
        exact q_vret dX10_readItem_129 rfl ⟨rfl, rfl, H⟩
      · have H := H.2.2.2.2.2 (by simp only at ha; omega)
        refine q_aload_n dX10_readItem_124 rfl ?_
        refine q_iconst dX10_readItem_125 (by decide) ?_
        refine q_puti dX10_readItem_126 lf_RX10_116 s44 rfl (Or.inl rfl) (fun _ => by decide) ?_
        have H := H _ rfl
        exact q_vret dX10_readItem_129 rfl ⟨rfl, rfl, H⟩
      · have H := H.2.2.2.2.2 (by simp only at ha; omega)
        refine q_aload_n dX10_readItem_124 rfl ?_
        refine q_iconst dX10_readItem_125 (by decide) ?_
        refine q_puti dX10_readItem_126 lf_RX10_116 s44 rfl (Or.inl rfl) (fun _ => by decide) ?_
        have H := H _ rfl
        exact q_vret dX10_readItem_129 rfl ⟨rfl, rfl, H⟩
      · have H := H.2.2.2.2.2 (by simp only at ha; omega)
        refine q_aload_n dX10_readItem_124 rfl ?_
        refine q_iconst dX10_readItem_125 (by decide) ?_
        refine q_puti dX10_readItem_126 lf_RX10_116 s44 rfl (Or.inl rfl) (fun _ => by decide) ?_
        have H := H _ rfl
        exact q_vret dX10_readItem_129 rfl ⟨rfl, rfl, H⟩
      · have H := H.2.2.2.2.2 (by simp only at ha; omega)
        refine q_aload_n dX10_readItem_124 rfl ?_
        refine q_iconst dX10_readItem_125 (by decide) ?_
        refine q_puti dX10_readItem_126 lf_RX10_116 s44 rfl (Or.inl rfl) (fun _ => by decide) ?_
        have H := H _ rfl
        exact q_vret dX10_readItem_129 rfl ⟨rfl, rfl, H⟩
      · have H := H.2.2.1 (by simp only at ha; omega)
        refine q_aload_n dX10_readItem_103 rfl ?_
        obtain ⟨h37, H⟩ := H
        obtain ⟨h38, H⟩ := H
        obtain ⟨h39, H⟩ := H
        obtain ⟨h40, H⟩ := H
        refine q_cVn (as := []) dX10_readItem_104 kmX10_readNoise kvX10_readNoise lm_RX10_153 ⟨by decide, by decide⟩ s44 ⟨by decide, rfl⟩ rfl rfl (Nat.le_of_ble_eq_true rfl) (c_X10_readNoise h37 h38 h39 h40) (fun m1 hq => ?_)
        have H := H m1 hq
        refine q_goto (tgt := 129) dX10_readItem_107 (by decide) ?_
        exact q_vret dX10_readItem_129 rfl ⟨rfl, rfl, H⟩
      · have H := H.2.2.2.2.2 (by simp only at ha; omega)
        refine q_aload_n dX10_readItem_124 rfl ?_
        refine q_iconst dX10_readItem_125 (by decide) ?_
        refine q_puti dX10_readItem_126 lf_RX10_116 s44 rfl (Or.inl rfl) (fun _ => by decide) ?_
        have H := H _ rfl
        exact q_vret dX10_readItem_129 rfl ⟨rfl, rfl, H⟩
      · have H := H.2.2.2.2.2 (by simp only at ha; omega)
        refine q_aload_n dX10_readItem_124 rfl ?_
        refine q_iconst dX10_readItem_125 (by decide) ?_
        refine q_puti dX10_readItem_126 lf_RX10_116 s44 rfl (Or.inl rfl) (fun _ => by decide) ?_
        have H := H _ rfl
        exact q_vret dX10_readItem_129 rfl ⟨rfl, rfl, H⟩
      · have H := H.2.2.2.2.2 (by simp only at ha; omega)
        refine q_aload_n dX10_readItem_124 rfl ?_
        refine q_iconst dX10_readItem_125 (by decide) ?_
        refine q_puti dX10_readItem_126 lf_RX10_116 s44 rfl (Or.inl rfl) (fun _ => by decide) ?_
        have H := H _ rfl
        exact q_vret dX10_readItem_129 rfl ⟨rfl, rfl, H⟩
      · have H := H.2.2.2.1 (by simp only at ha; omega)
        refine q_aload_n dX10_readItem_117 rfl ?_
        obtain ⟨h42, H⟩ := H
        obtain ⟨h43, H⟩ := H
        obtain ⟨h44, H⟩ := H
        obtain ⟨h45, H⟩ := H
        refine q_cVn (as := []) dX10_readItem_118 kmX10_readRoom kvX10_readRoom lm_RX10_159 ⟨by decide, by decide⟩ s44 ⟨by decide, rfl⟩ rfl rfl (Nat.le_of_ble_eq_true rfl) (c_X10_readRoom h42 h43 h44 h45) (fun m1 hq => ?_)
        have H := H m1 hq
        refine q_goto (tgt := 129) dX10_readItem_121 (by decide) ?_
        exact q_vret dX10_readItem_129 rfl ⟨rfl, rfl, H⟩
      · have H := H.2.2.2.2.1 (by simp only at ha; omega)
        refine q_aload_n dX10_readItem_110 rfl ?_
        obtain ⟨h47, H⟩ := H
        obtain ⟨h48, H⟩ := H
        obtain ⟨h49, H⟩ := H
        obtain ⟨h50, H⟩ := H
        refine q_cVn (as := []) dX10_readItem_111 kmX10_readSheet kvX10_readSheet lm_RX10_156 ⟨by decide, by decide⟩ s44 ⟨by decide, rfl⟩ rfl rfl (Nat.le_of_ble_eq_true rfl) (c_X10_readSheet h47 h48 h49 h50) (fun m1 hq => ?_)
        have H := H m1 hq
        refine q_goto (tgt := 129) dX10_readItem_114 (by decide) ?_
        exact q_vret dX10_readItem_129 rfl ⟨rfl, rfl, H⟩
    · intro ho
      have H := H.2.2.2.2.2 (by omega)
      refine q_aload_n dX10_readItem_124 rfl ?_
      refine q_iconst dX10_readItem_125 (by decide) ?_
      refine q_puti dX10_readItem_126 lf_RX10_116 s44 rfl (Or.inl rfl) (fun _ => by decide) ?_
      have H := H _ rfl
      exact q_vret dX10_readItem_129 rfl ⟨rfl, rfl, H⟩


theorem it_may {m0 m : Mem} {c : Int} {may may' : Prop} {P : PS} (h : may ↔ may') (hi : itO m0 c may P m) : itO m0 c may' P m := by
  have e : may = may' := propext h
  rw [← e]
  exact hi
def irQ (m0 : Mem) (i : Int) (P : PS) (b : Int) : Prop := nxQ m0 ∧ m0 44 25 = 0 ∧ sdP m0 P ∧ psOK i P ∧ ((b = 1 ∧ i = 0) ∨ (b = 0 ∧ i ≠ 0))
def irP (m0 : Mem) (i : Int) (P : PS) (m : Mem) : Prop := ∀ K v : Int, tkE m0 K v → K ≠ 0 → itO m0 v (K = 1 ∧ mayP v i P) P m
theorem c_X10_readItem {m0 : Mem} {i b : Int} {P : PS} (hq : irQ m0 i P b) : Tot mX10_readItem 0 0 [vR 44, vI b] SH m0 (Pn SH (irP m0 i P)) := by
  obtain ⟨h1, h2, h3, h4, h5⟩ := hq
  have hbad : ∀ m : Mem, m = mset m0 44 25 1 → (∀ K v : Int, tkE m0 K v → K ≠ 0 → ¬ (K = 1 ∧ mayP v i P)) → irP m0 i P m := by
    intro m e hn K v hk hK0
    have x : ∀ j : Nat, j ≠ 25 → m 44 j = m0 44 j := fun j hj => by rw [e, mset_at, if_neg (by omega)]
    exact ⟨by rw [x 21 (by decide)]; exact h1.2, by rw [e]; exact Fr.rf.set (by decide), fun k hk => x k (by omega), Or.inl ⟨by rw [e, mset_eq], Or.inl ⟨hn K v hk hK0, x 22 (by decide)⟩⟩⟩
  have hgo : ∀ (c : Int) (m : Mem), m0 44 23 = 1 → m0 44 24 = c → itO m0 c (mayP c i P) P m → irP m0 i P m := by
    intro c m e1 e2 hi K v hk hK0
    have : K = 1 ∧ v = c := by unfold tkE at hk; omega
    rw [this.2, this.1]
    exact it_may ⟨fun h => ⟨rfl, h⟩, fun h => h.2⟩ hi
  refine v_X10_readItem (i := i) (Q0 := P) ⟨fun q => ⟨fun z => absurd z (by decide), fun z => absurd z (by decide), fun z => absurd z (by decide), fun z => absurd z (by decide), fun z => absurd z (by decide), fun _ m e => hbad m e (fun K v hk hK0 hm => ?_)⟩, fun q => ⟨fun z => ⟨h1, h2, h3, h4, fun m h => hgo 102 m q z h⟩, fun z => ⟨h1, h2, h3, h5, fun m h => hgo 103 m q z h⟩, fun z => ⟨h1, h2, h3, h4, fun m h => hgo 110 m q z h⟩, fun z => ⟨h1, h2, h3, h4, fun m h => hgo 114 m q z h⟩, fun z => ⟨h1, h2, h3, h4, fun m h => hgo 115 m q z h⟩, fun z m e => hbad m e (fun K v hk hK0 hm => ?_)⟩⟩
  · have hm2 := hm.2
    unfold tkE isL at hk
    unfold mayP at hm2
    omega
  · have hm2 := hm.2
    unfold tkE isL at hk
    unfold mayP at hm2
    omega
def w_X10_house_57 (i : Int) (Q0 : PS)  (P : Int → Mem → Prop) (a1 : Int) (u2 : Vl) (mem : Mem) : Prop := WP mX10_house none 0 0 (Pr SH P) 57 [vR 44, vI a1, u2] [] SH mem
def w_X10_house_161 (i : Int) (Q0 : PS)  (P : Int → Mem → Prop) (a1 : Int) (a2 : Int) (mem : Mem) : Prop := WP mX10_house none 0 0 (Pr SH P) 161 [vR 44, vI a1, vI a2] [] SH mem
def w_X10_house_199 (i : Int) (Q0 : PS)  (P : Int → Mem → Prop) (a1 : Int) (a2 : Int) (mem : Mem) : Prop := WP mX10_house none 0 0 (Pr SH P) 199 [vR 44, vI a1, vI a2] [] SH mem
set_option maxRecDepth 20000 in
theorem v_X10_house_57 {i : Int} {Q0 : PS}  {P : Int → Mem → Prop} {a1 : Int} {u2 : Vl} {mem : Mem}  (H : ((mem 44 23) = 0 → ((mem 44 25) = 0 → ∀ m1 : Mem, m1 = (mset mem 44 0 (mem 55 0)) → (∀ m2 : Mem, m2 = (mset m1 44 1 (m1 55 1)) → (∀ m3 : Mem, m3 = (mset m2 44 2 (m2 55 2)) → (∀ m4 : Mem, m4 = (mset m3 44 3 (m3 44 28)) → (∀ m5 : Mem, m5 = (mset m4 44 5 (m4 44 30)) → (∀ m6 : Mem, m6 = (mset m5 44 7 (m5 44 32)) → (w_X10_house_161 i Q0 P a1 0 m6))))))) ∧ (¬ (mem 44 25) = 0 → (inR ((-10) - (mem 44 22))) ∧ (P ((-10) - (mem 44 22)) mem))) ∧ (¬ (mem 44 23) = 0 → (¬ (mem 44 25) = 0 → (inR ((-10) - (mem 44 22))) ∧ (P ((-10) - (mem 44 22)) mem)) ∧ ((mem 44 25) = 0 → (¬ a1 = 0 → (irQ mem i Q0 0) ∧ (∀ m10 : Mem, irP mem i Q0 m10 → ((inR (a1 + 1)) ∧ (w_X10_house_57 i Q0 P (a1 + 1) u2 m10)))) ∧ (a1 = 0 → (irQ mem i Q0 1) ∧ (∀ m13 : Mem, irP mem i Q0 m13 → ((inR (a1 + 1)) ∧ (w_X10_house_57 i Q0 P (a1 + 1) u2 m13))))))) : w_X10_house_57 i Q0 P a1 u2 mem := by
  unfold w_X10_house_57
  refine q_aload_n dX10_house_57 rfl ?_
  refine q_geti dX10_house_58 lf_RX10_110 s44 rfl ?_
  refine q_if_eq (tgt := 90) dX10_house_61 (by decide) (fun c61 => ?_) (fun c61 => ?_)
  · have H := H.1 c61
    refine q_aload_n dX10_house_90 rfl ?_
    refine q_geti dX10_house_91 lf_RX10_116 s44 rfl ?_
    refine q_if_eq (tgt := 105) dX10_house_94 (by decide) (fun c94 => ?_) (fun c94 => ?_)
    · have H := H.1 c94
      refine q_aload_n dX10_house_105 rfl ?_
      refine q_aload_n dX10_house_106 rfl ?_
      refine q_getr (r := 55) dX10_house_107 lf_RX10_51 s44 rfl rfl ?_
      refine q_iconst dX10_house_110 (by decide) ?_
      refine q_iald dX10_house_111 s55 (by decide) (by decide) ?_
      refine q_puti dX10_house_112 lf_RX10_7 s44 rfl (Or.inl rfl) fit_int ?_
      have H := H _ rfl
      refine q_aload_n dX10_house_115 rfl ?_
      refine q_aload_n dX10_house_116 rfl ?_
      refine q_getr (r := 55) dX10_house_117 lf_RX10_51 s44 rfl rfl ?_
      refine q_iconst dX10_house_120 (by decide) ?_
      refine q_iald dX10_house_121 s55 (by decide) (by decide) ?_
      refine q_puti dX10_house_122 lf_RX10_13 s44 rfl (Or.inl rfl) fit_int ?_
      have H := H _ rfl
      refine q_aload_n dX10_house_125 rfl ?_
      refine q_aload_n dX10_house_126 rfl ?_
      refine q_getr (r := 55) dX10_house_127 lf_RX10_51 s44 rfl rfl ?_
      refine q_iconst dX10_house_130 (by decide) ?_
      refine q_iald dX10_house_131 s55 (by decide) (by decide) ?_
      refine q_puti dX10_house_132 lf_RX10_16 s44 rfl (Or.inl rfl) fit_int ?_
      have H := H _ rfl
      refine q_aload_n dX10_house_135 rfl ?_
      refine q_aload_n dX10_house_136 rfl ?_
      refine q_geti dX10_house_137 lf_RX10_134 s44 rfl ?_
      refine q_puti dX10_house_140 lf_RX10_165 s44 rfl (Or.inl rfl) fit_int ?_
      have H := H _ rfl
      refine q_aload_n dX10_house_143 rfl ?_
      refine q_aload_n dX10_house_144 rfl ?_
      refine q_geti dX10_house_145 lf_RX10_141 s44 rfl ?_
      refine q_puti dX10_house_148 lf_RX10_94 s44 rfl (Or.inl rfl) fit_int ?_
      have H := H _ rfl
      refine q_aload_n dX10_house_151 rfl ?_
      refine q_aload_n dX10_house_152 rfl ?_
      refine q_geti dX10_house_153 lf_RX10_144 s44 rfl ?_
      refine q_puti dX10_house_156 lf_RX10_168 s44 rfl (Or.inl rfl) fit_int ?_
      have H := H _ rfl
      refine q_iconst dX10_house_159 (by decide) ?_
      refine q_istore_n dX10_house_160 (by decide) rfl ?_
      exact H
    · have H := H.2 c94
      refine q_bipush dX10_house_97 rfl (by decide) ?_
      refine q_aload_n dX10_house_99 rfl ?_
      refine q_geti dX10_house_100 lf_RX10_107 s44 rfl ?_
      obtain ⟨h7, H⟩ := H
      refine q_isub dX10_house_103 h7 ?_
      exact q_iret dX10_house_104 rfl ⟨_, rfl, rfl, H⟩
  · have H := H.2 c61
    refine q_aload_n dX10_house_64 rfl ?_
    refine q_geti dX10_house_65 lf_RX10_116 s44 rfl ?_
    refine q_if_ne (tgt := 90) dX10_house_68 (by decide) (fun c68 => ?_) (fun c68 => ?_)
    · have H := H.1 c68
      refine q_aload_n dX10_house_90 rfl ?_
      refine q_geti dX10_house_91 lf_RX10_116 s44 rfl ?_
      refine q_if_eq (tgt := 105) dX10_house_94 (by decide) (fun c => absurd c68 (by omega)) (fun _ => ?_)
      refine q_bipush dX10_house_97 rfl (by decide) ?_
      refine q_aload_n dX10_house_99 rfl ?_
      refine q_geti dX10_house_100 lf_RX10_107 s44 rfl ?_
      obtain ⟨h8, H⟩ := H
      refine q_isub dX10_house_103 h8 ?_
      exact q_iret dX10_house_104 rfl ⟨_, rfl, rfl, H⟩
    · have H := H.2 c68
      refine q_aload_n dX10_house_71 rfl ?_
      refine q_iload_n dX10_house_72 rfl ?_
      refine q_if_ne (tgt := 80) dX10_house_73 (by decide) (fun c73 => ?_) (fun c73 => ?_)
      · have H := H.1 c73
        refine q_iconst dX10_house_80 (by decide) ?_
        obtain ⟨h9, H⟩ := H
        refine q_cVn (as := [vI _]) dX10_house_81 kmX10_readItem kvX10_readItem lm_RX10_162 ⟨by decide, by decide⟩ s44 ⟨by decide, rfl⟩ rfl rfl (Nat.le_of_ble_eq_true rfl) (c_X10_readItem h9) (fun m1 hq => ?_)
        have H := H m1 hq
        obtain ⟨h11, H⟩ := H
        refine q_iinc dX10_house_84 rfl h11 rfl ?_
        refine q_goto (tgt := 57) dX10_house_87 (by decide) ?_
        exact H
      · have H := H.2 c73
        refine q_iconst dX10_house_76 (by decide) ?_
        refine q_goto (tgt := 81) dX10_house_77 (by decide) ?_
        obtain ⟨h12, H⟩ := H
        refine q_cVn (as := [vI _]) dX10_house_81 kmX10_readItem kvX10_readItem lm_RX10_162 ⟨by decide, by decide⟩ s44 ⟨by decide, rfl⟩ rfl rfl (Nat.le_of_ble_eq_true rfl) (c_X10_readItem h12) (fun m1 hq => ?_)
        have H := H m1 hq
        obtain ⟨h14, H⟩ := H
        refine q_iinc dX10_house_84 rfl h14 rfl ?_
        refine q_goto (tgt := 57) dX10_house_87 (by decide) ?_
        exact H
set_option maxRecDepth 20000 in
theorem v_X10_house_161 {i : Int} {Q0 : PS}  {P : Int → Mem → Prop} {a1 : Int} {a2 : Int} {mem : Mem}  (H : (12 ≤ a2 → w_X10_house_199 i Q0 P a1 0 mem) ∧ (a2 < 12 → (0 ≤ a2) ∧ (∀ m2 : Mem, m2 = mset mem 45 a2.toNat (mem 56 a2.toNat) → (∀ m3 : Mem, m3 = mset m2 47 a2.toNat (m2 58 a2.toNat) → ((inR (a2 + 1)) ∧ (w_X10_house_161 i Q0 P a1 (a2 + 1) m3)))))) : w_X10_house_161 i Q0 P a1 a2 mem := by
  unfold w_X10_house_161
  refine q_iload_n dX10_house_161 rfl ?_
  refine q_bipush dX10_house_162 rfl (by decide) ?_
  refine q_icmp_ge (tgt := 197) dX10_house_164 (by decide) (fun c164 => ?_) (fun c164 => ?_)
  · have H := H.1 c164
    refine q_iconst dX10_house_197 (by decide) ?_
    refine q_istore_n dX10_house_198 (by decide) rfl ?_
    exact H
  · have H := H.2 c164
    refine q_aload_n dX10_house_167 rfl ?_
    refine q_getr (r := 45) dX10_house_168 lf_RX10_19 s44 rfl rfl ?_
    refine q_iload_n dX10_house_171 rfl ?_
    refine q_aload_n dX10_house_172 rfl ?_
    refine q_getr (r := 56) dX10_house_173 lf_RX10_54 s44 rfl rfl ?_
    refine q_iload_n dX10_house_176 rfl ?_
    obtain ⟨h1, H⟩ := H
    refine q_iald dX10_house_177 s56 h1 c164 ?_
    refine q_iast dX10_house_178 s45 h1 c164 ?_
    have H := H _ rfl
    refine q_aload_n dX10_house_179 rfl ?_
    refine q_getr (r := 47) dX10_house_180 lf_RX10_26 s44 rfl rfl ?_
    refine q_iload_n dX10_house_183 rfl ?_
    refine q_aload_n dX10_house_184 rfl ?_
    refine q_getr (r := 58) dX10_house_185 lf_RX10_60 s44 rfl rfl ?_
    refine q_iload_n dX10_house_188 rfl ?_
    refine q_iald dX10_house_189 s58 h1 c164 ?_
    refine q_iast dX10_house_190 s47 h1 c164 ?_
    have H := H _ rfl
    obtain ⟨h4, H⟩ := H
    refine q_iinc dX10_house_191 rfl h4 rfl ?_
    refine q_goto (tgt := 161) dX10_house_194 (by decide) ?_
    exact H
set_option maxRecDepth 20000 in
theorem v_X10_house_199 {i : Int} {Q0 : PS}  {P : Int → Mem → Prop} {a1 : Int} {a2 : Int} {mem : Mem}  (H : (16 ≤ a2 → ∀ m1 : Mem, baP mem m1 → (∀ m2 : Mem, m2 = (mset m1 44 11 0) → (∀ m3 : Mem, m3 = (mset m2 44 14 0) → (∀ m4 : Mem, m4 = (mset m3 44 16 0) → (∀ m5 : Mem, m5 = mset m4 51 0 0 → (∀ m6 : Mem, m6 = mset m5 51 1 0 → (∀ m7 : Mem, m7 = (mset m6 44 20 0) → (P a1 m7)))))))) ∧ (a2 < 16 → (0 ≤ a2) ∧ (∀ m9 : Mem, m9 = mset mem 46 a2.toNat (mem 57 a2.toNat) → ((inR (a2 + 1)) ∧ (w_X10_house_199 i Q0 P a1 (a2 + 1) m9))))) : w_X10_house_199 i Q0 P a1 a2 mem := by
  unfold w_X10_house_199
  refine q_iload_n dX10_house_199 rfl ?_
  refine q_bipush dX10_house_200 rfl (by decide) ?_
  refine q_icmp_ge (tgt := 223) dX10_house_202 (by decide) (fun c202 => ?_) (fun c202 => ?_)
  · have H := H.1 c202
    refine q_aload_n dX10_house_223 rfl ?_
    refine q_cVn (as := []) dX10_house_224 kmX10_bare kvX10_bare lm_RX10_87 ⟨by decide, by decide⟩ s44 ⟨by decide, rfl⟩ rfl rfl (Nat.le_of_ble_eq_true rfl) (c_X10_bare) (fun m1 hq => ?_)
    have H := H m1 hq
    refine q_aload_n dX10_house_227 rfl ?_
    refine q_iconst dX10_house_228 (by decide) ?_
    refine q_puti dX10_house_229 lf_RX10_171 s44 rfl (Or.inl rfl) fit_int ?_
    have H := H _ rfl
    refine q_aload_n dX10_house_232 rfl ?_
    refine q_iconst dX10_house_233 (by decide) ?_
    refine q_puti dX10_house_234 lf_RX10_174 s44 rfl (Or.inl rfl) fit_int ?_
    have H := H _ rfl
    refine q_aload_n dX10_house_237 rfl ?_
    refine q_iconst dX10_house_238 (by decide) ?_
    refine q_puti dX10_house_239 lf_RX10_177 s44 rfl (Or.inl rfl) fit_int ?_
    have H := H _ rfl
    refine q_aload_n dX10_house_242 rfl ?_
    refine q_getr (r := 51) dX10_house_243 lf_RX10_38 s44 rfl rfl ?_
    refine q_iconst dX10_house_246 (by decide) ?_
    refine q_iconst dX10_house_247 (by decide) ?_
    refine q_zast dX10_house_248 s51 (by decide) (by decide) (by decide) ?_
    have H := H _ rfl
    refine q_aload_n dX10_house_249 rfl ?_
    refine q_getr (r := 51) dX10_house_250 lf_RX10_38 s44 rfl rfl ?_
    refine q_iconst dX10_house_253 (by decide) ?_
    refine q_iconst dX10_house_254 (by decide) ?_
    refine q_zast dX10_house_255 s51 (by decide) (by decide) (by decide) ?_
    have H := H _ rfl
    refine q_aload_n dX10_house_256 rfl ?_
    refine q_iconst dX10_house_257 (by decide) ?_
    refine q_puti dX10_house_258 lf_RX10_97 s44 rfl (Or.inl rfl) fit_int ?_
    have H := H _ rfl
    refine q_iload_n dX10_house_261 rfl ?_
    exact q_iret dX10_house_262 rfl ⟨_, rfl, rfl, H⟩
  · have H := H.2 c202
    refine q_aload_n dX10_house_205 rfl ?_
    refine q_getr (r := 46) dX10_house_206 lf_RX10_23 s44 rfl rfl ?_
    refine q_iload_n dX10_house_209 rfl ?_
    refine q_aload_n dX10_house_210 rfl ?_
    refine q_getr (r := 57) dX10_house_211 lf_RX10_57 s44 rfl rfl ?_
    refine q_iload_n dX10_house_214 rfl ?_
    obtain ⟨h8, H⟩ := H
    refine q_iald dX10_house_215 s57 h8 c202 ?_
    refine q_iast dX10_house_216 s46 h8 c202 ?_
    have H := H _ rfl
    obtain ⟨h10, H⟩ := H
    refine q_iinc dX10_house_217 rfl h10 rfl ?_
    refine q_goto (tgt := 199) dX10_house_220 (by decide) ?_
    exact H
set_option maxRecDepth 20000 in
theorem v_X10_house {i : Int} {Q0 : PS}  {P : Int → Mem → Prop} {mem : Mem}  (H : ∀ m1 : Mem, m1 = (mset mem 44 21 0) → (∀ m2 : Mem, m2 = (mset m1 44 25 0) → (∀ m3 : Mem, m3 = mset m2 55 0 3 → (∀ m4 : Mem, m4 = mset m3 55 1 2 → (∀ m5 : Mem, m5 = mset m4 55 2 5 → (∀ m6 : Mem, m6 = (mset m5 44 27 0) → (∀ m7 : Mem, m7 = (mset m6 44 28 0) → (∀ m8 : Mem, m8 = (mset m7 44 30 0) → (∀ m9 : Mem, m9 = (mset m8 44 32 0) → ((nxQ m9) ∧ (∀ m11 : Mem, nxP m9 m11 → (w_X10_house_57 i Q0 P 0 (vJ 0) m11)))))))))))) : Tot mX10_house 0 0 [vR 44] SH mem (Pr SH P) := by
  refine Tot.of rfl (Nat.le_of_ble_eq_true rfl) (by simp [isJ]) (ls := [vR 44, vJ 0, vJ 0]) rfl ?_
  refine q_aload_n dX10_house_0 rfl ?_
  refine q_iconst dX10_house_1 (by decide) ?_
  refine q_puti dX10_house_2 lf_RX10_100 s44 rfl (Or.inl rfl) fit_int ?_
  have H := H _ rfl
  refine q_aload_n dX10_house_5 rfl ?_
  refine q_iconst dX10_house_6 (by decide) ?_
  refine q_puti dX10_house_7 lf_RX10_116 s44 rfl (Or.inl rfl) (fun _ => by decide) ?_
  have H := H _ rfl
  refine q_aload_n dX10_house_10 rfl ?_
  refine q_getr (r := 55) dX10_house_11 lf_RX10_51 s44 rfl rfl ?_
  refine q_iconst dX10_house_14 (by decide) ?_
  refine q_iconst dX10_house_15 (by decide) ?_
  refine q_iast dX10_house_16 s55 (by decide) (by decide) ?_
  have H := H _ rfl
  refine q_aload_n dX10_house_17 rfl ?_
  refine q_getr (r := 55) dX10_house_18 lf_RX10_51 s44 rfl rfl ?_
  refine q_iconst dX10_house_21 (by decide) ?_
  refine q_iconst dX10_house_22 (by decide) ?_
  refine q_iast dX10_house_23 s55 (by decide) (by decide) ?_
  have H := H _ rfl
  refine q_aload_n dX10_house_24 rfl ?_
  refine q_getr (r := 55) dX10_house_25 lf_RX10_51 s44 rfl rfl ?_
  refine q_iconst dX10_house_28 (by decide) ?_
  refine q_iconst dX10_house_29 (by decide) ?_
  refine q_iast dX10_house_30 s55 (by decide) (by decide) ?_
  have H := H _ rfl
  refine q_aload_n dX10_house_31 rfl ?_
  refine q_iconst dX10_house_32 (by decide) ?_
  refine q_puti dX10_house_33 lf_RX10_131 s44 rfl (Or.inl rfl) (fun _ => by decide) ?_
  have H := H _ rfl
  refine q_aload_n dX10_house_36 rfl ?_
  refine q_iconst dX10_house_37 (by decide) ?_
  refine q_puti dX10_house_38 lf_RX10_134 s44 rfl (Or.inl rfl) fit_int ?_
  have H := H _ rfl
  refine q_aload_n dX10_house_41 rfl ?_
  refine q_iconst dX10_house_42 (by decide) ?_
  refine q_puti dX10_house_43 lf_RX10_141 s44 rfl (Or.inl rfl) fit_int ?_
  have H := H _ rfl
  refine q_aload_n dX10_house_46 rfl ?_
  refine q_iconst dX10_house_47 (by decide) ?_
  refine q_puti dX10_house_48 lf_RX10_144 s44 rfl (Or.inl rfl) fit_int ?_
  have H := H _ rfl
  refine q_iconst dX10_house_51 (by decide) ?_
  refine q_istore_n dX10_house_52 (by decide) rfl ?_
  refine q_aload_n dX10_house_53 rfl ?_
  obtain ⟨h10, H⟩ := H
  refine q_cVn (as := []) dX10_house_54 kmX10_next kvX10_next lm_RX10_120 ⟨by decide, by decide⟩ s44 ⟨by decide, rfl⟩ rfl rfl (Nat.le_of_ble_eq_true rfl) (c_X10_next h10) (fun m1 hq => ?_)
  have H := H m1 hq
  exact H


