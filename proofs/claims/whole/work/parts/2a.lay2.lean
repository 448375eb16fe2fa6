/-! THE CLASS: lay; what is heard; the first sheet worn through -/
def laQ (m0 : Mem) (s c v : Int) (m : Mem) : Prop := (((0 ≤ s ∧ s < m0 7 2) ∧ (0 ≤ c ∧ c < m0 4 5)) ∧ ∃ m5, shoP m0 19 20 m5 ∧ (((m0 19 s.toNat = -9 ∧ canP (m0 4 3) (m0 4 4) (shW m0 s) (shL m0 s) c (m5 35)) ∧ ∃ m11, remP m5 m11 ∧ m = mset m11 19 s.toNat c ∧ v = bcF (bitF (laD m) 4 : Nat)) ∨ (¬ (m0 19 s.toNat = -9 ∧ canP (m0 4 3) (m0 4 4) (shW m0 s) (shL m0 s) c (m5 35)) ∧ v = -2 ∧ m = m5))) ∨ (¬ ((0 ≤ s ∧ s < m0 7 2) ∧ (0 ≤ c ∧ c < m0 4 5)) ∧ v = -1 ∧ m = m0)
theorem c_X9_lay {m0 : Mem} {s c : Int} (ho : okD m0) : Tot mX9_lay 0 0 [vR 0, vI s, vI c] SH m0 (Pr SH (laQ m0 s c)) := by
  have h7 := ho.1.2.2.2.2.2.2.1
  refine v_X9_lay ⟨fun q => Or.inr ⟨fun z => q z.1, rfl, rfl⟩, fun q => ⟨fun r => ⟨ho.1, ho.2.1, ho.2.2.1, ho.2.2.2.1, fun m5 h5 => ?_⟩, fun r => Or.inr ⟨fun z => r z.2, rfl, rfl⟩⟩⟩
  have hF := h5.1
  have ho5 := (sho_ok ho h5).1
  have s4 : 0 ≤ s ∧ s < 4 := ⟨q.1, by omega⟩
  rw [hF.at 19, hF.at 4, hF.at 7, (sh_fr hF).1, (sh_fr hF).2.1]
  refine ⟨fun z => Or.inl ⟨⟨q, r⟩, m5, h5, Or.inr ⟨fun y => z.2 y.1, rfl, rfl⟩⟩, fun z => ⟨ho5.1, q, fun v8 m9 h9 => ?_⟩⟩
  have e19 : m0 19 s.toNat = -9 := Classical.byContradiction fun y => z ⟨s4, y⟩
  obtain ⟨h9, e9⟩ := h9
  subst e9
  refine ⟨fun y => ⟨ho5.2.2.2.2, fun m11 h11 m12 e12 => ?_⟩, fun y => ?_⟩
  · rcases h9 with ⟨ha, hv⟩ | ⟨ha, hv⟩
    · rw [if_pos s4] at e12
      exact Or.inl ⟨⟨q, r⟩, m9, h5, Or.inl ⟨⟨e19, ha⟩, m11, h11, e12, rfl⟩⟩
    · exact absurd hv y
  · rcases h9 with ⟨ha, hv⟩ | ⟨ha, hv⟩
    · omega
    · exact Or.inl ⟨⟨q, r⟩, m9, h5, Or.inr ⟨fun x => ha x.2, rfl, rfl⟩⟩
