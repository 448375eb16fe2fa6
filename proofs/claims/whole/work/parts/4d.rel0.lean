/-! THE FIRST MOMENT -/
theorem rel0 {m1 m2 : Mem} (h9 : in9 m1) (h10 : in10 m1 m2) : RelX 0 m2 m2 := by
  obtain ⟨z014, z12, z2, ⟨z43, z44, z45, z46⟩, ⟨z50, z52⟩, ⟨z70, z72⟩, ⟨z90, z92⟩, z120, z140, z160, ⟨z182, z183⟩, z19, ⟨z241, z242⟩, z250, z270, z29, ⟨z300, z302⟩, ⟨z320, z322⟩, z36, z37⟩ := h9
  obtain ⟨hF, ⟨y0, y1, y2, y3, y5, y7, y11, y14, y16, y18, y20⟩, y48, y51, y54⟩ := h10
  refine RelX_a hF ?_
  have hnx : nextOK (3 * 2) 3 (m1 37) := mea_next (w := 3) (h := 2) (by decide) (by decide) (fun e e0 e1 => z37 e e0 e1)
  have hmo : moX m1 m2 := by
    intro j j0 j1
    rw [y48 j j0 j1]
    rcases mom_c (m := m1) j0 j1 with ⟨ej, ev⟩ | ⟨ej, ev⟩ | ⟨s, hs, ej, ev⟩ | ⟨s, hs, ej, ev⟩
    · rw [ev, z182, if_neg (by omega)]
    · rw [ev, z183, if_neg (by omega)]
    · rw [ev, (z19 s hs.1 hs.2).1, if_pos (by omega)]
    · rw [ev, (z19 s hs.1 hs.2).2, if_neg (by omega)]
  refine ⟨⟨⟨⟨by omega, by omega, by rw [z43, z44, z45]; rfl, by omega, by omega, by omega, by omega, by omega, fun i i0 i1 => by omega, fun i i0 i1 => by omega, fun i i0 i1 => by omega⟩, by rw [z45, z43]; exact hnx, fun s s0 s1 => by rw [z36]; decide, ⟨by omega, by omega, z250⟩⟩, ⟨⟨z300, by omega, by omega⟩, fun i i0 i1 => by omega⟩, ⟨⟨z320, by omega, by omega⟩, fun i i0 i1 => by omega⟩, ⟨by omega, fun i i0 i1 => by omega⟩, ⟨z50, z70, z90⟩, ⟨z120, z140, z160⟩, z270⟩, ⟨⟨by omega, by omega, by omega⟩, ⟨by omega, by omega, by omega⟩, fun e he => by omega, fun e he => by omega, fun e he => by omega⟩, hmo, ⟨by omega, fun r j q1 q2 => by omega⟩, ⟨fun i i0 i1 => by rw [z29, y51], fun i j i0 i1 hi => absurd (z29 _) hi⟩, ⟨by omega, fun i i0 i1 => by omega⟩, ⟨by omega, fun i i0 i1 => by omega⟩, ⟨by omega, ?_⟩, ⟨by omega, by omega, by omega⟩, ⟨?_, fun r q1 q2 => by omega, fun i i0 i1 hi => absurd (z29 _) hi⟩⟩
  · funext j
    rw [z2, y54]
  · have o0 : momV m1 0 = m1 18 2 := rfl
    have o1 : momV m1 1 = m1 18 3 := rfl
    refine ⟨fun t t0 t1 => ?_, fun t u x t0 t1 u0 u1 htu ht => ?_, ?_, ?_⟩
    · have e := mom_2 (m := m1) t0 t1
      rw [e.1, e.2.1, o0, o1, (z19 t t0 t1).1, (z19 t t0 t1).2, z182, z183]
      exact ⟨Or.inl rfl, by decide, by decide⟩
    · rw [(mom_2 (m := m1) t0 t1).1, (z19 t t0 t1).1] at ht
      exact absurd rfl ht
    · rw [o0, z182]; decide
    · rw [o1, z183]; decide
