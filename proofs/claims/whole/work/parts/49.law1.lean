/-! THE LAW: what each answer leaves, its cases -/
theorem lw_two {cQ mQ : Mem → Int → Mem → Prop} (hz : cas cQ mQ) (hf : ∀ a v a', cQ a v a' → Fr CK a a') {K : Int} {m : Mem} (hR : RelX K m m) {v : Int} {m1 : Mem} (h1 : cQ m v m1) : RelX K m m1 ∧ ∀ (w : Int) (m2 : Mem), mQ m1 w m2 → v = w ∧ RelX (K + 1) m2 m2 := by
  have hR1 := RelX_b (hf _ _ _ h1) hR
  refine ⟨hR1, fun w m2 h2 => ?_⟩
  obtain ⟨e, hR2, -, fb⟩ := hz K m m1 m1 m2 v w hR1 h1 h2
  exact ⟨e, RelX_a fb hR2⟩
theorem f_pv {x : Mem → Int} : ∀ (a : Mem) (v : Int) (a' : Mem), Pv (x a) a v a' → Fr CK a a' := fun a v a' h => by rw [h.2]; exact Fr.rf
theorem f_sc {a a' : Mem} (h : scD a a') : Fr CK a a' := h.1.mono (by decide)
theorem f_type {c : Int} : ∀ (a : Mem) (v : Int) (a' : Mem), tyQ a c v a' → Fr CK a a' := fun a v a' h => by
  unfold tyQ at h
  split at h
  · split at h
    · rw [h.2]; exact Fr.rf
    · rw [h.2]; exact (Fr.rf.set (by decide)).set (by decide)
  · rw [h.2]; exact Fr.rf
theorem f_clear : ∀ (a : Mem) (v : Int) (a' : Mem), (v = a 1 2 ∧ a' = mset a 1 2 0) → Fr CK a a' := fun a v a' h => by rw [h.2]; exact Fr.rf.set (by decide)
theorem f_forget {c : Int} : ∀ (a : Mem) (v : Int) (a' : Mem), fgQ a c v a' → Fr CK a a' := fun a v a' h => by
  unfold fgQ at h
  split at h
  · rw [h.2]; exact Fr.rf.set (by decide)
  · split at h
    · rw [h.2]; exact Fr.rf.set (by decide)
    · rw [h.2]; exact Fr.rf
theorem f_onCell {c : Int} : ∀ (a : Mem) (v : Int) (a' : Mem), ocQ a c v a' → Fr CK a a' := fun a v a' h => by
  unfold ocQ at h
  split at h
  · exact f_sc h.2
  · rw [h.2]; exact Fr.rf
theorem f_loud {c d : Int} : ∀ (a : Mem) (v : Int) (a' : Mem), ldQ a c d v a' → Fr CK a a' := fun a v a' h => by
  unfold ldQ at h
  split at h
  · exact f_sc h.2
  · rw [h.2]; exact Fr.rf
theorem f_waked {c : Int} : ∀ (a : Mem) (v : Int) (a' : Mem), wdQ a c v a' → Fr CK a a' := fun a v a' h => by
  unfold wdQ at h
  split at h
  · exact f_sc h.2
  · rw [h.2]; exact Fr.rf
theorem f_gain {c : Int} : ∀ (a : Mem) (v : Int) (a' : Mem), gaQ a c v a' → Fr CK a a' := fun a v a' h => by
  unfold gaQ at h
  split at h
  · exact f_sc h.2
  · rw [h.2]; exact Fr.rf
theorem f_undo : ∀ (a : Mem) (v : Int) (a' : Mem), unQ a v a' → Fr CK a a' := fun a v a' h => by
  unfold unQ at h
  split at h
  · rw [h.2]; exact Fr.rf
  · exact h.2.1.mono (by decide)
theorem f_lift {c : Int} : ∀ (a : Mem) (v : Int) (a' : Mem), liQ a c v a' → Fr CK a a' := fun a v a' h => by
  unfold liQ at h
  split at h
  · split at h
    · rw [h.2]; exact Fr.rf
    · obtain ⟨-, m2, h2, e⟩ := h
      rw [e]; exact (h2.1.mono (by decide)).set (by decide)
  · rw [h.2]; exact Fr.rf
theorem f_turn {c : Int} : ∀ (a : Mem) (v : Int) (a' : Mem), tuQ a c v a' → Fr CK a a' := fun a v a' h => by
  unfold tuQ at h
  split at h
  · obtain ⟨-, m2, h2, e⟩ := h
    rw [e]; exact (h2.1.mono (by decide)).set (by decide)
  · rw [h.2]; exact Fr.rf
theorem f_hour : ∀ (a : Mem) (v : Int) (a' : Mem), hoQ a v a' → Fr CK a a' := fun a v a' h => by
  unfold hoQ at h
  split at h
  · obtain ⟨-, m2, m7, h2, h7, -, m8, e, h8, -⟩ := h
    rw [e]
    exact (((h2.1.mono (by decide)).tr (h7.1.mono (by decide))).tr (h8.mono (by decide))).tr (tk_fr.mono (by decide))
  · rw [h.2]; exact Fr.rf
theorem f_lay {c d : Int} : ∀ (a : Mem) (v : Int) (a' : Mem), laQ a c d v a' → Fr CK a a' := fun a v a' h => by
  rcases h with ⟨-, m5, h5, h⟩ | ⟨-, -, e⟩
  · rcases h with ⟨-, m11, h11, e, -⟩ | ⟨-, -, e⟩
    · rw [e]; exact ((h5.1.mono (by decide)).tr (h11.1.mono (by decide))).set (by decide)
    · rw [e]; exact h5.1.mono (by decide)
  · rw [e]; exact Fr.rf
theorem f_hear {c d : Int} : ∀ (a : Mem) (v : Int) (a' : Mem), heQ a c d v a' → Fr CK a a' := fun a v a' h => by
  unfold heQ at h
  split at h
  · split at h
    · rw [h.2]; exact app_fr.mono (by decide)
    · rw [h.2]; exact Fr.rf
  · rw [h.2]; exact Fr.rf
theorem f_tap {c d e f : Int} : ∀ (a : Mem) (v : Int) (a' : Mem), taQ a c d e f v a' → Fr CK a a' := fun a v a' h => by
  unfold taQ at h
  split at h
  · split at h
    · rw [h.2]; exact app_fr.mono (by decide)
    · rw [h.2]; exact Fr.rf
  · rw [h.2]; exact Fr.rf
theorem f_strengths {c : Int} : ∀ (a : Mem) (v : Int) (a' : Mem), ssQ a c v a' → Fr CK a a' := fun a v a' h => by
  unfold ssQ at h
  split at h
  · exact f_sc h.2
  · rw [h.2]; exact Fr.rf
theorem f_sources : ∀ (a : Mem) (v : Int) (a' : Mem), soQ a v a' → Fr CK a a' := fun a v a' h => f_sc h.2
theorem f_hired {c d e : Int} : ∀ (a : Mem) (v : Int) (a' : Mem), hiQ a c d e v a' → Fr CK a a' := fun a v a' h => by
  rcases h with ⟨-, -, h⟩ | ⟨-, -, h⟩
  · exact f_sc h
  · rw [h]; exact Fr.rf
theorem f_way {c d e : Int} : ∀ (a : Mem) (v : Int) (a' : Mem), wyQ a c d e v a' → Fr CK a a' := fun a v a' h => by
  rcases h with ⟨-, -, h, -⟩ | ⟨-, -, h⟩
  · exact h.mono (by decide)
  · rw [h]; exact Fr.rf
theorem f_mayBe : ∀ (a : Mem) (v : Int) (a' : Mem), myQ a v a' → Fr CK a a' := fun a v a' h => f_sc h.2
theorem f_odds {c d e : Int} : ∀ (a : Mem) (v : Int) (a' : Mem), odQ a c d e v a' → Fr CK a a' := fun a v a' h => by
  rcases h with ⟨-, -, h⟩ | ⟨-, -, h⟩
  · exact f_sc h
  · rw [h]; exact Fr.rf
theorem f_rate {c d : Int} : ∀ (a : Mem) (v : Int) (a' : Mem), raQ a c d v a' → Fr CK a a' := fun a v a' h => by
  rcases h with ⟨-, -, -, h⟩ | ⟨-, -, h⟩
  · rw [h]; exact Fr.rf.set (by decide)
  · rw [h]; exact Fr.rf
theorem f_keep {c : Int} : ∀ (a : Mem) (v : Int) (a' : Mem), kpQ a c v a' → Fr CK a a' := fun a v a' h => by
  rcases h with ⟨-, -, m3, h3, h⟩ | ⟨-, -, h⟩
  · rw [h]; exact (h3.1.mono (by decide)).set (by decide)
  · rw [h]; exact Fr.rf
theorem f_back {c : Int} : ∀ (a : Mem) (v : Int) (a' : Mem), bkQ a c v a' → Fr CK a a' := fun a v a' h => by
  rcases h with ⟨-, h⟩ | ⟨-, -, h⟩
  · rcases h with ⟨-, -, h⟩ | ⟨-, -, m4, h4, h⟩
    · rw [h]; exact Fr.rf
    · rw [h]; exact (h4.1.mono (by decide)).set (by decide)
  · rw [h]; exact Fr.rf
theorem f_toBuy {c : Int} : ∀ (a : Mem) (v : Int) (a' : Mem), tbQ a c v a' → Fr CK a a' := fun a v a' h => by
  rcases h with ⟨-, -, h, -⟩ | ⟨-, -, h⟩
  · exact h.mono (by decide)
  · rw [h]; exact Fr.rf
theorem f_house : ∀ (a : Mem) (v : Int) (a' : Mem), haQ a v a' → Fr CK a a' := fun a v a' h => by
  obtain ⟨P, -, -, h⟩ := h
  rcases h with ⟨-, h, -⟩ | ⟨-, -, -, -, -, -, -, h⟩
  · exact h.mono (by decide)
  · exact h.mono (by decide)
theorem f_through {c : Int} : ∀ (a : Mem) (v : Int) (a' : Mem), thQ a c v a' → Fr CK a a' := fun a v a' h => by
  rcases h with ⟨-, -, h⟩ | ⟨-, f, h, -⟩
  · rw [h]; exact Fr.rf
  · exact h.2.1.mono (by decide)
