/-! THE START -/
theorem whole_start {p : Program} {e : Env} {s : State} {m : MethodId} {below : List Frame} {meth : Method} {c : Code} (l : Launch) (hflags : l.flags = flags0) {b L : Nat} {xs : Nat → Int32} (hL : L ≤ 320) (C0 : lw_At p s m meth c b L xs) : W p l e room_1 s m #[Value.ref b] below meth c s.heap [] 0 0 (lw_Z below #[Value.ref b] s) (entryFrame m ([Value.ref b] : List Value).toArray 4) := by
  obtain ⟨hx, hb, hr, hml, hown, hts, hX, hbl, hlocks, hgv⟩ := id C0
  have htg : ∀ w ∈ gdW, w.before #[Value.ref b] s = true := fun w hw => hts w (List.mem_filter.mp hw).1
  have hN : Nk s := fun w hw hn => by
    have ho : w.onTables = true := by cases w <;> first | rfl | simp [isNest] at hn
    exact va_Nw.of ho (hts w hw)
  have hin : ∀ k : Nat, k < 11 → Cond.instantiable (RA k) (nA k) ∈ gdW := fun k hk => by
    rcases lt11 hk with rfl | rfl | rfl | rfl | rfl | rfl | rfl | rfl | rfl | rfl | rfl
    · exact kn0.1
    · exact kn1.1
    · exact kn2.1
    · exact kn3.1
    · exact kn4.1
    · exact kn5.1
    · exact kn6.1
    · exact kn7.1
    · exact kn8.1
    · exact kn9.1
    · exact kn10.1
  have hkn : ∀ k : Nat, ∃ x : ClassId × (Nat → Nat), k < 11 → u_Kn s (RA k) (TA k) (nA k) x.1 x.2 := fun k => by
    by_cases hk : k < 11
    · obtain ⟨cC, iS, h⟩ := u_known htg (inA hk) (htg _ (hin k hk))
      exact ⟨(cC, iS), fun _ => h⟩
    · exact ⟨(m.cls, fun _ => 0), fun h => absurd h hk⟩
  obtain ⟨dC, dI, hKc⟩ : ∃ (dC : Nat → ClassId) (dI : Nat → Nat → Nat), ∀ (k : Nat) (q : vw_C), vwCl[k]? = some q → u_Kn s q.1 q.2.1 q.2.2 (dC k) (dI k) := by
    refine ⟨fun k => (Classical.choose (hkn k)).1, fun k => (Classical.choose (hkn k)).2, fun k q hq => ?_⟩
    have hk : k < 11 := (List.getElem?_eq_some_iff.mp hq).1
    rw [clA hk] at hq
    cases hq
    exact Classical.choose_spec (hkn k) hk
  rw [lg_entry_eq]
  have hLv := Lv.entry (ad := fun _ => b) (nL := 4) (n := 0) (as := [vR 1000]) (by decide) (by simp [isJ]) (fun v hv => by simp at hv; subst hv; exact Or.inr rfl)
  refine law_wp hL (xs := xs) (mem := fun _ _ => 0) (D := (dC, dI)) (A := fun q : Nat => s.heap.size ≤ q) (ad := fun _ => b) (R := room_1) ⟨hx, hb, hml, hr, hlocks, hown, htg, hN, fun hi => absurd hi (by decide), by decide, by decide, hKc⟩ ⟨fun _ => m.cls, [], ⟨hKc, fun k q h => by simp at h⟩, fun k q h => by simp at h, fun k q h => by simp [wd] at h, ⟨fun i j p q h => by simp [wd] at h, fun k q h => by simp [wd] at h⟩, va_S.rf, fun _ h => h, fun k q h => by simp at h, fun k q h => by simp at h⟩ ⟨hX, hbl, Nat.not_le.mpr hbl⟩ hLv (fun v hv => by cases hv) (by decide) (by decide) ?_
  intro r sh' mem' ad' H' locs' pc' lsr' hQ hn hag hW hret hokr
  obtain ⟨v, rfl, rfl, hv⟩ := hQ
  have hv : v = 1 := hv
  subst hv
  obtain ⟨ca, tys, -, -, -, -, hS, -⟩ := hW
  rcases hret with ⟨h1, -⟩ | ⟨h1, -⟩ | ⟨-, h2, -⟩ | ⟨h1, -⟩
  · exact absurd h1 (by decide)
  · exact absurd h1 (by decide)
  · refine va_forget (fun q hq => hS.2.2 q hq) ?_
    refine W.widen (k := 600000) (n := 7302250) (by decide) (by decide) ?_
    exact lw_ret hx hb hr hlocks h2
  · exact absurd h1 (by decide)

