/-! THE MODEL'S TEXT: an item -/
def n5r (row : Nat) (m0 m : Mem) : Prop := Fr [44, row] m0 m ∧ ∀ k : Nat, (k < 21 ∨ 25 < k) → m 44 k = m0 44 k
theorem n5_nx {row : Nat} {m0 m m1 : Mem} (h : n5r row m0 m) (h1 : nx4 m m1) : n5r row m0 m1 := ⟨h.1.tr (h1.1.mono (by simp)), fun k hk => by rw [h1.2 k (by omega) (by omega) (by omega) (by omega)]; exact h.2 k hk⟩
theorem n5_25 {row : Nat} {m0 m : Mem} {z : Int} (h : n5r row m0 m) : n5r row m0 (mset m 44 25 z) := ⟨h.1.set (by simp), fun k hk => by rw [mset_at, if_neg (by omega)]; exact h.2 k hk⟩
theorem n5_row {row : Nat} {m0 m : Mem} {k : Nat} {z : Int} (hr : row ≠ 44) (h : n5r row m0 m) : n5r row m0 (mset m row k z) := ⟨h.1.set (by simp), fun j hj => by rw [mset_ne 44 (Ne.symm hr)]; exact h.2 j hj⟩
theorem tk_tr {a : Int} {m m' : Mem} (h54 : m' 54 = m 54) (h : ∀ k : Nat, 20 ≤ k → k < 25 → m' 44 k = m 44 k) (ht : TKm a m) : TKm a m' := by
  obtain ⟨K, v, h1, h2⟩ := ht
  refine ⟨K, v, ?_, ?_⟩
  · rw [h54, h 20 (by decide) (by decide), h 22 (by decide) (by decide), h 21 (by decide) (by decide)]
    exact h1
  · unfold tkE at *
    rw [h 23 (by decide) (by decide), h 24 (by decide) (by decide)]
    exact h2
/-- j numbers of an item are read -/
def fOut (ms : Mem) (c cells : Int) (N : Nat) (a0 : Int) (f0 : Nat → Int) (row : Nat) (off : Int) (j : Nat) (m : Mem) : Prop :=
  (0 ≤ m 44 21 ∧ m 44 21 ≤ ms 44 20) ∧ n5r row ms m ∧ (∀ e : Nat, ¬ (off ≤ e ∧ (e : Int) < off + N) → m row e = ms row e) ∧
  ((m 44 25 = 1 ∧ ∃ e g, flP (ms 54) (ms 44 20) c cells N 0 a0 f0 0 (m 44 22) e g) ∨
   (m 44 25 = 0 ∧ ∃ (a : Int) (f : Nat → Int), (0 ≤ a ∧ a ≤ ms 44 20) ∧ TKm a m ∧ (∀ i : Nat, i < j → f i = m row (off + i).toNat) ∧ ∀ ok st e g, flP (ms 54) (ms 44 20) c cells (N - j) j a f ok st e g → flP (ms 54) (ms 44 20) c cells N 0 a0 f0 ok st e g))
theorem fo_nxQ {ms m : Mem} {c cells a0 off : Int} {N j row : Nat} {f0 : Nat → Int} (hr : row ≠ 44 ∧ row ≠ 54) (ht : txM ms) (h : fOut ms c cells N a0 f0 row off j m) : nxQ m := by
  obtain ⟨h1, h2, -⟩ := h
  have e20 : m 44 20 = ms 44 20 := h2.2 20 (by omega)
  have e54 : m 54 = ms 54 := h2.1 54 (by simp; omega)
  unfold nxQ txM
  rw [e20, e54]
  exact ⟨ht, h1⟩
theorem fo_step {ms m m' : Mem} {c cells a0 off k lo hi v : Int} {N j row : Nat} {f0 : Nat → Int} (hr : row ≠ 44 ∧ row ≠ 54) (hj : j < N) (ho : fOut ms c cells N a0 f0 row off j m) (hoff : 0 ≤ off) (hk : k = off + j) (hlo : m 44 25 = 0 → ∀ f : Nat → Int, (∀ i : Nat, i < j → f i = m row (off + i).toNat) → lo = loF f c j) (hhi : hi = hiF c j cells) (hp : riP row m k lo hi v m') : fOut ms c cells N a0 f0 row off (j + 1) m' ∧ (m' 44 25 = 0 → m 44 25 = 0 ∧ m' row k.toNat = v ∧ ∀ e : Nat, e ≠ k.toNat → m' row e = m row e) := by
  obtain ⟨hc, hn, hrow, hcase⟩ := ho
  obtain ⟨ev, hp⟩ := hp
  rcases hcase with ⟨h25, hbad⟩ | ⟨h25, a, f, ha, htk, hf, hch⟩
  · have e : m' = m := by
      rcases hp with ⟨-, e⟩ | ⟨⟨e, -⟩, -⟩
      · rw [e, ← h25, mset_id]
      · omega
    rw [e]
    exact ⟨⟨hc, hn, hrow, Or.inl ⟨h25, hbad⟩⟩, fun z => by omega⟩
  · obtain ⟨K, w, htok, henc⟩ := htk
    have e20 : m 44 20 = ms 44 20 := hn.2 20 (by omega)
    have e54 : m 54 = ms 54 := hn.1 54 (by simp; omega)
    rw [e54, e20] at htok
    have hlo' := hlo h25 f hf
    have hNj : N - j = (N - (j + 1)) + 1 := by omega
    rw [hNj] at hch
    rcases hp with ⟨hn2, e⟩ | ⟨hgood, m1, hnx, e⟩
    · have x : ∀ i : Nat, i ≠ 25 → m' 44 i = m 44 i := fun i hi => by rw [e, mset_at, if_neg (by omega)]
      have xr : m' row = m row := by rw [e, mset_ne row hr.1]
      refine ⟨⟨by rw [x 21 (by decide)]; exact hc, by rw [e]; exact n5_25 hn, by rw [xr]; exact hrow, Or.inl ⟨by rw [e, mset_eq], m 44 21, f, ?_⟩⟩, fun z => by rw [e, mset_eq] at z; exact absurd z (by decide)⟩
      rw [x 22 (by decide)]
      refine hch 0 (m 44 22) (m 44 21) f ⟨K, w, m 44 22, m 44 21, htok, Or.inr ⟨fun y => hn2 ⟨h25, ?_, ?_⟩, rfl, rfl⟩⟩
      · unfold tkE at henc
        omega
      · have h24 : m 44 24 = w := by unfold tkE at henc; omega
        rw [h24, hlo', hhi]
        exact y.2
    · obtain ⟨-, h23, h24a, h24b⟩ := hgood
      have hK : K = 2 ∧ m 44 24 = w := by unfold tkE at henc; omega
      have x : ∀ i : Nat, m' 44 i = m1 44 i := fun i => by rw [e, mset_ne 44 (Ne.symm hr.1)]
      have x54 : m' 54 = m1 54 := by rw [e, mset_ne 54 (Ne.symm hr.2)]
      have xrow : ∀ i : Nat, m' row i = if i = k.toNat then v else m row i := by
        intro i
        rw [e, mset_at, hnx.1.1 row (by simp; omega)]
        by_cases w : i = k.toNat
        · rw [if_pos ⟨rfl, w⟩, if_pos w]
        · rw [if_neg (fun y => w y.2), if_neg w]
      have e25 : m' 44 25 = 0 := by rw [x, hnx.1.2 25 (by decide) (by decide) (by decide) (by decide)]; exact h25
      have htk1 : TKm (m 44 21) m' := tk_tr x54 (fun i _ _ => x i) hnx.2
      have hcur : 0 ≤ m' 44 21 ∧ m' 44 21 ≤ ms 44 20 := by
        obtain ⟨K2, w2, h2, -⟩ := htk1
        have h20 : m' 44 20 = ms 44 20 := by rw [x, hnx.1.2 20 (by decide) (by decide) (by decide) (by decide), e20]
        rw [h20] at h2
        have := tok_b h2 hc.2
        omega
      refine ⟨⟨hcur, by rw [e]; exact n5_row hr.1 (n5_nx hn hnx.1), fun i hi => ?_, Or.inr ⟨e25, m 44 21, fset f j v, hc, htk1, fun i hi => ?_, fun ok st e1 g hfl => hch ok st e1 g ⟨K, w, m 44 22, m 44 21, htok, Or.inl ⟨hK.1, ?_, ?_⟩⟩⟩⟩, fun _ => ⟨h25, by rw [xrow, if_pos rfl], fun i hi => by rw [xrow, if_neg hi]⟩⟩
      · rw [xrow, if_neg (by omega)]
        exact hrow i hi
      · rw [xrow]
        unfold fset
        by_cases w : i = j
        · rw [if_pos w, if_pos (by omega)]
        · rw [if_neg w, if_neg (by omega)]
          exact hf i (by omega)
      · rw [← hlo', ← hhi, ← hK.2]
        exact ⟨h24a, h24b⟩
      · rw [← hK.2, ← ev]
        exact hfl
/-- an item is read -/
def rOut (ms : Mem) (c cells : Int) (N : Nat) (a0 : Int) (f0 : Nat → Int) (row : Nat) (off : Int) (m : Mem) : Prop :=
  (0 ≤ m 44 21 ∧ m 44 21 ≤ ms 44 20) ∧ n5r row ms m ∧ (∀ e : Nat, ¬ (off ≤ e ∧ (e : Int) < off + N) → m row e = ms row e) ∧
  ((m 44 25 = 1 ∧ ∃ e g, flP (ms 54) (ms 44 20) c cells N 0 a0 f0 0 (m 44 22) e g) ∨
   (m 44 25 = 0 ∧ ∃ (st e : Int) (g : Nat → Int), flP (ms 54) (ms 44 20) c cells N 0 a0 f0 1 st e g ∧ (0 ≤ e ∧ e ≤ ms 44 20) ∧ TKm e m ∧ ∀ i : Nat, i < N → g i = m row (off + i).toNat))
theorem fo_stop {ms m m' : Mem} {c cells a0 off b : Int} {N row : Nat} {f0 : Nat → Int} (hr : row ≠ 44 ∧ row ≠ 54) (ho : fOut ms c cells N a0 f0 row off N m) (hb : (b = 1 ∧ m 44 23 = 3) ∨ (b = 0 ∧ m 44 23 ≠ 3)) (hp : muP m b m') : rOut ms c cells N a0 f0 row off m' := by
  obtain ⟨hc, hn, hrow, hcase⟩ := ho
  rcases hcase with ⟨h25, hbad⟩ | ⟨h25, a, f, ha, htk, hf, hch⟩
  · have e : m' = m := by
      rcases hp with ⟨-, e⟩ | ⟨⟨e, -⟩, -⟩
      · rw [e, ← h25, mset_id]
      · omega
    rw [e]
    exact ⟨hc, hn, hrow, Or.inl ⟨h25, hbad⟩⟩
  · obtain ⟨K, w, htok, henc⟩ := htk
    have e20 : m 44 20 = ms 44 20 := hn.2 20 (by omega)
    have e54 : m 54 = ms 54 := hn.1 54 (by simp; omega)
    rw [e54, e20] at htok
    rw [Nat.sub_self] at hch
    rcases hp with ⟨hno, e⟩ | ⟨⟨-, hb1⟩, hnx⟩
    · have x : ∀ i : Nat, i ≠ 25 → m' 44 i = m 44 i := fun i hi => by rw [e, mset_at, if_neg (by omega)]
      have xr : m' row = m row := by rw [e, mset_ne row hr.1]
      have hb0 : m 44 23 ≠ 3 := by
        rcases hno with y | y
        · exact absurd h25 y
        · rcases hb with ⟨z, -⟩ | ⟨-, z⟩
          · omega
          · exact z
      refine ⟨by rw [x 21 (by decide)]; exact hc, by rw [e]; exact n5_25 hn, by rw [xr]; exact hrow, Or.inl ⟨by rw [e, mset_eq], m 44 21, f, ?_⟩⟩
      rw [x 22 (by decide)]
      refine hch 0 (m 44 22) (m 44 21) f ⟨K, w, htok, rfl, Or.inr ⟨fun y => hb0 ?_, rfl⟩⟩
      unfold tkE isL at henc
      omega
    · have h3 : m 44 23 = 3 := by
        rcases hb with ⟨-, z⟩ | ⟨z, -⟩
        · exact z
        · exact absurd z hb1
      have hK : K = 1 ∧ w = 59 := by unfold tkE at henc; omega
      have e25 : m' 44 25 = 0 := by rw [hnx.1.2 25 (by decide) (by decide) (by decide) (by decide)]; exact h25
      have hcur : 0 ≤ m' 44 21 ∧ m' 44 21 ≤ ms 44 20 := by
        obtain ⟨K2, w2, h2, -⟩ := hnx.2
        have h20 : m' 44 20 = ms 44 20 := by rw [hnx.1.2 20 (by decide) (by decide) (by decide) (by decide), e20]
        rw [h20] at h2
        have := tok_b h2 hc.2
        omega
      have xr : m' row = m row := hnx.1.1 row (by simp; omega)
      refine ⟨hcur, n5_nx hn hnx.1, by rw [xr]; exact hrow, Or.inr ⟨e25, m 44 22, m 44 21, f, hch 1 (m 44 22) (m 44 21) f ⟨K, w, htok, rfl, Or.inl ⟨hK.1, hK.2, rfl⟩⟩, hc, hnx.2, fun i hi => by rw [xr]; exact hf i hi⟩⟩
/-- what is said so far -/
def sdP (m : Mem) (P : PS) : Prop := (m 55 0 = P.w ∧ m 55 1 = P.h ∧ m 55 2 = P.fa ∧ m 44 27 = P.ft) ∧ (m 44 28 = P.nn ∧ m 44 30 = P.ns ∧ m 44 32 = P.nr) ∧ eqR P.nn (m 56) P.N ∧ eqR P.ns (m 57) P.S ∧ eqR P.nr (m 58) P.R
/-- an item that begins with the letter c, from where it stands -/
def itO (m0 : Mem) (c : Int) (may : Prop) (P : PS) (m : Mem) : Prop :=
  (0 ≤ m 44 21 ∧ m 44 21 ≤ m0 44 20) ∧ Fr [44, 55, 56, 57, 58] m0 m ∧ (∀ k : Nat, (k < 21 ∨ 32 < k) → m 44 k = m0 44 k) ∧
  ((m 44 25 = 1 ∧ ((¬ may ∧ m 44 22 = m0 44 22) ∨ (may ∧ ∃ f e g, flP (m0 54) (m0 44 20) c (P.w * P.h) (fdN c).toNat 0 (m0 44 21) f 0 (m 44 22) e g))) ∨
   (m 44 25 = 0 ∧ may ∧ ∃ f st e g, flP (m0 54) (m0 44 20) c (P.w * P.h) (fdN c).toNat 0 (m0 44 21) f 1 st e g ∧ (0 ≤ e ∧ e ≤ m0 44 20) ∧ TKm e m ∧ sdP m (ent c g P)))
theorem it_no {m0 m : Mem} {c : Int} {may : Prop} {P : PS} (hq : nxQ m0) (hm : ¬ may) (h : muP m0 0 m) : itO m0 c may P m ∧ m 44 25 ≠ 0 := by
  have e : m = mset m0 44 25 1 := by
    rcases h with ⟨-, e⟩ | ⟨⟨-, e⟩, -⟩
    · exact e
    · exact absurd rfl e
  have x : ∀ i : Nat, i ≠ 25 → m 44 i = m0 44 i := fun i hi => by rw [e, mset_at, if_neg (by omega)]
  have e25 : m 44 25 = 1 := by rw [e, mset_eq]
  refine ⟨⟨by rw [x 21 (by decide)]; exact hq.2, by rw [e]; exact Fr.rf.set (by decide), fun k hk => x k (by omega), Or.inl ⟨e25, Or.inl ⟨hm, x 22 (by decide)⟩⟩⟩, by omega⟩
theorem it_beg {m0 m : Mem} {c cells off : Int} {N row : Nat} (hq : nxQ m0) (h25 : m0 44 25 = 0) (h : muP m0 1 m) : nx4 m0 m ∧ m 44 25 = 0 ∧ fOut m c cells N (m0 44 21) (fun _ => 0) row off 0 m := by
  rcases h with ⟨e, -⟩ | ⟨-, h⟩
  · rcases e with e | e
    · exact absurd h25 e
    · exact absurd e (by decide)
  · have e25 : m 44 25 = 0 := by rw [h.1.2 25 (by decide) (by decide) (by decide) (by decide)]; exact h25
    have e20 : m 44 20 = m0 44 20 := h.1.2 20 (by decide) (by decide) (by decide) (by decide)
    refine ⟨h.1, e25, ?_, ⟨Fr.rf, fun _ _ => rfl⟩, fun _ _ => rfl, Or.inr ⟨e25, m0 44 21, fun _ => 0, by rw [e20]; exact hq.2, h.2, fun i hi => by omega, fun ok st e g hfl => hfl⟩⟩
    obtain ⟨K, v, h2, -⟩ := h.2
    have := tok_b h2 (by rw [e20]; exact hq.2.2)
    have := hq.2
    omega
theorem it_fin {m0 ms mr m' : Mem} {c cells off : Int} {may : Prop} {N row : Nat} {f0 : Nat → Int} {P : PS} (hrow : row = 55 ∨ row = 56 ∨ row = 57 ∨ row = 58) (hnx : nx4 m0 ms) (hr : rOut ms c cells N (m0 44 21) f0 row off mr) (hmay : may) (hcells : cells = P.w * P.h) (hN : N = (fdN c).toNat) (hF : Fr [44] mr m') (hx : ∀ k : Nat, (k < 26 ∨ 32 < k) → m' 44 k = mr 44 k) (hsd : ∀ g : Nat → Int, (∀ i : Nat, i < N → g i = mr row (off + i).toNat) → sdP m' (ent c g P)) : itO m0 c may P m' := by
  obtain ⟨hc, hn, hk, hcase⟩ := hr
  have e20 : ms 44 20 = m0 44 20 := hnx.2 20 (by decide) (by decide) (by decide) (by decide)
  have e54 : ms 54 = m0 54 := hnx.1.at 54
  rw [e20] at hc
  rw [e20, e54, hcells, hN] at hcase
  refine ⟨by rw [hx 21 (by decide)]; exact hc, ?_, fun k hk => by rw [hx k (by omega), hn.2 k (by omega), hnx.2 k (by omega) (by omega) (by omega) (by omega)], ?_⟩
  · have h1 : Fr [44, 55, 56, 57, 58] ms mr := hn.1.mono (by rcases hrow with e | e | e | e <;> subst e <;> decide)
    exact ((hnx.1.mono (by decide)).tr h1).tr (hF.mono (by decide))
  · rcases hcase with ⟨h25, e, g, hfl⟩ | ⟨h25, st, e, g, hfl, he, htk, hg⟩
    · exact Or.inl ⟨by rw [hx 25 (by decide)]; exact h25, Or.inr ⟨hmay, f0, e, g, by rw [hx 22 (by decide)]; exact hfl⟩⟩
    · refine Or.inr ⟨by rw [hx 25 (by decide)]; exact h25, hmay, f0, st, e, g, hfl, he, tk_tr (hF.at 54) (fun k _ k1 => hx k (by omega)) htk, hsd g (by rw [hN]; exact hg)⟩
theorem row_add {F G : Nat → Int} {g N0 : Nat → Int} {k off : Int} (h0 : 0 ≤ k) (ho : off = 4 * k) (hold : ∀ e : Nat, ¬ (off ≤ e ∧ (e : Int) < off + (4 : Nat)) → F e = G e) (hg : ∀ i : Nat, i < 4 → g i = F (off + i).toNat) (he : eqR k G N0) : eqR (k + 1) F (addR N0 k g) := by
  intro e hlt
  unfold addR
  by_cases c : 4 * k ≤ e ∧ (e : Int) < 4 * k + 4
  · rw [if_pos c, hg _ (by omega)]
    congr 1
    omega
  · rw [if_neg c, hold e (by omega)]
    exact he e (by omega)
theorem c_X10_readNoise {m0 : Mem} {i : Int} {P : PS} (hq : nxQ m0) (h25 : m0 44 25 = 0) (hs : sdP m0 P) (hk : psOK i P) : Tot mX10_readNoise 0 0 [vR 44] SH m0 (Pn SH (itO m0 110 (mayP 110 i P) P)) := by
  obtain ⟨⟨y0, y1, y2, y3⟩, ⟨n1, n2, n3⟩, r1, r2, r3⟩ := hs
  have hn12 := ps_n hk
  obtain ⟨-, ⟨b5, b6, b7, -⟩, -⟩ := hk
  have hmay : mayP 110 i P ↔ P.nn < 3 := by unfold mayP; omega
  refine v_X10_readNoise ⟨fun q => ⟨hq, fun m2 h2 => ?_⟩, fun q => ⟨hq, fun ms h2 => ⟨fun z => ?_, fun z => ?_⟩⟩⟩
  · have := it_no (c := 110) (may := mayP 110 i P) (P := P) hq (by rw [hmay]; omega) h2
    exact ⟨fun w => absurd w this.2, fun _ => this.1⟩
  · have hmy : mayP 110 i P := by rw [hmay]; omega
    obtain ⟨hnx, e25, ho⟩ := it_beg (c := 110) (cells := P.w * P.h) (off := 4 * ms 44 28) (N := 4) (row := 56) hq h25 h2
    have ek : ms 44 28 = P.nn := by rw [hnx.2 28 (by decide) (by decide) (by decide) (by decide)]; omega
    have e55 : ms 55 0 * ms 55 1 = P.w * P.h := by rw [hnx.1.at 55, y0, y1]
    have htx : txM ms := by
      unfold txM
      rw [hnx.2 20 (by decide) (by decide) (by decide) (by decide), hnx.1.at 54]
      exact hq.1
    have hr : (56 : Nat) ≠ 44 ∧ (56 : Nat) ≠ 54 := by decide
    rw [e55]
    refine ⟨by unfold inR; omega, by unfold inR; omega, by unfold inR; omega, fo_nxQ hr htx ho, by omega, by omega, fun v1 m1 h1 => ?_⟩
    obtain ⟨o1, -⟩ := fo_step hr (by decide) ho (by omega) (by omega) (fun _ f _ => by simp [loF]) (by simp [hiF]) h1
    refine ⟨by unfold inR; omega, fo_nxQ hr htx o1, by omega, by omega, fun v2 m2 h2 => ?_⟩
    obtain ⟨o2, p2⟩ := fo_step hr (by decide) o1 (by omega) (by omega) (fun _ f _ => by simp [loF]) (by simp [hiF]) h2
    refine ⟨by unfold inR; omega, fo_nxQ hr htx o2, by omega, by omega, fun v3 m3 h3 => ?_⟩
    obtain ⟨o3, p3⟩ := fo_step hr (by decide) o2 (by omega) (by omega) (fun _ f _ => by simp [loF]) (by simp [hiF]) h3
    refine ⟨by unfold inR; omega, fo_nxQ hr htx o3, by omega, by omega, fun v4 m4 h4 => ?_⟩
    obtain ⟨o4, -⟩ := fo_step hr (by decide) o3 (by omega) (by omega) (fun z f hf => by have e := (p3 z).2.1; have h := hf 2 (by decide); simp [loF]; rw [h, ← e]; congr 1) (by simp [hiF]) h4
    have hstop : ∀ (b : Int) (mr : Mem), ((b = 1 ∧ m4 44 23 = 3) ∨ (b = 0 ∧ m4 44 23 ≠ 3)) → muP m4 b mr → (inR (mr 44 28 + 1)) ∧ ∀ m' : Mem, m' = mset mr 44 28 (mr 44 28 + 1) → itO m0 110 (mayP 110 i P) P m' := by
      intro b mr hb hp
      have hro := fo_stop hr o4 hb hp
      have es : mr 44 28 = P.nn := by rw [hro.2.1.2 28 (by decide), ek]
      refine ⟨by unfold inR; omega, fun m' e' => it_fin (by decide) hnx hro hmy rfl (by decide) (by rw [e']; exact Fr.rf.set (by decide)) (fun k hk => by rw [e', mset_at, if_neg (by omega)]) (fun g hg => ?_)⟩
      have x : ∀ k : Nat, (25 < k) → k ≠ 28 → m' 44 k = m0 44 k := fun k hk hk2 => by rw [e', mset_at, if_neg (by omega), hro.2.1.2 k (by omega), hnx.2 k (by omega) (by omega) (by omega) (by omega)]
      have xs : m' 44 28 = P.nn + 1 := by rw [e', mset_eq, es]
      have xo : ∀ j : Nat, j ≠ 44 → j ≠ 56 → m' j = m0 j := fun j h1 h2 => by rw [e', mset_ne j h1, hro.2.1.1 j (by simp; omega), hnx.1 j (by simp; omega)]
      have xr : m' 56 = mr 56 := by rw [e', mset_ne 56 (by decide)]
      have hadd : eqR (P.nn + 1) (m' 56) (addR P.N P.nn g) := by
        rw [xr]
        exact row_add (off := 4 * ms 44 28) (by omega) (by omega) hro.2.2.1 hg (eqR_ext r1 (fun j _ => by rw [hnx.1.at 56]))
      rw [show ent 110 g P = mkP P.w P.h P.fa P.ft (P.nn + 1) P.ns P.nr (addR P.N P.nn g) P.S P.R from by unfold ent; rw [if_neg (by decide), if_neg (by decide), if_pos rfl]]
      exact ⟨⟨by rw [xo 55 (by decide) (by decide)]; exact y0, by rw [xo 55 (by decide) (by decide)]; exact y1, by rw [xo 55 (by decide) (by decide)]; exact y2, by rw [x 27 (by decide) (by decide)]; exact y3⟩, ⟨xs, by rw [x 30 (by decide) (by decide)]; exact n2, by rw [x 32 (by decide) (by decide)]; exact n3⟩, hadd, by rw [xo 57 (by decide) (by decide)]; exact r2, by rw [xo 58 (by decide) (by decide)]; exact r3⟩
    exact ⟨fun w => ⟨fo_nxQ hr htx o4, fun mr hp => hstop 0 mr (Or.inr ⟨rfl, w⟩) hp⟩, fun w => ⟨fo_nxQ hr htx o4, fun mr hp => hstop 1 mr (Or.inl ⟨rfl, w⟩) hp⟩⟩
  · have e := (it_beg (c := 110) (cells := P.w * P.h) (off := 4 * ms 44 28) (N := 4) (row := 56) hq h25 h2).2.1
    exact absurd e z
theorem c_X10_readRoom {m0 : Mem} {i : Int} {P : PS} (hq : nxQ m0) (h25 : m0 44 25 = 0) (hs : sdP m0 P) (hk : psOK i P) : Tot mX10_readRoom 0 0 [vR 44] SH m0 (Pn SH (itO m0 114 (mayP 114 i P) P)) := by
  obtain ⟨⟨y0, y1, y2, y3⟩, ⟨n1, n2, n3⟩, r1, r2, r3⟩ := hs
  have hn12 := ps_n hk
  obtain ⟨-, ⟨b5, b6, b7, -⟩, -⟩ := hk
  have hmay : mayP 114 i P ↔ P.nr < 3 := by unfold mayP; omega
  refine v_X10_readRoom ⟨fun q => ⟨hq, fun m2 h2 => ?_⟩, fun q => ⟨hq, fun ms h2 => ⟨fun z => ?_, fun z => ?_⟩⟩⟩
  · have := it_no (c := 114) (may := mayP 114 i P) (P := P) hq (by rw [hmay]; omega) h2
    exact ⟨fun w => absurd w this.2, fun _ => this.1⟩
  · have hmy : mayP 114 i P := by rw [hmay]; omega
    obtain ⟨hnx, e25, ho⟩ := it_beg (c := 114) (cells := P.w * P.h) (off := 4 * ms 44 32) (N := 4) (row := 58) hq h25 h2
    have ek : ms 44 32 = P.nr := by rw [hnx.2 32 (by decide) (by decide) (by decide) (by decide)]; omega
    have e55 : ms 55 0 * ms 55 1 = P.w * P.h := by rw [hnx.1.at 55, y0, y1]
    have htx : txM ms := by
      unfold txM
      rw [hnx.2 20 (by decide) (by decide) (by decide) (by decide), hnx.1.at 54]
      exact hq.1
    have hr : (58 : Nat) ≠ 44 ∧ (58 : Nat) ≠ 54 := by decide
    rw [e55]
    refine ⟨by unfold inR; omega, by unfold inR; omega, by unfold inR; omega, fo_nxQ hr htx ho, by omega, by omega, fun v1 m1 h1 => ?_⟩
    obtain ⟨o1, -⟩ := fo_step hr (by decide) ho (by omega) (by omega) (fun _ f _ => by simp [loF]) (by simp [hiF]) h1
    refine ⟨by unfold inR; omega, fo_nxQ hr htx o1, by omega, by omega, fun v2 m2 h2 => ?_⟩
    obtain ⟨o2, p2⟩ := fo_step hr (by decide) o1 (by omega) (by omega) (fun _ f _ => by simp [loF]) (by simp [hiF]) h2
    refine ⟨by unfold inR; omega, fo_nxQ hr htx o2, by omega, by omega, fun v3 m3 h3 => ?_⟩
    obtain ⟨o3, p3⟩ := fo_step hr (by decide) o2 (by omega) (by omega) (fun z f hf => by have e := (p2 z).2.1; have h := hf 1 (by decide); simp [loF]; rw [h, ← e]; congr 1) (by simp [hiF]) h3
    refine ⟨by unfold inR; omega, fo_nxQ hr htx o3, by omega, by omega, fun v4 m4 h4 => ?_⟩
    obtain ⟨o4, -⟩ := fo_step hr (by decide) o3 (by omega) (by omega) (fun _ f _ => by simp [loF]) (by simp [hiF]) h4
    have hstop : ∀ (b : Int) (mr : Mem), ((b = 1 ∧ m4 44 23 = 3) ∨ (b = 0 ∧ m4 44 23 ≠ 3)) → muP m4 b mr → (inR (mr 44 32 + 1)) ∧ ∀ m' : Mem, m' = mset mr 44 32 (mr 44 32 + 1) → itO m0 114 (mayP 114 i P) P m' := by
      intro b mr hb hp
      have hro := fo_stop hr o4 hb hp
      have es : mr 44 32 = P.nr := by rw [hro.2.1.2 32 (by decide), ek]
      refine ⟨by unfold inR; omega, fun m' e' => it_fin (by decide) hnx hro hmy rfl (by decide) (by rw [e']; exact Fr.rf.set (by decide)) (fun k hk => by rw [e', mset_at, if_neg (by omega)]) (fun g hg => ?_)⟩
      have x : ∀ k : Nat, (25 < k) → k ≠ 32 → m' 44 k = m0 44 k := fun k hk hk2 => by rw [e', mset_at, if_neg (by omega), hro.2.1.2 k (by omega), hnx.2 k (by omega) (by omega) (by omega) (by omega)]
      have xs : m' 44 32 = P.nr + 1 := by rw [e', mset_eq, es]
      have xo : ∀ j : Nat, j ≠ 44 → j ≠ 58 → m' j = m0 j := fun j h1 h2 => by rw [e', mset_ne j h1, hro.2.1.1 j (by simp; omega), hnx.1 j (by simp; omega)]
      have xr : m' 58 = mr 58 := by rw [e', mset_ne 58 (by decide)]
      have hadd : eqR (P.nr + 1) (m' 58) (addR P.R P.nr g) := by
        rw [xr]
        exact row_add (off := 4 * ms 44 32) (by omega) (by omega) hro.2.2.1 hg (eqR_ext r3 (fun j _ => by rw [hnx.1.at 58]))
      rw [show ent 114 g P = mkP P.w P.h P.fa P.ft P.nn P.ns (P.nr + 1) P.N P.S (addR P.R P.nr g) from by unfold ent; rw [if_neg (by decide), if_neg (by decide), if_neg (by decide), if_neg (by decide)]]
      exact ⟨⟨by rw [xo 55 (by decide) (by decide)]; exact y0, by rw [xo 55 (by decide) (by decide)]; exact y1, by rw [xo 55 (by decide) (by decide)]; exact y2, by rw [x 27 (by decide) (by decide)]; exact y3⟩, ⟨by rw [x 28 (by decide) (by decide)]; exact n1, by rw [x 30 (by decide) (by decide)]; exact n2, xs⟩, by rw [xo 56 (by decide) (by decide)]; exact r1, by rw [xo 57 (by decide) (by decide)]; exact r2, hadd⟩
    exact ⟨fun w => ⟨fo_nxQ hr htx o4, fun mr hp => hstop 0 mr (Or.inr ⟨rfl, w⟩) hp⟩, fun w => ⟨fo_nxQ hr htx o4, fun mr hp => hstop 1 mr (Or.inl ⟨rfl, w⟩) hp⟩⟩
  · have e := (it_beg (c := 114) (cells := P.w * P.h) (off := 4 * ms 44 32) (N := 4) (row := 58) hq h25 h2).2.1
    exact absurd e z
theorem c_X10_readSheet {m0 : Mem} {i : Int} {P : PS} (hq : nxQ m0) (h25 : m0 44 25 = 0) (hs : sdP m0 P) (hk : psOK i P) : Tot mX10_readSheet 0 0 [vR 44] SH m0 (Pn SH (itO m0 115 (mayP 115 i P) P)) := by
  obtain ⟨⟨y0, y1, y2, y3⟩, ⟨n1, n2, n3⟩, r1, r2, r3⟩ := hs
  have hn12 := ps_n hk
  obtain ⟨-, ⟨b5, b6, b7, -⟩, -⟩ := hk
  have hmay : mayP 115 i P ↔ P.ns < 4 := by unfold mayP; omega
  refine v_X10_readSheet ⟨fun q => ⟨hq, fun m2 h2 => ?_⟩, fun q => ⟨hq, fun ms h2 => ⟨fun z => ?_, fun z => ?_⟩⟩⟩
  · have := it_no (c := 115) (may := mayP 115 i P) (P := P) hq (by rw [hmay]; omega) h2
    exact ⟨fun w => absurd w this.2, fun _ => this.1⟩
  · have hmy : mayP 115 i P := by rw [hmay]; omega
    obtain ⟨hnx, e25, ho⟩ := it_beg (c := 115) (cells := P.w * P.h) (off := 4 * ms 44 30) (N := 4) (row := 57) hq h25 h2
    have ek : ms 44 30 = P.ns := by rw [hnx.2 30 (by decide) (by decide) (by decide) (by decide)]; omega
    have e55 : ms 55 0 * ms 55 1 = P.w * P.h := by rw [hnx.1.at 55, y0, y1]
    have htx : txM ms := by
      unfold txM
      rw [hnx.2 20 (by decide) (by decide) (by decide) (by decide), hnx.1.at 54]
      exact hq.1
    have hr : (57 : Nat) ≠ 44 ∧ (57 : Nat) ≠ 54 := by decide
    refine ⟨by unfold inR; omega,  fo_nxQ hr htx ho, by omega, by omega, fun v1 m1 h1 => ?_⟩
    obtain ⟨o1, -⟩ := fo_step hr (by decide) ho (by omega) (by omega) (fun _ f _ => by simp [loF]) (by simp [hiF]) h1
    refine ⟨by unfold inR; omega, fo_nxQ hr htx o1, by omega, by omega, fun v2 m2 h2 => ?_⟩
    obtain ⟨o2, p2⟩ := fo_step hr (by decide) o1 (by omega) (by omega) (fun _ f _ => by simp [loF]) (by simp [hiF]) h2
    refine ⟨by unfold inR; omega, fo_nxQ hr htx o2, by omega, by omega, fun v3 m3 h3 => ?_⟩
    obtain ⟨o3, p3⟩ := fo_step hr (by decide) o2 (by omega) (by omega) (fun _ f _ => by simp [loF]) (by simp [hiF]) h3
    refine ⟨by unfold inR; omega, fo_nxQ hr htx o3, by omega, by omega, fun v4 m4 h4 => ?_⟩
    obtain ⟨o4, -⟩ := fo_step hr (by decide) o3 (by omega) (by omega) (fun _ f _ => by simp [loF]) (by simp [hiF]) h4
    have hstop : ∀ (b : Int) (mr : Mem), ((b = 1 ∧ m4 44 23 = 3) ∨ (b = 0 ∧ m4 44 23 ≠ 3)) → muP m4 b mr → (inR (mr 44 30 + 1)) ∧ ∀ m' : Mem, m' = mset mr 44 30 (mr 44 30 + 1) → itO m0 115 (mayP 115 i P) P m' := by
      intro b mr hb hp
      have hro := fo_stop hr o4 hb hp
      have es : mr 44 30 = P.ns := by rw [hro.2.1.2 30 (by decide), ek]
      refine ⟨by unfold inR; omega, fun m' e' => it_fin (by decide) hnx hro hmy rfl (by decide) (by rw [e']; exact Fr.rf.set (by decide)) (fun k hk => by rw [e', mset_at, if_neg (by omega)]) (fun g hg => ?_)⟩
      have x : ∀ k : Nat, (25 < k) → k ≠ 30 → m' 44 k = m0 44 k := fun k hk hk2 => by rw [e', mset_at, if_neg (by omega), hro.2.1.2 k (by omega), hnx.2 k (by omega) (by omega) (by omega) (by omega)]
      have xs : m' 44 30 = P.ns + 1 := by rw [e', mset_eq, es]
      have xo : ∀ j : Nat, j ≠ 44 → j ≠ 57 → m' j = m0 j := fun j h1 h2 => by rw [e', mset_ne j h1, hro.2.1.1 j (by simp; omega), hnx.1 j (by simp; omega)]
      have xr : m' 57 = mr 57 := by rw [e', mset_ne 57 (by decide)]
      have hadd : eqR (P.ns + 1) (m' 57) (addR P.S P.ns g) := by
        rw [xr]
        exact row_add (off := 4 * ms 44 30) (by omega) (by omega) hro.2.2.1 hg (eqR_ext r2 (fun j _ => by rw [hnx.1.at 57]))
      rw [show ent 115 g P = mkP P.w P.h P.fa P.ft P.nn (P.ns + 1) P.nr P.N (addR P.S P.ns g) P.R from by unfold ent; rw [if_neg (by decide), if_neg (by decide), if_neg (by decide), if_pos rfl]]
      exact ⟨⟨by rw [xo 55 (by decide) (by decide)]; exact y0, by rw [xo 55 (by decide) (by decide)]; exact y1, by rw [xo 55 (by decide) (by decide)]; exact y2, by rw [x 27 (by decide) (by decide)]; exact y3⟩, ⟨by rw [x 28 (by decide) (by decide)]; exact n1, xs, by rw [x 32 (by decide) (by decide)]; exact n3⟩, by rw [xo 56 (by decide) (by decide)]; exact r1, hadd, by rw [xo 58 (by decide) (by decide)]; exact r3⟩
    exact ⟨fun w => ⟨fo_nxQ hr htx o4, fun mr hp => hstop 0 mr (Or.inr ⟨rfl, w⟩) hp⟩, fun w => ⟨fo_nxQ hr htx o4, fun mr hp => hstop 1 mr (Or.inl ⟨rfl, w⟩) hp⟩⟩
  · have e := (it_beg (c := 115) (cells := P.w * P.h) (off := 4 * ms 44 30) (N := 4) (row := 57) hq h25 h2).2.1
    exact absurd e z

