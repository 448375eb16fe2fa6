/-! THE SYSTEM: its cells once they are made; posts; calls that leave the shape -/
def SH : Sh := [(9, 0, [2, 5, 12, 19, 22, 25, 28, 30, 31, 33, 35, 42, 43, 44, 0]), (8, 0, [3, 4, 0, 0, 0, 0, 0]), (11, 200, []), (11, 4, []), (3, 0, [6, 8, 10, 0, 0, 0, 0, 0]), (6, 0, [0, 7, 0]), (11, 12, []), (6, 0, [0, 9, 0]), (11, 16, []), (6, 0, [0, 11, 0]), (11, 12, []), (3, 0, [13, 15, 17, 0, 0, 0, 0, 0]), (6, 0, [0, 14, 0]), (11, 12, []), (6, 0, [0, 16, 0]), (11, 16, []), (6, 0, [0, 18, 0]), (11, 12, []), (4, 0, [20, 21, 0, 0]), (11, 4, []), (11, 4, []), (4, 0, [23, 24, 0, 0]), (11, 4, []), (11, 4, []), (5, 0, [26, 0, 0]), (7, 0, [0, 27]), (11, 100, []), (7, 0, [0, 29]), (11, 20, []), (12, 2, []), (6, 0, [0, 32, 0]), (11, 16, []), (6, 0, [0, 34, 0]), (11, 16, []), (1, 0, [5, 36, 37, 38, 39, 40, 41]), (11, 12, []), (11, 4, []), (11, 48, []), (11, 48, []), (11, 144, []), (12, 12, []), (2, 0, [5, 35]), (0, 0, [5, 35, 42, 0]), (11, 12, []), (10, 0, [0, 0, 0, 0, 46, 0, 47, 0, 48, 49, 50, 0, 51, 52, 0, 53, 0, 54, 0, 55, 0, 0, 0, 0, 0, 0, 56, 0, 0, 57, 0, 58, 0, 59, 60, 61, 62, 63, 64, 65, 0, 66, 67]), (11, 12, []), (11, 16, []), (11, 12, []), (11, 10, []), (11, 100, []), (11, 20, []), (12, 2, []), (11, 8, []), (11, 16, []), (11, 200, []), (11, 3, []), (11, 12, []), (11, 16, []), (11, 12, []), (11, 4, []), (11, 4, []), (11, 12, []), (11, 12, []), (11, 4, []), (11, 4, []), (11, 4, []), (11, 12, [])]
theorem s0 : SH[0]? = some (9, 0, [2, 5, 12, 19, 22, 25, 28, 30, 31, 33, 35, 42, 43, 44, 0]) := rfl
theorem s1 : SH[1]? = some (8, 0, [3, 4, 0, 0, 0, 0, 0]) := rfl
theorem s2 : SH[2]? = some (11, 200, []) := rfl
theorem s3 : SH[3]? = some (11, 4, []) := rfl
theorem s4 : SH[4]? = some (3, 0, [6, 8, 10, 0, 0, 0, 0, 0]) := rfl
theorem s5 : SH[5]? = some (6, 0, [0, 7, 0]) := rfl
theorem s6 : SH[6]? = some (11, 12, []) := rfl
theorem s7 : SH[7]? = some (6, 0, [0, 9, 0]) := rfl
theorem s8 : SH[8]? = some (11, 16, []) := rfl
theorem s9 : SH[9]? = some (6, 0, [0, 11, 0]) := rfl
theorem s10 : SH[10]? = some (11, 12, []) := rfl
theorem s11 : SH[11]? = some (3, 0, [13, 15, 17, 0, 0, 0, 0, 0]) := rfl
theorem s12 : SH[12]? = some (6, 0, [0, 14, 0]) := rfl
theorem s13 : SH[13]? = some (11, 12, []) := rfl
theorem s14 : SH[14]? = some (6, 0, [0, 16, 0]) := rfl
theorem s15 : SH[15]? = some (11, 16, []) := rfl
theorem s16 : SH[16]? = some (6, 0, [0, 18, 0]) := rfl
theorem s17 : SH[17]? = some (11, 12, []) := rfl
theorem s18 : SH[18]? = some (4, 0, [20, 21, 0, 0]) := rfl
theorem s19 : SH[19]? = some (11, 4, []) := rfl
theorem s20 : SH[20]? = some (11, 4, []) := rfl
theorem s21 : SH[21]? = some (4, 0, [23, 24, 0, 0]) := rfl
theorem s22 : SH[22]? = some (11, 4, []) := rfl
theorem s23 : SH[23]? = some (11, 4, []) := rfl
theorem s24 : SH[24]? = some (5, 0, [26, 0, 0]) := rfl
theorem s25 : SH[25]? = some (7, 0, [0, 27]) := rfl
theorem s26 : SH[26]? = some (11, 100, []) := rfl
theorem s27 : SH[27]? = some (7, 0, [0, 29]) := rfl
theorem s28 : SH[28]? = some (11, 20, []) := rfl
theorem s29 : SH[29]? = some (12, 2, []) := rfl
theorem s30 : SH[30]? = some (6, 0, [0, 32, 0]) := rfl
theorem s31 : SH[31]? = some (11, 16, []) := rfl
theorem s32 : SH[32]? = some (6, 0, [0, 34, 0]) := rfl
theorem s33 : SH[33]? = some (11, 16, []) := rfl
theorem s34 : SH[34]? = some (1, 0, [5, 36, 37, 38, 39, 40, 41]) := rfl
theorem s35 : SH[35]? = some (11, 12, []) := rfl
theorem s36 : SH[36]? = some (11, 4, []) := rfl
theorem s37 : SH[37]? = some (11, 48, []) := rfl
theorem s38 : SH[38]? = some (11, 48, []) := rfl
theorem s39 : SH[39]? = some (11, 144, []) := rfl
theorem s40 : SH[40]? = some (12, 12, []) := rfl
theorem s41 : SH[41]? = some (2, 0, [5, 35]) := rfl
theorem s42 : SH[42]? = some (0, 0, [5, 35, 42, 0]) := rfl
theorem s43 : SH[43]? = some (11, 12, []) := rfl
theorem s44 : SH[44]? = some (10, 0, [0, 0, 0, 0, 46, 0, 47, 0, 48, 49, 50, 0, 51, 52, 0, 53, 0, 54, 0, 55, 0, 0, 0, 0, 0, 0, 56, 0, 0, 57, 0, 58, 0, 59, 60, 61, 62, 63, 64, 65, 0, 66, 67]) := rfl
theorem s45 : SH[45]? = some (11, 12, []) := rfl
theorem s46 : SH[46]? = some (11, 16, []) := rfl
theorem s47 : SH[47]? = some (11, 12, []) := rfl
theorem s48 : SH[48]? = some (11, 10, []) := rfl
theorem s49 : SH[49]? = some (11, 100, []) := rfl
theorem s50 : SH[50]? = some (11, 20, []) := rfl
theorem s51 : SH[51]? = some (12, 2, []) := rfl
theorem s52 : SH[52]? = some (11, 8, []) := rfl
theorem s53 : SH[53]? = some (11, 16, []) := rfl
theorem s54 : SH[54]? = some (11, 200, []) := rfl
theorem s55 : SH[55]? = some (11, 3, []) := rfl
theorem s56 : SH[56]? = some (11, 12, []) := rfl
theorem s57 : SH[57]? = some (11, 16, []) := rfl
theorem s58 : SH[58]? = some (11, 12, []) := rfl
theorem s59 : SH[59]? = some (11, 4, []) := rfl
theorem s60 : SH[60]? = some (11, 4, []) := rfl
theorem s61 : SH[61]? = some (11, 12, []) := rfl
theorem s62 : SH[62]? = some (11, 12, []) := rfl
theorem s63 : SH[63]? = some (11, 4, []) := rfl
theorem s64 : SH[64]? = some (11, 4, []) := rfl
theorem s65 : SH[65]? = some (11, 4, []) := rfl
theorem s66 : SH[66]? = some (11, 12, []) := rfl
def Pr (sh : Sh) (P : Int → Mem → Prop) : Po := fun r sh' mem' => ∃ v : Int, r = some (vI v) ∧ sh' = sh ∧ P v mem'
def Pl (sh : Sh) (P : Int → Mem → Prop) : Po := fun r sh' mem' => ∃ v : Int, r = some (vJ v) ∧ sh' = sh ∧ P v mem'
def Pn (sh : Sh) (P : Mem → Prop) : Po := fun r sh' mem' => r = none ∧ sh' = sh ∧ P mem'
/-- an answer, and nothing changes -/
abbrev Pv (v : Int) (mem : Mem) : Int → Mem → Prop := fun r mem' => r = v ∧ mem' = mem
section BA
variable {M M' : MD} {scr : Option (Nat × (Nat → Int32))} {mc ms : Nat} {Q : Po} {pc tgt : Nat} {ls st st0 as : List Vl} {sh : Sh} {mem : Mem} {a b z : Int} {i h idx ci k n n0 : Nat} {rs : List Nat}
theorem q_cVi {P : Int → Mem → Prop} (hd : decode M.2.1 pc = .ok (.invokevirtual idx, 3)) (hm : KM M' n) (hiv : Cond.instanceMethod M'.1 ∈ gdW ∧ Cond.selects M'.1.cls M'.1 M'.1 ∈ gdW) (hl : Cond.methodLink M.1.cls idx M'.1 ∈ gdW) (hR : KR M M') (hs : sh[h]? = some (ci, n0, rs)) (hci : ci < 11 ∧ RA ci = M'.1.cls) (hn : as.length = n) (hst : as.reverse ++ vR h :: st = st0) (hlen : st.length ≤ 4) (hT : Tot M' 0 0 (vR h :: as) sh mem (Pr sh P))
    (kk : ∀ (v : Int) (mem' : Mem), P v mem' → WP M scr mc ms Q (pc + 3) ls (vI v :: st) sh mem') : WP M scr mc ms Q pc ls st0 sh mem :=
  q_callV hd hm hiv hl hR hs hci hn hst hlen hT (Nat.zero_add mc) (Nat.zero_add ms) (fun r sh' mem' hq _ => by obtain ⟨v, rfl, rfl, hp⟩ := hq; exact kk v mem' hp)
theorem q_cVl {P : Int → Mem → Prop} (hd : decode M.2.1 pc = .ok (.invokevirtual idx, 3)) (hm : KM M' n) (hiv : Cond.instanceMethod M'.1 ∈ gdW ∧ Cond.selects M'.1.cls M'.1 M'.1 ∈ gdW) (hl : Cond.methodLink M.1.cls idx M'.1 ∈ gdW) (hR : KR M M') (hs : sh[h]? = some (ci, n0, rs)) (hci : ci < 11 ∧ RA ci = M'.1.cls) (hn : as.length = n) (hst : as.reverse ++ vR h :: st = st0) (hlen : st.length ≤ 4) (hT : Tot M' 0 0 (vR h :: as) sh mem (Pl sh P))
    (kk : ∀ (v : Int) (mem' : Mem), P v mem' → WP M scr mc ms Q (pc + 3) ls (vJ v :: st) sh mem') : WP M scr mc ms Q pc ls st0 sh mem :=
  q_callV hd hm hiv hl hR hs hci hn hst hlen hT (Nat.zero_add mc) (Nat.zero_add ms) (fun r sh' mem' hq _ => by obtain ⟨v, rfl, rfl, hp⟩ := hq; exact kk v mem' hp)
theorem q_cVn {P : Mem → Prop} (hd : decode M.2.1 pc = .ok (.invokevirtual idx, 3)) (hm : KM M' n) (hiv : Cond.instanceMethod M'.1 ∈ gdW ∧ Cond.selects M'.1.cls M'.1 M'.1 ∈ gdW) (hl : Cond.methodLink M.1.cls idx M'.1 ∈ gdW) (hR : KR M M') (hs : sh[h]? = some (ci, n0, rs)) (hci : ci < 11 ∧ RA ci = M'.1.cls) (hn : as.length = n) (hst : as.reverse ++ vR h :: st = st0) (hlen : st.length ≤ 4) (hT : Tot M' 0 0 (vR h :: as) sh mem (Pn sh P))
    (kk : ∀ (mem' : Mem), P mem' → WP M scr mc ms Q (pc + 3) ls st sh mem') : WP M scr mc ms Q pc ls st0 sh mem :=
  q_callV hd hm hiv hl hR hs hci hn hst hlen hT (Nat.zero_add mc) (Nat.zero_add ms) (fun r sh' mem' hq _ => by obtain ⟨rfl, rfl, hp⟩ := hq; exact kk mem' hp)
theorem q_cSi {P : Int → Mem → Prop} (hd : decode M.2.1 pc = .ok (.invokestatic idx, 3)) (hm : KM M' n) (hiv : Cond.static M'.1 ∈ gdW) (hl : Cond.methodLink M.1.cls idx M'.1 ∈ gdW) (hR : KR M M') (hn : as.length = n) (hst : as.reverse ++ st = st0) (hlen : st.length ≤ 4) (hT : Tot M' 0 0 as sh mem (Pr sh P))
    (kk : ∀ (v : Int) (mem' : Mem), P v mem' → WP M scr mc ms Q (pc + 3) ls (vI v :: st) sh mem') : WP M scr mc ms Q pc ls st0 sh mem :=
  q_callS hd hm hiv hl hR hn hst hlen hT (Nat.zero_add mc) (Nat.zero_add ms) (fun r sh' mem' hq _ => by obtain ⟨v, rfl, rfl, hp⟩ := hq; exact kk v mem' hp)
theorem q_tsk {dflt lo hi : Int} {offs : Array Int} {len dt : Nat} (ks : List (Int × Nat)) (hd : decode M.2.1 pc = .ok (.tableswitch dflt lo hi offs, len)) (hks : ks.map (fun q => q.1) = (List.range ks.length).map (fun (j : Nat) => lo + j)) (htg : offs.toList = ks.map (fun q => ((q.2 : Int) - pc))) (hdt : (pc : Int) + dflt = (dt : Int)) (hlen : lo + ks.length = hi + 1)
    (kin : ∀ q ∈ ks, a = q.1 → WP M scr mc ms Q q.2 ls st sh mem) (kout : (a < lo ∨ hi < a) → WP M scr mc ms Q dt ls st sh mem) : WP M scr mc ms Q pc ls (vI a :: st) sh mem := by
  refine q_tsw (ks.map (fun q => q.2)) hd (by rw [htg, List.map_map]; rfl) hdt (by rw [List.length_map]; exact hlen) (fun j t hj ha => ?_) kout
  rw [List.getElem?_map] at hj
  cases hq : ks[j]? with
  | none => rw [hq] at hj; cases hj
  | some q =>
    rw [hq] at hj
    cases hj
    have h1 : (ks.map (fun q => q.1))[j]? = some q.1 := by rw [List.getElem?_map, hq]; rfl
    have hjl : j < ks.length := (List.getElem?_eq_some_iff.mp hq).1
    rw [hks, List.getElem?_map, List.getElem?_range hjl] at h1
    have h2 : lo + (j : Int) = q.1 := Option.some.inj h1
    exact kin q (List.mem_of_getElem? hq) (by omega)
end BA
