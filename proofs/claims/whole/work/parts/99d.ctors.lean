/-! constructors -/
theorem od_nE_o {E : od_E} {k n sl : Nat} {a : Int} (h : a ≠ (E.1.1 : Int)) : (od_nE E k n sl).2.1 a = E.2.1 a := if_neg h
theorem od_nE_r {E : od_E} {k n sl : Nat} {a : Int} (h : a ≠ (E.1.1 : Int)) (j : Nat) : (od_nE E k n sl).2.2 a j = E.2.2 a j := if_neg h
theorem od_nE_k {E : od_E} {k n sl : Nat} {a : Int} (h : a = (E.1.1 : Int)) : (od_nE E k n sl).2.1 a = (k, n) := if_pos h
theorem od_pE_r {E : od_E} {a x b : Int} {k j : Nat} (h : b ≠ a ∨ j ≠ k) : (od_pE E a k x).2.2 b j = E.2.2 b j := if_neg (fun z => h.elim (fun q => q z.1) (fun q => q z.2))
theorem od_pE_t {E : od_E} {a x : Int} {k : Nat} : (od_pE E a k x).2.2 a k = x := if_pos ⟨rfl, rfl⟩
theorem od_leN {E R : od_E} {k n sl : Nat} (h1 : E.1.1 + 1 ≤ R.1.1) (h2 : E.1.2 + sl ≤ R.1.2) : od_le (od_nE E k n sl) R := ⟨h1, h2⟩
section RowsD
variable {d : Nat} {M : od_M} {Z : od_Zt} {E0 : od_E} {res : od_Q} {pc : Nat} {L : od_L} {st : List od_V} {E : od_E} {g : od_G}
theorem r_newCb {b : Int} {i c N : Nat} (hd : decode M.2.2.1 pc = .ok (.new i, 3)) (hcl : Cond.classLink M.1 i (od_C c) ∈ lw_good) (hni : Cond.instantiable (od_C c) (od_N c) ∈ lw_good) (hin : Cond.initialized (od_C c) ∈ lw_good) (hc : c < 12) (hN : od_N c = N) (hb : (E.1.1 : Int) = b) (hle : od_le (od_nE E c 0 N) res.1)
    (kk : ∀ E' : od_E, E' = od_nE E c 0 N → od_Rq d M Z E0 res (pc + 3) L ((2, b) :: st) E' (od_nG g b 0)) : od_Rq d M Z E0 res pc L st E g := by
  subst hb
  subst hN
  exact r_new hd hcl hni hin hc hle (kk _ rfl)
theorem r_putRb {a x : Int} {i c k : Nat} (hd : decode M.2.2.1 pc = .ok (.putfield i, 3)) (hf : od_FL M.1 i c k) (hc : c < 12 ∧ k < od_N c ∧ od_isr c k = true) (hw : (od_T c k).2.2.2 = true ∧ (od_T c k).1 = M.1) (hini : M.2.1.name = "<init>") (hk : (E.2.1 a).1 = c) (kk : ∀ E' : od_E, E' = od_pE E a k x → od_Rq d M Z E0 res (pc + 3) L st E' g) : od_Rq d M Z E0 res pc L ((2, x) :: (2, a) :: st) E g := r_putR hd hf hc hw hini hk (kk _ rfl)
theorem r_newIb {n b : Int} {N : Nat} (hd : decode M.2.2.1 pc = .ok (.newarray .int, 2)) (hn : 0 ≤ n ∧ n ≤ 1000000) (hN : n.toNat = N) (hb : (E.1.1 : Int) = b) (hle : od_le (od_nE E 20 N N) res.1) (kk : ∀ E' : od_E, E' = od_nE E 20 N N → od_Rq d M Z E0 res (pc + 2) L ((2, b) :: st) E' (od_nG g b 0)) : od_Rq d M Z E0 res pc L ((0, n) :: st) E g := by
  subst hb
  subst hN
  exact r_newI hd hn hle (kk _ rfl)
theorem r_newBb {n b : Int} {N : Nat} (hd : decode M.2.2.1 pc = .ok (.newarray .byte, 2)) (hn : 0 ≤ n ∧ n ≤ 1000000) (hN : n.toNat = N) (hb : (E.1.1 : Int) = b) (hle : od_le (od_nE E 21 N N) res.1) (kk : ∀ E' : od_E, E' = od_nE E 21 N N → od_Rq d M Z E0 res (pc + 2) L ((2, b) :: st) E' (od_nG g b 0)) : od_Rq d M Z E0 res pc L ((0, n) :: st) E g := by
  subst hb
  subst hN
  exact r_newB hd hn hle (kk _ rfl)
theorem r_newZb {n b : Int} {N : Nat} (hd : decode M.2.2.1 pc = .ok (.newarray .boolean, 2)) (hn : 0 ≤ n ∧ n ≤ 1000000) (hN : n.toNat = N) (hb : (E.1.1 : Int) = b) (hle : od_le (od_nE E 22 N N) res.1) (kk : ∀ E' : od_E, E' = od_nE E 22 N N → od_Rq d M Z E0 res (pc + 2) L ((2, b) :: st) E' (od_nG g b 0)) : od_Rq d M Z E0 res pc L ((0, n) :: st) E g := by
  subst hb
  subst hN
  exact r_newZ hd hn hle (kk _ rfl)
theorem r_newJb {n b : Int} {N : Nat} (hd : decode M.2.2.1 pc = .ok (.newarray .long, 2)) (hn : 0 ≤ n ∧ n ≤ 1000000) (hN : n.toNat = N) (hb : (E.1.1 : Int) = b) (hle : od_le (od_nE E 23 N N) res.1) (kk : ∀ E' : od_E, E' = od_nE E 23 N N → od_Rq d M Z E0 res (pc + 2) L ((2, b) :: st) E' (od_nG g b 0)) : od_Rq d M Z E0 res pc L ((0, n) :: st) E g := by
  subst hb
  subst hN
  exact r_newJ hd hn hle (kk _ rfl)
theorem r_newQ24b {n b : Int} {N ix : Nat} (hd : decode M.2.2.1 pc = .ok (.anewarray ix, 3)) (hcl : Cond.classLink M.1 ix RX9 ∈ lw_good) (hn : 0 ≤ n ∧ n ≤ 1000000) (hN : n.toNat = N) (hb : (E.1.1 : Int) = b) (hle : od_le (od_nE E 24 N N) res.1) (kk : ∀ E' : od_E, E' = od_nE E 24 N N → od_Rq d M Z E0 res (pc + 3) L ((2, b) :: st) E' (od_nG g b (-1))) : od_Rq d M Z E0 res pc L ((0, n) :: st) E g := by
  subst hb
  subst hN
  exact r_newQ24 hd hcl hn hle (kk _ rfl)
theorem r_newQ25b {n b : Int} {N ix : Nat} (hd : decode M.2.2.1 pc = .ok (.anewarray ix, 3)) (hcl : Cond.classLink M.1 ix RX6 ∈ lw_good) (hn : 0 ≤ n ∧ n ≤ 1000000) (hN : n.toNat = N) (hb : (E.1.1 : Int) = b) (hle : od_le (od_nE E 25 N N) res.1) (kk : ∀ E' : od_E, E' = od_nE E 25 N N → od_Rq d M Z E0 res (pc + 3) L ((2, b) :: st) E' (od_nG g b (-1))) : od_Rq d M Z E0 res pc L ((0, n) :: st) E g := by
  subst hb
  subst hN
  exact r_newQ25 hd hcl hn hle (kk _ rfl)
end RowsD
theorem cnX10_11 : od_CN RX10 11 mX6_init 0 RX10 := ⟨by decide, imX6_init, rfl, rfl, inX6, cdX6_init, dsX6_init, by decide⟩
theorem cnX10_32 : od_CN RX10 32 mX2_init 0 RX10 := ⟨by decide, imX2_init, rfl, rfl, inX2, cdX2_init, dsX2_init, by decide⟩
theorem cnX10_42 : od_CN RX10 42 mX8_init 0 RX10 := ⟨by decide, imX8_init, rfl, rfl, inX8, cdX8_init, dsX8_init, by decide⟩
theorem cnX10_58 : od_CN RX10 58 mX0_init 0 RX10 := ⟨by decide, imX0_init, rfl, rfl, inX0, cdX0_init, dsX0_init, by decide⟩
theorem cnX0_11 : od_CN RX0 11 mX7_init 0 RX10 := ⟨by decide, imX7_init, rfl, rfl, inX7, cdX7_init, dsX7_init, by decide⟩
def nX6 (E : od_E) (k : Int) : od_E := (od_pE (od_nE (od_pE (od_nE (od_pE (od_nE (od_pE (od_nE (od_pE (od_nE (od_pE (od_nE (od_pE (od_nE (od_pE (od_nE E 20 6 6) (k) 0 (k + 1)) 20 6 6) (k) 1 (k + 2)) 20 6 6) (k) 2 (k + 3)) 20 6 6) (k) 3 (k + 4)) 20 3 3) (k) 4 (k + 5)) 24 6 6) (k) 5 (k + 6)) 20 6 6) (k) 6 (k + 7)) 22 6 6) (k) 7 (k + 8))
def gX6 (g : od_G) (k : Int) : od_G := (od_up (od_up (od_up (od_up (od_up (od_nG (od_nG (od_nG (od_up (od_up (od_up (od_nG (od_nG (od_nG (od_nG (od_nG g (k + 1) 0) (k + 2) 0) (k + 3) 0) (k + 4) 0) (k + 5) 0) (k + 5) 0 0) (k + 5) 1 1) (k + 5) 2 0) (k + 6) (-1)) (k + 7) 0) (k + 8) 0) (k) 8 0) (k) 9 0) (k) 10 0) (k) 11 (-1)) (k) 12 0)
theorem nX6_c (E : od_E) (k : Int) : (nX6 E k).1 = (E.1.1 + 8, E.1.2 + (0 + 6 + 6 + 6 + 6 + 3 + 6 + 6 + 6)) := by
  have h0 : E.1 = (E.1.1 + 0, E.1.2 + 0) := rfl
  have h1 : (od_nE E 20 6 6).1 = (E.1.1 + 1, E.1.2 + (0 + 6)) := by
    have z1 : E.1.1 = E.1.1 + 0 := congrArg Prod.fst h0
    have z2 : E.1.2 = E.1.2 + (0) := congrArg Prod.snd h0
    exact Prod.ext (by show E.1.1 + 1 = E.1.1 + 1; omega) (by show E.1.2 + 6 = E.1.2 + (0 + 6); omega)
  have h2 : (od_pE (od_nE E 20 6 6) (k) 0 (k + 1)).1 = (E.1.1 + 1, E.1.2 + (0 + 6)) := h1
  have h3 : (od_nE (od_pE (od_nE E 20 6 6) (k) 0 (k + 1)) 20 6 6).1 = (E.1.1 + 2, E.1.2 + (0 + 6 + 6)) := by
    have z1 : (od_pE (od_nE E 20 6 6) (k) 0 (k + 1)).1.1 = E.1.1 + 1 := congrArg Prod.fst h2
    have z2 : (od_pE (od_nE E 20 6 6) (k) 0 (k + 1)).1.2 = E.1.2 + (0 + 6) := congrArg Prod.snd h2
    exact Prod.ext (by show (od_pE (od_nE E 20 6 6) (k) 0 (k + 1)).1.1 + 1 = E.1.1 + 2; omega) (by show (od_pE (od_nE E 20 6 6) (k) 0 (k + 1)).1.2 + 6 = E.1.2 + (0 + 6 + 6); omega)
  have h4 : (od_pE (od_nE (od_pE (od_nE E 20 6 6) (k) 0 (k + 1)) 20 6 6) (k) 1 (k + 2)).1 = (E.1.1 + 2, E.1.2 + (0 + 6 + 6)) := h3
  have h5 : (od_nE (od_pE (od_nE (od_pE (od_nE E 20 6 6) (k) 0 (k + 1)) 20 6 6) (k) 1 (k + 2)) 20 6 6).1 = (E.1.1 + 3, E.1.2 + (0 + 6 + 6 + 6)) := by
    have z1 : (od_pE (od_nE (od_pE (od_nE E 20 6 6) (k) 0 (k + 1)) 20 6 6) (k) 1 (k + 2)).1.1 = E.1.1 + 2 := congrArg Prod.fst h4
    have z2 : (od_pE (od_nE (od_pE (od_nE E 20 6 6) (k) 0 (k + 1)) 20 6 6) (k) 1 (k + 2)).1.2 = E.1.2 + (0 + 6 + 6) := congrArg Prod.snd h4
    exact Prod.ext (by show (od_pE (od_nE (od_pE (od_nE E 20 6 6) (k) 0 (k + 1)) 20 6 6) (k) 1 (k + 2)).1.1 + 1 = E.1.1 + 3; omega) (by show (od_pE (od_nE (od_pE (od_nE E 20 6 6) (k) 0 (k + 1)) 20 6 6) (k) 1 (k + 2)).1.2 + 6 = E.1.2 + (0 + 6 + 6 + 6); omega)
  have h6 : (od_pE (od_nE (od_pE (od_nE (od_pE (od_nE E 20 6 6) (k) 0 (k + 1)) 20 6 6) (k) 1 (k + 2)) 20 6 6) (k) 2 (k + 3)).1 = (E.1.1 + 3, E.1.2 + (0 + 6 + 6 + 6)) := h5
  have h7 : (od_nE (od_pE (od_nE (od_pE (od_nE (od_pE (od_nE E 20 6 6) (k) 0 (k + 1)) 20 6 6) (k) 1 (k + 2)) 20 6 6) (k) 2 (k + 3)) 20 6 6).1 = (E.1.1 + 4, E.1.2 + (0 + 6 + 6 + 6 + 6)) := by
    have z1 : (od_pE (od_nE (od_pE (od_nE (od_pE (od_nE E 20 6 6) (k) 0 (k + 1)) 20 6 6) (k) 1 (k + 2)) 20 6 6) (k) 2 (k + 3)).1.1 = E.1.1 + 3 := congrArg Prod.fst h6
    have z2 : (od_pE (od_nE (od_pE (od_nE (od_pE (od_nE E 20 6 6) (k) 0 (k + 1)) 20 6 6) (k) 1 (k + 2)) 20 6 6) (k) 2 (k + 3)).1.2 = E.1.2 + (0 + 6 + 6 + 6) := congrArg Prod.snd h6
    exact Prod.ext (by show (od_pE (od_nE (od_pE (od_nE (od_pE (od_nE E 20 6 6) (k) 0 (k + 1)) 20 6 6) (k) 1 (k + 2)) 20 6 6) (k) 2 (k + 3)).1.1 + 1 = E.1.1 + 4; omega) (by show (od_pE (od_nE (od_pE (od_nE (od_pE (od_nE E 20 6 6) (k) 0 (k + 1)) 20 6 6) (k) 1 (k + 2)) 20 6 6) (k) 2 (k + 3)).1.2 + 6 = E.1.2 + (0 + 6 + 6 + 6 + 6); omega)
  have h8 : (od_pE (od_nE (od_pE (od_nE (od_pE (od_nE (od_pE (od_nE E 20 6 6) (k) 0 (k + 1)) 20 6 6) (k) 1 (k + 2)) 20 6 6) (k) 2 (k + 3)) 20 6 6) (k) 3 (k + 4)).1 = (E.1.1 + 4, E.1.2 + (0 + 6 + 6 + 6 + 6)) := h7
  have h9 : (od_nE (od_pE (od_nE (od_pE (od_nE (od_pE (od_nE (od_pE (od_nE E 20 6 6) (k) 0 (k + 1)) 20 6 6) (k) 1 (k + 2)) 20 6 6) (k) 2 (k + 3)) 20 6 6) (k) 3 (k + 4)) 20 3 3).1 = (E.1.1 + 5, E.1.2 + (0 + 6 + 6 + 6 + 6 + 3)) := by
    have z1 : (od_pE (od_nE (od_pE (od_nE (od_pE (od_nE (od_pE (od_nE E 20 6 6) (k) 0 (k + 1)) 20 6 6) (k) 1 (k + 2)) 20 6 6) (k) 2 (k + 3)) 20 6 6) (k) 3 (k + 4)).1.1 = E.1.1 + 4 := congrArg Prod.fst h8
    have z2 : (od_pE (od_nE (od_pE (od_nE (od_pE (od_nE (od_pE (od_nE E 20 6 6) (k) 0 (k + 1)) 20 6 6) (k) 1 (k + 2)) 20 6 6) (k) 2 (k + 3)) 20 6 6) (k) 3 (k + 4)).1.2 = E.1.2 + (0 + 6 + 6 + 6 + 6) := congrArg Prod.snd h8
    exact Prod.ext (by show (od_pE (od_nE (od_pE (od_nE (od_pE (od_nE (od_pE (od_nE E 20 6 6) (k) 0 (k + 1)) 20 6 6) (k) 1 (k + 2)) 20 6 6) (k) 2 (k + 3)) 20 6 6) (k) 3 (k + 4)).1.1 + 1 = E.1.1 + 5; omega) (by show (od_pE (od_nE (od_pE (od_nE (od_pE (od_nE (od_pE (od_nE E 20 6 6) (k) 0 (k + 1)) 20 6 6) (k) 1 (k + 2)) 20 6 6) (k) 2 (k + 3)) 20 6 6) (k) 3 (k + 4)).1.2 + 3 = E.1.2 + (0 + 6 + 6 + 6 + 6 + 3); omega)
  have h10 : (od_pE (od_nE (od_pE (od_nE (od_pE (od_nE (od_pE (od_nE (od_pE (od_nE E 20 6 6) (k) 0 (k + 1)) 20 6 6) (k) 1 (k + 2)) 20 6 6) (k) 2 (k + 3)) 20 6 6) (k) 3 (k + 4)) 20 3 3) (k) 4 (k + 5)).1 = (E.1.1 + 5, E.1.2 + (0 + 6 + 6 + 6 + 6 + 3)) := h9
  have h11 : (od_nE (od_pE (od_nE (od_pE (od_nE (od_pE (od_nE (od_pE (od_nE (od_pE (od_nE E 20 6 6) (k) 0 (k + 1)) 20 6 6) (k) 1 (k + 2)) 20 6 6) (k) 2 (k + 3)) 20 6 6) (k) 3 (k + 4)) 20 3 3) (k) 4 (k + 5)) 24 6 6).1 = (E.1.1 + 6, E.1.2 + (0 + 6 + 6 + 6 + 6 + 3 + 6)) := by
    have z1 : (od_pE (od_nE (od_pE (od_nE (od_pE (od_nE (od_pE (od_nE (od_pE (od_nE E 20 6 6) (k) 0 (k + 1)) 20 6 6) (k) 1 (k + 2)) 20 6 6) (k) 2 (k + 3)) 20 6 6) (k) 3 (k + 4)) 20 3 3) (k) 4 (k + 5)).1.1 = E.1.1 + 5 := congrArg Prod.fst h10
    have z2 : (od_pE (od_nE (od_pE (od_nE (od_pE (od_nE (od_pE (od_nE (od_pE (od_nE E 20 6 6) (k) 0 (k + 1)) 20 6 6) (k) 1 (k + 2)) 20 6 6) (k) 2 (k + 3)) 20 6 6) (k) 3 (k + 4)) 20 3 3) (k) 4 (k + 5)).1.2 = E.1.2 + (0 + 6 + 6 + 6 + 6 + 3) := congrArg Prod.snd h10
    exact Prod.ext (by show (od_pE (od_nE (od_pE (od_nE (od_pE (od_nE (od_pE (od_nE (od_pE (od_nE E 20 6 6) (k) 0 (k + 1)) 20 6 6) (k) 1 (k + 2)) 20 6 6) (k) 2 (k + 3)) 20 6 6) (k) 3 (k + 4)) 20 3 3) (k) 4 (k + 5)).1.1 + 1 = E.1.1 + 6; omega) (by show (od_pE (od_nE (od_pE (od_nE (od_pE (od_nE (od_pE (od_nE (od_pE (od_nE E 20 6 6) (k) 0 (k + 1)) 20 6 6) (k) 1 (k + 2)) 20 6 6) (k) 2 (k + 3)) 20 6 6) (k) 3 (k + 4)) 20 3 3) (k) 4 (k + 5)).1.2 + 6 = E.1.2 + (0 + 6 + 6 + 6 + 6 + 3 + 6); omega)
  have h12 : (od_pE (od_nE (od_pE (od_nE (od_pE (od_nE (od_pE (od_nE (od_pE (od_nE (od_pE (od_nE E 20 6 6) (k) 0 (k + 1)) 20 6 6) (k) 1 (k + 2)) 20 6 6) (k) 2 (k + 3)) 20 6 6) (k) 3 (k + 4)) 20 3 3) (k) 4 (k + 5)) 24 6 6) (k) 5 (k + 6)).1 = (E.1.1 + 6, E.1.2 + (0 + 6 + 6 + 6 + 6 + 3 + 6)) := h11
  have h13 : (od_nE (od_pE (od_nE (od_pE (od_nE (od_pE (od_nE (od_pE (od_nE (od_pE (od_nE (od_pE (od_nE E 20 6 6) (k) 0 (k + 1)) 20 6 6) (k) 1 (k + 2)) 20 6 6) (k) 2 (k + 3)) 20 6 6) (k) 3 (k + 4)) 20 3 3) (k) 4 (k + 5)) 24 6 6) (k) 5 (k + 6)) 20 6 6).1 = (E.1.1 + 7, E.1.2 + (0 + 6 + 6 + 6 + 6 + 3 + 6 + 6)) := by
    have z1 : (od_pE (od_nE (od_pE (od_nE (od_pE (od_nE (od_pE (od_nE (od_pE (od_nE (od_pE (od_nE E 20 6 6) (k) 0 (k + 1)) 20 6 6) (k) 1 (k + 2)) 20 6 6) (k) 2 (k + 3)) 20 6 6) (k) 3 (k + 4)) 20 3 3) (k) 4 (k + 5)) 24 6 6) (k) 5 (k + 6)).1.1 = E.1.1 + 6 := congrArg Prod.fst h12
    have z2 : (od_pE (od_nE (od_pE (od_nE (od_pE (od_nE (od_pE (od_nE (od_pE (od_nE (od_pE (od_nE E 20 6 6) (k) 0 (k + 1)) 20 6 6) (k) 1 (k + 2)) 20 6 6) (k) 2 (k + 3)) 20 6 6) (k) 3 (k + 4)) 20 3 3) (k) 4 (k + 5)) 24 6 6) (k) 5 (k + 6)).1.2 = E.1.2 + (0 + 6 + 6 + 6 + 6 + 3 + 6) := congrArg Prod.snd h12
    exact Prod.ext (by show (od_pE (od_nE (od_pE (od_nE (od_pE (od_nE (od_pE (od_nE (od_pE (od_nE (od_pE (od_nE E 20 6 6) (k) 0 (k + 1)) 20 6 6) (k) 1 (k + 2)) 20 6 6) (k) 2 (k + 3)) 20 6 6) (k) 3 (k + 4)) 20 3 3) (k) 4 (k + 5)) 24 6 6) (k) 5 (k + 6)).1.1 + 1 = E.1.1 + 7; omega) (by show (od_pE (od_nE (od_pE (od_nE (od_pE (od_nE (od_pE (od_nE (od_pE (od_nE (od_pE (od_nE E 20 6 6) (k) 0 (k + 1)) 20 6 6) (k) 1 (k + 2)) 20 6 6) (k) 2 (k + 3)) 20 6 6) (k) 3 (k + 4)) 20 3 3) (k) 4 (k + 5)) 24 6 6) (k) 5 (k + 6)).1.2 + 6 = E.1.2 + (0 + 6 + 6 + 6 + 6 + 3 + 6 + 6); omega)
  have h14 : (od_pE (od_nE (od_pE (od_nE (od_pE (od_nE (od_pE (od_nE (od_pE (od_nE (od_pE (od_nE (od_pE (od_nE E 20 6 6) (k) 0 (k + 1)) 20 6 6) (k) 1 (k + 2)) 20 6 6) (k) 2 (k + 3)) 20 6 6) (k) 3 (k + 4)) 20 3 3) (k) 4 (k + 5)) 24 6 6) (k) 5 (k + 6)) 20 6 6) (k) 6 (k + 7)).1 = (E.1.1 + 7, E.1.2 + (0 + 6 + 6 + 6 + 6 + 3 + 6 + 6)) := h13
  have h15 : (od_nE (od_pE (od_nE (od_pE (od_nE (od_pE (od_nE (od_pE (od_nE (od_pE (od_nE (od_pE (od_nE (od_pE (od_nE E 20 6 6) (k) 0 (k + 1)) 20 6 6) (k) 1 (k + 2)) 20 6 6) (k) 2 (k + 3)) 20 6 6) (k) 3 (k + 4)) 20 3 3) (k) 4 (k + 5)) 24 6 6) (k) 5 (k + 6)) 20 6 6) (k) 6 (k + 7)) 22 6 6).1 = (E.1.1 + 8, E.1.2 + (0 + 6 + 6 + 6 + 6 + 3 + 6 + 6 + 6)) := by
    have z1 : (od_pE (od_nE (od_pE (od_nE (od_pE (od_nE (od_pE (od_nE (od_pE (od_nE (od_pE (od_nE (od_pE (od_nE E 20 6 6) (k) 0 (k + 1)) 20 6 6) (k) 1 (k + 2)) 20 6 6) (k) 2 (k + 3)) 20 6 6) (k) 3 (k + 4)) 20 3 3) (k) 4 (k + 5)) 24 6 6) (k) 5 (k + 6)) 20 6 6) (k) 6 (k + 7)).1.1 = E.1.1 + 7 := congrArg Prod.fst h14
    have z2 : (od_pE (od_nE (od_pE (od_nE (od_pE (od_nE (od_pE (od_nE (od_pE (od_nE (od_pE (od_nE (od_pE (od_nE E 20 6 6) (k) 0 (k + 1)) 20 6 6) (k) 1 (k + 2)) 20 6 6) (k) 2 (k + 3)) 20 6 6) (k) 3 (k + 4)) 20 3 3) (k) 4 (k + 5)) 24 6 6) (k) 5 (k + 6)) 20 6 6) (k) 6 (k + 7)).1.2 = E.1.2 + (0 + 6 + 6 + 6 + 6 + 3 + 6 + 6) := congrArg Prod.snd h14
    exact Prod.ext (by show (od_pE (od_nE (od_pE (od_nE (od_pE (od_nE (od_pE (od_nE (od_pE (od_nE (od_pE (od_nE (od_pE (od_nE E 20 6 6) (k) 0 (k + 1)) 20 6 6) (k) 1 (k + 2)) 20 6 6) (k) 2 (k + 3)) 20 6 6) (k) 3 (k + 4)) 20 3 3) (k) 4 (k + 5)) 24 6 6) (k) 5 (k + 6)) 20 6 6) (k) 6 (k + 7)).1.1 + 1 = E.1.1 + 8; omega) (by show (od_pE (od_nE (od_pE (od_nE (od_pE (od_nE (od_pE (od_nE (od_pE (od_nE (od_pE (od_nE (od_pE (od_nE E 20 6 6) (k) 0 (k + 1)) 20 6 6) (k) 1 (k + 2)) 20 6 6) (k) 2 (k + 3)) 20 6 6) (k) 3 (k + 4)) 20 3 3) (k) 4 (k + 5)) 24 6 6) (k) 5 (k + 6)) 20 6 6) (k) 6 (k + 7)).1.2 + 6 = E.1.2 + (0 + 6 + 6 + 6 + 6 + 3 + 6 + 6 + 6); omega)
  have h16 : (od_pE (od_nE (od_pE (od_nE (od_pE (od_nE (od_pE (od_nE (od_pE (od_nE (od_pE (od_nE (od_pE (od_nE (od_pE (od_nE E 20 6 6) (k) 0 (k + 1)) 20 6 6) (k) 1 (k + 2)) 20 6 6) (k) 2 (k + 3)) 20 6 6) (k) 3 (k + 4)) 20 3 3) (k) 4 (k + 5)) 24 6 6) (k) 5 (k + 6)) 20 6 6) (k) 6 (k + 7)) 22 6 6) (k) 7 (k + 8)).1 = (E.1.1 + 8, E.1.2 + (0 + 6 + 6 + 6 + 6 + 3 + 6 + 6 + 6)) := h15
  exact h16
theorem nX6_k {E : od_E} {k a : Int} (hE : (E.1.1 : Int) = k + 1) (h : a < (E.1.1 : Int)) : (nX6 E k).2.1 a = E.2.1 a := by
  unfold nX6
  show ((od_nE (od_pE (od_nE (od_pE (od_nE (od_pE (od_nE (od_pE (od_nE (od_pE (od_nE (od_pE (od_nE (od_pE (od_nE E 20 6 6) (k) 0 (k + 1)) 20 6 6) (k) 1 (k + 2)) 20 6 6) (k) 2 (k + 3)) 20 6 6) (k) 3 (k + 4)) 20 3 3) (k) 4 (k + 5)) 24 6 6) (k) 5 (k + 6)) 20 6 6) (k) 6 (k + 7)) 22 6 6)).2.1 a = _
  rw [od_nE_o (by have z : ((od_pE (od_nE (od_pE (od_nE (od_pE (od_nE (od_pE (od_nE (od_pE (od_nE (od_pE (od_nE (od_pE (od_nE E 20 6 6) (k) 0 (k + 1)) 20 6 6) (k) 1 (k + 2)) 20 6 6) (k) 2 (k + 3)) 20 6 6) (k) 3 (k + 4)) 20 3 3) (k) 4 (k + 5)) 24 6 6) (k) 5 (k + 6)) 20 6 6) (k) 6 (k + 7))).1.1 = E.1.1 + 7 := rfl; omega)]
  show ((od_nE (od_pE (od_nE (od_pE (od_nE (od_pE (od_nE (od_pE (od_nE (od_pE (od_nE (od_pE (od_nE E 20 6 6) (k) 0 (k + 1)) 20 6 6) (k) 1 (k + 2)) 20 6 6) (k) 2 (k + 3)) 20 6 6) (k) 3 (k + 4)) 20 3 3) (k) 4 (k + 5)) 24 6 6) (k) 5 (k + 6)) 20 6 6)).2.1 a = _
  rw [od_nE_o (by have z : ((od_pE (od_nE (od_pE (od_nE (od_pE (od_nE (od_pE (od_nE (od_pE (od_nE (od_pE (od_nE E 20 6 6) (k) 0 (k + 1)) 20 6 6) (k) 1 (k + 2)) 20 6 6) (k) 2 (k + 3)) 20 6 6) (k) 3 (k + 4)) 20 3 3) (k) 4 (k + 5)) 24 6 6) (k) 5 (k + 6))).1.1 = E.1.1 + 6 := rfl; omega)]
  show ((od_nE (od_pE (od_nE (od_pE (od_nE (od_pE (od_nE (od_pE (od_nE (od_pE (od_nE E 20 6 6) (k) 0 (k + 1)) 20 6 6) (k) 1 (k + 2)) 20 6 6) (k) 2 (k + 3)) 20 6 6) (k) 3 (k + 4)) 20 3 3) (k) 4 (k + 5)) 24 6 6)).2.1 a = _
  rw [od_nE_o (by have z : ((od_pE (od_nE (od_pE (od_nE (od_pE (od_nE (od_pE (od_nE (od_pE (od_nE E 20 6 6) (k) 0 (k + 1)) 20 6 6) (k) 1 (k + 2)) 20 6 6) (k) 2 (k + 3)) 20 6 6) (k) 3 (k + 4)) 20 3 3) (k) 4 (k + 5))).1.1 = E.1.1 + 5 := rfl; omega)]
  show ((od_nE (od_pE (od_nE (od_pE (od_nE (od_pE (od_nE (od_pE (od_nE E 20 6 6) (k) 0 (k + 1)) 20 6 6) (k) 1 (k + 2)) 20 6 6) (k) 2 (k + 3)) 20 6 6) (k) 3 (k + 4)) 20 3 3)).2.1 a = _
  rw [od_nE_o (by have z : ((od_pE (od_nE (od_pE (od_nE (od_pE (od_nE (od_pE (od_nE E 20 6 6) (k) 0 (k + 1)) 20 6 6) (k) 1 (k + 2)) 20 6 6) (k) 2 (k + 3)) 20 6 6) (k) 3 (k + 4))).1.1 = E.1.1 + 4 := rfl; omega)]
  show ((od_nE (od_pE (od_nE (od_pE (od_nE (od_pE (od_nE E 20 6 6) (k) 0 (k + 1)) 20 6 6) (k) 1 (k + 2)) 20 6 6) (k) 2 (k + 3)) 20 6 6)).2.1 a = _
  rw [od_nE_o (by have z : ((od_pE (od_nE (od_pE (od_nE (od_pE (od_nE E 20 6 6) (k) 0 (k + 1)) 20 6 6) (k) 1 (k + 2)) 20 6 6) (k) 2 (k + 3))).1.1 = E.1.1 + 3 := rfl; omega)]
  show ((od_nE (od_pE (od_nE (od_pE (od_nE E 20 6 6) (k) 0 (k + 1)) 20 6 6) (k) 1 (k + 2)) 20 6 6)).2.1 a = _
  rw [od_nE_o (by have z : ((od_pE (od_nE (od_pE (od_nE E 20 6 6) (k) 0 (k + 1)) 20 6 6) (k) 1 (k + 2))).1.1 = E.1.1 + 2 := rfl; omega)]
  show ((od_nE (od_pE (od_nE E 20 6 6) (k) 0 (k + 1)) 20 6 6)).2.1 a = _
  rw [od_nE_o (by have z : ((od_pE (od_nE E 20 6 6) (k) 0 (k + 1))).1.1 = E.1.1 + 1 := rfl; omega)]
  show ((od_nE E 20 6 6)).2.1 a = _
  rw [od_nE_o (by have z : (E).1.1 = E.1.1 + 0 := rfl; omega)]
theorem nX6_r {E : od_E} {k a : Int} {j : Nat} (hE : (E.1.1 : Int) = k + 1) (h : a < (E.1.1 : Int)) (hk : a ≠ k) : (nX6 E k).2.2 a j = E.2.2 a j := by
  unfold nX6
  rw [od_pE_r (by omega)]
  rw [od_nE_r (by have z : ((od_pE (od_nE (od_pE (od_nE (od_pE (od_nE (od_pE (od_nE (od_pE (od_nE (od_pE (od_nE (od_pE (od_nE E 20 6 6) (k) 0 (k + 1)) 20 6 6) (k) 1 (k + 2)) 20 6 6) (k) 2 (k + 3)) 20 6 6) (k) 3 (k + 4)) 20 3 3) (k) 4 (k + 5)) 24 6 6) (k) 5 (k + 6)) 20 6 6) (k) 6 (k + 7))).1.1 = E.1.1 + 7 := rfl; omega)]
  rw [od_pE_r (by omega)]
  rw [od_nE_r (by have z : ((od_pE (od_nE (od_pE (od_nE (od_pE (od_nE (od_pE (od_nE (od_pE (od_nE (od_pE (od_nE E 20 6 6) (k) 0 (k + 1)) 20 6 6) (k) 1 (k + 2)) 20 6 6) (k) 2 (k + 3)) 20 6 6) (k) 3 (k + 4)) 20 3 3) (k) 4 (k + 5)) 24 6 6) (k) 5 (k + 6))).1.1 = E.1.1 + 6 := rfl; omega)]
  rw [od_pE_r (by omega)]
  rw [od_nE_r (by have z : ((od_pE (od_nE (od_pE (od_nE (od_pE (od_nE (od_pE (od_nE (od_pE (od_nE E 20 6 6) (k) 0 (k + 1)) 20 6 6) (k) 1 (k + 2)) 20 6 6) (k) 2 (k + 3)) 20 6 6) (k) 3 (k + 4)) 20 3 3) (k) 4 (k + 5))).1.1 = E.1.1 + 5 := rfl; omega)]
  rw [od_pE_r (by omega)]
  rw [od_nE_r (by have z : ((od_pE (od_nE (od_pE (od_nE (od_pE (od_nE (od_pE (od_nE E 20 6 6) (k) 0 (k + 1)) 20 6 6) (k) 1 (k + 2)) 20 6 6) (k) 2 (k + 3)) 20 6 6) (k) 3 (k + 4))).1.1 = E.1.1 + 4 := rfl; omega)]
  rw [od_pE_r (by omega)]
  rw [od_nE_r (by have z : ((od_pE (od_nE (od_pE (od_nE (od_pE (od_nE E 20 6 6) (k) 0 (k + 1)) 20 6 6) (k) 1 (k + 2)) 20 6 6) (k) 2 (k + 3))).1.1 = E.1.1 + 3 := rfl; omega)]
  rw [od_pE_r (by omega)]
  rw [od_nE_r (by have z : ((od_pE (od_nE (od_pE (od_nE E 20 6 6) (k) 0 (k + 1)) 20 6 6) (k) 1 (k + 2))).1.1 = E.1.1 + 2 := rfl; omega)]
  rw [od_pE_r (by omega)]
  rw [od_nE_r (by have z : ((od_pE (od_nE E 20 6 6) (k) 0 (k + 1))).1.1 = E.1.1 + 1 := rfl; omega)]
  rw [od_pE_r (by omega)]
  rw [od_nE_r (by have z : (E).1.1 = E.1.1 + 0 := rfl; omega)]
set_option maxRecDepth 20000 in
theorem c_X6_init {E : od_E} {g : od_G} {k : Int} (hk : (E.2.1 k).1 = 6) (hE : (E.1.1 : Int) = k + 1) (hk0 : 0 ≤ k) : od_Ct 1 mX6_init [(2, k)] E g (none, nX6 E k, gX6 g k) := by
  have hx := nX6_c E k
  have hr1 : (od_x (none, nX6 E k, gX6 g k)).1.1.1 = E.1.1 + 8 := congrArg Prod.fst hx
  have hr2 : (od_x (none, nX6 E k, gX6 g k)).1.1.2 = E.1.2 + (0 + 6 + 6 + 6 + 6 + 3 + 6 + 6 + 6) := congrArg Prod.snd hx
  have cc0 : E.1.1 = E.1.1 + 0 := rfl
  have ss0 : E.1.2 = E.1.2 + 0 := rfl
  have t0_k := hk
  refine od_ctI pnX6 rfl (Nat.le_of_ble_eq_true rfl) ⟨by show _ ≤ (nX6 E k).1.1; rw [hx]; exact Nat.le_add_right _ _, by show _ ≤ (nX6 E k).1.2; rw [hx]; exact Nat.le_add_right _ _⟩ ?_
  show od_R _ _ _ _ _ 0 [some (2, k)] [] E g
  refine r_aload_n dX6_init_0 rfl ?_
  refine r_objI dX6_init_1 lkX6_3 (by omega) (by decide) (Nat.le_of_ble_eq_true rfl) ?_
  refine r_aload_n dX6_init_4 rfl ?_
  refine r_bipush dX6_init_5 lb_6 ?_
  refine r_newIb (b := k + 1) (N := 6) dX6_init_7 (by decide) rfl (by omega) (od_leN (by omega) (by omega)) (fun E1 hE1 => ?_)
  have cc1 : E1.1.1 = E.1.1 + 1 := by rw [hE1]; rfl
  have ss1 : E1.1.2 = E.1.2 + (0 + 6) := by rw [hE1]; show E.1.2 + 6 = _; omega
  have t1_k : (E1.2.1 (k)).1 = 6 := by rw [hE1, od_nE_o (by omega)]; exact t0_k
  refine r_putRb dX6_init_9 fkX6_9 gf6_0 ⟨rfl, rfl⟩ rfl t1_k (fun E2 hE2 => ?_)
  have cc2 : E2.1.1 = E.1.1 + 1 := by rw [hE2]; exact cc1
  have ss2 : E2.1.2 = E.1.2 + (0 + 6) := by rw [hE2]; exact ss1
  have t2_k : (E2.2.1 (k)).1 = 6 := by rw [hE2]; exact t1_k
  clear cc1 ss1 t1_k
  refine r_aload_n dX6_init_12 rfl ?_
  refine r_bipush dX6_init_13 lb_6 ?_
  refine r_newIb (b := k + 2) (N := 6) dX6_init_15 (by decide) rfl (by omega) (od_leN (by omega) (by omega)) (fun E3 hE3 => ?_)
  have cc3 : E3.1.1 = E.1.1 + 2 := by rw [hE3]; show E2.1.1 + 1 = _; rw [cc2]
  have ss3 : E3.1.2 = E.1.2 + (0 + 6 + 6) := by rw [hE3]; show E2.1.2 + 6 = _; rw [ss2, Nat.add_assoc]
  have t3_k : (E3.2.1 (k)).1 = 6 := by rw [hE3, od_nE_o (by omega)]; exact t2_k
  clear cc2 ss2 t2_k
  refine r_putRb dX6_init_17 fkX6_15 gf6_1 ⟨rfl, rfl⟩ rfl t3_k (fun E4 hE4 => ?_)
  have cc4 : E4.1.1 = E.1.1 + 2 := by rw [hE4]; exact cc3
  have ss4 : E4.1.2 = E.1.2 + (0 + 6 + 6) := by rw [hE4]; exact ss3
  have t4_k : (E4.2.1 (k)).1 = 6 := by rw [hE4]; exact t3_k
  clear cc3 ss3 t3_k
  refine r_aload_n dX6_init_20 rfl ?_
  refine r_bipush dX6_init_21 lb_6 ?_
  refine r_newIb (b := k + 3) (N := 6) dX6_init_23 (by decide) rfl (by omega) (od_leN (by omega) (by omega)) (fun E5 hE5 => ?_)
  have cc5 : E5.1.1 = E.1.1 + 3 := by rw [hE5]; show E4.1.1 + 1 = _; rw [cc4]
  have ss5 : E5.1.2 = E.1.2 + (0 + 6 + 6 + 6) := by rw [hE5]; show E4.1.2 + 6 = _; rw [ss4, Nat.add_assoc]
  have t5_k : (E5.2.1 (k)).1 = 6 := by rw [hE5, od_nE_o (by omega)]; exact t4_k
  clear cc4 ss4 t4_k
  refine r_putRb dX6_init_25 fkX6_18 gf6_2 ⟨rfl, rfl⟩ rfl t5_k (fun E6 hE6 => ?_)
  have cc6 : E6.1.1 = E.1.1 + 3 := by rw [hE6]; exact cc5
  have ss6 : E6.1.2 = E.1.2 + (0 + 6 + 6 + 6) := by rw [hE6]; exact ss5
  have t6_k : (E6.2.1 (k)).1 = 6 := by rw [hE6]; exact t5_k
  clear cc5 ss5 t5_k
  refine r_aload_n dX6_init_28 rfl ?_
  refine r_bipush dX6_init_29 lb_6 ?_
  refine r_newIb (b := k + 4) (N := 6) dX6_init_31 (by decide) rfl (by omega) (od_leN (by omega) (by omega)) (fun E7 hE7 => ?_)
  have cc7 : E7.1.1 = E.1.1 + 4 := by rw [hE7]; show E6.1.1 + 1 = _; rw [cc6]
  have ss7 : E7.1.2 = E.1.2 + (0 + 6 + 6 + 6 + 6) := by rw [hE7]; show E6.1.2 + 6 = _; rw [ss6, Nat.add_assoc]
  have t7_k : (E7.2.1 (k)).1 = 6 := by rw [hE7, od_nE_o (by omega)]; exact t6_k
  clear cc6 ss6 t6_k
  refine r_putRb dX6_init_33 fkX6_21 gf6_3 ⟨rfl, rfl⟩ rfl t7_k (fun E8 hE8 => ?_)
  have cc8 : E8.1.1 = E.1.1 + 4 := by rw [hE8]; exact cc7
  have ss8 : E8.1.2 = E.1.2 + (0 + 6 + 6 + 6 + 6) := by rw [hE8]; exact ss7
  have t8_k : (E8.2.1 (k)).1 = 6 := by rw [hE8]; exact t7_k
  clear cc7 ss7 t7_k
  refine r_aload_n dX6_init_36 rfl ?_
  refine r_iconst dX6_init_37 li_3 ?_
  refine r_newIb (b := k + 5) (N := 3) dX6_init_38 (by decide) rfl (by omega) (od_leN (by omega) (by omega)) (fun E9 hE9 => ?_)
  have cc9 : E9.1.1 = E.1.1 + 5 := by rw [hE9]; show E8.1.1 + 1 = _; rw [cc8]
  have ss9 : E9.1.2 = E.1.2 + (0 + 6 + 6 + 6 + 6 + 3) := by rw [hE9]; show E8.1.2 + 3 = _; rw [ss8, Nat.add_assoc]
  have t9_k : (E9.2.1 (k)).1 = 6 := by rw [hE9, od_nE_o (by omega)]; exact t8_k
  have t9_k___5 : E9.2.1 (k + 5) = (20, 3) := by rw [hE9, od_nE_k (by omega)]
  clear cc8 ss8 t8_k
  refine r_dup dX6_init_40 (by first | exact od_ne2 | exact od_ne0) ?_
  refine r_iconst dX6_init_41 li_0 ?_
  refine r_iconst dX6_init_42 li_0 ?_
  refine r_iast dX6_init_43 t9_k___5 (by decide) ?_
  refine r_dup dX6_init_44 (by first | exact od_ne2 | exact od_ne0) ?_
  refine r_iconst dX6_init_45 li_1 ?_
  refine r_iconst dX6_init_46 li_1 ?_
  refine r_iast dX6_init_47 t9_k___5 (by decide) ?_
  refine r_dup dX6_init_48 (by first | exact od_ne2 | exact od_ne0) ?_
  refine r_iconst dX6_init_49 li_2 ?_
  refine r_iconst dX6_init_50 li_0 ?_
  refine r_iast dX6_init_51 t9_k___5 (by decide) ?_
  refine r_putRb dX6_init_52 fkX6_24 gf6_4 ⟨rfl, rfl⟩ rfl t9_k (fun E10 hE10 => ?_)
  have cc10 : E10.1.1 = E.1.1 + 5 := by rw [hE10]; exact cc9
  have ss10 : E10.1.2 = E.1.2 + (0 + 6 + 6 + 6 + 6 + 3) := by rw [hE10]; exact ss9
  have t10_k : (E10.2.1 (k)).1 = 6 := by rw [hE10]; exact t9_k
  clear cc9 ss9 t9_k t9_k___5
  refine r_aload_n dX6_init_55 rfl ?_
  refine r_bipush dX6_init_56 lb_6 ?_
  refine r_newQ24b (b := k + 6) (N := 6) dX6_init_58 clX6_27 (by decide) rfl (by omega) (od_leN (by omega) (by omega)) (fun E11 hE11 => ?_)
  have cc11 : E11.1.1 = E.1.1 + 6 := by rw [hE11]; show E10.1.1 + 1 = _; rw [cc10]
  have ss11 : E11.1.2 = E.1.2 + (0 + 6 + 6 + 6 + 6 + 3 + 6) := by rw [hE11]; show E10.1.2 + 6 = _; rw [ss10, Nat.add_assoc]
  have t11_k : (E11.2.1 (k)).1 = 6 := by rw [hE11, od_nE_o (by omega)]; exact t10_k
  clear cc10 ss10 t10_k
  refine r_putRb dX6_init_61 fkX6_29 gf6_5 ⟨rfl, rfl⟩ rfl t11_k (fun E12 hE12 => ?_)
  have cc12 : E12.1.1 = E.1.1 + 6 := by rw [hE12]; exact cc11
  have ss12 : E12.1.2 = E.1.2 + (0 + 6 + 6 + 6 + 6 + 3 + 6) := by rw [hE12]; exact ss11
  have t12_k : (E12.2.1 (k)).1 = 6 := by rw [hE12]; exact t11_k
  clear cc11 ss11 t11_k
  refine r_aload_n dX6_init_64 rfl ?_
  refine r_bipush dX6_init_65 lb_6 ?_
  refine r_newIb (b := k + 7) (N := 6) dX6_init_67 (by decide) rfl (by omega) (od_leN (by omega) (by omega)) (fun E13 hE13 => ?_)
  have cc13 : E13.1.1 = E.1.1 + 7 := by rw [hE13]; show E12.1.1 + 1 = _; rw [cc12]
  have ss13 : E13.1.2 = E.1.2 + (0 + 6 + 6 + 6 + 6 + 3 + 6 + 6) := by rw [hE13]; show E12.1.2 + 6 = _; rw [ss12, Nat.add_assoc]
  have t13_k : (E13.2.1 (k)).1 = 6 := by rw [hE13, od_nE_o (by omega)]; exact t12_k
  clear cc12 ss12 t12_k
  refine r_putRb dX6_init_69 fkX6_33 gf6_6 ⟨rfl, rfl⟩ rfl t13_k (fun E14 hE14 => ?_)
  have cc14 : E14.1.1 = E.1.1 + 7 := by rw [hE14]; exact cc13
  have ss14 : E14.1.2 = E.1.2 + (0 + 6 + 6 + 6 + 6 + 3 + 6 + 6) := by rw [hE14]; exact ss13
  have t14_k : (E14.2.1 (k)).1 = 6 := by rw [hE14]; exact t13_k
  clear cc13 ss13 t13_k
  refine r_aload_n dX6_init_72 rfl ?_
  refine r_bipush dX6_init_73 lb_6 ?_
  refine r_newZb (b := k + 8) (N := 6) dX6_init_75 (by decide) rfl (by omega) (od_leN (by omega) (by omega)) (fun E15 hE15 => ?_)
  have cc15 : E15.1.1 = E.1.1 + 8 := by rw [hE15]; show E14.1.1 + 1 = _; rw [cc14]
  have ss15 : E15.1.2 = E.1.2 + (0 + 6 + 6 + 6 + 6 + 3 + 6 + 6 + 6) := by rw [hE15]; show E14.1.2 + 6 = _; rw [ss14, Nat.add_assoc]
  have t15_k : (E15.2.1 (k)).1 = 6 := by rw [hE15, od_nE_o (by omega)]; exact t14_k
  clear cc14 ss14 t14_k
  refine r_putRb dX6_init_77 fkX6_36 gf6_7 ⟨rfl, rfl⟩ rfl t15_k (fun E16 hE16 => ?_)
  have cc16 : E16.1.1 = E.1.1 + 8 := by rw [hE16]; exact cc15
  have ss16 : E16.1.2 = E.1.2 + (0 + 6 + 6 + 6 + 6 + 3 + 6 + 6 + 6) := by rw [hE16]; exact ss15
  have t16_k : (E16.2.1 (k)).1 = 6 := by rw [hE16]; exact t15_k
  clear cc15 ss15 t15_k
  refine r_aload_n dX6_init_80 rfl ?_
  refine r_iconst dX6_init_81 li_0 ?_
  refine r_putIj (j := 8) rfl dX6_init_82 fkX6_40 gf6_8 pf6_8 t16_k ?_
  refine r_aload_n dX6_init_85 rfl ?_
  refine r_iconst dX6_init_86 li_0 ?_
  refine r_putIj (j := 9) rfl dX6_init_87 fkX6_44 gf6_9 pf6_9 t16_k ?_
  refine r_aload_n dX6_init_90 rfl ?_
  refine r_iconst dX6_init_91 li_0 ?_
  refine r_putIj (j := 10) rfl dX6_init_92 fkX6_47 gf6_10 pf6_10 t16_k ?_
  refine r_aload_n dX6_init_95 rfl ?_
  refine r_iconst dX6_init_96 li_m1 ?_
  refine r_putIj (j := 11) rfl dX6_init_97 fkX6_50 gf6_11 pf6_11 t16_k ?_
  refine r_aload_n dX6_init_100 rfl ?_
  refine r_iconst dX6_init_101 li_0 ?_
  refine r_putIj (j := 12) rfl dX6_init_102 fkX6_53 gf6_12 pf6_12 t16_k ?_
  exact r_vret dX6_init_105 rfl (by subst hE1 hE2 hE3 hE4 hE5 hE6 hE7 hE8 hE9 hE10 hE11 hE12 hE13 hE14 hE15 hE16; rfl)
def nX2 (E : od_E) (k : Int) : od_E := (od_pE (od_nE (od_pE (od_nE (od_pE (od_nE (od_pE (od_nE (od_pE (od_nE E 20 16 16) (k) 0 (k + 1)) 20 16 16) (k) 1 (k + 2)) 20 16 16) (k) 2 (k + 3)) 20 96 96) (k) 3 (k + 4)) 20 96 96) (k) 4 (k + 5))
def gX2 (g : od_G) (k : Int) : od_G := (od_up (od_up (od_nG (od_nG (od_nG (od_nG (od_nG g (k + 1) 0) (k + 2) 0) (k + 3) 0) (k + 4) 0) (k + 5) 0) (k) 5 0) (k) 6 0)
theorem nX2_c (E : od_E) (k : Int) : (nX2 E k).1 = (E.1.1 + 5, E.1.2 + (0 + 16 + 16 + 16 + 96 + 96)) := by
  have h0 : E.1 = (E.1.1 + 0, E.1.2 + 0) := rfl
  have h1 : (od_nE E 20 16 16).1 = (E.1.1 + 1, E.1.2 + (0 + 16)) := by
    have z1 : E.1.1 = E.1.1 + 0 := congrArg Prod.fst h0
    have z2 : E.1.2 = E.1.2 + (0) := congrArg Prod.snd h0
    exact Prod.ext (by show E.1.1 + 1 = E.1.1 + 1; omega) (by show E.1.2 + 16 = E.1.2 + (0 + 16); omega)
  have h2 : (od_pE (od_nE E 20 16 16) (k) 0 (k + 1)).1 = (E.1.1 + 1, E.1.2 + (0 + 16)) := h1
  have h3 : (od_nE (od_pE (od_nE E 20 16 16) (k) 0 (k + 1)) 20 16 16).1 = (E.1.1 + 2, E.1.2 + (0 + 16 + 16)) := by
    have z1 : (od_pE (od_nE E 20 16 16) (k) 0 (k + 1)).1.1 = E.1.1 + 1 := congrArg Prod.fst h2
    have z2 : (od_pE (od_nE E 20 16 16) (k) 0 (k + 1)).1.2 = E.1.2 + (0 + 16) := congrArg Prod.snd h2
    exact Prod.ext (by show (od_pE (od_nE E 20 16 16) (k) 0 (k + 1)).1.1 + 1 = E.1.1 + 2; omega) (by show (od_pE (od_nE E 20 16 16) (k) 0 (k + 1)).1.2 + 16 = E.1.2 + (0 + 16 + 16); omega)
  have h4 : (od_pE (od_nE (od_pE (od_nE E 20 16 16) (k) 0 (k + 1)) 20 16 16) (k) 1 (k + 2)).1 = (E.1.1 + 2, E.1.2 + (0 + 16 + 16)) := h3
  have h5 : (od_nE (od_pE (od_nE (od_pE (od_nE E 20 16 16) (k) 0 (k + 1)) 20 16 16) (k) 1 (k + 2)) 20 16 16).1 = (E.1.1 + 3, E.1.2 + (0 + 16 + 16 + 16)) := by
    have z1 : (od_pE (od_nE (od_pE (od_nE E 20 16 16) (k) 0 (k + 1)) 20 16 16) (k) 1 (k + 2)).1.1 = E.1.1 + 2 := congrArg Prod.fst h4
    have z2 : (od_pE (od_nE (od_pE (od_nE E 20 16 16) (k) 0 (k + 1)) 20 16 16) (k) 1 (k + 2)).1.2 = E.1.2 + (0 + 16 + 16) := congrArg Prod.snd h4
    exact Prod.ext (by show (od_pE (od_nE (od_pE (od_nE E 20 16 16) (k) 0 (k + 1)) 20 16 16) (k) 1 (k + 2)).1.1 + 1 = E.1.1 + 3; omega) (by show (od_pE (od_nE (od_pE (od_nE E 20 16 16) (k) 0 (k + 1)) 20 16 16) (k) 1 (k + 2)).1.2 + 16 = E.1.2 + (0 + 16 + 16 + 16); omega)
  have h6 : (od_pE (od_nE (od_pE (od_nE (od_pE (od_nE E 20 16 16) (k) 0 (k + 1)) 20 16 16) (k) 1 (k + 2)) 20 16 16) (k) 2 (k + 3)).1 = (E.1.1 + 3, E.1.2 + (0 + 16 + 16 + 16)) := h5
  have h7 : (od_nE (od_pE (od_nE (od_pE (od_nE (od_pE (od_nE E 20 16 16) (k) 0 (k + 1)) 20 16 16) (k) 1 (k + 2)) 20 16 16) (k) 2 (k + 3)) 20 96 96).1 = (E.1.1 + 4, E.1.2 + (0 + 16 + 16 + 16 + 96)) := by
    have z1 : (od_pE (od_nE (od_pE (od_nE (od_pE (od_nE E 20 16 16) (k) 0 (k + 1)) 20 16 16) (k) 1 (k + 2)) 20 16 16) (k) 2 (k + 3)).1.1 = E.1.1 + 3 := congrArg Prod.fst h6
    have z2 : (od_pE (od_nE (od_pE (od_nE (od_pE (od_nE E 20 16 16) (k) 0 (k + 1)) 20 16 16) (k) 1 (k + 2)) 20 16 16) (k) 2 (k + 3)).1.2 = E.1.2 + (0 + 16 + 16 + 16) := congrArg Prod.snd h6
    exact Prod.ext (by show (od_pE (od_nE (od_pE (od_nE (od_pE (od_nE E 20 16 16) (k) 0 (k + 1)) 20 16 16) (k) 1 (k + 2)) 20 16 16) (k) 2 (k + 3)).1.1 + 1 = E.1.1 + 4; omega) (by show (od_pE (od_nE (od_pE (od_nE (od_pE (od_nE E 20 16 16) (k) 0 (k + 1)) 20 16 16) (k) 1 (k + 2)) 20 16 16) (k) 2 (k + 3)).1.2 + 96 = E.1.2 + (0 + 16 + 16 + 16 + 96); omega)
  have h8 : (od_pE (od_nE (od_pE (od_nE (od_pE (od_nE (od_pE (od_nE E 20 16 16) (k) 0 (k + 1)) 20 16 16) (k) 1 (k + 2)) 20 16 16) (k) 2 (k + 3)) 20 96 96) (k) 3 (k + 4)).1 = (E.1.1 + 4, E.1.2 + (0 + 16 + 16 + 16 + 96)) := h7
  have h9 : (od_nE (od_pE (od_nE (od_pE (od_nE (od_pE (od_nE (od_pE (od_nE E 20 16 16) (k) 0 (k + 1)) 20 16 16) (k) 1 (k + 2)) 20 16 16) (k) 2 (k + 3)) 20 96 96) (k) 3 (k + 4)) 20 96 96).1 = (E.1.1 + 5, E.1.2 + (0 + 16 + 16 + 16 + 96 + 96)) := by
    have z1 : (od_pE (od_nE (od_pE (od_nE (od_pE (od_nE (od_pE (od_nE E 20 16 16) (k) 0 (k + 1)) 20 16 16) (k) 1 (k + 2)) 20 16 16) (k) 2 (k + 3)) 20 96 96) (k) 3 (k + 4)).1.1 = E.1.1 + 4 := congrArg Prod.fst h8
    have z2 : (od_pE (od_nE (od_pE (od_nE (od_pE (od_nE (od_pE (od_nE E 20 16 16) (k) 0 (k + 1)) 20 16 16) (k) 1 (k + 2)) 20 16 16) (k) 2 (k + 3)) 20 96 96) (k) 3 (k + 4)).1.2 = E.1.2 + (0 + 16 + 16 + 16 + 96) := congrArg Prod.snd h8
    exact Prod.ext (by show (od_pE (od_nE (od_pE (od_nE (od_pE (od_nE (od_pE (od_nE E 20 16 16) (k) 0 (k + 1)) 20 16 16) (k) 1 (k + 2)) 20 16 16) (k) 2 (k + 3)) 20 96 96) (k) 3 (k + 4)).1.1 + 1 = E.1.1 + 5; omega) (by show (od_pE (od_nE (od_pE (od_nE (od_pE (od_nE (od_pE (od_nE E 20 16 16) (k) 0 (k + 1)) 20 16 16) (k) 1 (k + 2)) 20 16 16) (k) 2 (k + 3)) 20 96 96) (k) 3 (k + 4)).1.2 + 96 = E.1.2 + (0 + 16 + 16 + 16 + 96 + 96); omega)
  have h10 : (od_pE (od_nE (od_pE (od_nE (od_pE (od_nE (od_pE (od_nE (od_pE (od_nE E 20 16 16) (k) 0 (k + 1)) 20 16 16) (k) 1 (k + 2)) 20 16 16) (k) 2 (k + 3)) 20 96 96) (k) 3 (k + 4)) 20 96 96) (k) 4 (k + 5)).1 = (E.1.1 + 5, E.1.2 + (0 + 16 + 16 + 16 + 96 + 96)) := h9
  exact h10
theorem nX2_k {E : od_E} {k a : Int} (hE : (E.1.1 : Int) = k + 1) (h : a < (E.1.1 : Int)) : (nX2 E k).2.1 a = E.2.1 a := by
  unfold nX2
  show ((od_nE (od_pE (od_nE (od_pE (od_nE (od_pE (od_nE (od_pE (od_nE E 20 16 16) (k) 0 (k + 1)) 20 16 16) (k) 1 (k + 2)) 20 16 16) (k) 2 (k + 3)) 20 96 96) (k) 3 (k + 4)) 20 96 96)).2.1 a = _
  rw [od_nE_o (by have z : ((od_pE (od_nE (od_pE (od_nE (od_pE (od_nE (od_pE (od_nE E 20 16 16) (k) 0 (k + 1)) 20 16 16) (k) 1 (k + 2)) 20 16 16) (k) 2 (k + 3)) 20 96 96) (k) 3 (k + 4))).1.1 = E.1.1 + 4 := rfl; omega)]
  show ((od_nE (od_pE (od_nE (od_pE (od_nE (od_pE (od_nE E 20 16 16) (k) 0 (k + 1)) 20 16 16) (k) 1 (k + 2)) 20 16 16) (k) 2 (k + 3)) 20 96 96)).2.1 a = _
  rw [od_nE_o (by have z : ((od_pE (od_nE (od_pE (od_nE (od_pE (od_nE E 20 16 16) (k) 0 (k + 1)) 20 16 16) (k) 1 (k + 2)) 20 16 16) (k) 2 (k + 3))).1.1 = E.1.1 + 3 := rfl; omega)]
  show ((od_nE (od_pE (od_nE (od_pE (od_nE E 20 16 16) (k) 0 (k + 1)) 20 16 16) (k) 1 (k + 2)) 20 16 16)).2.1 a = _
  rw [od_nE_o (by have z : ((od_pE (od_nE (od_pE (od_nE E 20 16 16) (k) 0 (k + 1)) 20 16 16) (k) 1 (k + 2))).1.1 = E.1.1 + 2 := rfl; omega)]
  show ((od_nE (od_pE (od_nE E 20 16 16) (k) 0 (k + 1)) 20 16 16)).2.1 a = _
  rw [od_nE_o (by have z : ((od_pE (od_nE E 20 16 16) (k) 0 (k + 1))).1.1 = E.1.1 + 1 := rfl; omega)]
  show ((od_nE E 20 16 16)).2.1 a = _
  rw [od_nE_o (by have z : (E).1.1 = E.1.1 + 0 := rfl; omega)]
theorem nX2_r {E : od_E} {k a : Int} {j : Nat} (hE : (E.1.1 : Int) = k + 1) (h : a < (E.1.1 : Int)) (hk : a ≠ k) : (nX2 E k).2.2 a j = E.2.2 a j := by
  unfold nX2
  rw [od_pE_r (by omega)]
  rw [od_nE_r (by have z : ((od_pE (od_nE (od_pE (od_nE (od_pE (od_nE (od_pE (od_nE E 20 16 16) (k) 0 (k + 1)) 20 16 16) (k) 1 (k + 2)) 20 16 16) (k) 2 (k + 3)) 20 96 96) (k) 3 (k + 4))).1.1 = E.1.1 + 4 := rfl; omega)]
  rw [od_pE_r (by omega)]
  rw [od_nE_r (by have z : ((od_pE (od_nE (od_pE (od_nE (od_pE (od_nE E 20 16 16) (k) 0 (k + 1)) 20 16 16) (k) 1 (k + 2)) 20 16 16) (k) 2 (k + 3))).1.1 = E.1.1 + 3 := rfl; omega)]
  rw [od_pE_r (by omega)]
  rw [od_nE_r (by have z : ((od_pE (od_nE (od_pE (od_nE E 20 16 16) (k) 0 (k + 1)) 20 16 16) (k) 1 (k + 2))).1.1 = E.1.1 + 2 := rfl; omega)]
  rw [od_pE_r (by omega)]
  rw [od_nE_r (by have z : ((od_pE (od_nE E 20 16 16) (k) 0 (k + 1))).1.1 = E.1.1 + 1 := rfl; omega)]
  rw [od_pE_r (by omega)]
  rw [od_nE_r (by have z : (E).1.1 = E.1.1 + 0 := rfl; omega)]
set_option maxRecDepth 20000 in
theorem c_X2_init {E : od_E} {g : od_G} {k : Int} (hk : (E.2.1 k).1 = 2) (hE : (E.1.1 : Int) = k + 1) (hk0 : 0 ≤ k) : od_Ct 1 mX2_init [(2, k)] E g (none, nX2 E k, gX2 g k) := by
  have hx := nX2_c E k
  have hr1 : (od_x (none, nX2 E k, gX2 g k)).1.1.1 = E.1.1 + 5 := congrArg Prod.fst hx
  have hr2 : (od_x (none, nX2 E k, gX2 g k)).1.1.2 = E.1.2 + (0 + 16 + 16 + 16 + 96 + 96) := congrArg Prod.snd hx
  have cc0 : E.1.1 = E.1.1 + 0 := rfl
  have ss0 : E.1.2 = E.1.2 + 0 := rfl
  have t0_k := hk
  refine od_ctI pnX2 rfl (Nat.le_of_ble_eq_true rfl) ⟨by show _ ≤ (nX2 E k).1.1; rw [hx]; exact Nat.le_add_right _ _, by show _ ≤ (nX2 E k).1.2; rw [hx]; exact Nat.le_add_right _ _⟩ ?_
  show od_R _ _ _ _ _ 0 [some (2, k)] [] E g
  refine r_aload_n dX2_init_0 rfl ?_
  refine r_objI dX2_init_1 lkX2_3 (by omega) (by decide) (Nat.le_of_ble_eq_true rfl) ?_
  refine r_aload_n dX2_init_4 rfl ?_
  refine r_bipush dX2_init_5 lb_16 ?_
  refine r_newIb (b := k + 1) (N := 16) dX2_init_7 (by decide) rfl (by omega) (od_leN (by omega) (by omega)) (fun E1 hE1 => ?_)
  have cc1 : E1.1.1 = E.1.1 + 1 := by rw [hE1]; rfl
  have ss1 : E1.1.2 = E.1.2 + (0 + 16) := by rw [hE1]; show E.1.2 + 16 = _; omega
  have t1_k : (E1.2.1 (k)).1 = 2 := by rw [hE1, od_nE_o (by omega)]; exact t0_k
  refine r_putRb dX2_init_9 fkX2_9 gf2_0 ⟨rfl, rfl⟩ rfl t1_k (fun E2 hE2 => ?_)
  have cc2 : E2.1.1 = E.1.1 + 1 := by rw [hE2]; exact cc1
  have ss2 : E2.1.2 = E.1.2 + (0 + 16) := by rw [hE2]; exact ss1
  have t2_k : (E2.2.1 (k)).1 = 2 := by rw [hE2]; exact t1_k
  clear cc1 ss1 t1_k
  refine r_aload_n dX2_init_12 rfl ?_
  refine r_bipush dX2_init_13 lb_16 ?_
  refine r_newIb (b := k + 2) (N := 16) dX2_init_15 (by decide) rfl (by omega) (od_leN (by omega) (by omega)) (fun E3 hE3 => ?_)
  have cc3 : E3.1.1 = E.1.1 + 2 := by rw [hE3]; show E2.1.1 + 1 = _; rw [cc2]
  have ss3 : E3.1.2 = E.1.2 + (0 + 16 + 16) := by rw [hE3]; show E2.1.2 + 16 = _; rw [ss2, Nat.add_assoc]
  have t3_k : (E3.2.1 (k)).1 = 2 := by rw [hE3, od_nE_o (by omega)]; exact t2_k
  clear cc2 ss2 t2_k
  refine r_putRb dX2_init_17 fkX2_15 gf2_1 ⟨rfl, rfl⟩ rfl t3_k (fun E4 hE4 => ?_)
  have cc4 : E4.1.1 = E.1.1 + 2 := by rw [hE4]; exact cc3
  have ss4 : E4.1.2 = E.1.2 + (0 + 16 + 16) := by rw [hE4]; exact ss3
  have t4_k : (E4.2.1 (k)).1 = 2 := by rw [hE4]; exact t3_k
  clear cc3 ss3 t3_k
  refine r_aload_n dX2_init_20 rfl ?_
  refine r_bipush dX2_init_21 lb_16 ?_
  refine r_newIb (b := k + 3) (N := 16) dX2_init_23 (by decide) rfl (by omega) (od_leN (by omega) (by omega)) (fun E5 hE5 => ?_)
  have cc5 : E5.1.1 = E.1.1 + 3 := by rw [hE5]; show E4.1.1 + 1 = _; rw [cc4]
  have ss5 : E5.1.2 = E.1.2 + (0 + 16 + 16 + 16) := by rw [hE5]; show E4.1.2 + 16 = _; rw [ss4, Nat.add_assoc]
  have t5_k : (E5.2.1 (k)).1 = 2 := by rw [hE5, od_nE_o (by omega)]; exact t4_k
  clear cc4 ss4 t4_k
  refine r_putRb dX2_init_25 fkX2_18 gf2_2 ⟨rfl, rfl⟩ rfl t5_k (fun E6 hE6 => ?_)
  have cc6 : E6.1.1 = E.1.1 + 3 := by rw [hE6]; exact cc5
  have ss6 : E6.1.2 = E.1.2 + (0 + 16 + 16 + 16) := by rw [hE6]; exact ss5
  have t6_k : (E6.2.1 (k)).1 = 2 := by rw [hE6]; exact t5_k
  clear cc5 ss5 t5_k
  refine r_aload_n dX2_init_28 rfl ?_
  refine r_bipush dX2_init_29 lb_96 ?_
  refine r_newIb (b := k + 4) (N := 96) dX2_init_31 (by decide) rfl (by omega) (od_leN (by omega) (by omega)) (fun E7 hE7 => ?_)
  have cc7 : E7.1.1 = E.1.1 + 4 := by rw [hE7]; show E6.1.1 + 1 = _; rw [cc6]
  have ss7 : E7.1.2 = E.1.2 + (0 + 16 + 16 + 16 + 96) := by rw [hE7]; show E6.1.2 + 96 = _; rw [ss6, Nat.add_assoc]
  have t7_k : (E7.2.1 (k)).1 = 2 := by rw [hE7, od_nE_o (by omega)]; exact t6_k
  clear cc6 ss6 t6_k
  refine r_putRb dX2_init_33 fkX2_21 gf2_3 ⟨rfl, rfl⟩ rfl t7_k (fun E8 hE8 => ?_)
  have cc8 : E8.1.1 = E.1.1 + 4 := by rw [hE8]; exact cc7
  have ss8 : E8.1.2 = E.1.2 + (0 + 16 + 16 + 16 + 96) := by rw [hE8]; exact ss7
  have t8_k : (E8.2.1 (k)).1 = 2 := by rw [hE8]; exact t7_k
  clear cc7 ss7 t7_k
  refine r_aload_n dX2_init_36 rfl ?_
  refine r_bipush dX2_init_37 lb_96 ?_
  refine r_newIb (b := k + 5) (N := 96) dX2_init_39 (by decide) rfl (by omega) (od_leN (by omega) (by omega)) (fun E9 hE9 => ?_)
  have cc9 : E9.1.1 = E.1.1 + 5 := by rw [hE9]; show E8.1.1 + 1 = _; rw [cc8]
  have ss9 : E9.1.2 = E.1.2 + (0 + 16 + 16 + 16 + 96 + 96) := by rw [hE9]; show E8.1.2 + 96 = _; rw [ss8, Nat.add_assoc]
  have t9_k : (E9.2.1 (k)).1 = 2 := by rw [hE9, od_nE_o (by omega)]; exact t8_k
  clear cc8 ss8 t8_k
  refine r_putRb dX2_init_41 fkX2_24 gf2_4 ⟨rfl, rfl⟩ rfl t9_k (fun E10 hE10 => ?_)
  have cc10 : E10.1.1 = E.1.1 + 5 := by rw [hE10]; exact cc9
  have ss10 : E10.1.2 = E.1.2 + (0 + 16 + 16 + 16 + 96 + 96) := by rw [hE10]; exact ss9
  have t10_k : (E10.2.1 (k)).1 = 2 := by rw [hE10]; exact t9_k
  clear cc9 ss9 t9_k
  refine r_aload_n dX2_init_44 rfl ?_
  refine r_iconst dX2_init_45 li_0 ?_
  refine r_putIj (j := 5) rfl dX2_init_46 fkX2_27 gf2_5 pf2_5 t10_k ?_
  refine r_aload_n dX2_init_49 rfl ?_
  refine r_iconst dX2_init_50 li_0 ?_
  refine r_putIj (j := 6) rfl dX2_init_51 fkX2_31 gf2_6 pf2_6 t10_k ?_
  exact r_vret dX2_init_54 rfl (by subst hE1 hE2 hE3 hE4 hE5 hE6 hE7 hE8 hE9 hE10; rfl)
def nX8 (E : od_E) (k : Int) : od_E := (od_pE (od_nE E 20 400 400) (k) 0 (k + 1))
def gX8 (g : od_G) (k : Int) : od_G := (od_up (od_nG g (k + 1) 0) (k) 1 0)
theorem nX8_c (E : od_E) (k : Int) : (nX8 E k).1 = (E.1.1 + 1, E.1.2 + (0 + 400)) := by
  have h0 : E.1 = (E.1.1 + 0, E.1.2 + 0) := rfl
  have h1 : (od_nE E 20 400 400).1 = (E.1.1 + 1, E.1.2 + (0 + 400)) := by
    have z1 : E.1.1 = E.1.1 + 0 := congrArg Prod.fst h0
    have z2 : E.1.2 = E.1.2 + (0) := congrArg Prod.snd h0
    exact Prod.ext (by show E.1.1 + 1 = E.1.1 + 1; omega) (by show E.1.2 + 400 = E.1.2 + (0 + 400); omega)
  have h2 : (od_pE (od_nE E 20 400 400) (k) 0 (k + 1)).1 = (E.1.1 + 1, E.1.2 + (0 + 400)) := h1
  exact h2
theorem nX8_k {E : od_E} {k a : Int} (hE : (E.1.1 : Int) = k + 1) (h : a < (E.1.1 : Int)) : (nX8 E k).2.1 a = E.2.1 a := by
  unfold nX8
  show ((od_nE E 20 400 400)).2.1 a = _
  rw [od_nE_o (by have z : (E).1.1 = E.1.1 + 0 := rfl; omega)]
theorem nX8_r {E : od_E} {k a : Int} {j : Nat} (hE : (E.1.1 : Int) = k + 1) (h : a < (E.1.1 : Int)) (hk : a ≠ k) : (nX8 E k).2.2 a j = E.2.2 a j := by
  unfold nX8
  rw [od_pE_r (by omega)]
  rw [od_nE_r (by have z : (E).1.1 = E.1.1 + 0 := rfl; omega)]
set_option maxRecDepth 20000 in
theorem c_X8_init {E : od_E} {g : od_G} {k : Int} (hk : (E.2.1 k).1 = 8) (hE : (E.1.1 : Int) = k + 1) (hk0 : 0 ≤ k) : od_Ct 1 mX8_init [(2, k)] E g (none, nX8 E k, gX8 g k) := by
  have hx := nX8_c E k
  have hr1 : (od_x (none, nX8 E k, gX8 g k)).1.1.1 = E.1.1 + 1 := congrArg Prod.fst hx
  have hr2 : (od_x (none, nX8 E k, gX8 g k)).1.1.2 = E.1.2 + (0 + 400) := congrArg Prod.snd hx
  have cc0 : E.1.1 = E.1.1 + 0 := rfl
  have ss0 : E.1.2 = E.1.2 + 0 := rfl
  have t0_k := hk
  refine od_ctI pnX8 rfl (Nat.le_of_ble_eq_true rfl) ⟨by show _ ≤ (nX8 E k).1.1; rw [hx]; exact Nat.le_add_right _ _, by show _ ≤ (nX8 E k).1.2; rw [hx]; exact Nat.le_add_right _ _⟩ ?_
  show od_R _ _ _ _ _ 0 [some (2, k)] [] E g
  refine r_aload_n dX8_init_0 rfl ?_
  refine r_objI dX8_init_1 lkX8_3 (by omega) (by decide) (Nat.le_of_ble_eq_true rfl) ?_
  refine r_aload_n dX8_init_4 rfl ?_
  refine r_sipush dX8_init_5 ls_400 ?_
  refine r_newIb (b := k + 1) (N := 400) dX8_init_8 (by decide) rfl (by omega) (od_leN (by omega) (by omega)) (fun E1 hE1 => ?_)
  have cc1 : E1.1.1 = E.1.1 + 1 := by rw [hE1]; rfl
  have ss1 : E1.1.2 = E.1.2 + (0 + 400) := by rw [hE1]; show E.1.2 + 400 = _; omega
  have t1_k : (E1.2.1 (k)).1 = 8 := by rw [hE1, od_nE_o (by omega)]; exact t0_k
  refine r_putRb dX8_init_10 fkX8_9 gf8_0 ⟨rfl, rfl⟩ rfl t1_k (fun E2 hE2 => ?_)
  have cc2 : E2.1.1 = E.1.1 + 1 := by rw [hE2]; exact cc1
  have ss2 : E2.1.2 = E.1.2 + (0 + 400) := by rw [hE2]; exact ss1
  have t2_k : (E2.2.1 (k)).1 = 8 := by rw [hE2]; exact t1_k
  clear cc1 ss1 t1_k
  refine r_aload_n dX8_init_13 rfl ?_
  refine r_iconst dX8_init_14 li_0 ?_
  refine r_putIj (j := 1) rfl dX8_init_15 fkX8_15 gf8_1 pf8_1 t2_k ?_
  exact r_vret dX8_init_18 rfl (by subst hE1 hE2; rfl)
def nX7 (E : od_E) (k : Int) : od_E := (od_pE (od_nE E 23 64 64) (k) 0 (k + 1))
def gX7 (g : od_G) (k : Int) : od_G := (od_nG g (k + 1) 0)
theorem nX7_c (E : od_E) (k : Int) : (nX7 E k).1 = (E.1.1 + 1, E.1.2 + (0 + 64)) := by
  have h0 : E.1 = (E.1.1 + 0, E.1.2 + 0) := rfl
  have h1 : (od_nE E 23 64 64).1 = (E.1.1 + 1, E.1.2 + (0 + 64)) := by
    have z1 : E.1.1 = E.1.1 + 0 := congrArg Prod.fst h0
    have z2 : E.1.2 = E.1.2 + (0) := congrArg Prod.snd h0
    exact Prod.ext (by show E.1.1 + 1 = E.1.1 + 1; omega) (by show E.1.2 + 64 = E.1.2 + (0 + 64); omega)
  have h2 : (od_pE (od_nE E 23 64 64) (k) 0 (k + 1)).1 = (E.1.1 + 1, E.1.2 + (0 + 64)) := h1
  exact h2
theorem nX7_k {E : od_E} {k a : Int} (hE : (E.1.1 : Int) = k + 1) (h : a < (E.1.1 : Int)) : (nX7 E k).2.1 a = E.2.1 a := by
  unfold nX7
  show ((od_nE E 23 64 64)).2.1 a = _
  rw [od_nE_o (by have z : (E).1.1 = E.1.1 + 0 := rfl; omega)]
theorem nX7_r {E : od_E} {k a : Int} {j : Nat} (hE : (E.1.1 : Int) = k + 1) (h : a < (E.1.1 : Int)) (hk : a ≠ k) : (nX7 E k).2.2 a j = E.2.2 a j := by
  unfold nX7
  rw [od_pE_r (by omega)]
  rw [od_nE_r (by have z : (E).1.1 = E.1.1 + 0 := rfl; omega)]
set_option maxRecDepth 20000 in
theorem c_X7_init {E : od_E} {g : od_G} {k : Int} (hk : (E.2.1 k).1 = 7) (hE : (E.1.1 : Int) = k + 1) (hk0 : 0 ≤ k) : od_Ct 1 mX7_init [(2, k)] E g (none, nX7 E k, gX7 g k) := by
  have hx := nX7_c E k
  have hr1 : (od_x (none, nX7 E k, gX7 g k)).1.1.1 = E.1.1 + 1 := congrArg Prod.fst hx
  have hr2 : (od_x (none, nX7 E k, gX7 g k)).1.1.2 = E.1.2 + (0 + 64) := congrArg Prod.snd hx
  have cc0 : E.1.1 = E.1.1 + 0 := rfl
  have ss0 : E.1.2 = E.1.2 + 0 := rfl
  have t0_k := hk
  refine od_ctI pnX7 rfl (Nat.le_of_ble_eq_true rfl) ⟨by show _ ≤ (nX7 E k).1.1; rw [hx]; exact Nat.le_add_right _ _, by show _ ≤ (nX7 E k).1.2; rw [hx]; exact Nat.le_add_right _ _⟩ ?_
  show od_R _ _ _ _ _ 0 [some (2, k)] [] E g
  refine r_aload_n dX7_init_0 rfl ?_
  refine r_objI dX7_init_1 lkX7_3 (by omega) (by decide) (Nat.le_of_ble_eq_true rfl) ?_
  refine r_aload_n dX7_init_4 rfl ?_
  refine r_bipush dX7_init_5 lb_64 ?_
  refine r_newJb (b := k + 1) (N := 64) dX7_init_7 (by decide) rfl (by omega) (od_leN (by omega) (by omega)) (fun E1 hE1 => ?_)
  have cc1 : E1.1.1 = E.1.1 + 1 := by rw [hE1]; rfl
  have ss1 : E1.1.2 = E.1.2 + (0 + 64) := by rw [hE1]; show E.1.2 + 64 = _; omega
  have t1_k : (E1.2.1 (k)).1 = 7 := by rw [hE1, od_nE_o (by omega)]; exact t0_k
  refine r_putRb dX7_init_9 fkX7_9 gf7_0 ⟨rfl, rfl⟩ rfl t1_k (fun E2 hE2 => ?_)
  have cc2 : E2.1.1 = E.1.1 + 1 := by rw [hE2]; exact cc1
  have ss2 : E2.1.2 = E.1.2 + (0 + 64) := by rw [hE2]; exact ss1
  have t2_k : (E2.2.1 (k)).1 = 7 := by rw [hE2]; exact t1_k
  clear cc1 ss1 t1_k
  exact r_vret dX7_init_12 rfl (by subst hE1 hE2; rfl)
def nX9 (E : od_E) (k : Int) (c : Int) (s : Int) : od_E := (od_pE (od_nE (od_pE (od_nE (od_pE (od_nE (od_pE (od_nE (od_pE (od_nE (od_pE (od_nE E 20 c.toNat c.toNat) (k) 0 (k + 1)) 20 c.toNat c.toNat) (k) 1 (k + 2)) 20 c.toNat c.toNat) (k) 2 (k + 3)) 20 c.toNat c.toNat) (k) 3 (k + 4)) 20 c.toNat c.toNat) (k) 4 (k + 5)) 20 s.toNat s.toNat) (k) 5 (k + 6))
def gX9 (g : od_G) (k : Int) : od_G := (od_nG (od_nG (od_nG (od_nG (od_nG (od_nG (od_up (od_up g (k) 6 0) (k) 7 0) (k + 1) 0) (k + 2) 0) (k + 3) 0) (k + 4) 0) (k + 5) 0) (k + 6) 0)
theorem nX9_c (E : od_E) (k : Int) (c : Int) (s : Int) : (nX9 E k c s).1 = (E.1.1 + 6, E.1.2 + (0 + c.toNat + c.toNat + c.toNat + c.toNat + c.toNat + s.toNat)) := by
  have h0 : E.1 = (E.1.1 + 0, E.1.2 + 0) := rfl
  have h1 : (od_nE E 20 c.toNat c.toNat).1 = (E.1.1 + 1, E.1.2 + (0 + c.toNat)) := by
    have z1 : E.1.1 = E.1.1 + 0 := congrArg Prod.fst h0
    have z2 : E.1.2 = E.1.2 + (0) := congrArg Prod.snd h0
    exact Prod.ext (by show E.1.1 + 1 = E.1.1 + 1; omega) (by show E.1.2 + c.toNat = E.1.2 + (0 + c.toNat); omega)
  have h2 : (od_pE (od_nE E 20 c.toNat c.toNat) (k) 0 (k + 1)).1 = (E.1.1 + 1, E.1.2 + (0 + c.toNat)) := h1
  have h3 : (od_nE (od_pE (od_nE E 20 c.toNat c.toNat) (k) 0 (k + 1)) 20 c.toNat c.toNat).1 = (E.1.1 + 2, E.1.2 + (0 + c.toNat + c.toNat)) := by
    have z1 : (od_pE (od_nE E 20 c.toNat c.toNat) (k) 0 (k + 1)).1.1 = E.1.1 + 1 := congrArg Prod.fst h2
    have z2 : (od_pE (od_nE E 20 c.toNat c.toNat) (k) 0 (k + 1)).1.2 = E.1.2 + (0 + c.toNat) := congrArg Prod.snd h2
    exact Prod.ext (by show (od_pE (od_nE E 20 c.toNat c.toNat) (k) 0 (k + 1)).1.1 + 1 = E.1.1 + 2; omega) (by show (od_pE (od_nE E 20 c.toNat c.toNat) (k) 0 (k + 1)).1.2 + c.toNat = E.1.2 + (0 + c.toNat + c.toNat); omega)
  have h4 : (od_pE (od_nE (od_pE (od_nE E 20 c.toNat c.toNat) (k) 0 (k + 1)) 20 c.toNat c.toNat) (k) 1 (k + 2)).1 = (E.1.1 + 2, E.1.2 + (0 + c.toNat + c.toNat)) := h3
  have h5 : (od_nE (od_pE (od_nE (od_pE (od_nE E 20 c.toNat c.toNat) (k) 0 (k + 1)) 20 c.toNat c.toNat) (k) 1 (k + 2)) 20 c.toNat c.toNat).1 = (E.1.1 + 3, E.1.2 + (0 + c.toNat + c.toNat + c.toNat)) := by
    have z1 : (od_pE (od_nE (od_pE (od_nE E 20 c.toNat c.toNat) (k) 0 (k + 1)) 20 c.toNat c.toNat) (k) 1 (k + 2)).1.1 = E.1.1 + 2 := congrArg Prod.fst h4
    have z2 : (od_pE (od_nE (od_pE (od_nE E 20 c.toNat c.toNat) (k) 0 (k + 1)) 20 c.toNat c.toNat) (k) 1 (k + 2)).1.2 = E.1.2 + (0 + c.toNat + c.toNat) := congrArg Prod.snd h4
    exact Prod.ext (by show (od_pE (od_nE (od_pE (od_nE E 20 c.toNat c.toNat) (k) 0 (k + 1)) 20 c.toNat c.toNat) (k) 1 (k + 2)).1.1 + 1 = E.1.1 + 3; omega) (by show (od_pE (od_nE (od_pE (od_nE E 20 c.toNat c.toNat) (k) 0 (k + 1)) 20 c.toNat c.toNat) (k) 1 (k + 2)).1.2 + c.toNat = E.1.2 + (0 + c.toNat + c.toNat + c.toNat); omega)
  have h6 : (od_pE (od_nE (od_pE (od_nE (od_pE (od_nE E 20 c.toNat c.toNat) (k) 0 (k + 1)) 20 c.toNat c.toNat) (k) 1 (k + 2)) 20 c.toNat c.toNat) (k) 2 (k + 3)).1 = (E.1.1 + 3, E.1.2 + (0 + c.toNat + c.toNat + c.toNat)) := h5
  have h7 : (od_nE (od_pE (od_nE (od_pE (od_nE (od_pE (od_nE E 20 c.toNat c.toNat) (k) 0 (k + 1)) 20 c.toNat c.toNat) (k) 1 (k + 2)) 20 c.toNat c.toNat) (k) 2 (k + 3)) 20 c.toNat c.toNat).1 = (E.1.1 + 4, E.1.2 + (0 + c.toNat + c.toNat + c.toNat + c.toNat)) := by
    have z1 : (od_pE (od_nE (od_pE (od_nE (od_pE (od_nE E 20 c.toNat c.toNat) (k) 0 (k + 1)) 20 c.toNat c.toNat) (k) 1 (k + 2)) 20 c.toNat c.toNat) (k) 2 (k + 3)).1.1 = E.1.1 + 3 := congrArg Prod.fst h6
    have z2 : (od_pE (od_nE (od_pE (od_nE (od_pE (od_nE E 20 c.toNat c.toNat) (k) 0 (k + 1)) 20 c.toNat c.toNat) (k) 1 (k + 2)) 20 c.toNat c.toNat) (k) 2 (k + 3)).1.2 = E.1.2 + (0 + c.toNat + c.toNat + c.toNat) := congrArg Prod.snd h6
    exact Prod.ext (by show (od_pE (od_nE (od_pE (od_nE (od_pE (od_nE E 20 c.toNat c.toNat) (k) 0 (k + 1)) 20 c.toNat c.toNat) (k) 1 (k + 2)) 20 c.toNat c.toNat) (k) 2 (k + 3)).1.1 + 1 = E.1.1 + 4; omega) (by show (od_pE (od_nE (od_pE (od_nE (od_pE (od_nE E 20 c.toNat c.toNat) (k) 0 (k + 1)) 20 c.toNat c.toNat) (k) 1 (k + 2)) 20 c.toNat c.toNat) (k) 2 (k + 3)).1.2 + c.toNat = E.1.2 + (0 + c.toNat + c.toNat + c.toNat + c.toNat); omega)
  have h8 : (od_pE (od_nE (od_pE (od_nE (od_pE (od_nE (od_pE (od_nE E 20 c.toNat c.toNat) (k) 0 (k + 1)) 20 c.toNat c.toNat) (k) 1 (k + 2)) 20 c.toNat c.toNat) (k) 2 (k + 3)) 20 c.toNat c.toNat) (k) 3 (k + 4)).1 = (E.1.1 + 4, E.1.2 + (0 + c.toNat + c.toNat + c.toNat + c.toNat)) := h7
  have h9 : (od_nE (od_pE (od_nE (od_pE (od_nE (od_pE (od_nE (od_pE (od_nE E 20 c.toNat c.toNat) (k) 0 (k + 1)) 20 c.toNat c.toNat) (k) 1 (k + 2)) 20 c.toNat c.toNat) (k) 2 (k + 3)) 20 c.toNat c.toNat) (k) 3 (k + 4)) 20 c.toNat c.toNat).1 = (E.1.1 + 5, E.1.2 + (0 + c.toNat + c.toNat + c.toNat + c.toNat + c.toNat)) := by
    have z1 : (od_pE (od_nE (od_pE (od_nE (od_pE (od_nE (od_pE (od_nE E 20 c.toNat c.toNat) (k) 0 (k + 1)) 20 c.toNat c.toNat) (k) 1 (k + 2)) 20 c.toNat c.toNat) (k) 2 (k + 3)) 20 c.toNat c.toNat) (k) 3 (k + 4)).1.1 = E.1.1 + 4 := congrArg Prod.fst h8
    have z2 : (od_pE (od_nE (od_pE (od_nE (od_pE (od_nE (od_pE (od_nE E 20 c.toNat c.toNat) (k) 0 (k + 1)) 20 c.toNat c.toNat) (k) 1 (k + 2)) 20 c.toNat c.toNat) (k) 2 (k + 3)) 20 c.toNat c.toNat) (k) 3 (k + 4)).1.2 = E.1.2 + (0 + c.toNat + c.toNat + c.toNat + c.toNat) := congrArg Prod.snd h8
    exact Prod.ext (by show (od_pE (od_nE (od_pE (od_nE (od_pE (od_nE (od_pE (od_nE E 20 c.toNat c.toNat) (k) 0 (k + 1)) 20 c.toNat c.toNat) (k) 1 (k + 2)) 20 c.toNat c.toNat) (k) 2 (k + 3)) 20 c.toNat c.toNat) (k) 3 (k + 4)).1.1 + 1 = E.1.1 + 5; omega) (by show (od_pE (od_nE (od_pE (od_nE (od_pE (od_nE (od_pE (od_nE E 20 c.toNat c.toNat) (k) 0 (k + 1)) 20 c.toNat c.toNat) (k) 1 (k + 2)) 20 c.toNat c.toNat) (k) 2 (k + 3)) 20 c.toNat c.toNat) (k) 3 (k + 4)).1.2 + c.toNat = E.1.2 + (0 + c.toNat + c.toNat + c.toNat + c.toNat + c.toNat); omega)
  have h10 : (od_pE (od_nE (od_pE (od_nE (od_pE (od_nE (od_pE (od_nE (od_pE (od_nE E 20 c.toNat c.toNat) (k) 0 (k + 1)) 20 c.toNat c.toNat) (k) 1 (k + 2)) 20 c.toNat c.toNat) (k) 2 (k + 3)) 20 c.toNat c.toNat) (k) 3 (k + 4)) 20 c.toNat c.toNat) (k) 4 (k + 5)).1 = (E.1.1 + 5, E.1.2 + (0 + c.toNat + c.toNat + c.toNat + c.toNat + c.toNat)) := h9
  have h11 : (od_nE (od_pE (od_nE (od_pE (od_nE (od_pE (od_nE (od_pE (od_nE (od_pE (od_nE E 20 c.toNat c.toNat) (k) 0 (k + 1)) 20 c.toNat c.toNat) (k) 1 (k + 2)) 20 c.toNat c.toNat) (k) 2 (k + 3)) 20 c.toNat c.toNat) (k) 3 (k + 4)) 20 c.toNat c.toNat) (k) 4 (k + 5)) 20 s.toNat s.toNat).1 = (E.1.1 + 6, E.1.2 + (0 + c.toNat + c.toNat + c.toNat + c.toNat + c.toNat + s.toNat)) := by
    have z1 : (od_pE (od_nE (od_pE (od_nE (od_pE (od_nE (od_pE (od_nE (od_pE (od_nE E 20 c.toNat c.toNat) (k) 0 (k + 1)) 20 c.toNat c.toNat) (k) 1 (k + 2)) 20 c.toNat c.toNat) (k) 2 (k + 3)) 20 c.toNat c.toNat) (k) 3 (k + 4)) 20 c.toNat c.toNat) (k) 4 (k + 5)).1.1 = E.1.1 + 5 := congrArg Prod.fst h10
    have z2 : (od_pE (od_nE (od_pE (od_nE (od_pE (od_nE (od_pE (od_nE (od_pE (od_nE E 20 c.toNat c.toNat) (k) 0 (k + 1)) 20 c.toNat c.toNat) (k) 1 (k + 2)) 20 c.toNat c.toNat) (k) 2 (k + 3)) 20 c.toNat c.toNat) (k) 3 (k + 4)) 20 c.toNat c.toNat) (k) 4 (k + 5)).1.2 = E.1.2 + (0 + c.toNat + c.toNat + c.toNat + c.toNat + c.toNat) := congrArg Prod.snd h10
    exact Prod.ext (by show (od_pE (od_nE (od_pE (od_nE (od_pE (od_nE (od_pE (od_nE (od_pE (od_nE E 20 c.toNat c.toNat) (k) 0 (k + 1)) 20 c.toNat c.toNat) (k) 1 (k + 2)) 20 c.toNat c.toNat) (k) 2 (k + 3)) 20 c.toNat c.toNat) (k) 3 (k + 4)) 20 c.toNat c.toNat) (k) 4 (k + 5)).1.1 + 1 = E.1.1 + 6; omega) (by show (od_pE (od_nE (od_pE (od_nE (od_pE (od_nE (od_pE (od_nE (od_pE (od_nE E 20 c.toNat c.toNat) (k) 0 (k + 1)) 20 c.toNat c.toNat) (k) 1 (k + 2)) 20 c.toNat c.toNat) (k) 2 (k + 3)) 20 c.toNat c.toNat) (k) 3 (k + 4)) 20 c.toNat c.toNat) (k) 4 (k + 5)).1.2 + s.toNat = E.1.2 + (0 + c.toNat + c.toNat + c.toNat + c.toNat + c.toNat + s.toNat); omega)
  have h12 : (od_pE (od_nE (od_pE (od_nE (od_pE (od_nE (od_pE (od_nE (od_pE (od_nE (od_pE (od_nE E 20 c.toNat c.toNat) (k) 0 (k + 1)) 20 c.toNat c.toNat) (k) 1 (k + 2)) 20 c.toNat c.toNat) (k) 2 (k + 3)) 20 c.toNat c.toNat) (k) 3 (k + 4)) 20 c.toNat c.toNat) (k) 4 (k + 5)) 20 s.toNat s.toNat) (k) 5 (k + 6)).1 = (E.1.1 + 6, E.1.2 + (0 + c.toNat + c.toNat + c.toNat + c.toNat + c.toNat + s.toNat)) := h11
  exact h12
theorem nX9_k {E : od_E} {k a : Int} {c : Int} {s : Int} (hE : (E.1.1 : Int) = k + 1) (h : a < (E.1.1 : Int)) : (nX9 E k c s).2.1 a = E.2.1 a := by
  unfold nX9
  show ((od_nE (od_pE (od_nE (od_pE (od_nE (od_pE (od_nE (od_pE (od_nE (od_pE (od_nE E 20 c.toNat c.toNat) (k) 0 (k + 1)) 20 c.toNat c.toNat) (k) 1 (k + 2)) 20 c.toNat c.toNat) (k) 2 (k + 3)) 20 c.toNat c.toNat) (k) 3 (k + 4)) 20 c.toNat c.toNat) (k) 4 (k + 5)) 20 s.toNat s.toNat)).2.1 a = _
  rw [od_nE_o (by have z : ((od_pE (od_nE (od_pE (od_nE (od_pE (od_nE (od_pE (od_nE (od_pE (od_nE E 20 c.toNat c.toNat) (k) 0 (k + 1)) 20 c.toNat c.toNat) (k) 1 (k + 2)) 20 c.toNat c.toNat) (k) 2 (k + 3)) 20 c.toNat c.toNat) (k) 3 (k + 4)) 20 c.toNat c.toNat) (k) 4 (k + 5))).1.1 = E.1.1 + 5 := rfl; omega)]
  show ((od_nE (od_pE (od_nE (od_pE (od_nE (od_pE (od_nE (od_pE (od_nE E 20 c.toNat c.toNat) (k) 0 (k + 1)) 20 c.toNat c.toNat) (k) 1 (k + 2)) 20 c.toNat c.toNat) (k) 2 (k + 3)) 20 c.toNat c.toNat) (k) 3 (k + 4)) 20 c.toNat c.toNat)).2.1 a = _
  rw [od_nE_o (by have z : ((od_pE (od_nE (od_pE (od_nE (od_pE (od_nE (od_pE (od_nE E 20 c.toNat c.toNat) (k) 0 (k + 1)) 20 c.toNat c.toNat) (k) 1 (k + 2)) 20 c.toNat c.toNat) (k) 2 (k + 3)) 20 c.toNat c.toNat) (k) 3 (k + 4))).1.1 = E.1.1 + 4 := rfl; omega)]
  show ((od_nE (od_pE (od_nE (od_pE (od_nE (od_pE (od_nE E 20 c.toNat c.toNat) (k) 0 (k + 1)) 20 c.toNat c.toNat) (k) 1 (k + 2)) 20 c.toNat c.toNat) (k) 2 (k + 3)) 20 c.toNat c.toNat)).2.1 a = _
  rw [od_nE_o (by have z : ((od_pE (od_nE (od_pE (od_nE (od_pE (od_nE E 20 c.toNat c.toNat) (k) 0 (k + 1)) 20 c.toNat c.toNat) (k) 1 (k + 2)) 20 c.toNat c.toNat) (k) 2 (k + 3))).1.1 = E.1.1 + 3 := rfl; omega)]
  show ((od_nE (od_pE (od_nE (od_pE (od_nE E 20 c.toNat c.toNat) (k) 0 (k + 1)) 20 c.toNat c.toNat) (k) 1 (k + 2)) 20 c.toNat c.toNat)).2.1 a = _
  rw [od_nE_o (by have z : ((od_pE (od_nE (od_pE (od_nE E 20 c.toNat c.toNat) (k) 0 (k + 1)) 20 c.toNat c.toNat) (k) 1 (k + 2))).1.1 = E.1.1 + 2 := rfl; omega)]
  show ((od_nE (od_pE (od_nE E 20 c.toNat c.toNat) (k) 0 (k + 1)) 20 c.toNat c.toNat)).2.1 a = _
  rw [od_nE_o (by have z : ((od_pE (od_nE E 20 c.toNat c.toNat) (k) 0 (k + 1))).1.1 = E.1.1 + 1 := rfl; omega)]
  show ((od_nE E 20 c.toNat c.toNat)).2.1 a = _
  rw [od_nE_o (by have z : (E).1.1 = E.1.1 + 0 := rfl; omega)]
theorem nX9_r {E : od_E} {k a : Int} {c : Int} {s : Int} {j : Nat} (hE : (E.1.1 : Int) = k + 1) (h : a < (E.1.1 : Int)) (hk : a ≠ k) : (nX9 E k c s).2.2 a j = E.2.2 a j := by
  unfold nX9
  rw [od_pE_r (by omega)]
  rw [od_nE_r (by have z : ((od_pE (od_nE (od_pE (od_nE (od_pE (od_nE (od_pE (od_nE (od_pE (od_nE E 20 c.toNat c.toNat) (k) 0 (k + 1)) 20 c.toNat c.toNat) (k) 1 (k + 2)) 20 c.toNat c.toNat) (k) 2 (k + 3)) 20 c.toNat c.toNat) (k) 3 (k + 4)) 20 c.toNat c.toNat) (k) 4 (k + 5))).1.1 = E.1.1 + 5 := rfl; omega)]
  rw [od_pE_r (by omega)]
  rw [od_nE_r (by have z : ((od_pE (od_nE (od_pE (od_nE (od_pE (od_nE (od_pE (od_nE E 20 c.toNat c.toNat) (k) 0 (k + 1)) 20 c.toNat c.toNat) (k) 1 (k + 2)) 20 c.toNat c.toNat) (k) 2 (k + 3)) 20 c.toNat c.toNat) (k) 3 (k + 4))).1.1 = E.1.1 + 4 := rfl; omega)]
  rw [od_pE_r (by omega)]
  rw [od_nE_r (by have z : ((od_pE (od_nE (od_pE (od_nE (od_pE (od_nE E 20 c.toNat c.toNat) (k) 0 (k + 1)) 20 c.toNat c.toNat) (k) 1 (k + 2)) 20 c.toNat c.toNat) (k) 2 (k + 3))).1.1 = E.1.1 + 3 := rfl; omega)]
  rw [od_pE_r (by omega)]
  rw [od_nE_r (by have z : ((od_pE (od_nE (od_pE (od_nE E 20 c.toNat c.toNat) (k) 0 (k + 1)) 20 c.toNat c.toNat) (k) 1 (k + 2))).1.1 = E.1.1 + 2 := rfl; omega)]
  rw [od_pE_r (by omega)]
  rw [od_nE_r (by have z : ((od_pE (od_nE E 20 c.toNat c.toNat) (k) 0 (k + 1))).1.1 = E.1.1 + 1 := rfl; omega)]
  rw [od_pE_r (by omega)]
  rw [od_nE_r (by have z : (E).1.1 = E.1.1 + 0 := rfl; omega)]
set_option maxRecDepth 20000 in
theorem c_X9_init {E : od_E} {g : od_G} {k c s : Int} (hk : (E.2.1 k).1 = 9) (hE : (E.1.1 : Int) = k + 1) (hk0 : 0 ≤ k) (hc : 0 ≤ c ∧ c ≤ 1000) (hs : 0 ≤ s ∧ s ≤ 1000) : od_Ct 2 mX9_init [(2, k), (0, c), (0, s)] E g (none, nX9 E k c s, gX9 g k) := by
  have hx := nX9_c E k c s
  have hr1 : (od_x (none, nX9 E k c s, gX9 g k)).1.1.1 = E.1.1 + 6 := congrArg Prod.fst hx
  have hr2 : (od_x (none, nX9 E k c s, gX9 g k)).1.1.2 = E.1.2 + (0 + c.toNat + c.toNat + c.toNat + c.toNat + c.toNat + s.toNat) := congrArg Prod.snd hx
  have cc0 : E.1.1 = E.1.1 + 0 := rfl
  have ss0 : E.1.2 = E.1.2 + 0 := rfl
  have t0_k := hk
  refine od_ctI pnX9 rfl (Nat.le_of_ble_eq_true rfl) ⟨by show _ ≤ (nX9 E k c s).1.1; rw [hx]; exact Nat.le_add_right _ _, by show _ ≤ (nX9 E k c s).1.2; rw [hx]; exact Nat.le_add_right _ _⟩ ?_
  show od_R _ _ _ _ _ 0 [some (2, k), some (0, c), some (0, s), none] [] E g
  refine r_aload_n dX9_init_0 rfl ?_
  refine r_objI dX9_init_1 lkX9_3 (by omega) (by decide) (Nat.le_of_ble_eq_true rfl) ?_
  refine r_aload_n dX9_init_4 rfl ?_
  refine r_iconst dX9_init_5 li_0 ?_
  refine r_putIj (j := 6) rfl dX9_init_6 fkX9_9 gf9_6 pf9_6 t0_k ?_
  refine r_aload_n dX9_init_9 rfl ?_
  refine r_iconst dX9_init_10 li_0 ?_
  refine r_putIj (j := 7) rfl dX9_init_11 fkX9_15 gf9_7 pf9_7 t0_k ?_
  refine r_iload_n dX9_init_14 rfl ?_
  refine r_iconst dX9_init_15 li_0 ?_
  refine r_mmax dX9_init_16 lkX9_18 (by decide) (Nat.le_of_ble_eq_true rfl) ?_
  refine r_istore_n dX9_init_19 (by decide) rfl ?_
  refine r_aload_n dX9_init_20 rfl ?_
  refine r_iload_n dX9_init_21 rfl ?_
  refine r_newIb (b := k + 1) (N := c.toNat) dX9_init_22 (by omega) (by omega) (by omega) (od_leN (by omega) (by omega)) (fun E1 hE1 => ?_)
  have cc1 : E1.1.1 = E.1.1 + 1 := by rw [hE1]; rfl
  have ss1 : E1.1.2 = E.1.2 + (0 + c.toNat) := by rw [hE1]; show E.1.2 + c.toNat = _; omega
  have t1_k : (E1.2.1 (k)).1 = 9 := by rw [hE1, od_nE_o (by omega)]; exact t0_k
  refine r_putRb dX9_init_24 fkX9_24 gf9_0 ⟨rfl, rfl⟩ rfl t1_k (fun E2 hE2 => ?_)
  have cc2 : E2.1.1 = E.1.1 + 1 := by rw [hE2]; exact cc1
  have ss2 : E2.1.2 = E.1.2 + (0 + c.toNat) := by rw [hE2]; exact ss1
  have t2_k : (E2.2.1 (k)).1 = 9 := by rw [hE2]; exact t1_k
  clear cc1 ss1 t1_k
  refine r_aload_n dX9_init_27 rfl ?_
  refine r_iload_n dX9_init_28 rfl ?_
  refine r_newIb (b := k + 2) (N := c.toNat) dX9_init_29 (by omega) (by omega) (by omega) (od_leN (by omega) (by omega)) (fun E3 hE3 => ?_)
  have cc3 : E3.1.1 = E.1.1 + 2 := by rw [hE3]; show E2.1.1 + 1 = _; rw [cc2]
  have ss3 : E3.1.2 = E.1.2 + (0 + c.toNat + c.toNat) := by rw [hE3]; show E2.1.2 + c.toNat = _; rw [ss2, Nat.add_assoc]
  have t3_k : (E3.2.1 (k)).1 = 9 := by rw [hE3, od_nE_o (by omega)]; exact t2_k
  clear cc2 ss2 t2_k
  refine r_putRb dX9_init_31 fkX9_28 gf9_1 ⟨rfl, rfl⟩ rfl t3_k (fun E4 hE4 => ?_)
  have cc4 : E4.1.1 = E.1.1 + 2 := by rw [hE4]; exact cc3
  have ss4 : E4.1.2 = E.1.2 + (0 + c.toNat + c.toNat) := by rw [hE4]; exact ss3
  have t4_k : (E4.2.1 (k)).1 = 9 := by rw [hE4]; exact t3_k
  clear cc3 ss3 t3_k
  refine r_aload_n dX9_init_34 rfl ?_
  refine r_iload_n dX9_init_35 rfl ?_
  refine r_newIb (b := k + 3) (N := c.toNat) dX9_init_36 (by omega) (by omega) (by omega) (od_leN (by omega) (by omega)) (fun E5 hE5 => ?_)
  have cc5 : E5.1.1 = E.1.1 + 3 := by rw [hE5]; show E4.1.1 + 1 = _; rw [cc4]
  have ss5 : E5.1.2 = E.1.2 + (0 + c.toNat + c.toNat + c.toNat) := by rw [hE5]; show E4.1.2 + c.toNat = _; rw [ss4, Nat.add_assoc]
  have t5_k : (E5.2.1 (k)).1 = 9 := by rw [hE5, od_nE_o (by omega)]; exact t4_k
  clear cc4 ss4 t4_k
  refine r_putRb dX9_init_38 fkX9_31 gf9_2 ⟨rfl, rfl⟩ rfl t5_k (fun E6 hE6 => ?_)
  have cc6 : E6.1.1 = E.1.1 + 3 := by rw [hE6]; exact cc5
  have ss6 : E6.1.2 = E.1.2 + (0 + c.toNat + c.toNat + c.toNat) := by rw [hE6]; exact ss5
  have t6_k : (E6.2.1 (k)).1 = 9 := by rw [hE6]; exact t5_k
  clear cc5 ss5 t5_k
  refine r_aload_n dX9_init_41 rfl ?_
  refine r_iload_n dX9_init_42 rfl ?_
  refine r_newIb (b := k + 4) (N := c.toNat) dX9_init_43 (by omega) (by omega) (by omega) (od_leN (by omega) (by omega)) (fun E7 hE7 => ?_)
  have cc7 : E7.1.1 = E.1.1 + 4 := by rw [hE7]; show E6.1.1 + 1 = _; rw [cc6]
  have ss7 : E7.1.2 = E.1.2 + (0 + c.toNat + c.toNat + c.toNat + c.toNat) := by rw [hE7]; show E6.1.2 + c.toNat = _; rw [ss6, Nat.add_assoc]
  have t7_k : (E7.2.1 (k)).1 = 9 := by rw [hE7, od_nE_o (by omega)]; exact t6_k
  clear cc6 ss6 t6_k
  refine r_putRb dX9_init_45 fkX9_34 gf9_3 ⟨rfl, rfl⟩ rfl t7_k (fun E8 hE8 => ?_)
  have cc8 : E8.1.1 = E.1.1 + 4 := by rw [hE8]; exact cc7
  have ss8 : E8.1.2 = E.1.2 + (0 + c.toNat + c.toNat + c.toNat + c.toNat) := by rw [hE8]; exact ss7
  have t8_k : (E8.2.1 (k)).1 = 9 := by rw [hE8]; exact t7_k
  clear cc7 ss7 t7_k
  refine r_aload_n dX9_init_48 rfl ?_
  refine r_iload_n dX9_init_49 rfl ?_
  refine r_newIb (b := k + 5) (N := c.toNat) dX9_init_50 (by omega) (by omega) (by omega) (od_leN (by omega) (by omega)) (fun E9 hE9 => ?_)
  have cc9 : E9.1.1 = E.1.1 + 5 := by rw [hE9]; show E8.1.1 + 1 = _; rw [cc8]
  have ss9 : E9.1.2 = E.1.2 + (0 + c.toNat + c.toNat + c.toNat + c.toNat + c.toNat) := by rw [hE9]; show E8.1.2 + c.toNat = _; rw [ss8, Nat.add_assoc]
  have t9_k : (E9.2.1 (k)).1 = 9 := by rw [hE9, od_nE_o (by omega)]; exact t8_k
  clear cc8 ss8 t8_k
  refine r_putRb dX9_init_52 fkX9_37 gf9_4 ⟨rfl, rfl⟩ rfl t9_k (fun E10 hE10 => ?_)
  have cc10 : E10.1.1 = E.1.1 + 5 := by rw [hE10]; exact cc9
  have ss10 : E10.1.2 = E.1.2 + (0 + c.toNat + c.toNat + c.toNat + c.toNat + c.toNat) := by rw [hE10]; exact ss9
  have t10_k : (E10.2.1 (k)).1 = 9 := by rw [hE10]; exact t9_k
  clear cc9 ss9 t9_k
  refine r_aload_n dX9_init_55 rfl ?_
  refine r_iload_n dX9_init_56 rfl ?_
  refine r_iconst dX9_init_57 li_0 ?_
  refine r_mmax dX9_init_58 lkX9_18 (by decide) (Nat.le_of_ble_eq_true rfl) ?_
  refine r_newIb (b := k + 6) (N := s.toNat) dX9_init_61 (by omega) (by omega) (by omega) (od_leN (by omega) (by omega)) (fun E11 hE11 => ?_)
  have cc11 : E11.1.1 = E.1.1 + 6 := by rw [hE11]; show E10.1.1 + 1 = _; rw [cc10]
  have ss11 : E11.1.2 = E.1.2 + (0 + c.toNat + c.toNat + c.toNat + c.toNat + c.toNat + s.toNat) := by rw [hE11]; show E10.1.2 + s.toNat = _; rw [ss10, Nat.add_assoc]
  have t11_k : (E11.2.1 (k)).1 = 9 := by rw [hE11, od_nE_o (by omega)]; exact t10_k
  clear cc10 ss10 t10_k
  refine r_putRb dX9_init_63 fkX9_40 gf9_5 ⟨rfl, rfl⟩ rfl t11_k (fun E12 hE12 => ?_)
  have cc12 : E12.1.1 = E.1.1 + 6 := by rw [hE12]; exact cc11
  have ss12 : E12.1.2 = E.1.2 + (0 + c.toNat + c.toNat + c.toNat + c.toNat + c.toNat + s.toNat) := by rw [hE12]; exact ss11
  have t12_k : (E12.2.1 (k)).1 = 9 := by rw [hE12]; exact t11_k
  clear cc11 ss11 t11_k
  exact r_vret dX9_init_66 rfl (by subst hE1 hE2 hE3 hE4 hE5 hE6 hE7 hE8 hE9 hE10 hE11 hE12; rfl)
def nX3 (E : od_E) (k : Int) (tp : Int) : od_E := (od_pE (od_pE (nX9 (od_nE E 9 0 8) (k + 1) (12) (512)) (k) 0 (k + 1)) (k) 1 (tp))
def gX3 (g : od_G) (k : Int) : od_G := (od_up (od_up (od_up (od_up (od_up (od_up (od_up (gX9 (od_nG g (k + 1) 0) (k + 1)) (k) 2 1) (k) 3 0) (k) 4 0) (k) 5 0) (k) 6 0) (k) 7 0) (k) 8 (-1))
theorem nX3_c (E : od_E) (k : Int) (tp : Int) : (nX3 E k tp).1 = (E.1.1 + 7, E.1.2 + (0 + 8 + (0 + (12 : Int).toNat + (12 : Int).toNat + (12 : Int).toNat + (12 : Int).toNat + (12 : Int).toNat + (512 : Int).toNat))) := by
  have h0 : E.1 = (E.1.1 + 0, E.1.2 + 0) := rfl
  have h1 : (od_nE E 9 0 8).1 = (E.1.1 + 1, E.1.2 + (0 + 8)) := by
    have z1 : E.1.1 = E.1.1 + 0 := congrArg Prod.fst h0
    have z2 : E.1.2 = E.1.2 + (0) := congrArg Prod.snd h0
    exact Prod.ext (by show E.1.1 + 1 = E.1.1 + 1; omega) (by show E.1.2 + 8 = E.1.2 + (0 + 8); omega)
  have h2 : (nX9 (od_nE E 9 0 8) (k + 1) (12) (512)).1 = (E.1.1 + 7, E.1.2 + (0 + 8 + (0 + (12 : Int).toNat + (12 : Int).toNat + (12 : Int).toNat + (12 : Int).toNat + (12 : Int).toNat + (512 : Int).toNat))) := by
    rw [nX9_c, h1]
    first | done | exact Prod.ext rfl (Nat.add_assoc _ _ _)
  have h3 : (od_pE (nX9 (od_nE E 9 0 8) (k + 1) (12) (512)) (k) 0 (k + 1)).1 = (E.1.1 + 7, E.1.2 + (0 + 8 + (0 + (12 : Int).toNat + (12 : Int).toNat + (12 : Int).toNat + (12 : Int).toNat + (12 : Int).toNat + (512 : Int).toNat))) := h2
  have h4 : (od_pE (od_pE (nX9 (od_nE E 9 0 8) (k + 1) (12) (512)) (k) 0 (k + 1)) (k) 1 (tp)).1 = (E.1.1 + 7, E.1.2 + (0 + 8 + (0 + (12 : Int).toNat + (12 : Int).toNat + (12 : Int).toNat + (12 : Int).toNat + (12 : Int).toNat + (512 : Int).toNat))) := h3
  exact h4
theorem nX3_k {E : od_E} {k a : Int} {tp : Int} (hE : (E.1.1 : Int) = k + 1) (h : a < (E.1.1 : Int)) : (nX3 E k tp).2.1 a = E.2.1 a := by
  unfold nX3
  show ((od_pE (nX9 (od_nE E 9 0 8) (k + 1) (12) (512)) (k) 0 (k + 1))).2.1 a = _
  show ((nX9 (od_nE E 9 0 8) (k + 1) (12) (512))).2.1 a = _
  rw [nX9_k (by have z : ((od_nE E 9 0 8)).1.1 = E.1.1 + 1 := rfl; omega) (by have z : ((od_nE E 9 0 8)).1.1 = E.1.1 + 1 := rfl; omega)]
  rw [od_nE_o (by have z : (E).1.1 = E.1.1 + 0 := rfl; omega)]
theorem nX3_r {E : od_E} {k a : Int} {tp : Int} {j : Nat} (hE : (E.1.1 : Int) = k + 1) (h : a < (E.1.1 : Int)) (hk : a ≠ k) : (nX3 E k tp).2.2 a j = E.2.2 a j := by
  unfold nX3
  rw [od_pE_r (by omega)]
  rw [od_pE_r (by omega)]
  rw [nX9_r (by have z : ((od_nE E 9 0 8)).1.1 = E.1.1 + 1 := rfl; omega) (by have z : ((od_nE E 9 0 8)).1.1 = E.1.1 + 1 := rfl; omega) (by omega)]
  rw [od_nE_r (by have z : (E).1.1 = E.1.1 + 0 := rfl; omega)]
set_option maxRecDepth 20000 in
theorem c_X3_init {E : od_E} {g : od_G} {k tp : Int} (hk : (E.2.1 k).1 = 3) (hE : (E.1.1 : Int) = k + 1) (hk0 : 0 ≤ k) : od_Ct 3 mX3_init [(2, k), (2, tp)] E g (none, nX3 E k tp, gX3 g k) := by
  have hx := nX3_c E k tp
  have hr1 : (od_x (none, nX3 E k tp, gX3 g k)).1.1.1 = E.1.1 + 7 := congrArg Prod.fst hx
  have hr2 : (od_x (none, nX3 E k tp, gX3 g k)).1.1.2 = E.1.2 + (0 + 8 + (0 + (12 : Int).toNat + (12 : Int).toNat + (12 : Int).toNat + (12 : Int).toNat + (12 : Int).toNat + (512 : Int).toNat)) := congrArg Prod.snd hx
  have cc0 : E.1.1 = E.1.1 + 0 := rfl
  have ss0 : E.1.2 = E.1.2 + 0 := rfl
  have t0_k := hk
  refine od_ctI pnX3 rfl (Nat.le_of_ble_eq_true rfl) ⟨by show _ ≤ (nX3 E k tp).1.1; rw [hx]; exact Nat.le_add_right _ _, by show _ ≤ (nX3 E k tp).1.2; rw [hx]; exact Nat.le_add_right _ _⟩ ?_
  show od_R _ _ _ _ _ 0 [some (2, k), some (2, tp)] [] E g
  refine r_aload_n dX3_init_0 rfl ?_
  refine r_objI dX3_init_1 lkX3_3 (by omega) (by decide) (Nat.le_of_ble_eq_true rfl) ?_
  refine r_aload_n dX3_init_4 rfl ?_
  refine r_newCb (b := k + 1) (c := 9) (N := 8) dX3_init_5 clX3_9 nwX9 inX9 (by decide) rfl (by omega) (od_leN (by omega) (by omega)) (fun E1 hE1 => ?_)
  have cc1 : E1.1.1 = E.1.1 + 1 := by rw [hE1]; rfl
  have ss1 : E1.1.2 = E.1.2 + (0 + 8) := by rw [hE1]; show E.1.2 + 8 = _; omega
  have t1_k : (E1.2.1 (k)).1 = 3 := by rw [hE1, od_nE_o (by omega)]; exact t0_k
  have t1_k___1 : (E1.2.1 (k + 1)).1 = 9 := by rw [hE1, od_nE_k (by omega)]
  refine r_dup dX3_init_8 (by first | exact od_ne2 | exact od_ne0) ?_
  refine r_bipush dX3_init_9 lb_12 ?_
  refine r_sipush dX3_init_11 ls_512 ?_
  obtain ⟨E2, hE2⟩ : ∃ z, z = nX9 E1 (k + 1) (12) (512) := ⟨_, rfl⟩
  have cc2 : E2.1.1 = E.1.1 + 7 := by rw [hE2, nX9_c]; show E1.1.1 + 6 = _; rw [cc1]
  have ss2 : E2.1.2 = E.1.2 + (0 + 8 + (0 + (12 : Int).toNat + (12 : Int).toNat + (12 : Int).toNat + (12 : Int).toNat + (12 : Int).toNat + (512 : Int).toNat)) := by rw [hE2, nX9_c]; show E1.1.2 + (0 + (12 : Int).toNat + (12 : Int).toNat + (12 : Int).toNat + (12 : Int).toNat + (12 : Int).toNat + (512 : Int).toNat) = _; rw [ss1, Nat.add_assoc]
  have t2_k : (E2.2.1 (k)).1 = 3 := by rw [hE2, nX9_k (by omega) (by omega)]; exact t1_k
  have t2_k___1 : (E2.2.1 (k + 1)).1 = 9 := by rw [hE2, nX9_k (by omega) (by omega)]; exact t1_k___1
  refine r_callI2v dX3_init_14 ciX3_11 (by rw [t1_k___1]; decide) (c_X9_init t1_k___1 (by omega) (by omega) (by omega) (by omega)) (by decide) (Nat.le_of_ble_eq_true rfl) ?_ ?_
  · rw [← hE2]; exact ⟨by omega, by omega⟩
  rw [← hE2]
  clear cc1 ss1 t1_k t1_k___1
  refine r_putRb dX3_init_17 fkX3_14 gf3_0 ⟨rfl, rfl⟩ rfl t2_k (fun E3 hE3 => ?_)
  have cc3 : E3.1.1 = E.1.1 + 7 := by rw [hE3]; exact cc2
  have ss3 : E3.1.2 = E.1.2 + (0 + 8 + (0 + (12 : Int).toNat + (12 : Int).toNat + (12 : Int).toNat + (12 : Int).toNat + (12 : Int).toNat + (512 : Int).toNat)) := by rw [hE3]; exact ss2
  have t3_k : (E3.2.1 (k)).1 = 3 := by rw [hE3]; exact t2_k
  clear cc2 ss2 t2_k t2_k___1
  refine r_aload_n dX3_init_20 rfl ?_
  refine r_iconst dX3_init_21 li_1 ?_
  refine r_putZj (j := 2) rfl dX3_init_22 fkX3_20 gf3_2 pf3_2 (by decide) t3_k ?_
  refine r_aload_n dX3_init_25 rfl ?_
  refine r_iconst dX3_init_26 li_0 ?_
  refine r_putIj (j := 3) rfl dX3_init_27 fkX3_24 gf3_3 pf3_3 t3_k ?_
  refine r_aload_n dX3_init_30 rfl ?_
  refine r_iconst dX3_init_31 li_0 ?_
  refine r_putIj (j := 4) rfl dX3_init_32 fkX3_28 gf3_4 pf3_4 t3_k ?_
  refine r_aload_n dX3_init_35 rfl ?_
  refine r_iconst dX3_init_36 li_0 ?_
  refine r_putIj (j := 5) rfl dX3_init_37 fkX3_31 gf3_5 pf3_5 t3_k ?_
  refine r_aload_n dX3_init_40 rfl ?_
  refine r_iconst dX3_init_41 li_0 ?_
  refine r_putIj (j := 6) rfl dX3_init_42 fkX3_34 gf3_6 pf3_6 t3_k ?_
  refine r_aload_n dX3_init_45 rfl ?_
  refine r_iconst dX3_init_46 li_0 ?_
  refine r_putIj (j := 7) rfl dX3_init_47 fkX3_37 gf3_7 pf3_7 t3_k ?_
  refine r_aload_n dX3_init_50 rfl ?_
  refine r_iconst dX3_init_51 li_m1 ?_
  refine r_putIj (j := 8) rfl dX3_init_52 fkX3_40 gf3_8 pf3_8 t3_k ?_
  refine r_aload_n dX3_init_55 rfl ?_
  refine r_aload_n dX3_init_56 rfl ?_
  refine r_putRb dX3_init_57 fkX3_43 gf3_1 ⟨rfl, rfl⟩ rfl t3_k (fun E4 hE4 => ?_)
  have cc4 : E4.1.1 = E.1.1 + 7 := by rw [hE4]; exact cc3
  have ss4 : E4.1.2 = E.1.2 + (0 + 8 + (0 + (12 : Int).toNat + (12 : Int).toNat + (12 : Int).toNat + (12 : Int).toNat + (12 : Int).toNat + (512 : Int).toNat)) := by rw [hE4]; exact ss3
  have t4_k : (E4.2.1 (k)).1 = 3 := by rw [hE4]; exact t3_k
  clear cc3 ss3 t3_k
  exact r_vret dX3_init_60 rfl (by subst hE1 hE2 hE3 hE4; rfl)
def nX0 (E : od_E) (k : Int) : od_E := (od_pE (od_nE (od_pE (nX7 (od_nE E 7 0 1) (k + 1)) (k) 0 (k + 1)) 20 7 7) (k) 1 (k + 3))
def gX0 (g : od_G) (k : Int) : od_G := (od_nG (gX7 (od_nG g (k + 1) 0) (k + 1)) (k + 3) 0)
theorem nX0_c (E : od_E) (k : Int) : (nX0 E k).1 = (E.1.1 + 3, E.1.2 + (0 + 1 + (0 + 64) + 7)) := by
  have h0 : E.1 = (E.1.1 + 0, E.1.2 + 0) := rfl
  have h1 : (od_nE E 7 0 1).1 = (E.1.1 + 1, E.1.2 + (0 + 1)) := by
    have z1 : E.1.1 = E.1.1 + 0 := congrArg Prod.fst h0
    have z2 : E.1.2 = E.1.2 + (0) := congrArg Prod.snd h0
    exact Prod.ext (by show E.1.1 + 1 = E.1.1 + 1; omega) (by show E.1.2 + 1 = E.1.2 + (0 + 1); omega)
  have h2 : (nX7 (od_nE E 7 0 1) (k + 1)).1 = (E.1.1 + 2, E.1.2 + (0 + 1 + (0 + 64))) := by
    rw [nX7_c, h1]
    first | done | exact Prod.ext rfl (Nat.add_assoc _ _ _)
  have h3 : (od_pE (nX7 (od_nE E 7 0 1) (k + 1)) (k) 0 (k + 1)).1 = (E.1.1 + 2, E.1.2 + (0 + 1 + (0 + 64))) := h2
  have h4 : (od_nE (od_pE (nX7 (od_nE E 7 0 1) (k + 1)) (k) 0 (k + 1)) 20 7 7).1 = (E.1.1 + 3, E.1.2 + (0 + 1 + (0 + 64) + 7)) := by
    have z1 : (od_pE (nX7 (od_nE E 7 0 1) (k + 1)) (k) 0 (k + 1)).1.1 = E.1.1 + 2 := congrArg Prod.fst h3
    have z2 : (od_pE (nX7 (od_nE E 7 0 1) (k + 1)) (k) 0 (k + 1)).1.2 = E.1.2 + (0 + 1 + (0 + 64)) := congrArg Prod.snd h3
    exact Prod.ext (by show (od_pE (nX7 (od_nE E 7 0 1) (k + 1)) (k) 0 (k + 1)).1.1 + 1 = E.1.1 + 3; omega) (by show (od_pE (nX7 (od_nE E 7 0 1) (k + 1)) (k) 0 (k + 1)).1.2 + 7 = E.1.2 + (0 + 1 + (0 + 64) + 7); omega)
  have h5 : (od_pE (od_nE (od_pE (nX7 (od_nE E 7 0 1) (k + 1)) (k) 0 (k + 1)) 20 7 7) (k) 1 (k + 3)).1 = (E.1.1 + 3, E.1.2 + (0 + 1 + (0 + 64) + 7)) := h4
  exact h5
theorem nX0_k {E : od_E} {k a : Int} (hE : (E.1.1 : Int) = k + 1) (h : a < (E.1.1 : Int)) : (nX0 E k).2.1 a = E.2.1 a := by
  unfold nX0
  show ((od_nE (od_pE (nX7 (od_nE E 7 0 1) (k + 1)) (k) 0 (k + 1)) 20 7 7)).2.1 a = _
  rw [od_nE_o (by have z : ((od_pE (nX7 (od_nE E 7 0 1) (k + 1)) (k) 0 (k + 1))).1.1 = E.1.1 + 2 := rfl; omega)]
  show ((nX7 (od_nE E 7 0 1) (k + 1))).2.1 a = _
  rw [nX7_k (by have z : ((od_nE E 7 0 1)).1.1 = E.1.1 + 1 := rfl; omega) (by have z : ((od_nE E 7 0 1)).1.1 = E.1.1 + 1 := rfl; omega)]
  rw [od_nE_o (by have z : (E).1.1 = E.1.1 + 0 := rfl; omega)]
theorem nX0_r {E : od_E} {k a : Int} {j : Nat} (hE : (E.1.1 : Int) = k + 1) (h : a < (E.1.1 : Int)) (hk : a ≠ k) : (nX0 E k).2.2 a j = E.2.2 a j := by
  unfold nX0
  rw [od_pE_r (by omega)]
  rw [od_nE_r (by have z : ((od_pE (nX7 (od_nE E 7 0 1) (k + 1)) (k) 0 (k + 1))).1.1 = E.1.1 + 2 := rfl; omega)]
  rw [od_pE_r (by omega)]
  rw [nX7_r (by have z : ((od_nE E 7 0 1)).1.1 = E.1.1 + 1 := rfl; omega) (by have z : ((od_nE E 7 0 1)).1.1 = E.1.1 + 1 := rfl; omega) (by omega)]
  rw [od_nE_r (by have z : (E).1.1 = E.1.1 + 0 := rfl; omega)]
set_option maxRecDepth 20000 in
theorem c_X0_init {E : od_E} {g : od_G} {k : Int} (hk : (E.2.1 k).1 = 0) (hE : (E.1.1 : Int) = k + 1) (hk0 : 0 ≤ k) : od_Ct 2 mX0_init [(2, k)] E g (none, nX0 E k, gX0 g k) := by
  have hx := nX0_c E k
  have hr1 : (od_x (none, nX0 E k, gX0 g k)).1.1.1 = E.1.1 + 3 := congrArg Prod.fst hx
  have hr2 : (od_x (none, nX0 E k, gX0 g k)).1.1.2 = E.1.2 + (0 + 1 + (0 + 64) + 7) := congrArg Prod.snd hx
  have cc0 : E.1.1 = E.1.1 + 0 := rfl
  have ss0 : E.1.2 = E.1.2 + 0 := rfl
  have t0_k := hk
  refine od_ctI pnX0 rfl (Nat.le_of_ble_eq_true rfl) ⟨by show _ ≤ (nX0 E k).1.1; rw [hx]; exact Nat.le_add_right _ _, by show _ ≤ (nX0 E k).1.2; rw [hx]; exact Nat.le_add_right _ _⟩ ?_
  show od_R _ _ _ _ _ 0 [some (2, k)] [] E g
  refine r_aload_n dX0_init_0 rfl ?_
  refine r_objI dX0_init_1 lkX0_3 (by omega) (by decide) (Nat.le_of_ble_eq_true rfl) ?_
  refine r_aload_n dX0_init_4 rfl ?_
  refine r_newCb (b := k + 1) (c := 7) (N := 1) dX0_init_5 clX0_9 nwX7 inX7 (by decide) rfl (by omega) (od_leN (by omega) (by omega)) (fun E1 hE1 => ?_)
  have cc1 : E1.1.1 = E.1.1 + 1 := by rw [hE1]; rfl
  have ss1 : E1.1.2 = E.1.2 + (0 + 1) := by rw [hE1]; show E.1.2 + 1 = _; omega
  have t1_k : (E1.2.1 (k)).1 = 0 := by rw [hE1, od_nE_o (by omega)]; exact t0_k
  have t1_k___1 : (E1.2.1 (k + 1)).1 = 7 := by rw [hE1, od_nE_k (by omega)]
  refine r_dup dX0_init_8 (by first | exact od_ne2 | exact od_ne0) ?_
  obtain ⟨E2, hE2⟩ : ∃ z, z = nX7 E1 (k + 1)  := ⟨_, rfl⟩
  have cc2 : E2.1.1 = E.1.1 + 2 := by rw [hE2, nX7_c]; show E1.1.1 + 1 = _; rw [cc1]
  have ss2 : E2.1.2 = E.1.2 + (0 + 1 + (0 + 64)) := by rw [hE2, nX7_c]; show E1.1.2 + (0 + 64) = _; rw [ss1, Nat.add_assoc]
  have t2_k : (E2.2.1 (k)).1 = 0 := by rw [hE2, nX7_k (by omega) (by omega)]; exact t1_k
  have t2_k___1 : (E2.2.1 (k + 1)).1 = 7 := by rw [hE2, nX7_k (by omega) (by omega)]; exact t1_k___1
  refine r_callN0v dX0_init_9 cnX0_11 (by rw [t1_k___1]; decide) (c_X7_init t1_k___1 (by omega) (by omega)) (by decide) (Nat.le_of_ble_eq_true rfl) ?_ ?_
  · rw [← hE2]; exact ⟨by omega, by omega⟩
  rw [← hE2]
  clear cc1 ss1 t1_k t1_k___1
  refine r_putRb dX0_init_12 fkX0_12 gf0_0 ⟨rfl, rfl⟩ rfl t2_k (fun E3 hE3 => ?_)
  have cc3 : E3.1.1 = E.1.1 + 2 := by rw [hE3]; exact cc2
  have ss3 : E3.1.2 = E.1.2 + (0 + 1 + (0 + 64)) := by rw [hE3]; exact ss2
  have t3_k : (E3.2.1 (k)).1 = 0 := by rw [hE3]; exact t2_k
  clear cc2 ss2 t2_k t2_k___1
  refine r_aload_n dX0_init_15 rfl ?_
  refine r_bipush dX0_init_16 lb_7 ?_
  refine r_newIb (b := k + 3) (N := 7) dX0_init_18 (by decide) rfl (by omega) (od_leN (by omega) (by omega)) (fun E4 hE4 => ?_)
  have cc4 : E4.1.1 = E.1.1 + 3 := by rw [hE4]; show E3.1.1 + 1 = _; rw [cc3]
  have ss4 : E4.1.2 = E.1.2 + (0 + 1 + (0 + 64) + 7) := by rw [hE4]; show E3.1.2 + 7 = _; rw [ss3, Nat.add_assoc]
  have t4_k : (E4.2.1 (k)).1 = 0 := by rw [hE4, od_nE_o (by omega)]; exact t3_k
  clear cc3 ss3 t3_k
  refine r_putRb dX0_init_20 fkX0_18 gf0_1 ⟨rfl, rfl⟩ rfl t4_k (fun E5 hE5 => ?_)
  have cc5 : E5.1.1 = E.1.1 + 3 := by rw [hE5]; exact cc4
  have ss5 : E5.1.2 = E.1.2 + (0 + 1 + (0 + 64) + 7) := by rw [hE5]; exact ss4
  have t5_k : (E5.2.1 (k)).1 = 0 := by rw [hE5]; exact t4_k
  clear cc4 ss4 t4_k
  exact r_vret dX0_init_23 rfl (by subst hE1 hE2 hE3 hE4 hE5; rfl)
def nX1 (E : od_E) (k : Int) (sa : Int) : od_E := (od_pE E (k) 0 (sa))
def gX1 (g : od_G) (k : Int) : od_G := g
theorem nX1_c (E : od_E) (k : Int) (sa : Int) : (nX1 E k sa).1 = (E.1.1 + 0, E.1.2 + (0)) := by
  have h0 : E.1 = (E.1.1 + 0, E.1.2 + 0) := rfl
  have h1 : (od_pE E (k) 0 (sa)).1 = (E.1.1 + 0, E.1.2 + (0)) := h0
  exact h1
theorem nX1_k {E : od_E} {k a : Int} {sa : Int} (hE : (E.1.1 : Int) = k + 1) (h : a < (E.1.1 : Int)) : (nX1 E k sa).2.1 a = E.2.1 a := by
  unfold nX1
  show (E).2.1 a = _
  first | done | rfl
theorem nX1_r {E : od_E} {k a : Int} {sa : Int} {j : Nat} (hE : (E.1.1 : Int) = k + 1) (h : a < (E.1.1 : Int)) (hk : a ≠ k) : (nX1 E k sa).2.2 a j = E.2.2 a j := by
  unfold nX1
  rw [od_pE_r (by omega)]
set_option maxRecDepth 20000 in
theorem c_X1_init {E : od_E} {g : od_G} {k sa : Int} (hk : (E.2.1 k).1 = 1) (hE : (E.1.1 : Int) = k + 1) (hk0 : 0 ≤ k) : od_Ct 1 mX1_init [(2, k), (2, sa)] E g (none, nX1 E k sa, gX1 g k) := by
  have hx := nX1_c E k sa
  have hr1 : (od_x (none, nX1 E k sa, gX1 g k)).1.1.1 = E.1.1 + 0 := congrArg Prod.fst hx
  have hr2 : (od_x (none, nX1 E k sa, gX1 g k)).1.1.2 = E.1.2 + (0) := congrArg Prod.snd hx
  have cc0 : E.1.1 = E.1.1 + 0 := rfl
  have ss0 : E.1.2 = E.1.2 + 0 := rfl
  have t0_k := hk
  refine od_ctI pnX1 rfl (Nat.le_of_ble_eq_true rfl) ⟨by show _ ≤ (nX1 E k sa).1.1; rw [hx]; exact Nat.le_add_right _ _, by show _ ≤ (nX1 E k sa).1.2; rw [hx]; exact Nat.le_add_right _ _⟩ ?_
  show od_R _ _ _ _ _ 0 [some (2, k), some (2, sa)] [] E g
  refine r_aload_n dX1_init_0 rfl ?_
  refine r_objI dX1_init_1 lkX1_3 (by omega) (by decide) (Nat.le_of_ble_eq_true rfl) ?_
  refine r_aload_n dX1_init_4 rfl ?_
  refine r_aload_n dX1_init_5 rfl ?_
  refine r_putRb dX1_init_6 fkX1_9 gf1_0 ⟨rfl, rfl⟩ rfl t0_k (fun E1 hE1 => ?_)
  have cc1 : E1.1.1 = E.1.1 + 0 := by rw [hE1]; exact cc0
  have ss1 : E1.1.2 = E.1.2 + (0) := by rw [hE1]; exact ss0
  have t1_k : (E1.2.1 (k)).1 = 1 := by rw [hE1]; exact t0_k
  exact r_vret dX1_init_9 rfl (by subst hE1; rfl)
def nX5 (E : od_E) (k : Int) (sa : Int) (ha : Int) : od_E := (od_pE (od_pE (od_pE (od_nE E 20 17 17) (k) 2 (k + 1)) (k) 0 (sa)) (k) 1 (ha))
def gX5 (g : od_G) (k : Int) : od_G := (od_up (od_up (od_nG g (k + 1) 0) (k) 3 (-1)) (k) 4 0)
theorem nX5_c (E : od_E) (k : Int) (sa : Int) (ha : Int) : (nX5 E k sa ha).1 = (E.1.1 + 1, E.1.2 + (0 + 17)) := by
  have h0 : E.1 = (E.1.1 + 0, E.1.2 + 0) := rfl
  have h1 : (od_nE E 20 17 17).1 = (E.1.1 + 1, E.1.2 + (0 + 17)) := by
    have z1 : E.1.1 = E.1.1 + 0 := congrArg Prod.fst h0
    have z2 : E.1.2 = E.1.2 + (0) := congrArg Prod.snd h0
    exact Prod.ext (by show E.1.1 + 1 = E.1.1 + 1; omega) (by show E.1.2 + 17 = E.1.2 + (0 + 17); omega)
  have h2 : (od_pE (od_nE E 20 17 17) (k) 2 (k + 1)).1 = (E.1.1 + 1, E.1.2 + (0 + 17)) := h1
  have h3 : (od_pE (od_pE (od_nE E 20 17 17) (k) 2 (k + 1)) (k) 0 (sa)).1 = (E.1.1 + 1, E.1.2 + (0 + 17)) := h2
  have h4 : (od_pE (od_pE (od_pE (od_nE E 20 17 17) (k) 2 (k + 1)) (k) 0 (sa)) (k) 1 (ha)).1 = (E.1.1 + 1, E.1.2 + (0 + 17)) := h3
  exact h4
theorem nX5_k {E : od_E} {k a : Int} {sa : Int} {ha : Int} (hE : (E.1.1 : Int) = k + 1) (h : a < (E.1.1 : Int)) : (nX5 E k sa ha).2.1 a = E.2.1 a := by
  unfold nX5
  show ((od_pE (od_pE (od_nE E 20 17 17) (k) 2 (k + 1)) (k) 0 (sa))).2.1 a = _
  show ((od_pE (od_nE E 20 17 17) (k) 2 (k + 1))).2.1 a = _
  show ((od_nE E 20 17 17)).2.1 a = _
  rw [od_nE_o (by have z : (E).1.1 = E.1.1 + 0 := rfl; omega)]
theorem nX5_r {E : od_E} {k a : Int} {sa : Int} {ha : Int} {j : Nat} (hE : (E.1.1 : Int) = k + 1) (h : a < (E.1.1 : Int)) (hk : a ≠ k) : (nX5 E k sa ha).2.2 a j = E.2.2 a j := by
  unfold nX5
  rw [od_pE_r (by omega)]
  rw [od_pE_r (by omega)]
  rw [od_pE_r (by omega)]
  rw [od_nE_r (by have z : (E).1.1 = E.1.1 + 0 := rfl; omega)]
set_option maxRecDepth 20000 in
theorem c_X5_init {E : od_E} {g : od_G} {k sa ha : Int} (hk : (E.2.1 k).1 = 5) (hE : (E.1.1 : Int) = k + 1) (hk0 : 0 ≤ k) : od_Ct 1 mX5_init [(2, k), (2, sa), (2, ha)] E g (none, nX5 E k sa ha, gX5 g k) := by
  have hx := nX5_c E k sa ha
  have hr1 : (od_x (none, nX5 E k sa ha, gX5 g k)).1.1.1 = E.1.1 + 1 := congrArg Prod.fst hx
  have hr2 : (od_x (none, nX5 E k sa ha, gX5 g k)).1.1.2 = E.1.2 + (0 + 17) := congrArg Prod.snd hx
  have cc0 : E.1.1 = E.1.1 + 0 := rfl
  have ss0 : E.1.2 = E.1.2 + 0 := rfl
  have t0_k := hk
  refine od_ctI pnX5 rfl (Nat.le_of_ble_eq_true rfl) ⟨by show _ ≤ (nX5 E k sa ha).1.1; rw [hx]; exact Nat.le_add_right _ _, by show _ ≤ (nX5 E k sa ha).1.2; rw [hx]; exact Nat.le_add_right _ _⟩ ?_
  show od_R _ _ _ _ _ 0 [some (2, k), some (2, sa), some (2, ha)] [] E g
  refine r_aload_n dX5_init_0 rfl ?_
  refine r_objI dX5_init_1 lkX5_3 (by omega) (by decide) (Nat.le_of_ble_eq_true rfl) ?_
  refine r_aload_n dX5_init_4 rfl ?_
  refine r_bipush dX5_init_5 lb_17 ?_
  refine r_newIb (b := k + 1) (N := 17) dX5_init_7 (by decide) rfl (by omega) (od_leN (by omega) (by omega)) (fun E1 hE1 => ?_)
  have cc1 : E1.1.1 = E.1.1 + 1 := by rw [hE1]; rfl
  have ss1 : E1.1.2 = E.1.2 + (0 + 17) := by rw [hE1]; show E.1.2 + 17 = _; omega
  have t1_k : (E1.2.1 (k)).1 = 5 := by rw [hE1, od_nE_o (by omega)]; exact t0_k
  refine r_putRb dX5_init_9 fkX5_9 gf5_2 ⟨rfl, rfl⟩ rfl t1_k (fun E2 hE2 => ?_)
  have cc2 : E2.1.1 = E.1.1 + 1 := by rw [hE2]; exact cc1
  have ss2 : E2.1.2 = E.1.2 + (0 + 17) := by rw [hE2]; exact ss1
  have t2_k : (E2.2.1 (k)).1 = 5 := by rw [hE2]; exact t1_k
  clear cc1 ss1 t1_k
  refine r_aload_n dX5_init_12 rfl ?_
  refine r_iconst dX5_init_13 li_m1 ?_
  refine r_putIj (j := 3) rfl dX5_init_14 fkX5_15 gf5_3 pf5_3 t2_k ?_
  refine r_aload_n dX5_init_17 rfl ?_
  refine r_iconst dX5_init_18 li_0 ?_
  refine r_putIj (j := 4) rfl dX5_init_19 fkX5_19 gf5_4 pf5_4 t2_k ?_
  refine r_aload_n dX5_init_22 rfl ?_
  refine r_aload_n dX5_init_23 rfl ?_
  refine r_putRb dX5_init_24 fkX5_22 gf5_0 ⟨rfl, rfl⟩ rfl t2_k (fun E3 hE3 => ?_)
  have cc3 : E3.1.1 = E.1.1 + 1 := by rw [hE3]; exact cc2
  have ss3 : E3.1.2 = E.1.2 + (0 + 17) := by rw [hE3]; exact ss2
  have t3_k : (E3.2.1 (k)).1 = 5 := by rw [hE3]; exact t2_k
  clear cc2 ss2 t2_k
  refine r_aload_n dX5_init_27 rfl ?_
  refine r_aload_n dX5_init_28 rfl ?_
  refine r_putRb dX5_init_29 fkX5_26 gf5_1 ⟨rfl, rfl⟩ rfl t3_k (fun E4 hE4 => ?_)
  have cc4 : E4.1.1 = E.1.1 + 1 := by rw [hE4]; exact cc3
  have ss4 : E4.1.2 = E.1.2 + (0 + 17) := by rw [hE4]; exact ss3
  have t4_k : (E4.2.1 (k)).1 = 5 := by rw [hE4]; exact t3_k
  clear cc3 ss3 t3_k
  exact r_vret dX5_init_32 rfl (by subst hE1 hE2 hE3 hE4; rfl)
def nX4 (E : od_E) (k : Int) (sa : Int) : od_E := (od_pE (od_pE (od_nE (od_pE (od_nE (od_pE (od_nE (od_pE (od_nE (od_pE (od_nE (od_pE (od_nE E 20 990 990) (k) 1 (k + 1)) 20 990 990) (k) 2 (k + 2)) 20 12 12) (k) 3 (k + 3)) 20 12 12) (k) 4 (k + 4)) 20 6 6) (k) 5 (k + 5)) 22 64 64) (k) 6 (k + 6)) (k) 0 (sa))
def gX4 (g : od_G) (k : Int) : od_G := (od_up (od_up (od_up (od_nG (od_nG (od_nG (od_nG (od_nG (od_nG g (k + 1) 0) (k + 2) 0) (k + 3) 0) (k + 4) 0) (k + 5) 0) (k + 6) 0) (k) 7 1) (k) 8 1) (k) 9 1)
theorem nX4_c (E : od_E) (k : Int) (sa : Int) : (nX4 E k sa).1 = (E.1.1 + 6, E.1.2 + (0 + 990 + 990 + 12 + 12 + 6 + 64)) := by
  have h0 : E.1 = (E.1.1 + 0, E.1.2 + 0) := rfl
  have h1 : (od_nE E 20 990 990).1 = (E.1.1 + 1, E.1.2 + (0 + 990)) := by
    have z1 : E.1.1 = E.1.1 + 0 := congrArg Prod.fst h0
    have z2 : E.1.2 = E.1.2 + (0) := congrArg Prod.snd h0
    exact Prod.ext (by show E.1.1 + 1 = E.1.1 + 1; omega) (by show E.1.2 + 990 = E.1.2 + (0 + 990); omega)
  have h2 : (od_pE (od_nE E 20 990 990) (k) 1 (k + 1)).1 = (E.1.1 + 1, E.1.2 + (0 + 990)) := h1
  have h3 : (od_nE (od_pE (od_nE E 20 990 990) (k) 1 (k + 1)) 20 990 990).1 = (E.1.1 + 2, E.1.2 + (0 + 990 + 990)) := by
    have z1 : (od_pE (od_nE E 20 990 990) (k) 1 (k + 1)).1.1 = E.1.1 + 1 := congrArg Prod.fst h2
    have z2 : (od_pE (od_nE E 20 990 990) (k) 1 (k + 1)).1.2 = E.1.2 + (0 + 990) := congrArg Prod.snd h2
    exact Prod.ext (by show (od_pE (od_nE E 20 990 990) (k) 1 (k + 1)).1.1 + 1 = E.1.1 + 2; omega) (by show (od_pE (od_nE E 20 990 990) (k) 1 (k + 1)).1.2 + 990 = E.1.2 + (0 + 990 + 990); omega)
  have h4 : (od_pE (od_nE (od_pE (od_nE E 20 990 990) (k) 1 (k + 1)) 20 990 990) (k) 2 (k + 2)).1 = (E.1.1 + 2, E.1.2 + (0 + 990 + 990)) := h3
  have h5 : (od_nE (od_pE (od_nE (od_pE (od_nE E 20 990 990) (k) 1 (k + 1)) 20 990 990) (k) 2 (k + 2)) 20 12 12).1 = (E.1.1 + 3, E.1.2 + (0 + 990 + 990 + 12)) := by
    have z1 : (od_pE (od_nE (od_pE (od_nE E 20 990 990) (k) 1 (k + 1)) 20 990 990) (k) 2 (k + 2)).1.1 = E.1.1 + 2 := congrArg Prod.fst h4
    have z2 : (od_pE (od_nE (od_pE (od_nE E 20 990 990) (k) 1 (k + 1)) 20 990 990) (k) 2 (k + 2)).1.2 = E.1.2 + (0 + 990 + 990) := congrArg Prod.snd h4
    exact Prod.ext (by show (od_pE (od_nE (od_pE (od_nE E 20 990 990) (k) 1 (k + 1)) 20 990 990) (k) 2 (k + 2)).1.1 + 1 = E.1.1 + 3; omega) (by show (od_pE (od_nE (od_pE (od_nE E 20 990 990) (k) 1 (k + 1)) 20 990 990) (k) 2 (k + 2)).1.2 + 12 = E.1.2 + (0 + 990 + 990 + 12); omega)
  have h6 : (od_pE (od_nE (od_pE (od_nE (od_pE (od_nE E 20 990 990) (k) 1 (k + 1)) 20 990 990) (k) 2 (k + 2)) 20 12 12) (k) 3 (k + 3)).1 = (E.1.1 + 3, E.1.2 + (0 + 990 + 990 + 12)) := h5
  have h7 : (od_nE (od_pE (od_nE (od_pE (od_nE (od_pE (od_nE E 20 990 990) (k) 1 (k + 1)) 20 990 990) (k) 2 (k + 2)) 20 12 12) (k) 3 (k + 3)) 20 12 12).1 = (E.1.1 + 4, E.1.2 + (0 + 990 + 990 + 12 + 12)) := by
    have z1 : (od_pE (od_nE (od_pE (od_nE (od_pE (od_nE E 20 990 990) (k) 1 (k + 1)) 20 990 990) (k) 2 (k + 2)) 20 12 12) (k) 3 (k + 3)).1.1 = E.1.1 + 3 := congrArg Prod.fst h6
    have z2 : (od_pE (od_nE (od_pE (od_nE (od_pE (od_nE E 20 990 990) (k) 1 (k + 1)) 20 990 990) (k) 2 (k + 2)) 20 12 12) (k) 3 (k + 3)).1.2 = E.1.2 + (0 + 990 + 990 + 12) := congrArg Prod.snd h6
    exact Prod.ext (by show (od_pE (od_nE (od_pE (od_nE (od_pE (od_nE E 20 990 990) (k) 1 (k + 1)) 20 990 990) (k) 2 (k + 2)) 20 12 12) (k) 3 (k + 3)).1.1 + 1 = E.1.1 + 4; omega) (by show (od_pE (od_nE (od_pE (od_nE (od_pE (od_nE E 20 990 990) (k) 1 (k + 1)) 20 990 990) (k) 2 (k + 2)) 20 12 12) (k) 3 (k + 3)).1.2 + 12 = E.1.2 + (0 + 990 + 990 + 12 + 12); omega)
  have h8 : (od_pE (od_nE (od_pE (od_nE (od_pE (od_nE (od_pE (od_nE E 20 990 990) (k) 1 (k + 1)) 20 990 990) (k) 2 (k + 2)) 20 12 12) (k) 3 (k + 3)) 20 12 12) (k) 4 (k + 4)).1 = (E.1.1 + 4, E.1.2 + (0 + 990 + 990 + 12 + 12)) := h7
  have h9 : (od_nE (od_pE (od_nE (od_pE (od_nE (od_pE (od_nE (od_pE (od_nE E 20 990 990) (k) 1 (k + 1)) 20 990 990) (k) 2 (k + 2)) 20 12 12) (k) 3 (k + 3)) 20 12 12) (k) 4 (k + 4)) 20 6 6).1 = (E.1.1 + 5, E.1.2 + (0 + 990 + 990 + 12 + 12 + 6)) := by
    have z1 : (od_pE (od_nE (od_pE (od_nE (od_pE (od_nE (od_pE (od_nE E 20 990 990) (k) 1 (k + 1)) 20 990 990) (k) 2 (k + 2)) 20 12 12) (k) 3 (k + 3)) 20 12 12) (k) 4 (k + 4)).1.1 = E.1.1 + 4 := congrArg Prod.fst h8
    have z2 : (od_pE (od_nE (od_pE (od_nE (od_pE (od_nE (od_pE (od_nE E 20 990 990) (k) 1 (k + 1)) 20 990 990) (k) 2 (k + 2)) 20 12 12) (k) 3 (k + 3)) 20 12 12) (k) 4 (k + 4)).1.2 = E.1.2 + (0 + 990 + 990 + 12 + 12) := congrArg Prod.snd h8
    exact Prod.ext (by show (od_pE (od_nE (od_pE (od_nE (od_pE (od_nE (od_pE (od_nE E 20 990 990) (k) 1 (k + 1)) 20 990 990) (k) 2 (k + 2)) 20 12 12) (k) 3 (k + 3)) 20 12 12) (k) 4 (k + 4)).1.1 + 1 = E.1.1 + 5; omega) (by show (od_pE (od_nE (od_pE (od_nE (od_pE (od_nE (od_pE (od_nE E 20 990 990) (k) 1 (k + 1)) 20 990 990) (k) 2 (k + 2)) 20 12 12) (k) 3 (k + 3)) 20 12 12) (k) 4 (k + 4)).1.2 + 6 = E.1.2 + (0 + 990 + 990 + 12 + 12 + 6); omega)
  have h10 : (od_pE (od_nE (od_pE (od_nE (od_pE (od_nE (od_pE (od_nE (od_pE (od_nE E 20 990 990) (k) 1 (k + 1)) 20 990 990) (k) 2 (k + 2)) 20 12 12) (k) 3 (k + 3)) 20 12 12) (k) 4 (k + 4)) 20 6 6) (k) 5 (k + 5)).1 = (E.1.1 + 5, E.1.2 + (0 + 990 + 990 + 12 + 12 + 6)) := h9
  have h11 : (od_nE (od_pE (od_nE (od_pE (od_nE (od_pE (od_nE (od_pE (od_nE (od_pE (od_nE E 20 990 990) (k) 1 (k + 1)) 20 990 990) (k) 2 (k + 2)) 20 12 12) (k) 3 (k + 3)) 20 12 12) (k) 4 (k + 4)) 20 6 6) (k) 5 (k + 5)) 22 64 64).1 = (E.1.1 + 6, E.1.2 + (0 + 990 + 990 + 12 + 12 + 6 + 64)) := by
    have z1 : (od_pE (od_nE (od_pE (od_nE (od_pE (od_nE (od_pE (od_nE (od_pE (od_nE E 20 990 990) (k) 1 (k + 1)) 20 990 990) (k) 2 (k + 2)) 20 12 12) (k) 3 (k + 3)) 20 12 12) (k) 4 (k + 4)) 20 6 6) (k) 5 (k + 5)).1.1 = E.1.1 + 5 := congrArg Prod.fst h10
    have z2 : (od_pE (od_nE (od_pE (od_nE (od_pE (od_nE (od_pE (od_nE (od_pE (od_nE E 20 990 990) (k) 1 (k + 1)) 20 990 990) (k) 2 (k + 2)) 20 12 12) (k) 3 (k + 3)) 20 12 12) (k) 4 (k + 4)) 20 6 6) (k) 5 (k + 5)).1.2 = E.1.2 + (0 + 990 + 990 + 12 + 12 + 6) := congrArg Prod.snd h10
    exact Prod.ext (by show (od_pE (od_nE (od_pE (od_nE (od_pE (od_nE (od_pE (od_nE (od_pE (od_nE E 20 990 990) (k) 1 (k + 1)) 20 990 990) (k) 2 (k + 2)) 20 12 12) (k) 3 (k + 3)) 20 12 12) (k) 4 (k + 4)) 20 6 6) (k) 5 (k + 5)).1.1 + 1 = E.1.1 + 6; omega) (by show (od_pE (od_nE (od_pE (od_nE (od_pE (od_nE (od_pE (od_nE (od_pE (od_nE E 20 990 990) (k) 1 (k + 1)) 20 990 990) (k) 2 (k + 2)) 20 12 12) (k) 3 (k + 3)) 20 12 12) (k) 4 (k + 4)) 20 6 6) (k) 5 (k + 5)).1.2 + 64 = E.1.2 + (0 + 990 + 990 + 12 + 12 + 6 + 64); omega)
  have h12 : (od_pE (od_nE (od_pE (od_nE (od_pE (od_nE (od_pE (od_nE (od_pE (od_nE (od_pE (od_nE E 20 990 990) (k) 1 (k + 1)) 20 990 990) (k) 2 (k + 2)) 20 12 12) (k) 3 (k + 3)) 20 12 12) (k) 4 (k + 4)) 20 6 6) (k) 5 (k + 5)) 22 64 64) (k) 6 (k + 6)).1 = (E.1.1 + 6, E.1.2 + (0 + 990 + 990 + 12 + 12 + 6 + 64)) := h11
  have h13 : (od_pE (od_pE (od_nE (od_pE (od_nE (od_pE (od_nE (od_pE (od_nE (od_pE (od_nE (od_pE (od_nE E 20 990 990) (k) 1 (k + 1)) 20 990 990) (k) 2 (k + 2)) 20 12 12) (k) 3 (k + 3)) 20 12 12) (k) 4 (k + 4)) 20 6 6) (k) 5 (k + 5)) 22 64 64) (k) 6 (k + 6)) (k) 0 (sa)).1 = (E.1.1 + 6, E.1.2 + (0 + 990 + 990 + 12 + 12 + 6 + 64)) := h12
  exact h13
theorem nX4_k {E : od_E} {k a : Int} {sa : Int} (hE : (E.1.1 : Int) = k + 1) (h : a < (E.1.1 : Int)) : (nX4 E k sa).2.1 a = E.2.1 a := by
  unfold nX4
  show ((od_pE (od_nE (od_pE (od_nE (od_pE (od_nE (od_pE (od_nE (od_pE (od_nE (od_pE (od_nE E 20 990 990) (k) 1 (k + 1)) 20 990 990) (k) 2 (k + 2)) 20 12 12) (k) 3 (k + 3)) 20 12 12) (k) 4 (k + 4)) 20 6 6) (k) 5 (k + 5)) 22 64 64) (k) 6 (k + 6))).2.1 a = _
  show ((od_nE (od_pE (od_nE (od_pE (od_nE (od_pE (od_nE (od_pE (od_nE (od_pE (od_nE E 20 990 990) (k) 1 (k + 1)) 20 990 990) (k) 2 (k + 2)) 20 12 12) (k) 3 (k + 3)) 20 12 12) (k) 4 (k + 4)) 20 6 6) (k) 5 (k + 5)) 22 64 64)).2.1 a = _
  rw [od_nE_o (by have z : ((od_pE (od_nE (od_pE (od_nE (od_pE (od_nE (od_pE (od_nE (od_pE (od_nE E 20 990 990) (k) 1 (k + 1)) 20 990 990) (k) 2 (k + 2)) 20 12 12) (k) 3 (k + 3)) 20 12 12) (k) 4 (k + 4)) 20 6 6) (k) 5 (k + 5))).1.1 = E.1.1 + 5 := rfl; omega)]
  show ((od_nE (od_pE (od_nE (od_pE (od_nE (od_pE (od_nE (od_pE (od_nE E 20 990 990) (k) 1 (k + 1)) 20 990 990) (k) 2 (k + 2)) 20 12 12) (k) 3 (k + 3)) 20 12 12) (k) 4 (k + 4)) 20 6 6)).2.1 a = _
  rw [od_nE_o (by have z : ((od_pE (od_nE (od_pE (od_nE (od_pE (od_nE (od_pE (od_nE E 20 990 990) (k) 1 (k + 1)) 20 990 990) (k) 2 (k + 2)) 20 12 12) (k) 3 (k + 3)) 20 12 12) (k) 4 (k + 4))).1.1 = E.1.1 + 4 := rfl; omega)]
  show ((od_nE (od_pE (od_nE (od_pE (od_nE (od_pE (od_nE E 20 990 990) (k) 1 (k + 1)) 20 990 990) (k) 2 (k + 2)) 20 12 12) (k) 3 (k + 3)) 20 12 12)).2.1 a = _
  rw [od_nE_o (by have z : ((od_pE (od_nE (od_pE (od_nE (od_pE (od_nE E 20 990 990) (k) 1 (k + 1)) 20 990 990) (k) 2 (k + 2)) 20 12 12) (k) 3 (k + 3))).1.1 = E.1.1 + 3 := rfl; omega)]
  show ((od_nE (od_pE (od_nE (od_pE (od_nE E 20 990 990) (k) 1 (k + 1)) 20 990 990) (k) 2 (k + 2)) 20 12 12)).2.1 a = _
  rw [od_nE_o (by have z : ((od_pE (od_nE (od_pE (od_nE E 20 990 990) (k) 1 (k + 1)) 20 990 990) (k) 2 (k + 2))).1.1 = E.1.1 + 2 := rfl; omega)]
  show ((od_nE (od_pE (od_nE E 20 990 990) (k) 1 (k + 1)) 20 990 990)).2.1 a = _
  rw [od_nE_o (by have z : ((od_pE (od_nE E 20 990 990) (k) 1 (k + 1))).1.1 = E.1.1 + 1 := rfl; omega)]
  show ((od_nE E 20 990 990)).2.1 a = _
  rw [od_nE_o (by have z : (E).1.1 = E.1.1 + 0 := rfl; omega)]
theorem nX4_r {E : od_E} {k a : Int} {sa : Int} {j : Nat} (hE : (E.1.1 : Int) = k + 1) (h : a < (E.1.1 : Int)) (hk : a ≠ k) : (nX4 E k sa).2.2 a j = E.2.2 a j := by
  unfold nX4
  rw [od_pE_r (by omega)]
  rw [od_pE_r (by omega)]
  rw [od_nE_r (by have z : ((od_pE (od_nE (od_pE (od_nE (od_pE (od_nE (od_pE (od_nE (od_pE (od_nE E 20 990 990) (k) 1 (k + 1)) 20 990 990) (k) 2 (k + 2)) 20 12 12) (k) 3 (k + 3)) 20 12 12) (k) 4 (k + 4)) 20 6 6) (k) 5 (k + 5))).1.1 = E.1.1 + 5 := rfl; omega)]
  rw [od_pE_r (by omega)]
  rw [od_nE_r (by have z : ((od_pE (od_nE (od_pE (od_nE (od_pE (od_nE (od_pE (od_nE E 20 990 990) (k) 1 (k + 1)) 20 990 990) (k) 2 (k + 2)) 20 12 12) (k) 3 (k + 3)) 20 12 12) (k) 4 (k + 4))).1.1 = E.1.1 + 4 := rfl; omega)]
  rw [od_pE_r (by omega)]
  rw [od_nE_r (by have z : ((od_pE (od_nE (od_pE (od_nE (od_pE (od_nE E 20 990 990) (k) 1 (k + 1)) 20 990 990) (k) 2 (k + 2)) 20 12 12) (k) 3 (k + 3))).1.1 = E.1.1 + 3 := rfl; omega)]
  rw [od_pE_r (by omega)]
  rw [od_nE_r (by have z : ((od_pE (od_nE (od_pE (od_nE E 20 990 990) (k) 1 (k + 1)) 20 990 990) (k) 2 (k + 2))).1.1 = E.1.1 + 2 := rfl; omega)]
  rw [od_pE_r (by omega)]
  rw [od_nE_r (by have z : ((od_pE (od_nE E 20 990 990) (k) 1 (k + 1))).1.1 = E.1.1 + 1 := rfl; omega)]
  rw [od_pE_r (by omega)]
  rw [od_nE_r (by have z : (E).1.1 = E.1.1 + 0 := rfl; omega)]
set_option maxRecDepth 20000 in
theorem c_X4_init {E : od_E} {g : od_G} {k sa : Int} (hk : (E.2.1 k).1 = 4) (hE : (E.1.1 : Int) = k + 1) (hk0 : 0 ≤ k) : od_Ct 1 mX4_init [(2, k), (2, sa)] E g (none, nX4 E k sa, gX4 g k) := by
  have hx := nX4_c E k sa
  have hr1 : (od_x (none, nX4 E k sa, gX4 g k)).1.1.1 = E.1.1 + 6 := congrArg Prod.fst hx
  have hr2 : (od_x (none, nX4 E k sa, gX4 g k)).1.1.2 = E.1.2 + (0 + 990 + 990 + 12 + 12 + 6 + 64) := congrArg Prod.snd hx
  have cc0 : E.1.1 = E.1.1 + 0 := rfl
  have ss0 : E.1.2 = E.1.2 + 0 := rfl
  have t0_k := hk
  refine od_ctI pnX4 rfl (Nat.le_of_ble_eq_true rfl) ⟨by show _ ≤ (nX4 E k sa).1.1; rw [hx]; exact Nat.le_add_right _ _, by show _ ≤ (nX4 E k sa).1.2; rw [hx]; exact Nat.le_add_right _ _⟩ ?_
  show od_R _ _ _ _ _ 0 [some (2, k), some (2, sa)] [] E g
  refine r_aload_n dX4_init_0 rfl ?_
  refine r_objI dX4_init_1 lkX4_3 (by omega) (by decide) (Nat.le_of_ble_eq_true rfl) ?_
  refine r_aload_n dX4_init_4 rfl ?_
  refine r_sipush dX4_init_5 ls_990 ?_
  refine r_newIb (b := k + 1) (N := 990) dX4_init_8 (by decide) rfl (by omega) (od_leN (by omega) (by omega)) (fun E1 hE1 => ?_)
  have cc1 : E1.1.1 = E.1.1 + 1 := by rw [hE1]; rfl
  have ss1 : E1.1.2 = E.1.2 + (0 + 990) := by rw [hE1]; show E.1.2 + 990 = _; omega
  have t1_k : (E1.2.1 (k)).1 = 4 := by rw [hE1, od_nE_o (by omega)]; exact t0_k
  refine r_putRb dX4_init_10 fkX4_11 gf4_1 ⟨rfl, rfl⟩ rfl t1_k (fun E2 hE2 => ?_)
  have cc2 : E2.1.1 = E.1.1 + 1 := by rw [hE2]; exact cc1
  have ss2 : E2.1.2 = E.1.2 + (0 + 990) := by rw [hE2]; exact ss1
  have t2_k : (E2.2.1 (k)).1 = 4 := by rw [hE2]; exact t1_k
  clear cc1 ss1 t1_k
  refine r_aload_n dX4_init_13 rfl ?_
  refine r_sipush dX4_init_14 ls_990 ?_
  refine r_newIb (b := k + 2) (N := 990) dX4_init_17 (by decide) rfl (by omega) (od_leN (by omega) (by omega)) (fun E3 hE3 => ?_)
  have cc3 : E3.1.1 = E.1.1 + 2 := by rw [hE3]; show E2.1.1 + 1 = _; rw [cc2]
  have ss3 : E3.1.2 = E.1.2 + (0 + 990 + 990) := by rw [hE3]; show E2.1.2 + 990 = _; rw [ss2, Nat.add_assoc]
  have t3_k : (E3.2.1 (k)).1 = 4 := by rw [hE3, od_nE_o (by omega)]; exact t2_k
  clear cc2 ss2 t2_k
  refine r_putRb dX4_init_19 fkX4_15 gf4_2 ⟨rfl, rfl⟩ rfl t3_k (fun E4 hE4 => ?_)
  have cc4 : E4.1.1 = E.1.1 + 2 := by rw [hE4]; exact cc3
  have ss4 : E4.1.2 = E.1.2 + (0 + 990 + 990) := by rw [hE4]; exact ss3
  have t4_k : (E4.2.1 (k)).1 = 4 := by rw [hE4]; exact t3_k
  clear cc3 ss3 t3_k
  refine r_aload_n dX4_init_22 rfl ?_
  refine r_bipush dX4_init_23 lb_12 ?_
  refine r_newIb (b := k + 3) (N := 12) dX4_init_25 (by decide) rfl (by omega) (od_leN (by omega) (by omega)) (fun E5 hE5 => ?_)
  have cc5 : E5.1.1 = E.1.1 + 3 := by rw [hE5]; show E4.1.1 + 1 = _; rw [cc4]
  have ss5 : E5.1.2 = E.1.2 + (0 + 990 + 990 + 12) := by rw [hE5]; show E4.1.2 + 12 = _; rw [ss4, Nat.add_assoc]
  have t5_k : (E5.2.1 (k)).1 = 4 := by rw [hE5, od_nE_o (by omega)]; exact t4_k
  clear cc4 ss4 t4_k
  refine r_putRb dX4_init_27 fkX4_18 gf4_3 ⟨rfl, rfl⟩ rfl t5_k (fun E6 hE6 => ?_)
  have cc6 : E6.1.1 = E.1.1 + 3 := by rw [hE6]; exact cc5
  have ss6 : E6.1.2 = E.1.2 + (0 + 990 + 990 + 12) := by rw [hE6]; exact ss5
  have t6_k : (E6.2.1 (k)).1 = 4 := by rw [hE6]; exact t5_k
  clear cc5 ss5 t5_k
  refine r_aload_n dX4_init_30 rfl ?_
  refine r_bipush dX4_init_31 lb_12 ?_
  refine r_newIb (b := k + 4) (N := 12) dX4_init_33 (by decide) rfl (by omega) (od_leN (by omega) (by omega)) (fun E7 hE7 => ?_)
  have cc7 : E7.1.1 = E.1.1 + 4 := by rw [hE7]; show E6.1.1 + 1 = _; rw [cc6]
  have ss7 : E7.1.2 = E.1.2 + (0 + 990 + 990 + 12 + 12) := by rw [hE7]; show E6.1.2 + 12 = _; rw [ss6, Nat.add_assoc]
  have t7_k : (E7.2.1 (k)).1 = 4 := by rw [hE7, od_nE_o (by omega)]; exact t6_k
  clear cc6 ss6 t6_k
  refine r_putRb dX4_init_35 fkX4_21 gf4_4 ⟨rfl, rfl⟩ rfl t7_k (fun E8 hE8 => ?_)
  have cc8 : E8.1.1 = E.1.1 + 4 := by rw [hE8]; exact cc7
  have ss8 : E8.1.2 = E.1.2 + (0 + 990 + 990 + 12 + 12) := by rw [hE8]; exact ss7
  have t8_k : (E8.2.1 (k)).1 = 4 := by rw [hE8]; exact t7_k
  clear cc7 ss7 t7_k
  refine r_aload_n dX4_init_38 rfl ?_
  refine r_bipush dX4_init_39 lb_6 ?_
  refine r_newIb (b := k + 5) (N := 6) dX4_init_41 (by decide) rfl (by omega) (od_leN (by omega) (by omega)) (fun E9 hE9 => ?_)
  have cc9 : E9.1.1 = E.1.1 + 5 := by rw [hE9]; show E8.1.1 + 1 = _; rw [cc8]
  have ss9 : E9.1.2 = E.1.2 + (0 + 990 + 990 + 12 + 12 + 6) := by rw [hE9]; show E8.1.2 + 6 = _; rw [ss8, Nat.add_assoc]
  have t9_k : (E9.2.1 (k)).1 = 4 := by rw [hE9, od_nE_o (by omega)]; exact t8_k
  clear cc8 ss8 t8_k
  refine r_putRb dX4_init_43 fkX4_24 gf4_5 ⟨rfl, rfl⟩ rfl t9_k (fun E10 hE10 => ?_)
  have cc10 : E10.1.1 = E.1.1 + 5 := by rw [hE10]; exact cc9
  have ss10 : E10.1.2 = E.1.2 + (0 + 990 + 990 + 12 + 12 + 6) := by rw [hE10]; exact ss9
  have t10_k : (E10.2.1 (k)).1 = 4 := by rw [hE10]; exact t9_k
  clear cc9 ss9 t9_k
  refine r_aload_n dX4_init_46 rfl ?_
  refine r_bipush dX4_init_47 lb_64 ?_
  refine r_newZb (b := k + 6) (N := 64) dX4_init_49 (by decide) rfl (by omega) (od_leN (by omega) (by omega)) (fun E11 hE11 => ?_)
  have cc11 : E11.1.1 = E.1.1 + 6 := by rw [hE11]; show E10.1.1 + 1 = _; rw [cc10]
  have ss11 : E11.1.2 = E.1.2 + (0 + 990 + 990 + 12 + 12 + 6 + 64) := by rw [hE11]; show E10.1.2 + 64 = _; rw [ss10, Nat.add_assoc]
  have t11_k : (E11.2.1 (k)).1 = 4 := by rw [hE11, od_nE_o (by omega)]; exact t10_k
  clear cc10 ss10 t10_k
  refine r_putRb dX4_init_51 fkX4_27 gf4_6 ⟨rfl, rfl⟩ rfl t11_k (fun E12 hE12 => ?_)
  have cc12 : E12.1.1 = E.1.1 + 6 := by rw [hE12]; exact cc11
  have ss12 : E12.1.2 = E.1.2 + (0 + 990 + 990 + 12 + 12 + 6 + 64) := by rw [hE12]; exact ss11
  have t12_k : (E12.2.1 (k)).1 = 4 := by rw [hE12]; exact t11_k
  clear cc11 ss11 t11_k
  refine r_aload_n dX4_init_54 rfl ?_
  refine r_iconst dX4_init_55 li_1 ?_
  refine r_putIj (j := 7) rfl dX4_init_56 fkX4_31 gf4_7 pf4_7 t12_k ?_
  refine r_aload_n dX4_init_59 rfl ?_
  refine r_iconst dX4_init_60 li_1 ?_
  refine r_putIj (j := 8) rfl dX4_init_61 fkX4_35 gf4_8 pf4_8 t12_k ?_
  refine r_aload_n dX4_init_64 rfl ?_
  refine r_iconst dX4_init_65 li_1 ?_
  refine r_putIj (j := 9) rfl dX4_init_66 fkX4_38 gf4_9 pf4_9 t12_k ?_
  refine r_aload_n dX4_init_69 rfl ?_
  refine r_aload_n dX4_init_70 rfl ?_
  refine r_putRb dX4_init_71 fkX4_41 gf4_0 ⟨rfl, rfl⟩ rfl t12_k (fun E13 hE13 => ?_)
  have cc13 : E13.1.1 = E.1.1 + 6 := by rw [hE13]; exact cc12
  have ss13 : E13.1.2 = E.1.2 + (0 + 990 + 990 + 12 + 12 + 6 + 64) := by rw [hE13]; exact ss12
  have t13_k : (E13.2.1 (k)).1 = 4 := by rw [hE13]; exact t12_k
  clear cc12 ss12 t12_k
  exact r_vret dX4_init_74 rfl (by subst hE1 hE2 hE3 hE4 hE5 hE6 hE7 hE8 hE9 hE10 hE11 hE12 hE13; rfl)
