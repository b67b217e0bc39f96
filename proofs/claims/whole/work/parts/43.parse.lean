/-! THE TWO LANGUAGES, by tokens: c their codes, v their values, pl where they begin -/
abbrev pS : Type := Int × Int × Int
abbrev pD : Type := (Int → Int) → Option Int
abbrev pR : Type := pS × pD
def pNo : pD := fun _ => none
def pOne : pD := fun _ => some 1
def pF (pl : Int → Int) (s : pS) : pS := if s.2.2 = -1 then (s.1, s.2.1, pl s.1) else s
def pNx (s : pS) : pS := (s.1 + 1, s.2.1, s.2.2)
def pTk (c : Int → Int) (k : Int) (s : pS) : Prop := s.2.2 = -1 ∧ c s.1 = k
def pMu (c pl : Int → Int) (k : Int) (s : pS) : pS := if s.2.2 = -1 ∧ c s.1 = k then pNx s else pF pl s
def pMn (c v pl : Int → Int) (lo hi : Int) (s : pS) : pS := if s.2.2 = -1 ∧ c s.1 = 50 ∧ lo ≤ v s.1 ∧ v s.1 ≤ hi then pNx s else pF pl s
/-- which word of the class a code is -/
def pIx (lw : Bool) (k : Int) : Int := if lw = true then (if k = 12 then 6 else if k = 13 then 4 else if k = 14 then 5 else k - 8) else (if k = 19 then 5 else if k = 13 then 11 else k - 14)
def pW (lw : Bool) (k : Int) : Prop := (lw = true ∧ 8 ≤ k ∧ k ≤ 14) ∨ (lw = false ∧ 13 ≤ k ∧ k ≤ 19)
def pWb (lw : Bool) (k : Int) : Bool := if lw = true then (decide (8 ≤ k) && decide (k ≤ 14)) else (decide (13 ≤ k) && decide (k ≤ 19))
/-- a word of orders that a drum's number follows -/
def pOf (lw : Bool) (k : Int) : Bool := lw == false && (decide (k = 13) || decide (k = 19))
def pLeaf (c v pl : Int → Int) (lw : Bool) (s : pS) : pR :=
  if 50 ≤ s.2.1 then (pF pl s, pNo)
  else if c s.1 = 50 then ((s.1 + 1, s.2.1 + 1, s.2.2), fun _ => some (v s.1))
  else if pOf lw (c s.1) = true then (pMn c v pl 0 5 (s.1 + 1, s.2.1 + 1, s.2.2), fun w => some (w (pIx lw (c s.1) + v (s.1 + 1))))
  else ((s.1 + 1, s.2.1 + 1, s.2.2), fun w => some (w (pIx lw (c s.1))))
def pPart (c v pl : Int → Int) (lw : Bool) (S : Option (pS → pR)) (s : pS) : pR :=
  if s.2.2 ≠ -1 then (s, pNo)
  else if c s.1 = 191 then (match S with
    | none => (pF pl s, pNo)
    | some S => (pMu c pl 193 (S (pNx s)).1, (S (pNx s)).2))
  else if (c s.1 = 50 ∧ v s.1 ≤ 1000) ∨ pWb lw (c s.1) = true then pLeaf c v pl lw s
  else (pF pl s, pNo)
def pJn (o x y : Int) : Option Int := if 1000000000 < cJoin o x y ∨ cJoin o x y < -1000000000 then none else some (cJoin o x y)
def pBin (o : Int) (d e : pD) : pD := fun w => match d w with
  | none => none
  | some x => match e w with
    | none => none
    | some y => pJn o x y
def pOs (k : Int) : Int := if k = 143 then 6 else if k = 145 then 7 else -1
def pOt (k : Int) : Int := if k = 142 then 8 else if k = 147 then 9 else if k = 137 then 10 else -1
def pOc (k : Int) : Int := if k = 160 then 11 else if k = 162 then 12 else if k = 161 then 13 else -1
def pLoop (c : Int → Int) (op : Int → Int) (P : pS → pR) : Nat → pR → pR
  | 0, r => r
  | f + 1, r => if r.1.2.2 = -1 ∧ op (c r.1.1) ≠ -1 then pLoop c op P f ((P (pNx r.1)).1, pBin (op (c r.1.1)) r.2 (P (pNx r.1)).2) else r
def pTerm (c v pl : Int → Int) (lw : Bool) (S : Option (pS → pR)) (s : pS) : pR := pLoop c pOt (pPart c v pl lw S) 400 (pPart c v pl lw S s)
def pSum (c v pl : Int → Int) (lw : Bool) (S : Option (pS → pR)) (s : pS) : pR := pLoop c pOs (pTerm c v pl lw S) 400 (pTerm c v pl lw S s)
/-- a sum in which n brackets more may open -/
def pSumL (c v pl : Int → Int) (lw : Bool) : Nat → pS → pR
  | 0, s => pSum c v pl lw none s
  | n + 1, s => pSum c v pl lw (some (pSumL c v pl lw n)) s
def pSub (c v pl : Int → Int) (lw : Bool) (n : Nat) : Option (pS → pR) := match n with
  | 0 => none
  | n + 1 => some (pSumL c v pl lw n)
theorem pSumL_eq (c v pl : Int → Int) (lw : Bool) (n : Nat) (s : pS) : pSumL c v pl lw n s = pSum c v pl lw (pSub c v pl lw n) s := by
  cases n <;> rfl
def pNot (b : Bool) (d : pD) : pD := if b = true then fun w => (match d w with
  | none => none
  | some x => some (od_wl (1 - x))) else d
def pNots (c : Int → Int) : Nat → pS → Bool → pS × Bool
  | 0, s, b => (s, b)
  | f + 1, s, b => if s.2.2 = -1 ∧ c s.1 = 7 then pNots c f (pNx s) (!b) else (s, b)
def pPos (c pl : Int → Int) (S : pS → pR) (T : Option (pS → pR)) (b : Bool) (s : pS) : pR :=
  if s.2.2 ≠ -1 then (s, pNo)
  else if c s.1 = 140 then (match T with
    | none => (pF pl s, pNo)
    | some T => (pMu c pl 141 (T (pNx s)).1, pNot b (T (pNx s)).2))
  else if (S s).1.2.2 ≠ -1 then ((S s).1, pNo)
  else if pOc (c (S s).1.1) = -1 then (pF pl (S s).1, pNo)
  else ((S (pNx (S s).1)).1, pNot b (pBin (pOc (c (S s).1.1)) (S s).2 (S (pNx (S s).1)).2))
def pPlain (c pl : Int → Int) (S : pS → pR) (T : Option (pS → pR)) (s : pS) : pR := pPos c pl S T (pNots c 400 s false).2 (pNots c 400 s false).1
def pSc (stop : Int) (d e : pD) : pD := fun w => match d w with
  | none => none
  | some x => if x = stop then some x else e w
def pAO (c : Int → Int) (k stop : Int) (P : pS → pR) : Nat → pR → pR
  | 0, r => r
  | f + 1, r => if r.1.2.2 = -1 ∧ c r.1.1 = k then pAO c k stop P f ((P (pNx r.1)).1, pSc stop r.2 (P (pNx r.1)).2) else r
def pBoth (c pl : Int → Int) (S : pS → pR) (T : Option (pS → pR)) (s : pS) : pR := pAO c 6 0 (pPlain c pl S T) 400 (pPlain c pl S T s)
def pTest (c pl : Int → Int) (S : pS → pR) (T : Option (pS → pR)) (s : pS) : pR := pAO c 5 1 (pBoth c pl S T) 400 (pBoth c pl S T s)
def pTestL (c v pl : Int → Int) (lw : Bool) : Nat → pS → pR
  | 0, s => pTest c pl (pSumL c v pl lw 0) none s
  | n + 1, s => pTest c pl (pSumL c v pl lw (n + 1)) (some (pTestL c v pl lw n)) s
def pTub (c v pl : Int → Int) (lw : Bool) (n : Nat) : Option (pS → pR) := match n with
  | 0 => none
  | n + 1 => some (pTestL c v pl lw n)
theorem pTestL_eq (c v pl : Int → Int) (lw : Bool) (n : Nat) (s : pS) : pTestL c v pl lw n s = pTest c pl (pSumL c v pl lw n) (pTub c v pl lw n) s := by
  cases n <;> rfl
/-- a clause: its kind, how often, its sums, its test -/
abbrev pC : Type := Int × Int × pD × pD × pD
def pIf (c v pl : Int → Int) (lw : Bool) (s : pS) : pR := if s.2.2 = -1 ∧ c s.1 = 4 then pTestL c v pl lw 8 (pNx s) else (s, pOne)
def pHdL (c v pl : Int → Int) (s : pS) : pS × Int × pD :=
  if s.2.2 = -1 ∧ c s.1 = 1 then ((pSumL c v pl true 8 (pNx s)).1, 0, (pSumL c v pl true 8 (pNx s)).2)
  else if s.2.2 = -1 ∧ c s.1 = 2 then (pNx s, 1, pOne)
  else (pMu c pl 3 s, 2, pOne)
def pTwo (c v pl : Int → Int) (k : Int) (s : pS) : pS × pD × pD :=
  ((pSumL c v pl false 8 (pMu c pl k (pSumL c v pl false 8 s).1)).1, (pSumL c v pl false 8 s).2, (pSumL c v pl false 8 (pMu c pl k (pSumL c v pl false 8 s).1)).2)
def pHdO (c v pl : Int → Int) (s : pS) : pS × Int × pD × pD :=
  if s.2.2 = -1 ∧ c s.1 = 20 then ((pTwo c v pl 19 (pNx s)).1, 0, (pTwo c v pl 19 (pNx s)).2)
  else if s.2.2 = -1 ∧ c s.1 = 21 then ((pTwo c v pl 22 (pNx s)).1, 1, (pTwo c v pl 22 (pNx s)).2)
  else if s.2.2 = -1 ∧ c s.1 = 23 then ((pSumL c v pl false 8 (pNx s)).1, 2, (pSumL c v pl false 8 (pNx s)).2, pOne)
  else (pMu c pl 24 s, 3, pOne, pOne)
def pTi (c v pl : Int → Int) (s : pS) : pS × Int := if s.2.2 = -1 ∧ c s.1 = 25 then (pMn c v pl 1 20 (pNx s), v (s.1 + 1)) else (s, 1)
def pCl (c v pl : Int → Int) (lw : Bool) (s : pS) : pS × pC :=
  if lw = true then ((pIf c v pl true (pHdL c v pl s).1).1, (pHdL c v pl s).2.1, 1, (pHdL c v pl s).2.2, pOne, (pIf c v pl true (pHdL c v pl s).1).2)
  else ((pIf c v pl false (pTi c v pl (pHdO c v pl s).1).1).1, (pHdO c v pl s).2.1, (pTi c v pl (pHdO c v pl s).1).2, (pHdO c v pl s).2.2.1, (pHdO c v pl s).2.2.2, (pIf c v pl false (pTi c v pl (pHdO c v pl s).1).1).2)
def pTxt (c v pl : Int → Int) (lw : Bool) : Nat → pS → pS
  | 0, s => pF pl s
  | f + 1, s => if (pCl c v pl lw s).1.2.2 = -1 ∧ c (pCl c v pl lw s).1.1 = 159 then pTxt c v pl lw f (pNx (pCl c v pl lw s).1) else (pCl c v pl lw s).1
/-- the state at the beginning of a clause -/
def pSt (c v pl : Int → Int) (lw : Bool) : Nat → pS
  | 0 => (0, 0, -1)
  | n + 1 => pNx (pCl c v pl lw (pSt c v pl lw n)).1
/-- the whole text, of N tokens -/
def pAll (c v pl : Int → Int) (lw : Bool) (N : Int) : pS := if (pTxt c v pl lw 12 (0, 0, -1)).1 < N then pF pl (pTxt c v pl lw 12 (0, 0, -1)) else pTxt c v pl lw 12 (0, 0, -1)
def pCnt (c v pl : Int → Int) (lw : Bool) : Nat → pS → Nat
  | 0, _ => 0
  | f + 1, s => if (pCl c v pl lw s).1.2.2 = -1 ∧ c (pCl c v pl lw s).1.1 = 159 then pCnt c v pl lw f (pNx (pCl c v pl lw s).1) + 1 else 1
/-! steps that come to what is meant -/
def od_stp (st nu : Int) : Int := od_or (od_shl nu 4) st
theorem od_stp_f : ∀ nu : Fin 1024, ∀ st : Fin 16, od_and (od_stp (st.val : Int) (nu.val : Int)) 15 = (st.val : Int) ∧ od_ushr (od_stp (st.val : Int) (nu.val : Int)) 4 = (nu.val : Int) := by decide +kernel
theorem od_stp_d {st nu : Int} (hs : 0 ≤ st ∧ st < 16) (hn : 0 ≤ nu ∧ nu < 1024) : od_and (od_stp st nu) 15 = st ∧ od_ushr (od_stp st nu) 4 = nu := by
  have h := od_stp_f ⟨nu.toNat, by omega⟩ ⟨st.toNat, by omega⟩
  simp only [show ((nu.toNat : Nat) : Int) = nu by omega, show ((st.toNat : Nat) : Int) = st by omega] at h
  exact h
theorem cR_s {row : Int → Int} {n : Int} {w : Int → Int} {wl : Int} {f : Nat} {p top : Int} {s : Int → Int} {st nu : Int} (hr : row p = od_stp st nu) (hs : 0 ≤ st ∧ st < 16) (hn : 0 ≤ nu ∧ nu < 1024) : cRunF row n w wl (f + 1) p top s = (if p < 0 ∨ n ≤ p ∨ st = 0 then (if top = 1 then od_w (s 0) else -2000000000) else if st = 1 ∨ st = 2 then (if 64 ≤ top ∨ (st = 2 ∧ wl ≤ nu) then -2000000000 else cRunF row n w wl f (p + 1) (top + 1) (od_u1 s top (if st = 1 then nu else w nu))) else if st = 3 ∧ 0 < top then cRunF row n w wl f (p + 1) top (od_u1 s (top - 1) (od_wl (1 - s (top - 1)))) else if (st = 4 ∨ st = 5) ∧ 0 < top then (if s (top - 1) = (if st = 4 then 1 else 0) then cRunF row n w wl f nu top s else cRunF row n w wl f (p + 1) (top - 1) s) else if 1 < top then (if 1000000000 < cJoin st (s (top - 2)) (s (top - 1)) ∨ cJoin st (s (top - 2)) (s (top - 1)) < -1000000000 then -2000000000 else cRunF row n w wl f (p + 1) (top - 1) (od_u1 s (top - 2) (cJoin st (s (top - 2)) (s (top - 1))))) else -2000000000) := by
  have e := od_stp_d hs hn
  simp only [cRunF, hr, e.1, e.2]
theorem od_u1_at (s : Int → Int) (j x : Int) : od_u1 s j x j = x := by unfold od_u1; rw [if_pos rfl]
theorem od_u1_ne {s : Int → Int} {j x i : Int} (h : i ≠ j) : od_u1 s j x i = s i := by unfold od_u1; rw [if_neg h]
def pBs (x : Int) : Prop := -1000000000 ≤ x ∧ x ≤ 1000000000
def pBt (x : Int) : Prop := x = 0 ∨ x = 1
/-- the steps from z up to z' leave what d means on the stack, or break -/
def RT (B : Int → Prop) (m wl : Int) (row : Int → Int) (z z' : Int) (d : pD) : Prop :=
  (0 ≤ z ∧ z ≤ z') ∧ ∀ (row' : Int → Int) (n : Int) (w : Int → Int) (top : Int) (s : Int → Int) (f : Nat), (∀ j : Int, z ≤ j → j < z' → row' j = row j) → z' ≤ n → (∀ i : Int, pBs (w i)) → 0 ≤ top → top + m ≤ 64 → z' - z ≤ (f : Int) →
    (d w = none ∧ cRunF row' n w wl f z top s = -2000000000) ∨ ∃ (x : Int) (f' : Nat) (s' : Int → Int), d w = some x ∧ B x ∧ (f : Int) - (z' - z) ≤ f' ∧ (∀ j : Int, 0 ≤ j → j < top → s' j = s j) ∧ s' top = x ∧ cRunF row' n w wl f z top s = cRunF row' n w wl f' z' (top + 1) s'
theorem RT.row {B : Int → Prop} {m wl : Int} {row row1 : Int → Int} {z z' : Int} {d : pD} (h : RT B m wl row z z' d) (e : ∀ j : Int, z ≤ j → j < z' → row1 j = row j) : RT B m wl row1 z z' d :=
  ⟨h.1, fun row' n w top s f ha hn hw ht hm hf => h.2 row' n w top s f (fun j j0 j1 => (ha j j0 j1).trans (e j j0 j1)) hn hw ht hm hf⟩
theorem RT.mo {B : Int → Prop} {m m' wl : Int} {row : Int → Int} {z z' : Int} {d : pD} (h : RT B m wl row z z' d) (e : m ≤ m') : RT B m' wl row z z' d :=
  ⟨h.1, fun row' n w top s f ha hn hw ht hm hf => h.2 row' n w top s f ha hn hw ht (by omega) hf⟩
theorem RT_num {wl : Int} {row : Int → Int} {z x : Int} (h0 : 0 ≤ z) (hx : 0 ≤ x ∧ x ≤ 1000) (hr : row z = od_stp 1 x) : RT pBs 1 wl row z (z + 1) (fun _ => some x) := by
  refine ⟨⟨h0, by omega⟩, fun row' n w top s f ha hn hw ht hm hf => ?_⟩
  obtain ⟨f0, rfl⟩ : ∃ f0, f = f0 + 1 := ⟨f - 1, by omega⟩
  refine Or.inr ⟨x, f0, od_u1 s top x, rfl, by unfold pBs; omega, by omega, fun j j0 j1 => od_u1_ne (by omega), od_u1_at _ _ _, ?_⟩
  rw [cR_s (st := 1) (nu := x) ((ha z (by omega) (by omega)).trans hr) (by omega) (by omega), if_neg (by omega), if_pos (Or.inl rfl), if_neg (by omega), if_pos rfl]
theorem RT_wd {wl : Int} {row : Int → Int} {z i : Int} (h0 : 0 ≤ z) (hi : 0 ≤ i ∧ i < wl) (hl : wl ≤ 100) (hr : row z = od_stp 2 i) : RT pBs 1 wl row z (z + 1) (fun w => some (w i)) := by
  refine ⟨⟨h0, by omega⟩, fun row' n w top s f ha hn hw ht hm hf => ?_⟩
  obtain ⟨f0, rfl⟩ : ∃ f0, f = f0 + 1 := ⟨f - 1, by omega⟩
  refine Or.inr ⟨w i, f0, od_u1 s top (w i), rfl, hw i, by omega, fun j j0 j1 => od_u1_ne (by omega), od_u1_at _ _ _, ?_⟩
  rw [cR_s (st := 2) (nu := i) ((ha z (by omega) (by omega)).trans hr) (by omega) (by omega), if_neg (by omega), if_pos (Or.inr rfl), if_neg (by omega), if_neg (by omega)]
theorem pBin_n1 {o : Int} {d e : pD} {w : Int → Int} (h : d w = none) : pBin o d e w = none := by simp only [pBin, h]
theorem pBin_n2 {o : Int} {d e : pD} {w : Int → Int} {x : Int} (h : d w = some x) (h2 : e w = none) : pBin o d e w = none := by simp only [pBin, h, h2]
theorem pBin_s {o : Int} {d e : pD} {w : Int → Int} {x y : Int} (h : d w = some x) (h2 : e w = some y) : pBin o d e w = pJn o x y := by simp only [pBin, h, h2]
theorem RT_bin {B B1 B2 : Int → Prop} {m1 m2 m wl : Int} {row : Int → Int} {z a b o : Int} {d e : pD} (h1 : RT B1 m1 wl row z a d) (h2 : RT B2 m2 wl row a b e) (hm1 : m1 ≤ m) (hm2 : m2 + 1 ≤ m) (ho : 6 ≤ o ∧ o ≤ 13) (hr : row b = od_stp o 0) (hB : ∀ x y : Int, ¬ (1000000000 < cJoin o x y ∨ cJoin o x y < -1000000000) → B (cJoin o x y)) : RT B m wl row z (b + 1) (pBin o d e) := by
  have k1 := h1.1
  have k2 := h2.1
  refine ⟨⟨by omega, by omega⟩, fun row' n w top s f ha hn hw ht hm hf => ?_⟩
  rcases h1.2 row' n w top s f (fun j j0 j1 => ha j j0 (by omega)) (by omega) hw ht (by omega) (by omega) with ⟨e1, r1⟩ | ⟨x, f1, s1, e1, b1, hf1, q1, t1, r1⟩
  · exact Or.inl ⟨pBin_n1 e1, r1⟩
  · rcases h2.2 row' n w (top + 1) s1 f1 (fun j j0 j1 => ha j (by omega) (by omega)) (by omega) hw (by omega) (by omega) (by omega) with ⟨e2, r2⟩ | ⟨y, f2, s2, e2, b2, hf2, q2, t2, r2⟩
    · exact Or.inl ⟨pBin_n2 e1 e2, r1.trans r2⟩
    · obtain ⟨f3, rfl⟩ : ∃ f3, f2 = f3 + 1 := ⟨f2 - 1, by omega⟩
      have hx : s2 top = x := by rw [q2 top (by omega) (by omega), t1]
      have st := cR_s (row := row') (n := n) (w := w) (wl := wl) (f := f3) (p := b) (top := top + 1 + 1) (s := s2) (st := o) (nu := 0) ((ha b (by omega) (by omega)).trans hr) (by omega) (by omega)
      rw [if_neg (by omega), if_neg (by omega), if_neg (by omega), if_neg (by omega), if_pos (by omega), show top + 1 + 1 - 2 = top by omega, show top + 1 + 1 - 1 = top + 1 by omega, hx, t2] at st
      rw [r1, r2, st, pBin_s e1 e2]
      unfold pJn
      by_cases hj : 1000000000 < cJoin o x y ∨ cJoin o x y < -1000000000
      · rw [if_pos hj, if_pos hj]
        exact Or.inl ⟨rfl, rfl⟩
      · rw [if_neg hj, if_neg hj]
        exact Or.inr ⟨_, f3, od_u1 s2 top (cJoin o x y), rfl, hB x y hj, by omega, fun j j0 j1 => by rw [od_u1_ne (by omega), q2 j j0 (by omega), q1 j j0 j1], od_u1_at _ _ _, rfl⟩
theorem cJoin_t {o x y : Int} (ho : 11 ≤ o ∧ o ≤ 13) : pBt (cJoin o x y) := by
  unfold cJoin pBt
  rw [if_neg (by omega), if_neg (by omega), if_neg (by omega), if_neg (by omega), if_neg (by omega)]
  repeat' split
  all_goals omega
theorem RT_not {m wl : Int} {row : Int → Int} {z a : Int} {d : pD} (h1 : RT pBt m wl row z a d) (hm1 : 1 ≤ m) (hr : row a = od_stp 3 0) : RT pBt m wl row z (a + 1) (pNot true d) := by
  have k1 := h1.1
  refine ⟨⟨by omega, by omega⟩, fun row' n w top s f ha hn hw ht hm hf => ?_⟩
  rcases h1.2 row' n w top s f (fun j j0 j1 => ha j j0 (by omega)) (by omega) hw ht (by omega) (by omega) with ⟨e1, r1⟩ | ⟨x, f1, s1, e1, b1, hf1, q1, t1, r1⟩
  · exact Or.inl ⟨by unfold pNot; rw [if_pos rfl]; simp only [e1], r1⟩
  · obtain ⟨f3, rfl⟩ : ∃ f3, f1 = f3 + 1 := ⟨f1 - 1, by omega⟩
    have st := cR_s (row := row') (n := n) (w := w) (wl := wl) (f := f3) (p := a) (top := top + 1) (s := s1) (st := 3) (nu := 0) ((ha a (by omega) (by omega)).trans hr) (by omega) (by omega)
    rw [if_neg (by omega), if_neg (by omega), if_pos (by omega), show top + 1 - 1 = top by omega, t1] at st
    have hb : od_wl (1 - x) = 1 - x := by unfold od_wl; unfold pBt at b1; omega
    refine Or.inr ⟨1 - x, f3, od_u1 s1 top (od_wl (1 - x)), by unfold pNot; rw [if_pos rfl]; simp only [e1, hb], by unfold pBt at b1 ⊢; omega, by omega, fun j j0 j1 => by rw [od_u1_ne (by omega), q1 j j0 j1], by rw [od_u1_at, hb], by rw [r1, st]⟩
theorem pNot_f (d : pD) : pNot false d = d := rfl
theorem RT_sc {B : Int → Prop} {m wl : Int} {row : Int → Int} {z a b st : Int} {d e : pD} (h1 : RT B m wl row z a d) (h2 : RT B m wl row (a + 1) b e) (hm1 : 1 ≤ m) (hs : st = 4 ∨ st = 5) (hb : b < 1024) (hr : row a = od_stp st b) : RT B m wl row z b (pSc (if st = 4 then 1 else 0) d e) := by
  have k1 := h1.1
  have k2 := h2.1
  refine ⟨⟨by omega, by omega⟩, fun row' n w top s f ha hn hw ht hm hf => ?_⟩
  rcases h1.2 row' n w top s f (fun j j0 j1 => ha j j0 (by omega)) (by omega) hw ht (by omega) (by omega) with ⟨e1, r1⟩ | ⟨x, f1, s1, e1, b1, hf1, q1, t1, r1⟩
  · exact Or.inl ⟨by simp only [pSc, e1], r1⟩
  · obtain ⟨f3, rfl⟩ : ∃ f3, f1 = f3 + 1 := ⟨f1 - 1, by omega⟩
    have sx := cR_s (row := row') (n := n) (w := w) (wl := wl) (f := f3) (p := a) (top := top + 1) (s := s1) (st := st) (nu := b) ((ha a (by omega) (by omega)).trans hr) (by omega) (by omega)
    rw [if_neg (by omega), if_neg (by omega), if_neg (by omega), if_pos ⟨hs, by omega⟩, show top + 1 - 1 = top by omega, t1] at sx
    by_cases hx : x = (if st = 4 then 1 else 0)
    · rw [if_pos hx] at sx
      exact Or.inr ⟨x, f3, s1, by simp only [pSc, e1]; rw [if_pos hx], b1, by omega, q1, t1, r1.trans sx⟩
    · rw [if_neg hx] at sx
      have ed : pSc (if st = 4 then 1 else 0) d e w = e w := by simp only [pSc, e1]; rw [if_neg hx]
      rw [ed]
      rcases h2.2 row' n w top s1 f3 (fun j j0 j1 => ha j (by omega) (by omega)) (by omega) hw ht (by omega) (by omega) with ⟨e2, r2⟩ | ⟨y, f2, s2, e2, b2, hf2, q2, t2, r2⟩
      · exact Or.inl ⟨e2, r1.trans (sx.trans r2)⟩
      · exact Or.inr ⟨y, f2, s2, e2, b2, by omega, fun j j0 j1 => by rw [q2 j j0 j1, q1 j j0 j1], t2, r1.trans (sx.trans r2)⟩
def pEv (o : Option Int) : Int := match o with
  | none => -2000000000
  | some x => x
theorem RT_val {B : Int → Prop} {m : Int} {wl n : Nat} {row row' : Int → Int} {z z' : Int} {d : pD} (h : RT B m wl row z z' d) (hB : ∀ x, B x → pBs x) (hm : m ≤ 64) (hr : row z' = od_stp 0 0) (e : ∀ j : Int, z ≤ j → j < z' + 1 → row' j = row j) (hn : z' < n) {w : Int → Int} (hw : ∀ i : Int, pBs (w i)) : cVal row' n w wl z = pEv (d w) := by
  have k1 := h.1
  unfold cVal cValue
  rw [if_neg (by omega)]
  rcases h.2 row' n w 0 (fun _ => 0) n (fun j j0 j1 => e j j0 (by omega)) (by omega) hw (by omega) (by omega) (by omega) with ⟨e1, r1⟩ | ⟨x, f1, s1, e1, b1, hf1, q1, t1, r1⟩
  · rw [r1, e1]; rfl
  · have hx := hB x b1
    have hw1 : od_w (s1 0) = x := by rw [t1]; unfold od_w; unfold pBs at hx; omega
    rw [r1, e1]
    show _ = x
    rw [show (0 : Int) + 1 = 1 by omega]
    match f1 with
    | 0 => exact (if_pos rfl).trans hw1
    | f2 + 1 => rw [cR_s (st := 0) (nu := 0) ((e z' (by omega) (by omega)).trans hr) (by omega) (by omega), if_pos (Or.inr (Or.inr rfl)), if_pos rfl, hw1]
