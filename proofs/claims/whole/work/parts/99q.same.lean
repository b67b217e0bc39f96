/-! what is read depends on the tokens from 0 on alone -/
def pAg (c v c' v' : Int → Int) : Prop := ∀ i : Int, 0 ≤ i → c' i = c i ∧ v' i = v i
theorem pMu_a {c v c' v' : Int → Int} (h : pAg c v c' v') (pl : Int → Int) (k : Int) {s : pS} (hs : 0 ≤ s.1) : pMu c' pl k s = pMu c pl k s := by
  unfold pMu
  rw [(h _ hs).1]
theorem pMn_a {c v c' v' : Int → Int} (h : pAg c v c' v') (pl : Int → Int) (lo hi : Int) {s : pS} (hs : 0 ≤ s.1) : pMn c' v' pl lo hi s = pMn c v pl lo hi s := by
  unfold pMn
  rw [(h _ hs).1, (h _ hs).2]
theorem pLeaf_a {c v c' v' : Int → Int} (h : pAg c v c' v') (pl : Int → Int) (lw : Bool) {s : pS} (hs : 0 ≤ s.1) : pLeaf c' v' pl lw s = pLeaf c v pl lw s := by
  unfold pLeaf
  rw [(h _ hs).1, (h _ hs).2, (h (s.1 + 1) (by omega)).2, pMn_a h pl 0 5 (s := (s.1 + 1, s.2.1 + 1, s.2.2)) (by show 0 ≤ s.1 + 1; omega)]
def pSr (S S' : Option (pS → pR)) : Prop := (S = none ∧ S' = none) ∨ ∃ S1 S2 : pS → pR, S = some S1 ∧ S' = some S2 ∧ (∀ s : pS, 0 ≤ s.1 → S2 s = S1 s) ∧ ∀ s : pS, s.1 ≤ (S1 s).1.1
theorem pNx_0 {s : pS} (h : 0 ≤ s.1) : 0 ≤ (pNx s).1 := by
  show 0 ≤ s.1 + 1
  omega
theorem pPart_a {c v c' v' : Int → Int} (h : pAg c v c' v') (pl : Int → Int) (lw : Bool) {S S' : Option (pS → pR)} (hS : pSr S S') {s : pS} (hs : 0 ≤ s.1) : pPart c' v' pl lw S' s = pPart c v pl lw S s := by
  unfold pPart
  rw [(h _ hs).1, (h _ hs).2, pLeaf_a h pl lw hs]
  rcases hS with ⟨e1, e2⟩ | ⟨S1, S2, e1, e2, e3, e4⟩
  · rw [e1, e2]
  · rw [e1, e2]
    have a := e3 (pNx s) (pNx_0 hs)
    have b := e4 (pNx s)
    have b0 := pNx_0 hs
    show (if s.2.2 ≠ -1 then (s, pNo) else if c s.1 = 191 then (pMu c' pl 193 (S2 (pNx s)).1, (S2 (pNx s)).2) else if (c s.1 = 50 ∧ v s.1 ≤ 1000) ∨ pWb lw (c s.1) = true then pLeaf c v pl lw s else (pF pl s, pNo)) = (if s.2.2 ≠ -1 then (s, pNo) else if c s.1 = 191 then (pMu c pl 193 (S1 (pNx s)).1, (S1 (pNx s)).2) else if (c s.1 = 50 ∧ v s.1 ≤ 1000) ∨ pWb lw (c s.1) = true then pLeaf c v pl lw s else (pF pl s, pNo))
    rw [a, pMu_a h pl 193 (by omega)]
theorem pLoop_a {c v c' v' : Int → Int} (h : pAg c v c' v') (op : Int → Int) {P P' : pS → pR} (hP : ∀ s : pS, 0 ≤ s.1 → P' s = P s) (hl : ∀ s : pS, s.1 ≤ (P s).1.1) : ∀ (f : Nat) (r : pR), 0 ≤ r.1.1 → pLoop c' op P' f r = pLoop c op P f r := by
  intro f
  induction f with
  | zero => intro r _; rfl
  | succ f ih =>
    intro r hr
    unfold pLoop
    have a := hP (pNx r.1) (pNx_0 hr)
    have b := hl (pNx r.1)
    have b0 := pNx_0 hr
    rw [(h _ hr).1, a, ih _ (by show 0 ≤ (P (pNx r.1)).1.1; omega)]
theorem pPart_sl {c v pl : Int → Int} {lw : Bool} (n : Nat) (s : pS) : s.1 ≤ (pPart c v pl lw (pSub c v pl lw n) s).1.1 :=
  pPart_le (fun S1 e s => by
    cases n with
    | zero => cases e
    | succ n =>
      have e2 : pSumL c v pl lw n = S1 := Option.some.inj e
      rw [← e2]; exact pSumL_le n s) s
theorem pTerm_sl {c v pl : Int → Int} {lw : Bool} (n : Nat) (s : pS) : s.1 ≤ (pTerm c v pl lw (pSub c v pl lw n) s).1.1 := Int.le_trans (pPart_sl n s) (pLoop_le (pPart_sl n) 400 _)
theorem pSum_a {c v c' v' : Int → Int} (h : pAg c v c' v') (pl : Int → Int) (lw : Bool) (n : Nat) (hS : pSr (pSub c v pl lw n) (pSub c' v' pl lw n)) {s : pS} (hs : 0 ≤ s.1) : pSumL c' v' pl lw n s = pSumL c v pl lw n s := by
  rw [pSumL_eq, pSumL_eq]
  have hp : ∀ s : pS, 0 ≤ s.1 → pPart c' v' pl lw (pSub c' v' pl lw n) s = pPart c v pl lw (pSub c v pl lw n) s := fun s q => pPart_a h pl lw hS q
  have ht : ∀ s : pS, 0 ≤ s.1 → pTerm c' v' pl lw (pSub c' v' pl lw n) s = pTerm c v pl lw (pSub c v pl lw n) s := fun s q => by
    unfold pTerm
    rw [hp s q]
    exact pLoop_a h pOt hp (pPart_sl n) 400 _ (Int.le_trans q (pPart_sl n s))
  unfold pSum
  rw [ht s hs]
  exact pLoop_a h pOs ht (pTerm_sl n) 400 _ (Int.le_trans hs (pTerm_sl n s))
theorem pSumL_a {c v c' v' : Int → Int} (h : pAg c v c' v') (pl : Int → Int) (lw : Bool) : ∀ (n : Nat) (s : pS), 0 ≤ s.1 → pSumL c' v' pl lw n s = pSumL c v pl lw n s := by
  intro n
  induction n with
  | zero => exact fun s hs => pSum_a h pl lw 0 (Or.inl ⟨rfl, rfl⟩) hs
  | succ n ih => exact fun s hs => pSum_a h pl lw (n + 1) (Or.inr ⟨_, _, rfl, rfl, ih, pSumL_le n⟩) hs
theorem pNots_a {c v c' v' : Int → Int} (h : pAg c v c' v') : ∀ (f : Nat) (s : pS) (b : Bool), 0 ≤ s.1 → pNots c' f s b = pNots c f s b := by
  intro f
  induction f with
  | zero => intro s b _; rfl
  | succ f ih =>
    intro s b hs
    unfold pNots
    rw [(h _ hs).1, ih _ _ (pNx_0 hs)]
theorem pPos_a {c v c' v' : Int → Int} (h : pAg c v c' v') (pl : Int → Int) {S S' : pS → pR} (hS : ∀ s : pS, 0 ≤ s.1 → S' s = S s) (hl : ∀ s : pS, s.1 ≤ (S s).1.1) {T T' : Option (pS → pR)} (hT : pSr T T') (b : Bool) {s : pS} (hs : 0 ≤ s.1) : pPos c' pl S' T' b s = pPos c pl S T b s := by
  have l1 := hl s
  have l2 := pNx_0 (s := (S s).1) (by omega)
  unfold pPos
  rw [(h _ hs).1, hS s hs, (h (S s).1.1 (by omega)).1, hS (pNx (S s).1) l2]
  rcases hT with ⟨e1, e2⟩ | ⟨S1, S2, e1, e2, e3, e4⟩
  · rw [e1, e2]
  · rw [e1, e2]
    have a := e3 (pNx s) (pNx_0 hs)
    have q := e4 (pNx s)
    have b0 := pNx_0 hs
    dsimp only
    rw [a, pMu_a h pl 141 (by omega)]
theorem pAO_a {c v c' v' : Int → Int} (h : pAg c v c' v') (k st : Int) {P P' : pS → pR} (hP : ∀ s : pS, 0 ≤ s.1 → P' s = P s) (hl : ∀ s : pS, s.1 ≤ (P s).1.1) : ∀ (f : Nat) (r : pR), 0 ≤ r.1.1 → pAO c' k st P' f r = pAO c k st P f r := by
  intro f
  induction f with
  | zero => intro r _; rfl
  | succ f ih =>
    intro r hr
    unfold pAO
    have a := hP (pNx r.1) (pNx_0 hr)
    have b := hl (pNx r.1)
    have b0 := pNx_0 hr
    rw [(h _ hr).1, a, ih _ (by show 0 ≤ (P (pNx r.1)).1.1; omega)]
theorem pPlain_l {c v pl : Int → Int} {lw : Bool} {n : Nat} {T : Option (pS → pR)} (hT : ∀ T1, T = some T1 → ∀ s : pS, s.1 ≤ (T1 s).1.1) (s : pS) : s.1 ≤ (pPlain c pl (pSumL c v pl lw n) T s).1.1 := by
  unfold pPlain
  exact Int.le_trans (pNots_le 400 s false) (pPos_le (pSumL_le n) hT _ _)
theorem pTest_a {c v c' v' : Int → Int} (h : pAg c v c' v') (pl : Int → Int) (lw : Bool) (n : Nat) {T T' : Option (pS → pR)} (hT : pSr T T') (hl : ∀ T1, T = some T1 → ∀ s : pS, s.1 ≤ (T1 s).1.1) {s : pS} (hs : 0 ≤ s.1) : pTest c' pl (pSumL c' v' pl lw n) T' s = pTest c pl (pSumL c v pl lw n) T s := by
  have hp : ∀ s : pS, 0 ≤ s.1 → pPlain c' pl (pSumL c' v' pl lw n) T' s = pPlain c pl (pSumL c v pl lw n) T s := fun s q => by
    unfold pPlain
    rw [pNots_a h 400 s false q]
    exact pPos_a h pl (pSumL_a h pl lw n) (pSumL_le n) hT _ (Int.le_trans q (pNots_le 400 s false))
  have lp := pPlain_l (c := c) (v := v) (pl := pl) (lw := lw) (n := n) hl
  have hb : ∀ s : pS, 0 ≤ s.1 → pBoth c' pl (pSumL c' v' pl lw n) T' s = pBoth c pl (pSumL c v pl lw n) T s := fun s q => by
    unfold pBoth
    rw [hp s q]
    exact pAO_a h 6 0 hp lp 400 _ (Int.le_trans q (lp s))
  have lb : ∀ s : pS, s.1 ≤ (pBoth c pl (pSumL c v pl lw n) T s).1.1 := fun s => by
    unfold pBoth
    exact Int.le_trans (lp s) (pAO_le lp 400 _)
  unfold pTest
  rw [hb s hs]
  exact pAO_a h 5 1 hb lb 400 _ (Int.le_trans hs (lb s))
theorem pTestL_a {c v c' v' : Int → Int} (h : pAg c v c' v') (pl : Int → Int) (lw : Bool) : ∀ (n : Nat) (s : pS), 0 ≤ s.1 → pTestL c' v' pl lw n s = pTestL c v pl lw n s := by
  intro n
  induction n with
  | zero => exact fun s hs => pTest_a h pl lw 0 (Or.inl ⟨rfl, rfl⟩) (fun T1 e => by cases e) hs
  | succ n ih =>
    refine fun s hs => pTest_a h pl lw (n + 1) (Or.inr ⟨_, _, rfl, rfl, ih, pTestL_le n⟩) (fun T1 e => ?_) hs
    have e2 : pTestL c v pl lw n = T1 := Option.some.inj e
    rw [← e2]
    exact pTestL_le n
theorem pIf_a {c v c' v' : Int → Int} (h : pAg c v c' v') (pl : Int → Int) (lw : Bool) {s : pS} (hs : 0 ≤ s.1) : pIf c' v' pl lw s = pIf c v pl lw s := by
  unfold pIf
  rw [(h _ hs).1, pTestL_a h pl lw 8 _ (pNx_0 hs)]
theorem pHdL_a {c v c' v' : Int → Int} (h : pAg c v c' v') (pl : Int → Int) {s : pS} (hs : 0 ≤ s.1) : pHdL c' v' pl s = pHdL c v pl s := by
  unfold pHdL
  rw [(h _ hs).1, pSumL_a h pl true 8 _ (pNx_0 hs), pMu_a h pl 3 hs]
theorem pHdL_l (c v pl : Int → Int) (s : pS) : s.1 ≤ (pHdL c v pl s).1.1 := by
  have b : (pNx s).1 = s.1 + 1 := rfl
  unfold pHdL
  split
  · have z := pSumL_le (c := c) (v := v) (pl := pl) (lw := true) 8 (pNx s)
    show s.1 ≤ (pSumL c v pl true 8 (pNx s)).1.1
    omega
  · split
    · show s.1 ≤ (pNx s).1
      omega
    · exact pMu_le c pl 3 s
theorem pCl_a {c v c' v' : Int → Int} (h : pAg c v c' v') (pl : Int → Int) {s : pS} (hs : 0 ≤ s.1) : pCl c' v' pl true s = pCl c v pl true s := by
  have z := pHdL_l c v pl s
  unfold pCl
  rw [if_pos rfl, if_pos rfl, pHdL_a h pl hs, pIf_a h pl true (s := (pHdL c v pl s).1) (by omega)]
theorem pSt_a {c v c' v' : Int → Int} (h : pAg c v c' v') (pl : Int → Int) : ∀ k : Nat, pSt c' v' pl true k = pSt c v pl true k := by
  intro k
  induction k with
  | zero => rfl
  | succ k ih =>
    show pNx (pCl c' v' pl true (pSt c' v' pl true k)).1 = pNx (pCl c v pl true (pSt c v pl true k)).1
    rw [ih, pCl_a h pl (pSt_0 c v pl true k)]
theorem pDn_a {c v c' v' : Int → Int} (h : pAg c v c' v') {pl : Int → Int} {N C : Int} (hD : pDn c v pl true N C) : pDn c' v' pl true N C := by
  refine ⟨hD.1, fun k k0 k1 => ?_⟩
  have z := hD.2 k k0 k1
  rw [pSt_a h pl, pCl_a h pl (pSt_0 c v pl true _), (h (pCl c v pl true (pSt c v pl true k.toNat)).1.1 (Int.le_trans (pSt_0 c v pl true _) (pCl_le c v pl true _))).1]
  exact z
/-! how many tokens there are -/
theorem tok_ex {B : Int → Int} {n : Int} (hn : 0 ≤ n ∧ n ≤ 400) (hB : ∀ p : Int, 0 ≤ p → p < n → 0 ≤ B p) : ∃ N : Int, ∀ i : Int, 0 ≤ i → (i < N ↔ tQ B n (tpl B n i) ≠ 0) := by
  have st : ∀ i : Int, 0 ≤ i → tQ B n (tpl B n i) = 0 → tQ B n (tpl B n (i + 1)) = 0 := fun i i0 h => by
    have b := tpl_b (B := B) hn.1 i
    have b1 := tpl_b (B := B) hn.1 (i + 1)
    have q := (tQ_0 (B := B) (n := n) b.1 hB).mp h
    rw [tpl_s B n i0, tE_0 h]
    have z := (tSk_b (B := B) (n := n) 400 (tpl B n i)).1
    refine (tQ_0 (by unfold tS; omega) hB).mpr ?_
    unfold tS
    omega
  have up : ∀ k : Nat, (∀ j : Int, 0 ≤ j → j < k → tQ B n (tpl B n j) ≠ 0) → (k : Int) ≤ tpl B n k := by
    intro k
    induction k with
    | zero => intro _; exact (tpl_b hn.1 _).1
    | succ k ih =>
      intro h
      have a := ih (fun j j0 j1 => h j j0 (by omega))
      have z := tpl_up (B := B) (n := n) (i := (k : Int)) (by omega) (h k (by omega) (by omega))
      rw [show ((k + 1 : Nat) : Int) = (k : Int) + 1 by omega]
      omega
  have ex : ∃ k : Nat, tQ B n (tpl B n k) = 0 := Classical.byContradiction fun hne => by
    have al : ∀ j : Int, 0 ≤ j → tQ B n (tpl B n j) ≠ 0 := fun j j0 z => hne ⟨j.toNat, by rw [show ((j.toNat : Nat) : Int) = j by omega]; exact z⟩
    have a := up 500 (fun j j0 _ => al j j0)
    have b := (tpl_b (B := B) hn.1 ((500 : Nat) : Int)).2
    omega
  have mn : ∀ k : Nat, tQ B n (tpl B n k) = 0 → ∃ m : Nat, m ≤ k ∧ tQ B n (tpl B n m) = 0 ∧ ∀ j : Int, 0 ≤ j → j < m → tQ B n (tpl B n j) ≠ 0 := by
    intro k
    induction k with
    | zero => intro h; exact ⟨0, Nat.le_refl _, h, fun j j0 j1 => by omega⟩
    | succ k ih =>
      intro h
      by_cases c : tQ B n (tpl B n k) = 0
      · obtain ⟨m, m1, m2, m3⟩ := ih c
        exact ⟨m, by omega, m2, m3⟩
      · refine ⟨k + 1, Nat.le_refl _, h, fun j j0 j1 z => ?_⟩
        have al : ∀ (e : Nat) (j : Int), 0 ≤ j → j + e = k → tQ B n (tpl B n j) = 0 → False := by
          intro e
          induction e with
          | zero => intro j j0 je z; exact c (by rw [show (k : Int) = j by omega]; exact z)
          | succ e ihe => intro j j0 je z; exact ihe (j + 1) (by omega) (by omega) (st j j0 z)
        exact al (k - j).toNat j j0 (by omega) z
  obtain ⟨k, hk⟩ := ex
  obtain ⟨m, _, m2, m3⟩ := mn k hk
  refine ⟨m, fun i i0 => ⟨fun q => m3 i i0 q, fun q => ?_⟩⟩
  refine Classical.byContradiction fun z => q ?_
  have al : ∀ e : Nat, tQ B n (tpl B n ((m : Int) + e)) = 0 := by
    intro e
    induction e with
    | zero => rw [show (m : Int) + ((0 : Nat) : Int) = m by omega]; exact m2
    | succ e ihe => rw [show (m : Int) + ((e + 1 : Nat) : Int) = (m : Int) + e + 1 by omega]; exact st _ (by omega) ihe
  have a := al (i - m).toNat
  rw [show (m : Int) + ((i - m).toNat : Nat) = i by omega] at a
  exact a
