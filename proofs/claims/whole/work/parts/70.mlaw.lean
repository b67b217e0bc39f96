/-! the reference asks a law -/
noncomputable def mWd (row : Int → Int) (d bt : Int) : Int → Int := fun i => if i = 0 then d else if i = 1 then row (19 + d) else if i = 2 then row (25 + d) else if i = 3 then bt else if i = 4 then mOnes (row d) 12 else if i = 5 then row 18 else row 44
noncomputable def mAsk (g : od_G) (M d bt : Int) : od_G := od_up (od_up (od_up (od_up (od_up (od_up (od_up g (M + 12) 0 d) (M + 12) 1 (g (M + 2) (19 + d))) (M + 12) 2 (g (M + 2) (25 + d))) (M + 12) 3 bt) (M + 12) 4 (g (M + 2) 44)) (M + 12) 5 (mOnes (g (M + 2) d) 12)) (M + 12) 6 (g (M + 2) 18)
theorem mAsk_env (g : od_G) (M d bt : Int) : EnvL (mAsk g M d bt) M (mWd (g (M + 2)) d bt) := by
  intro k k0 k1
  rcases (by omega : k = 8 ∨ k = 9 ∨ k = 10 ∨ k = 11 ∨ k = 12 ∨ k = 13 ∨ k = 14) with rfl | rfl | rfl | rfl | rfl | rfl | rfl <;> simp [mAsk, od_up, pIx, mWd]
def kC (row : Int → Int) (b N i : Int) : Int := if 0 ≤ i ∧ i < N then row (56 + (b + i)) else 0
def kV (row : Int → Int) (b N i : Int) : Int := if 0 ≤ i ∧ i < N then row (2856 + (b + i)) else 0
/-- what the clauses of a law up to n come to -/
def pTl (cl : Nat → pC) (hd : Int) (w : Int → Int) (wo : Int) : Nat → Int
  | 0 => wo
  | n + 1 => match (cl n).2.2.1 w with
    | none => pTl cl hd w wo n
    | some x => if (cl n).1 = hd ∧ (cl n).2.2.2.2 w = some 1 then max 0 (min 9 x) else pTl cl hd w wo n
theorem pTl_n {cl : Nat → pC} {hd : Int} {w : Int → Int} {wo : Int} {n : Nat} (h : (cl n).1 ≠ hd ∨ (cl n).2.2.2.2 w ≠ some 1 ∨ (cl n).2.2.1 w = none) : pTl cl hd w wo (n + 1) = pTl cl hd w wo n := by
  simp only [pTl]
  cases e : (cl n).2.2.1 w with
  | none => rfl
  | some x =>
    simp only []
    rw [if_neg]
    intro z
    rcases h with h | h | h
    · exact h z.1
    · exact h z.2
    · rw [e] at h; cases h
theorem pTl_y {cl : Nat → pC} {hd : Int} {w : Int → Int} {wo : Int} {n : Nat} {x : Int} (h1 : (cl n).1 = hd) (h2 : (cl n).2.2.2.2 w = some 1) (h3 : (cl n).2.2.1 w = some x) : pTl cl hd w wo (n + 1) = max 0 (min 9 x) := by
  simp only [pTl, h3]
  rw [if_pos ⟨h1, h2⟩]
theorem pTl_b {cl : Nat → pC} {hd : Int} {w : Int → Int} {wo : Int} (hwo : -1000000000 ≤ wo ∧ wo ≤ 1000000000) : ∀ n : Nat, -1000000000 ≤ pTl cl hd w wo n ∧ pTl cl hd w wo n ≤ 1000000000 := by
  intro n
  induction n with
  | zero => exact hwo
  | succ n ih =>
    simp only [pTl]
    cases e : (cl n).2.2.1 w with
    | none => exact ih
    | some x =>
      simp only []
      split
      · omega
      · exact ih
/-- the clauses of the law that lies at a base -/
def pCs (c v pl : Int → Int) (n : Nat) : pC := (pCl c v pl true (pSt c v pl true n)).2
noncomputable def mTl (row : Int → Int) (pl : Int → Int) (C hd d bt wo : Int) : Int := if row 48 = -1 then wo else pTl (pCs (kC row (400 * row 48) (row (49 + row 48))) (kV row (400 * row 48) (row (49 + row 48))) pl) hd (mWd row d bt) wo C.toNat
def LwF (row : Int → Int) (pl : Int → Int) (C : Int) : Prop := row 48 = -1 ∨ ((0 ≤ row 48 ∧ row 48 ≤ 5) ∧ (0 ≤ row (49 + row 48) ∧ row (49 + row 48) ≤ 400) ∧ (∀ i : Int, 0 ≤ pl i) ∧ pDn (kC row (400 * row 48) (row (49 + row 48))) (kV row (400 * row 48) (row (49 + row 48))) pl true (row (49 + row 48)) C)
def XQ (M : Int) : Int → Int → Prop := fun x y => (x = M ∧ 22 ≤ y ∧ y ≤ 25) ∨ x = M + 12
theorem mAsk_fr (g : od_G) (M d bt : Int) : od_fr (XQ M) g (mAsk g M d bt) := by
  unfold mAsk
  refine ((((((od_fr.rf.up ?_).up ?_).up ?_).up ?_).up ?_).up ?_).up ?_ <;> exact Or.inr rfl
theorem pHdL_in {c v pl : Int → Int} {s : pS} (hp : ∀ i : Int, 0 ≤ pl i) (h : (pHdL c v pl s).1.2.2 = -1) : (c s.1 = 1 ∧ pHdL c v pl s = ((pSumL c v pl true 8 (pNx s)).1, 0, (pSumL c v pl true 8 (pNx s)).2)) ∨ (c s.1 = 2 ∧ pHdL c v pl s = (pNx s, 1, pOne)) ∨ (c s.1 = 3 ∧ pHdL c v pl s = (pNx s, 2, pOne)) := by
  unfold pHdL at h ⊢
  by_cases h1 : s.2.2 = -1 ∧ c s.1 = 1
  · rw [if_pos h1]
    exact Or.inl ⟨h1.2, rfl⟩
  · rw [if_neg h1] at h ⊢
    by_cases h2 : s.2.2 = -1 ∧ c s.1 = 2
    · rw [if_pos h2]
      exact Or.inr (Or.inl ⟨h2.2, rfl⟩)
    · rw [if_neg h2] at h ⊢
      have q := pMu_nf hp h
      exact Or.inr (Or.inr ⟨q.2, by rw [pMu_t q]⟩)
theorem pIf_in {c v pl : Int → Int} {lw : Bool} {s : pS} (h : (pIf c v pl lw s).1.2.2 = -1) : s.2.2 = -1 ∧ ((c s.1 = 4 ∧ pIf c v pl lw s = pTestL c v pl lw 8 (pNx s)) ∨ (c s.1 ≠ 4 ∧ pIf c v pl lw s = (s, pOne))) := by
  unfold pIf at h ⊢
  by_cases h1 : s.2.2 = -1 ∧ c s.1 = 4
  · rw [if_pos h1]
    exact ⟨h1.1, Or.inl ⟨h1.2, rfl⟩⟩
  · rw [if_neg h1] at h ⊢
    exact ⟨h, Or.inr ⟨fun z => h1 ⟨h, z⟩, rfl⟩⟩
theorem pMu_le (c pl : Int → Int) (k : Int) (s : pS) : s.1 ≤ (pMu c pl k s).1 := by
  unfold pMu
  split
  · show s.1 ≤ s.1 + 1; omega
  · rw [pF_1]; omega
theorem pMn_le (c v pl : Int → Int) (lo hi : Int) (s : pS) : s.1 ≤ (pMn c v pl lo hi s).1 := by
  unfold pMn
  split
  · show s.1 ≤ s.1 + 1; omega
  · rw [pF_1]; omega
theorem pPart_le {c v pl : Int → Int} {lw : Bool} {S : Option (pS → pR)} (hS : ∀ S1, S = some S1 → ∀ s : pS, s.1 ≤ (S1 s).1.1) (s : pS) : s.1 ≤ (pPart c v pl lw S s).1.1 := by
  unfold pPart
  split
  · exact Int.le_refl _
  · split
    · cases S with
      | none => show s.1 ≤ (pF pl s).1; rw [pF_1]; omega
      | some S1 =>
        have a := hS S1 rfl (pNx s)
        have b := pMu_le c pl 193 (S1 (pNx s)).1
        have bx : (pNx s).1 = s.1 + 1 := rfl
        show s.1 ≤ (pMu c pl 193 (S1 (pNx s)).1).1
        omega
    · split
      · unfold pLeaf
        split
        · show s.1 ≤ (pF pl s).1; rw [pF_1]; omega
        · split
          · show s.1 ≤ s.1 + 1; omega
          · split
            · have a := pMn_le c v pl 0 5 (s.1 + 1, s.2.1 + 1, s.2.2)
              have b : (s.1 + 1, s.2.1 + 1, s.2.2).1 = s.1 + 1 := rfl
              show s.1 ≤ (pMn c v pl 0 5 (s.1 + 1, s.2.1 + 1, s.2.2)).1
              omega
            · show s.1 ≤ s.1 + 1; omega
      · show s.1 ≤ (pF pl s).1; rw [pF_1]; omega
theorem pLoop_le {c op : Int → Int} {P : pS → pR} (hP : ∀ s : pS, s.1 ≤ (P s).1.1) : ∀ (f : Nat) (r : pR), r.1.1 ≤ (pLoop c op P f r).1.1 := by
  intro f
  induction f with
  | zero => intro r; exact Int.le_refl _
  | succ f ih =>
    intro r
    by_cases h : r.1.2.2 = -1 ∧ op (c r.1.1) ≠ -1
    · rw [pLoop_s h]
      have a := ih ((P (pNx r.1)).1, pBin (op (c r.1.1)) r.2 (P (pNx r.1)).2)
      have b := hP (pNx r.1)
      have bx : (pNx r.1).1 = r.1.1 + 1 := rfl
      have e : ((P (pNx r.1)).1, pBin (op (c r.1.1)) r.2 (P (pNx r.1)).2).1.1 = (P (pNx r.1)).1.1 := rfl
      omega
    · rw [pLoop_e h]; omega
theorem pSumL_le {c v pl : Int → Int} {lw : Bool} : ∀ (L : Nat) (s : pS), s.1 ≤ (pSumL c v pl lw L s).1.1 := by
  intro L
  induction L with
  | zero =>
    intro s
    rw [pSumL_eq]
    have hp := pPart_le (c := c) (v := v) (pl := pl) (lw := lw) (S := pSub c v pl lw 0) (fun S1 e => by cases e)
    have ht : ∀ s : pS, s.1 ≤ (pTerm c v pl lw (pSub c v pl lw 0) s).1.1 := fun s => Int.le_trans (hp s) (pLoop_le hp 400 _)
    exact Int.le_trans (ht s) (pLoop_le ht 400 _)
  | succ L ih =>
    intro s
    rw [pSumL_eq]
    have hp := pPart_le (c := c) (v := v) (pl := pl) (lw := lw) (S := pSub c v pl lw (L + 1)) (fun S1 e => by
      have e2 : pSumL c v pl lw L = S1 := Option.some.inj e
      rw [← e2]; exact ih)
    have ht : ∀ s : pS, s.1 ≤ (pTerm c v pl lw (pSub c v pl lw (L + 1)) s).1.1 := fun s => Int.le_trans (hp s) (pLoop_le hp 400 _)
    exact Int.le_trans (ht s) (pLoop_le ht 400 _)
theorem pNots_le {c : Int → Int} : ∀ (f : Nat) (s : pS) (b : Bool), s.1 ≤ (pNots c f s b).1.1 := by
  intro f
  induction f with
  | zero => intro s b; exact Int.le_refl _
  | succ f ih =>
    intro s b
    by_cases h : s.2.2 = -1 ∧ c s.1 = 7
    · rw [pNots_s h]
      have a := ih (pNx s) (!b)
      have bx : (pNx s).1 = s.1 + 1 := rfl
      omega
    · rw [pNots_e h]; exact Int.le_refl _
theorem pPos_le {c pl : Int → Int} {S : pS → pR} {T : Option (pS → pR)} (hS : ∀ s : pS, s.1 ≤ (S s).1.1) (hT : ∀ T1, T = some T1 → ∀ s : pS, s.1 ≤ (T1 s).1.1) (b : Bool) (s : pS) : s.1 ≤ (pPos c pl S T b s).1.1 := by
  unfold pPos
  split
  · exact Int.le_refl _
  · split
    · cases T with
      | none => show s.1 ≤ (pF pl s).1; rw [pF_1]; omega
      | some T1 =>
        have a := hT T1 rfl (pNx s)
        have b1 := pMu_le c pl 141 (T1 (pNx s)).1
        have bx : (pNx s).1 = s.1 + 1 := rfl
        show s.1 ≤ (pMu c pl 141 (T1 (pNx s)).1).1
        omega
    · split
      · exact hS s
      · split
        · show s.1 ≤ (pF pl (S s).1).1; rw [pF_1]; exact hS s
        · have a := hS s
          have b1 := hS (pNx (S s).1)
          have bx : (pNx (S s).1).1 = (S s).1.1 + 1 := rfl
          show s.1 ≤ (S (pNx (S s).1)).1.1
          omega
theorem pAO_le {c : Int → Int} {k st : Int} {P : pS → pR} (hP : ∀ s : pS, s.1 ≤ (P s).1.1) : ∀ (f : Nat) (r : pR), r.1.1 ≤ (pAO c k st P f r).1.1 := by
  intro f
  induction f with
  | zero => intro r; exact Int.le_refl _
  | succ f ih =>
    intro r
    by_cases h : r.1.2.2 = -1 ∧ c r.1.1 = k
    · rw [pAO_s h]
      have a := ih ((P (pNx r.1)).1, pSc st r.2 (P (pNx r.1)).2)
      have b := hP (pNx r.1)
      have bx : (pNx r.1).1 = r.1.1 + 1 := rfl
      have e : ((P (pNx r.1)).1, pSc st r.2 (P (pNx r.1)).2).1.1 = (P (pNx r.1)).1.1 := rfl
      omega
    · rw [pAO_e h]; omega
theorem pTest_le {c pl : Int → Int} {S : pS → pR} {T : Option (pS → pR)} (hS : ∀ s : pS, s.1 ≤ (S s).1.1) (hT : ∀ T1, T = some T1 → ∀ s : pS, s.1 ≤ (T1 s).1.1) (s : pS) : s.1 ≤ (pTest c pl S T s).1.1 := by
  have h1 : ∀ s : pS, s.1 ≤ (pPlain c pl S T s).1.1 := fun s => Int.le_trans (pNots_le 400 s false) (pPos_le hS hT _ _)
  have h2 : ∀ s : pS, s.1 ≤ (pBoth c pl S T s).1.1 := fun s => Int.le_trans (h1 s) (pAO_le h1 400 _)
  exact Int.le_trans (h2 s) (pAO_le h2 400 _)
theorem pTestL_le {c v pl : Int → Int} {lw : Bool} : ∀ (L : Nat) (s : pS), s.1 ≤ (pTestL c v pl lw L s).1.1 := by
  intro L
  induction L with
  | zero =>
    intro s
    rw [pTestL_eq]
    exact pTest_le (pSumL_le 0) (fun T1 e => by cases e) s
  | succ L ih =>
    intro s
    rw [pTestL_eq]
    exact pTest_le (pSumL_le (L + 1)) (fun T1 e => by
      have e2 : pTestL c v pl lw L = T1 := Option.some.inj e
      rw [← e2]; exact ih) s
theorem pCl_le (c v pl : Int → Int) (lw : Bool) (s : pS) : s.1 ≤ (pCl c v pl lw s).1.1 := by
  have hI : ∀ s : pS, s.1 ≤ (pIf c v pl lw s).1.1 := fun s => by
    unfold pIf
    split
    · have a := pTestL_le (c := c) (v := v) (pl := pl) (lw := lw) 8 (pNx s)
      have bx : (pNx s).1 = s.1 + 1 := rfl
      omega
    · exact Int.le_refl _
  have bx : (pNx s).1 = s.1 + 1 := rfl
  cases lw with
  | true =>
    have e : (pCl c v pl true s).1 = (pIf c v pl true (pHdL c v pl s).1).1 := by unfold pCl; rw [if_pos rfl]
    rw [e]
    refine Int.le_trans ?_ (hI _)
    unfold pHdL
    split
    · have a := pSumL_le (c := c) (v := v) (pl := pl) (lw := true) 8 (pNx s)
      show s.1 ≤ (pSumL c v pl true 8 (pNx s)).1.1
      omega
    · split
      · show s.1 ≤ s.1 + 1; omega
      · exact pMu_le c pl 3 s
  | false =>
    have e : (pCl c v pl false s).1 = (pIf c v pl false (pTi c v pl (pHdO c v pl s).1).1).1 := by unfold pCl; rw [if_neg (by decide)]
    rw [e]
    refine Int.le_trans ?_ (hI _)
    have hTi : ∀ s : pS, s.1 ≤ (pTi c v pl s).1.1 := fun s => by
      unfold pTi
      split
      · have a := pMn_le c v pl 1 20 (pNx s)
        have bx : (pNx s).1 = s.1 + 1 := rfl
        show s.1 ≤ (pMn c v pl 1 20 (pNx s)).1
        omega
      · exact Int.le_refl _
    have hTw : ∀ (k : Int) (s : pS), s.1 ≤ (pTwo c v pl k s).1.1 := fun k s => by
      have a := pSumL_le (c := c) (v := v) (pl := pl) (lw := false) 8 s
      have b := pMu_le c pl k (pSumL c v pl false 8 s).1
      have d := pSumL_le (c := c) (v := v) (pl := pl) (lw := false) 8 (pMu c pl k (pSumL c v pl false 8 s).1)
      show s.1 ≤ (pSumL c v pl false 8 (pMu c pl k (pSumL c v pl false 8 s).1)).1.1
      omega
    refine Int.le_trans ?_ (hTi _)
    unfold pHdO
    split
    · have a := hTw 19 (pNx s)
      show s.1 ≤ (pTwo c v pl 19 (pNx s)).1.1
      omega
    · split
      · have a := hTw 22 (pNx s)
        show s.1 ≤ (pTwo c v pl 22 (pNx s)).1.1
        omega
      · split
        · have a := pSumL_le (c := c) (v := v) (pl := pl) (lw := false) 8 (pNx s)
          show s.1 ≤ (pSumL c v pl false 8 (pNx s)).1.1
          omega
        · exact pMu_le c pl 24 s
theorem pSt_0 (c v pl : Int → Int) (lw : Bool) : ∀ k : Nat, 0 ≤ (pSt c v pl lw k).1 := by
  intro k
  induction k with
  | zero => exact Int.le_refl _
  | succ k ih =>
    have a := pCl_le c v pl lw (pSt c v pl lw k)
    show 0 ≤ (pCl c v pl lw (pSt c v pl lw k)).1.1 + 1
    omega
set_option maxRecDepth 10000 in
theorem c_X11_setsAsked {E : od_E} {g : od_G} {M : Int} (hm : MoAt E M) (d : Int) (hd : 0 ≤ d ∧ d < 6) (bt : Int) : od_Ct 2 mX11_setsAsked [(2, M), (0, d), (0, bt)] E g (none, E, mAsk g M d bt) := by
  refine od_ctI pnX11 rfl (Nat.le_of_ble_eq_true rfl) od_le.rf ?_
  show od_R _ _ _ _ _ 0 [some (2, M), some (0, d), some (0, bt)] [] E g
  refine r_aload_n dX11_setsAsked_0 rfl ?_
  refine r_getR dX11_setsAsked_1 fkX11_63 gf11_26 (mo_o hm) (mo_r26 hm) ?_
  refine r_iconst dX11_setsAsked_4 li_0 ?_
  refine r_iload_n dX11_setsAsked_5 rfl ?_
  refine r_iast dX11_setsAsked_6 (mo_k26 hm) (by omega) ?_
  refine r_aload_n dX11_setsAsked_7 rfl ?_
  refine r_getR dX11_setsAsked_8 fkX11_63 gf11_26 (mo_o hm) (mo_r26 hm) ?_
  refine r_iconst dX11_setsAsked_11 li_1 ?_
  refine r_aload_n dX11_setsAsked_12 rfl ?_
  refine r_getR dX11_setsAsked_13 fkX11_28 gf11_2 (mo_o hm) (mo_r2 hm) ?_
  refine r_bipush dX11_setsAsked_16 lb_19 ?_
  refine r_iload_n dX11_setsAsked_18 rfl ?_
  refine r_iaddE dX11_setsAsked_19 (by first | exact od_w0 (by omega) (by omega) | exact od_wI (by omega) (by omega) | rfl) ?_
  refine r_iald dX11_setsAsked_20 (mo_k2 hm) (by omega) (by (repeat (first | rewrite [od_upn (by omega)] | rewrite [od_up_at, if_pos (by omega)] | rewrite [od_up_at, if_neg (by omega)])); rfl) ?_
  refine r_iast dX11_setsAsked_21 (mo_k26 hm) (by omega) ?_
  refine r_aload_n dX11_setsAsked_22 rfl ?_
  refine r_getR dX11_setsAsked_23 fkX11_63 gf11_26 (mo_o hm) (mo_r26 hm) ?_
  refine r_iconst dX11_setsAsked_26 li_2 ?_
  refine r_aload_n dX11_setsAsked_27 rfl ?_
  refine r_getR dX11_setsAsked_28 fkX11_28 gf11_2 (mo_o hm) (mo_r2 hm) ?_
  refine r_bipush dX11_setsAsked_31 lb_25 ?_
  refine r_iload_n dX11_setsAsked_33 rfl ?_
  refine r_iaddE dX11_setsAsked_34 (by first | exact od_w0 (by omega) (by omega) | exact od_wI (by omega) (by omega) | rfl) ?_
  refine r_iald dX11_setsAsked_35 (mo_k2 hm) (by omega) (by (repeat (first | rewrite [od_upn (by omega)] | rewrite [od_up_at, if_pos (by omega)] | rewrite [od_up_at, if_neg (by omega)])); rfl) ?_
  refine r_iast dX11_setsAsked_36 (mo_k26 hm) (by omega) ?_
  refine r_aload_n dX11_setsAsked_37 rfl ?_
  refine r_getR dX11_setsAsked_38 fkX11_63 gf11_26 (mo_o hm) (mo_r26 hm) ?_
  refine r_iconst dX11_setsAsked_41 li_3 ?_
  refine r_iload_n dX11_setsAsked_42 rfl ?_
  refine r_iast dX11_setsAsked_43 (mo_k26 hm) (by omega) ?_
  refine r_aload_n dX11_setsAsked_44 rfl ?_
  refine r_getR dX11_setsAsked_45 fkX11_63 gf11_26 (mo_o hm) (mo_r26 hm) ?_
  refine r_iconst dX11_setsAsked_48 li_4 ?_
  refine r_aload_n dX11_setsAsked_49 rfl ?_
  refine r_getR dX11_setsAsked_50 fkX11_28 gf11_2 (mo_o hm) (mo_r2 hm) ?_
  refine r_bipush dX11_setsAsked_53 lb_44 ?_
  refine r_iald dX11_setsAsked_55 (mo_k2 hm) (by omega) (by (repeat (first | rewrite [od_upn (by omega)] | rewrite [od_up_at, if_pos (by omega)] | rewrite [od_up_at, if_neg (by omega)])); rfl) ?_
  refine r_iast dX11_setsAsked_56 (mo_k26 hm) (by omega) ?_
  refine r_aload_n dX11_setsAsked_57 rfl ?_
  refine r_getR dX11_setsAsked_58 fkX11_63 gf11_26 (mo_o hm) (mo_r26 hm) ?_
  refine r_iconst dX11_setsAsked_61 li_5 ?_
  refine r_aload_n dX11_setsAsked_62 rfl ?_
  refine r_getR dX11_setsAsked_63 fkX11_28 gf11_2 (mo_o hm) (mo_r2 hm) ?_
  refine r_iconst dX11_setsAsked_66 li_0 ?_
  refine r_iload_n dX11_setsAsked_67 rfl ?_
  refine r_iaddE dX11_setsAsked_68 (by first | exact od_w0 (by omega) (by omega) | exact od_wI (by omega) (by omega) | rfl) ?_
  refine r_iald dX11_setsAsked_69 (mo_k2 hm) (by omega) (by (repeat (first | rewrite [od_upn (by omega)] | rewrite [od_up_at, if_pos (by omega)] | rewrite [od_up_at, if_neg (by omega)])); rfl) ?_
  refine r_callS1i dX11_setsAsked_70 csX11_299 (c_X11_ones _) (by decide) (Nat.le_of_ble_eq_true rfl) od_le.rf ?_
  refine r_iast dX11_setsAsked_73 (mo_k26 hm) (by omega) ?_
  refine r_aload_n dX11_setsAsked_74 rfl ?_
  refine r_getR dX11_setsAsked_75 fkX11_63 gf11_26 (mo_o hm) (mo_r26 hm) ?_
  refine r_bipush dX11_setsAsked_78 lb_6 ?_
  refine r_aload_n dX11_setsAsked_80 rfl ?_
  refine r_getR dX11_setsAsked_81 fkX11_28 gf11_2 (mo_o hm) (mo_r2 hm) ?_
  refine r_bipush dX11_setsAsked_84 lb_18 ?_
  refine r_iald dX11_setsAsked_86 (mo_k2 hm) (by omega) (by (repeat (first | rewrite [od_upn (by omega)] | rewrite [od_up_at, if_pos (by omega)] | rewrite [od_up_at, if_neg (by omega)])); rfl) ?_
  refine r_iast dX11_setsAsked_87 (mo_k26 hm) (by omega) ?_
  exact r_vret dX11_setsAsked_88 rfl (by rfl)
theorem BrQ.ne1 {b y : Int} {q : Option Int} (h : BrQ 1 0 b y q) (hy : y ≠ 1 ∨ b ≠ 0) : q ≠ some 1 := by
  rcases h.2 with ⟨_, _, ⟨n1, y1⟩ | ⟨n1, y1⟩⟩ | ⟨z1, _⟩
  · rw [n1]; exact fun z => by cases z
  · rw [n1]
    intro z
    have := Option.some.inj z
    omega
  · exact absurd ⟨rfl, rfl⟩ z1
theorem BrQ.non {b y : Int} {q : Option Int} (h : BrQ 1 0 b y q) (hb : b ≠ 0) : q = none := by
  rcases h.2 with ⟨_, _, ⟨n1, y1⟩ | ⟨n1, y1⟩⟩ | ⟨z1, _⟩
  · exact n1
  · omega
  · exact absurd ⟨rfl, rfl⟩ z1
theorem BrQ.som {b y : Int} {q : Option Int} (h : BrQ 1 0 b y q) (hb : b = 0) : q = some y := by
  rcases h.2 with ⟨_, _, ⟨n1, y1⟩ | ⟨n1, y1⟩⟩ | ⟨z1, _⟩
  · omega
  · exact n1
  · exact absurd ⟨rfl, rfl⟩ z1
theorem BrQ.one {q : Option Int} (h : q = some 1) : BrQ 1 0 0 1 q := ⟨Or.inl rfl, Or.inl ⟨rfl, rfl, Or.inr ⟨h, rfl⟩⟩⟩
set_option maxRecDepth 10000 in
theorem sg_X11_tt {E : od_E} {Q : Option od_V → od_G → Prop} {M : Int} (hm : MoAt E M) (hc d bt wo told code x sb h : Int) (gz : od_G) (hgz : -1000000 ≤ gz M 22 ∧ gz M 22 ≤ 1000000) (hx : ∀ t2 : Int, (t2 = told ∧ (code ≠ hc ∨ h = 0 ∨ gz M 24 ≠ 0 ∨ sb ≠ 0)) ∨ (t2 = max 0 (min 9 x) ∧ code = hc ∧ h ≠ 0 ∧ gz M 24 = 0 ∧ sb = 0) → od_Rq 44 mX11_tells od_Z0 E (E, Q) 69 [some (2, M), some (0, hc), some (0, d), some (0, bt), some (0, wo), some (1, t2), none, some (0, code), some (1, x), none, some (0, sb), some (0, h)] [] E (od_up gz M 22 (gz M 22 + 1))) : od_Rq 44 mX11_tells od_Z0 E (E, Q) 156 [some (2, M), some (0, hc), some (0, d), some (0, bt), some (0, wo), some (1, told), none, some (0, code), some (1, x), none, some (0, sb), some (0, h)] [] E gz := by
  refine r_iload dX11_tells_156 rfl ?_
  refine r_iload_n dX11_tells_158 rfl ?_
  refine r_icmp_ne (tgt := 209) dX11_tells_159 rfl (fun c159 => ?_) (fun c159 => ?_)
  · refine r_aload_n dX11_tells_209 rfl ?_
    refine r_dup dX11_tells_210 (by first | exact od_ne2 | exact od_ne0) ?_
    refine r_getIj (j := 22) rfl dX11_tells_211 fkX11_263 gf11_22 (mo_o hm) (by (repeat (first | rewrite [od_upn (by omega)] | rewrite [od_up_at, if_pos (by omega)] | rewrite [od_up_at, if_neg (by omega)])); rfl) ?_
    refine r_iconst dX11_tells_214 li_1 ?_
    refine r_iaddE dX11_tells_215 (by first | exact od_w0 (by omega) (by omega) | exact od_wI (by omega) (by omega) | rfl) ?_
    refine r_putIj (j := 22) rfl dX11_tells_216 fkX11_263 gf11_22 pf11_22 (mo_o hm) ?_
    refine r_goto (tgt := 69) dX11_tells_219 rfl ?_
    first
    | exact hx told (Or.inl ⟨rfl, by omega⟩)
    | exact hx _ (Or.inr ⟨by omega, by omega, by omega, by omega, by omega⟩)
  · refine r_iload dX11_tells_162 rfl ?_
    refine r_if_eq (tgt := 209) dX11_tells_164 rfl (fun c164 => ?_) (fun c164 => ?_)
    · refine r_aload_n dX11_tells_209 rfl ?_
      refine r_dup dX11_tells_210 (by first | exact od_ne2 | exact od_ne0) ?_
      refine r_getIj (j := 22) rfl dX11_tells_211 fkX11_263 gf11_22 (mo_o hm) (by (repeat (first | rewrite [od_upn (by omega)] | rewrite [od_up_at, if_pos (by omega)] | rewrite [od_up_at, if_neg (by omega)])); rfl) ?_
      refine r_iconst dX11_tells_214 li_1 ?_
      refine r_iaddE dX11_tells_215 (by first | exact od_w0 (by omega) (by omega) | exact od_wI (by omega) (by omega) | rfl) ?_
      refine r_putIj (j := 22) rfl dX11_tells_216 fkX11_263 gf11_22 pf11_22 (mo_o hm) ?_
      refine r_goto (tgt := 69) dX11_tells_219 rfl ?_
      first
      | exact hx told (Or.inl ⟨rfl, by omega⟩)
      | exact hx _ (Or.inr ⟨by omega, by omega, by omega, by omega, by omega⟩)
    · refine r_aload_n dX11_tells_167 rfl ?_
      refine r_getIj (j := 24) rfl dX11_tells_168 fkX11_273 gf11_24 (mo_o hm) (by (repeat (first | rewrite [od_upn (by omega)] | rewrite [od_up_at, if_pos (by omega)] | rewrite [od_up_at, if_neg (by omega)])); rfl) ?_
      refine r_if_ne (tgt := 209) dX11_tells_171 rfl (fun c171 => ?_) (fun c171 => ?_)
      · refine r_aload_n dX11_tells_209 rfl ?_
        refine r_dup dX11_tells_210 (by first | exact od_ne2 | exact od_ne0) ?_
        refine r_getIj (j := 22) rfl dX11_tells_211 fkX11_263 gf11_22 (mo_o hm) (by (repeat (first | rewrite [od_upn (by omega)] | rewrite [od_up_at, if_pos (by omega)] | rewrite [od_up_at, if_neg (by omega)])); rfl) ?_
        refine r_iconst dX11_tells_214 li_1 ?_
        refine r_iaddE dX11_tells_215 (by first | exact od_w0 (by omega) (by omega) | exact od_wI (by omega) (by omega) | rfl) ?_
        refine r_putIj (j := 22) rfl dX11_tells_216 fkX11_263 gf11_22 pf11_22 (mo_o hm) ?_
        refine r_goto (tgt := 69) dX11_tells_219 rfl ?_
        first
        | exact hx told (Or.inl ⟨rfl, by omega⟩)
        | exact hx _ (Or.inr ⟨by omega, by omega, by omega, by omega, by omega⟩)
      · refine r_iload dX11_tells_174 rfl ?_
        refine r_if_ne (tgt := 209) dX11_tells_176 rfl (fun c176 => ?_) (fun c176 => ?_)
        · refine r_aload_n dX11_tells_209 rfl ?_
          refine r_dup dX11_tells_210 (by first | exact od_ne2 | exact od_ne0) ?_
          refine r_getIj (j := 22) rfl dX11_tells_211 fkX11_263 gf11_22 (mo_o hm) (by (repeat (first | rewrite [od_upn (by omega)] | rewrite [od_up_at, if_pos (by omega)] | rewrite [od_up_at, if_neg (by omega)])); rfl) ?_
          refine r_iconst dX11_tells_214 li_1 ?_
          refine r_iaddE dX11_tells_215 (by first | exact od_w0 (by omega) (by omega) | exact od_wI (by omega) (by omega) | rfl) ?_
          refine r_putIj (j := 22) rfl dX11_tells_216 fkX11_263 gf11_22 pf11_22 (mo_o hm) ?_
          refine r_goto (tgt := 69) dX11_tells_219 rfl ?_
          first
          | exact hx told (Or.inl ⟨rfl, by omega⟩)
          | exact hx _ (Or.inr ⟨by omega, by omega, by omega, by omega, by omega⟩)
        · refine r_lload dX11_tells_179 rfl ?_
          refine r_lconst dX11_tells_181 ll_0 ?_
          refine r_lcmp3 dX11_tells_182 (fun c182 => ?_) (fun c182 => ?_) (fun c182 => ?_)
          · refine r_if_ge (tgt := 190) dX11_tells_183 rfl (fun h => absurd h (by decide)) (fun _ => ?_)
            refine r_lconst dX11_tells_186 ll_0 ?_
            refine r_goto (tgt := 207) dX11_tells_187 rfl ?_
            refine r_lstore dX11_tells_207 (by decide) rfl ?_
            refine r_aload_n dX11_tells_209 rfl ?_
            refine r_dup dX11_tells_210 (by first | exact od_ne2 | exact od_ne0) ?_
            refine r_getIj (j := 22) rfl dX11_tells_211 fkX11_263 gf11_22 (mo_o hm) (by (repeat (first | rewrite [od_upn (by omega)] | rewrite [od_up_at, if_pos (by omega)] | rewrite [od_up_at, if_neg (by omega)])); rfl) ?_
            refine r_iconst dX11_tells_214 li_1 ?_
            refine r_iaddE dX11_tells_215 (by first | exact od_w0 (by omega) (by omega) | exact od_wI (by omega) (by omega) | rfl) ?_
            refine r_putIj (j := 22) rfl dX11_tells_216 fkX11_263 gf11_22 pf11_22 (mo_o hm) ?_
            refine r_goto (tgt := 69) dX11_tells_219 rfl ?_
            first
            | exact hx told (Or.inl ⟨rfl, by omega⟩)
            | exact hx _ (Or.inr ⟨by omega, by omega, by omega, by omega, by omega⟩)
          · refine r_if_ge (tgt := 190) dX11_tells_183 rfl (fun _ => ?_) (fun h => absurd h (by decide))
            refine r_lload dX11_tells_190 rfl ?_
            refine r_ldc2 dX11_tells_192 kcX11_329 lk_X11_329 ?_
            refine r_lcmp3 dX11_tells_195 (fun c195 => ?_) (fun c195 => ?_) (fun c195 => ?_)
            · refine r_if_le (tgt := 205) dX11_tells_196 rfl (fun _ => ?_) (fun h => absurd h (by decide))
              refine r_lload dX11_tells_205 rfl ?_
              refine r_lstore dX11_tells_207 (by decide) rfl ?_
              refine r_aload_n dX11_tells_209 rfl ?_
              refine r_dup dX11_tells_210 (by first | exact od_ne2 | exact od_ne0) ?_
              refine r_getIj (j := 22) rfl dX11_tells_211 fkX11_263 gf11_22 (mo_o hm) (by (repeat (first | rewrite [od_upn (by omega)] | rewrite [od_up_at, if_pos (by omega)] | rewrite [od_up_at, if_neg (by omega)])); rfl) ?_
              refine r_iconst dX11_tells_214 li_1 ?_
              refine r_iaddE dX11_tells_215 (by first | exact od_w0 (by omega) (by omega) | exact od_wI (by omega) (by omega) | rfl) ?_
              refine r_putIj (j := 22) rfl dX11_tells_216 fkX11_263 gf11_22 pf11_22 (mo_o hm) ?_
              refine r_goto (tgt := 69) dX11_tells_219 rfl ?_
              first
              | exact hx told (Or.inl ⟨rfl, by omega⟩)
              | exact hx _ (Or.inr ⟨by omega, by omega, by omega, by omega, by omega⟩)
            · refine r_if_le (tgt := 205) dX11_tells_196 rfl (fun _ => ?_) (fun h => absurd h (by decide))
              refine r_lload dX11_tells_205 rfl ?_
              refine r_lstore dX11_tells_207 (by decide) rfl ?_
              refine r_aload_n dX11_tells_209 rfl ?_
              refine r_dup dX11_tells_210 (by first | exact od_ne2 | exact od_ne0) ?_
              refine r_getIj (j := 22) rfl dX11_tells_211 fkX11_263 gf11_22 (mo_o hm) (by (repeat (first | rewrite [od_upn (by omega)] | rewrite [od_up_at, if_pos (by omega)] | rewrite [od_up_at, if_neg (by omega)])); rfl) ?_
              refine r_iconst dX11_tells_214 li_1 ?_
              refine r_iaddE dX11_tells_215 (by first | exact od_w0 (by omega) (by omega) | exact od_wI (by omega) (by omega) | rfl) ?_
              refine r_putIj (j := 22) rfl dX11_tells_216 fkX11_263 gf11_22 pf11_22 (mo_o hm) ?_
              refine r_goto (tgt := 69) dX11_tells_219 rfl ?_
              first
              | exact hx told (Or.inl ⟨rfl, by omega⟩)
              | exact hx _ (Or.inr ⟨by omega, by omega, by omega, by omega, by omega⟩)
            · refine r_if_le (tgt := 205) dX11_tells_196 rfl (fun h => absurd h (by decide)) (fun _ => ?_)
              refine r_ldc2 dX11_tells_199 kcX11_329 lk_X11_329 ?_
              refine r_goto (tgt := 207) dX11_tells_202 rfl ?_
              refine r_lstore dX11_tells_207 (by decide) rfl ?_
              refine r_aload_n dX11_tells_209 rfl ?_
              refine r_dup dX11_tells_210 (by first | exact od_ne2 | exact od_ne0) ?_
              refine r_getIj (j := 22) rfl dX11_tells_211 fkX11_263 gf11_22 (mo_o hm) (by (repeat (first | rewrite [od_upn (by omega)] | rewrite [od_up_at, if_pos (by omega)] | rewrite [od_up_at, if_neg (by omega)])); rfl) ?_
              refine r_iconst dX11_tells_214 li_1 ?_
              refine r_iaddE dX11_tells_215 (by first | exact od_w0 (by omega) (by omega) | exact od_wI (by omega) (by omega) | rfl) ?_
              refine r_putIj (j := 22) rfl dX11_tells_216 fkX11_263 gf11_22 pf11_22 (mo_o hm) ?_
              refine r_goto (tgt := 69) dX11_tells_219 rfl ?_
              first
              | exact hx told (Or.inl ⟨rfl, by omega⟩)
              | exact hx _ (Or.inr ⟨by omega, by omega, by omega, by omega, by omega⟩)
          · refine r_if_ge (tgt := 190) dX11_tells_183 rfl (fun _ => ?_) (fun h => absurd h (by decide))
            refine r_lload dX11_tells_190 rfl ?_
            refine r_ldc2 dX11_tells_192 kcX11_329 lk_X11_329 ?_
            refine r_lcmp3 dX11_tells_195 (fun c195 => ?_) (fun c195 => ?_) (fun c195 => ?_)
            · refine r_if_le (tgt := 205) dX11_tells_196 rfl (fun _ => ?_) (fun h => absurd h (by decide))
              refine r_lload dX11_tells_205 rfl ?_
              refine r_lstore dX11_tells_207 (by decide) rfl ?_
              refine r_aload_n dX11_tells_209 rfl ?_
              refine r_dup dX11_tells_210 (by first | exact od_ne2 | exact od_ne0) ?_
              refine r_getIj (j := 22) rfl dX11_tells_211 fkX11_263 gf11_22 (mo_o hm) (by (repeat (first | rewrite [od_upn (by omega)] | rewrite [od_up_at, if_pos (by omega)] | rewrite [od_up_at, if_neg (by omega)])); rfl) ?_
              refine r_iconst dX11_tells_214 li_1 ?_
              refine r_iaddE dX11_tells_215 (by first | exact od_w0 (by omega) (by omega) | exact od_wI (by omega) (by omega) | rfl) ?_
              refine r_putIj (j := 22) rfl dX11_tells_216 fkX11_263 gf11_22 pf11_22 (mo_o hm) ?_
              refine r_goto (tgt := 69) dX11_tells_219 rfl ?_
              first
              | exact hx told (Or.inl ⟨rfl, by omega⟩)
              | exact hx _ (Or.inr ⟨by omega, by omega, by omega, by omega, by omega⟩)
            · refine r_if_le (tgt := 205) dX11_tells_196 rfl (fun _ => ?_) (fun h => absurd h (by decide))
              refine r_lload dX11_tells_205 rfl ?_
              refine r_lstore dX11_tells_207 (by decide) rfl ?_
              refine r_aload_n dX11_tells_209 rfl ?_
              refine r_dup dX11_tells_210 (by first | exact od_ne2 | exact od_ne0) ?_
              refine r_getIj (j := 22) rfl dX11_tells_211 fkX11_263 gf11_22 (mo_o hm) (by (repeat (first | rewrite [od_upn (by omega)] | rewrite [od_up_at, if_pos (by omega)] | rewrite [od_up_at, if_neg (by omega)])); rfl) ?_
              refine r_iconst dX11_tells_214 li_1 ?_
              refine r_iaddE dX11_tells_215 (by first | exact od_w0 (by omega) (by omega) | exact od_wI (by omega) (by omega) | rfl) ?_
              refine r_putIj (j := 22) rfl dX11_tells_216 fkX11_263 gf11_22 pf11_22 (mo_o hm) ?_
              refine r_goto (tgt := 69) dX11_tells_219 rfl ?_
              first
              | exact hx told (Or.inl ⟨rfl, by omega⟩)
              | exact hx _ (Or.inr ⟨by omega, by omega, by omega, by omega, by omega⟩)
            · refine r_if_le (tgt := 205) dX11_tells_196 rfl (fun h => absurd h (by decide)) (fun _ => ?_)
              refine r_ldc2 dX11_tells_199 kcX11_329 lk_X11_329 ?_
              refine r_goto (tgt := 207) dX11_tells_202 rfl ?_
              refine r_lstore dX11_tells_207 (by decide) rfl ?_
              refine r_aload_n dX11_tells_209 rfl ?_
              refine r_dup dX11_tells_210 (by first | exact od_ne2 | exact od_ne0) ?_
              refine r_getIj (j := 22) rfl dX11_tells_211 fkX11_263 gf11_22 (mo_o hm) (by (repeat (first | rewrite [od_upn (by omega)] | rewrite [od_up_at, if_pos (by omega)] | rewrite [od_up_at, if_neg (by omega)])); rfl) ?_
              refine r_iconst dX11_tells_214 li_1 ?_
              refine r_iaddE dX11_tells_215 (by first | exact od_w0 (by omega) (by omega) | exact od_wI (by omega) (by omega) | rfl) ?_
              refine r_putIj (j := 22) rfl dX11_tells_216 fkX11_263 gf11_22 pf11_22 (mo_o hm) ?_
              refine r_goto (tgt := 69) dX11_tells_219 rfl ?_
              first
              | exact hx told (Or.inl ⟨rfl, by omega⟩)
              | exact hx _ (Or.inr ⟨by omega, by omega, by omega, by omega, by omega⟩)
set_option maxHeartbeats 8000000 in
set_option maxRecDepth 10000 in
theorem lp_X11_tells {E : od_E} {g : od_G} {M : Int} (hm : MoAt E M) {pl kc kv w : Int → Int} {C b0 N : Int} (d hc bt wo : Int) (hp : ∀ i : Int, 0 ≤ pl i) (hD : pDn kc kv pl true N C) (hwo : -1000000000 ≤ wo ∧ wo ≤ 1000000000) : ∀ (m : Nat) (gw : od_G) (k told : Int) (L7 L8 L9 L10 L11 : Option od_V), (0 ≤ k ∧ k ≤ C ∧ EV gw M b0 N kc kv true w ∧ od_fr (XQ M) g gw ∧ told = pTl (pCs kc kv pl) (hc - 1) w wo k.toNat ∧ (k < C → gw M 22 = b0 + (pSt kc kv pl true k.toNat).1) ∧ (k = C → b0 + N ≤ gw M 22)) → ((C - k).toNat) < m → od_Rq 44 mX11_tells od_Z0 E (E, fun o g' => o = some (0, pTl (pCs kc kv pl) (hc - 1) w wo C.toNat) ∧ od_fr (XQ M) g g') 69 [some (2, M), some (0, hc), some (0, d), some (0, bt), some (0, wo), some (1, told), none, L7, L8, L9, L10, L11] [] E gw := by
  intro m
  induction m with
  | zero => intro gw k told L7 L8 L9 L10 L11 hi hM; exact absurd hM (Nat.not_lt_zero _)
  | succ m ih =>
    intro gw k told L7 L8 L9 L10 L11 hi hM
    obtain ⟨hk0, hk1, hvw, hfr, htold, hgo, hend⟩ := hi
    have e23 := hvw.1.1
    have tb : -1000000000 ≤ told ∧ told ≤ 1000000000 := by rw [htold]; exact pTl_b hwo _
    refine r_aload_n dX11_tells_69 rfl ?_
    refine r_getIj (j := 22) rfl dX11_tells_70 fkX11_263 gf11_22 (mo_o hm) (by first | exact e23 | rfl) ?_
    refine r_aload_n dX11_tells_73 rfl ?_
    refine r_getIj (j := 23) rfl dX11_tells_74 fkX11_260 gf11_23 (mo_o hm) (by first | exact e23 | rfl) ?_
    refine r_icmp_ge (tgt := 222) dX11_tells_77 rfl (fun c77 => ?_) (fun c77 => ?_)
    · refine r_lload dX11_tells_222 rfl ?_
      refine r_l2iE dX11_tells_224 (by first | exact od_w0 (by omega) (by omega) | exact od_wI (by omega) (by omega) | rfl) ?_
      have ek : k = C := by
        by_cases c0 : k < C
        · have hcl := hD.2 k hk0 c0
          have hne : kc (pSt kc kv pl true k.toNat).1 ≠ 0 := by
            have hPc : (pCl kc kv pl true (pSt kc kv pl true k.toNat)).1 = (pIf kc kv pl true (pHdL kc kv pl (pSt kc kv pl true k.toNat)).1).1 := by unfold pCl; rw [if_pos rfl]
            have hIf := hcl.2.1
            rw [hPc] at hIf
            rcases pHdL_in hp (pIf_in hIf).1 with z | z | z <;> omega
          have := hvw.lt hne
          have := hgo c0
          omega
        · omega
      refine r_iretq dX11_tells_225 rfl rfl ⟨?_, hfr⟩
      rw [htold, ek]
    · have hkC : k < C := by
        by_cases c0 : k < C
        · exact c0
        · have := hend (by omega); omega
      have e22 := hgo hkC
      have hb0 := hvw.1.2.1
      have hN0 := hvw.1.2.2.1
      have hclf := hD.2 k hk0 hkC
      have hs0 : 0 ≤ (pSt kc kv pl true k.toNat).1 := pSt_0 _ _ _ _ _
      have hPc : (pCl kc kv pl true (pSt kc kv pl true k.toNat)).1 = (pIf kc kv pl true (pHdL kc kv pl (pSt kc kv pl true k.toNat)).1).1 := by unfold pCl; rw [if_pos rfl]
      have hCt : ((pCs kc kv pl) k.toNat).2.2.2.2 = (pIf kc kv pl true (pHdL kc kv pl (pSt kc kv pl true k.toNat)).1).2 := by unfold pCs pCl; rw [if_pos rfl]
      have hCd : ((pCs kc kv pl) k.toNat).1 = (pHdL kc kv pl (pSt kc kv pl true k.toNat)).2.1 ∧ ((pCs kc kv pl) k.toNat).2.2.1 = (pHdL kc kv pl (pSt kc kv pl true k.toNat)).2.2 := by unfold pCs pCl; rw [if_pos rfl]; exact ⟨rfl, rfl⟩
      have hIf : (pIf kc kv pl true (pHdL kc kv pl (pSt kc kv pl true k.toNat)).1).1.2.2 = -1 := by rw [← hPc]; exact hclf.2.1
      have hI2 := pIf_in hIf
      have hTn : ((pCs kc kv pl) k.toNat).1 ≠ (hc - 1) ∨ ((pCs kc kv pl) k.toNat).2.2.2.2 w ≠ some 1 ∨ ((pCs kc kv pl) k.toNat).2.2.1 w = none → pTl (pCs kc kv pl) (hc - 1) w wo (k + 1).toNat = pTl (pCs kc kv pl) (hc - 1) w wo k.toNat := fun h => by
        rw [show (k + 1).toNat = k.toNat + 1 by omega]
        exact pTl_n h
      have hTy : ∀ {x : Int}, ((pCs kc kv pl) k.toNat).1 = (hc - 1) → ((pCs kc kv pl) k.toNat).2.2.2.2 w = some 1 → ((pCs kc kv pl) k.toNat).2.2.1 w = some x → pTl (pCs kc kv pl) (hc - 1) w wo (k + 1).toNat = max 0 (min 9 x) := fun h1 h2 h3 => by
        rw [show (k + 1).toNat = k.toNat + 1 by omega]
        exact pTl_y h1 h2 h3
      rcases pHdL_in hp hI2.1 with ⟨hc1, eH⟩ | ⟨hc1, eH⟩ | ⟨hc1, eH⟩
      · rw [eH] at hPc hCt hCd hI2 hIf
        have hkd : ((pCs kc kv pl) k.toNat).1 = 0 := hCd.1
        have hfx : ((pCs kc kv pl) k.toNat).2.2.1 = (pSumL kc kv pl true 8 (pNx (pSt kc kv pl true k.toNat))).2 := hCd.2
        have hSf : (pSumL kc kv pl true 8 (pNx (pSt kc kv pl true k.toNat))).1.2.2 = -1 := hI2.1
        have lt := hvw.lt (i := (pSt kc kv pl true k.toNat).1) (by omega)
        have f0 : od_fr (XB M) gw (od_up (od_up gw M 24 0) M 22 (b0 + ((pSt kc kv pl true k.toNat).1 + 1))) := (od_fr.rf.up (by unfold XB; omega)).up (by unfold XB; omega)
        refine r_aload_n dX11_tells_80 rfl ?_
        refine r_aload_n dX11_tells_81 rfl ?_
        refine r_getIj (j := 22) rfl dX11_tells_82 fkX11_263 gf11_22 (mo_o hm) (by (repeat (first | rewrite [od_up_at, if_pos (by omega)] | rewrite [od_up_at, if_neg (by omega)])); first | exact e22 | rfl) ?_
        refine r_callV1i dX11_tells_85 cvX11_266 (mo_o hm) (c_X11_codeAt hm hvw (pSt kc kv pl true k.toNat).1 hs0) (by decide) (Nat.le_of_ble_eq_true rfl) od_le.rf ?_
        rw [hc1]
        refine r_istore dX11_tells_88 (by decide) rfl ?_
        refine r_aload_n dX11_tells_90 rfl ?_
        refine r_iconst dX11_tells_91 li_0 ?_
        refine r_putZj (j := 24) rfl dX11_tells_92 fkX11_273 gf11_24 pf11_24 (by first | exact Or.inl rfl | exact Or.inr rfl | omega | assumption) (mo_o hm) ?_
        refine r_aload_n dX11_tells_95 rfl ?_
        refine r_dup dX11_tells_96 (by first | exact od_ne2 | exact od_ne0) ?_
        refine r_getIj (j := 22) rfl dX11_tells_97 fkX11_263 gf11_22 (mo_o hm) (by (repeat (first | rewrite [od_up_at, if_pos (by omega)] | rewrite [od_up_at, if_neg (by omega)])); first | exact e22 | rfl) ?_
        refine r_iconst dX11_tells_100 li_1 ?_
        refine r_iaddE dX11_tells_101 (by first | exact od_w0 (by omega) (by omega) | exact od_wI (by omega) (by omega) | rfl) ?_
        rw [show b0 + (pSt kc kv pl true k.toNat).1 + 1 = b0 + ((pSt kc kv pl true k.toNat).1 + 1) by omega]
        refine r_putIj (j := 22) rfl dX11_tells_102 fkX11_263 gf11_22 pf11_22 (mo_o hm) ?_
        refine r_iload dX11_tells_105 rfl ?_
        refine r_iconst dX11_tells_107 li_1 ?_
        refine r_icmp_ne (tgt := 119) dX11_tells_108 rfl (fun h => absurd h (by omega)) (fun _ => ?_)
        refine r_aload_n dX11_tells_111 rfl ?_
        refine r_iconst dX11_tells_112 li_1 ?_
        refine r_callV1p dX11_tells_113 cvX11_290 (mo_o hm) (eSumL hm b0 N kc kv hp true w 8 (od_up (od_up gw M 24 0) M 22 (b0 + ((pSt kc kv pl true k.toNat).1 + 1))) (pNx (pSt kc kv pl true k.toNat)) 1 (hvw.fr f0) (Or.inr rfl) (Or.inl (by rw [od_up_at, if_neg (by omega), od_up_at, if_pos rfl])) (by rw [od_up_at, if_pos rfl]; rfl) (by show 0 ≤ (pSt kc kv pl true k.toNat).1 + 1; omega) hclf.1 hSf) (by decide) (Nat.le_of_ble_eq_true rfl) od_le.rf (fun r113 g113 h113 => ?_)
        obtain ⟨x113, rfl, hq113⟩ := h113
        show od_Rq _ _ _ _ _ _ _ ((1, _) :: _) _ _
        have b113 := hq113.2.2.2
        rw [od_up_at, if_neg (by omega), od_up_at, if_pos rfl] at b113
        have z113 := hq113.2.2.1
        refine r_goto (tgt := 120) dX11_tells_116 rfl ?_
        refine r_lstore dX11_tells_120 (by decide) rfl ?_
        refine r_aload_n dX11_tells_122 rfl ?_
        refine r_getIj (j := 24) rfl dX11_tells_123 fkX11_273 gf11_24 (mo_o hm) (by (repeat (first | rewrite [od_up_at, if_pos (by omega)] | rewrite [od_up_at, if_neg (by omega)])); first | exact e22 | rfl) ?_
        refine r_istore dX11_tells_126 (by decide) rfl ?_
        refine r_aload_n dX11_tells_128 rfl ?_
        refine r_iconst dX11_tells_129 li_0 ?_
        refine r_putZj (j := 24) rfl dX11_tells_130 fkX11_273 gf11_24 pf11_24 (by first | exact Or.inl rfl | exact Or.inr rfl | omega | assumption) (mo_o hm) ?_
        have f2 : od_fr (XB M) gw (od_up g113 M 24 0) := (f0.tr hq113.1).up (by unfold XB; omega)
        have q1 : BrQ 1 0 (g113 M 24) x113 ((pSumL kc kv pl true 8 (pNx (pSt kc kv pl true k.toNat))).2 w) := b113
        have hg2 : (od_up g113 M 24 0) M 22 = b0 + (pSumL kc kv pl true 8 (pNx (pSt kc kv pl true k.toNat))).1.1 := by
          rw [od_up_at, if_neg (by omega)]
          exact hq113.2.1
        have hv2 := hvw.fr f2
        have bx1 : (pNx (pSt kc kv pl true k.toNat)).1 = (pSt kc kv pl true k.toNat).1 + 1 := rfl
        have h20 : 0 ≤ (pSumL kc kv pl true 8 (pNx (pSt kc kv pl true k.toNat))).1.1 := by omega
        refine r_aload_n dX11_tells_133 rfl ?_
        refine r_iconst dX11_tells_134 li_4 ?_
        refine r_callV1p dX11_tells_135 cvX11_287 (mo_o hm) (c_X11_passes0 hm hv2 (i := (pSumL kc kv pl true 8 (pNx (pSt kc kv pl true k.toNat))).1.1) h20 hg2 _ (by omega)) (by decide) (Nat.le_of_ble_eq_true rfl) od_le.rf (fun r135 g135 h135 => ?_)
        rcases h135 with ⟨rfl, h135⟩ | ⟨rfl, h135⟩
        · show od_Rq _ _ _ _ _ _ _ ((0, 1) :: _) _ _
          skip
          refine r_if_eq (tgt := 149) dX11_tells_138 rfl (fun h => absurd h (by decide)) (fun _ => ?_)
          obtain ⟨h4a, rfl⟩ := h135
          obtain ⟨_, eI⟩ : kc (pSumL kc kv pl true 8 (pNx (pSt kc kv pl true k.toNat))).1.1 = 4 ∧ pIf kc kv pl true (pSumL kc kv pl true 8 (pNx (pSt kc kv pl true k.toNat))).1 = (pTestL kc kv pl true 8 (pNx (pSumL kc kv pl true 8 (pNx (pSt kc kv pl true k.toNat))).1)) := by
            rcases hI2.2 with h | h
            · exact h
            · exact absurd h4a h.1
          have f3 : od_fr (XB M) gw (od_up (od_up g113 M 24 0) M 22 (b0 + ((pSumL kc kv pl true 8 (pNx (pSt kc kv pl true k.toNat))).1.1 + 1))) := f2.up (by unfold XB; omega)
          have hTf : (pTestL kc kv pl true 8 (pNx (pSumL kc kv pl true 8 (pNx (pSt kc kv pl true k.toNat))).1)).1.2.2 = -1 := by rw [← eI]; exact hIf
          have hNx : (pCl kc kv pl true (pSt kc kv pl true k.toNat)).1.1 = (pTestL kc kv pl true 8 (pNx (pSumL kc kv pl true 8 (pNx (pSt kc kv pl true k.toNat))).1)).1.1 := by rw [hPc, eI]
          have hdt : ((pCs kc kv pl) k.toNat).2.2.2.2 = (pTestL kc kv pl true 8 (pNx (pSumL kc kv pl true 8 (pNx (pSt kc kv pl true k.toNat))).1)).2 := by rw [hCt, eI]
          have bx2 : (pNx (pSumL kc kv pl true 8 (pNx (pSt kc kv pl true k.toNat))).1).1 = (pSumL kc kv pl true 8 (pNx (pSt kc kv pl true k.toNat))).1.1 + 1 := rfl
          have lt2 := hvw.lt (i := (pSumL kc kv pl true 8 (pNx (pSt kc kv pl true k.toNat))).1.1) (by omega)
          refine r_aload_n dX11_tells_141 rfl ?_
          refine r_iconst dX11_tells_142 li_1 ?_
          refine r_callV1p dX11_tells_143 cvX11_323 (mo_o hm) (eTestL hm b0 N kc kv hp true w 8 (od_up (od_up g113 M 24 0) M 22 (b0 + ((pSumL kc kv pl true 8 (pNx (pSt kc kv pl true k.toNat))).1.1 + 1))) (pNx (pSumL kc kv pl true 8 (pNx (pSt kc kv pl true k.toNat))).1) 1 (hvw.fr f3) (Or.inr rfl) (Or.inl (by rw [od_up_at, if_neg (by omega), od_up_at, if_pos rfl])) (by rw [od_up_at, if_pos rfl]; rfl) (by show 0 ≤ (pSumL kc kv pl true 8 (pNx (pSt kc kv pl true k.toNat))).1.1 + 1; omega) hI2.1 hTf) (by decide) (Nat.le_of_ble_eq_true rfl) od_le.rf (fun r143 g143 h143 => ?_)
          obtain ⟨x143, rfl, hx143, hq143⟩ := h143
          show od_Rq _ _ _ _ _ _ _ ((0, _) :: _) _ _
          have q2 := hq143.2.2.2
          rw [od_up_at, if_neg (by omega), od_up_at, if_pos rfl] at q2
          have z143 := hq143.2.2.1
          have ffq := f3.tr hq143.1
          have hE22 := hq143.2.1
          refine r_if_eq (tgt := 153) dX11_tells_146 rfl (fun c146 => ?_) (fun c146 => ?_)
          · refine r_iconst dX11_tells_153 li_0 ?_
            refine r_istore dX11_tells_154 (by decide) rfl ?_
            have ffz : od_fr (XB M) gw (od_up g143 M 22 (g143 M 22 + 1)) := ffq.up (by unfold XB; omega)
            have hup : (pCl kc kv pl true (pSt kc kv pl true k.toNat)).1.1 ≤ 400 := by
              by_cases c0 : k + 1 = C
              · exact (hclf.2.2.2 c0).2
              · have z := hclf.2.2.1 (by omega)
                have := hvw.lt (i := (pCl kc kv pl true (pSt kc kv pl true k.toNat)).1.1) (by omega)
                have := hvw.1.2.2.1
                omega
            rw [hNx] at hup
            have hG1 : k + 1 < C → od_up g143 M 22 (g143 M 22 + 1) M 22 = b0 + (pSt kc kv pl true (k + 1).toNat).1 := fun hk2 => by
              rw [od_up_at, if_pos rfl, pSt_s hk0]
              show _ = b0 + ((pCl kc kv pl true (pSt kc kv pl true k.toNat)).1.1 + 1)
              rw [hE22, hNx]
              omega
            have hG2 : k + 1 = C → b0 + N ≤ od_up g143 M 22 (g143 M 22 + 1) M 22 := fun hk2 => by
              rw [od_up_at, if_pos rfl]
              have z := (hclf.2.2.2 hk2).1
              rw [hNx] at z
              rw [hE22]
              omega
            refine sg_X11_tt hm hc d bt wo told _ _ _ _ _ (by rw [hE22]; have := hvw.1.2.1; omega) (fun t2 ht => ?_)
            rcases ht with ⟨rfl, hz | hz | hz | hz⟩ | ⟨rfl, z1, z2, z3, z4⟩
            · exact ih _ (k + 1) _ _ _ _ _ _ ⟨by omega, by omega, hvw.fr ffz, hfr.tr (ffz.mo (fun x y z => by unfold XB at z; unfold XQ; omega)), by rw [hTn (Or.inl (by rw [hkd]; omega))]; exact htold, hG1, hG2⟩ (by omega)
            · first | (exfalso; omega) | exact ih _ (k + 1) _ _ _ _ _ _ ⟨by omega, by omega, hvw.fr ffz, hfr.tr (ffz.mo (fun x y z => by unfold XB at z; unfold XQ; omega)), by rw [hTn (Or.inr (Or.inl (by rw [hdt]; exact BrQ.ne1 q2 (by omega))))]; exact htold, hG1, hG2⟩ (by omega)
            · first | (exfalso; omega) | exact ih _ (k + 1) _ _ _ _ _ _ ⟨by omega, by omega, hvw.fr ffz, hfr.tr (ffz.mo (fun x y z => by unfold XB at z; unfold XQ; omega)), by rw [hTn (Or.inr (Or.inl (by rw [hdt]; exact BrQ.ne1 q2 (by omega))))]; exact htold, hG1, hG2⟩ (by omega)
            · first | (exfalso; omega) | exact ih _ (k + 1) _ _ _ _ _ _ ⟨by omega, by omega, hvw.fr ffz, hfr.tr (ffz.mo (fun x y z => by unfold XB at z; unfold XQ; omega)), by rw [hTn (Or.inr (Or.inr (by rw [hfx]; exact BrQ.non q1 (by omega))))]; exact htold, hG1, hG2⟩ (by omega)
            · first | (exfalso; omega) | exact ih _ (k + 1) _ _ _ _ _ _ ⟨by omega, by omega, hvw.fr ffz, hfr.tr (ffz.mo (fun x y z => by unfold XB at z; unfold XQ; omega)), by rw [hTy (by rw [hkd]; omega) (by rw [hdt]; exact (BrQ.som q2 (by omega)).trans (by first | rfl | (congr 1; omega))) (by rw [hfx]; exact BrQ.som q1 (by omega))], hG1, hG2⟩ (by omega)
          · refine r_iconst dX11_tells_149 li_1 ?_
            refine r_goto (tgt := 154) dX11_tells_150 rfl ?_
            refine r_istore dX11_tells_154 (by decide) rfl ?_
            have ffz : od_fr (XB M) gw (od_up g143 M 22 (g143 M 22 + 1)) := ffq.up (by unfold XB; omega)
            have hup : (pCl kc kv pl true (pSt kc kv pl true k.toNat)).1.1 ≤ 400 := by
              by_cases c0 : k + 1 = C
              · exact (hclf.2.2.2 c0).2
              · have z := hclf.2.2.1 (by omega)
                have := hvw.lt (i := (pCl kc kv pl true (pSt kc kv pl true k.toNat)).1.1) (by omega)
                have := hvw.1.2.2.1
                omega
            rw [hNx] at hup
            have hG1 : k + 1 < C → od_up g143 M 22 (g143 M 22 + 1) M 22 = b0 + (pSt kc kv pl true (k + 1).toNat).1 := fun hk2 => by
              rw [od_up_at, if_pos rfl, pSt_s hk0]
              show _ = b0 + ((pCl kc kv pl true (pSt kc kv pl true k.toNat)).1.1 + 1)
              rw [hE22, hNx]
              omega
            have hG2 : k + 1 = C → b0 + N ≤ od_up g143 M 22 (g143 M 22 + 1) M 22 := fun hk2 => by
              rw [od_up_at, if_pos rfl]
              have z := (hclf.2.2.2 hk2).1
              rw [hNx] at z
              rw [hE22]
              omega
            refine sg_X11_tt hm hc d bt wo told _ _ _ _ _ (by rw [hE22]; have := hvw.1.2.1; omega) (fun t2 ht => ?_)
            rcases ht with ⟨rfl, hz | hz | hz | hz⟩ | ⟨rfl, z1, z2, z3, z4⟩
            · exact ih _ (k + 1) _ _ _ _ _ _ ⟨by omega, by omega, hvw.fr ffz, hfr.tr (ffz.mo (fun x y z => by unfold XB at z; unfold XQ; omega)), by rw [hTn (Or.inl (by rw [hkd]; omega))]; exact htold, hG1, hG2⟩ (by omega)
            · first | (exfalso; omega) | exact ih _ (k + 1) _ _ _ _ _ _ ⟨by omega, by omega, hvw.fr ffz, hfr.tr (ffz.mo (fun x y z => by unfold XB at z; unfold XQ; omega)), by rw [hTn (Or.inr (Or.inl (by rw [hdt]; exact BrQ.ne1 q2 (by omega))))]; exact htold, hG1, hG2⟩ (by omega)
            · first | (exfalso; omega) | exact ih _ (k + 1) _ _ _ _ _ _ ⟨by omega, by omega, hvw.fr ffz, hfr.tr (ffz.mo (fun x y z => by unfold XB at z; unfold XQ; omega)), by rw [hTn (Or.inr (Or.inl (by rw [hdt]; exact BrQ.ne1 q2 (by omega))))]; exact htold, hG1, hG2⟩ (by omega)
            · first | (exfalso; omega) | exact ih _ (k + 1) _ _ _ _ _ _ ⟨by omega, by omega, hvw.fr ffz, hfr.tr (ffz.mo (fun x y z => by unfold XB at z; unfold XQ; omega)), by rw [hTn (Or.inr (Or.inr (by rw [hfx]; exact BrQ.non q1 (by omega))))]; exact htold, hG1, hG2⟩ (by omega)
            · first | (exfalso; omega) | exact ih _ (k + 1) _ _ _ _ _ _ ⟨by omega, by omega, hvw.fr ffz, hfr.tr (ffz.mo (fun x y z => by unfold XB at z; unfold XQ; omega)), by rw [hTy (by rw [hkd]; omega) (by rw [hdt]; exact (BrQ.som q2 (by omega)).trans (by first | rfl | (congr 1; omega))) (by rw [hfx]; exact BrQ.som q1 (by omega))], hG1, hG2⟩ (by omega)
        · show od_Rq _ _ _ _ _ _ _ ((0, 0) :: _) _ _
          skip
          refine r_if_eq (tgt := 149) dX11_tells_138 rfl (fun _ => ?_) (fun h => absurd h (by decide))
          obtain ⟨n4a, rfl⟩ := h135
          obtain ⟨_, eI⟩ : kc (pSumL kc kv pl true 8 (pNx (pSt kc kv pl true k.toNat))).1.1 ≠ 4 ∧ pIf kc kv pl true (pSumL kc kv pl true 8 (pNx (pSt kc kv pl true k.toNat))).1 = ((pSumL kc kv pl true 8 (pNx (pSt kc kv pl true k.toNat))).1, pOne) := by
            rcases hI2.2 with h | h
            · exact absurd h.1 n4a
            · exact h
          have hNx : (pCl kc kv pl true (pSt kc kv pl true k.toNat)).1.1 = (pSumL kc kv pl true 8 (pNx (pSt kc kv pl true k.toNat))).1.1 := by rw [hPc, eI]
          have hdt : ((pCs kc kv pl) k.toNat).2.2.2.2 = pOne := by rw [hCt, eI]
          have e24z : (od_up g113 M 24 0) M 24 = 0 := by rw [od_up_at, if_pos rfl]
          have q2 : BrQ 1 0 ((od_up g113 M 24 0) M 24) 1 (pOne w) := by rw [e24z]; exact BrQ.one rfl
          have ffq := f2
          have hE22 := hg2
          refine r_iconst dX11_tells_149 li_1 ?_
          refine r_goto (tgt := 154) dX11_tells_150 rfl ?_
          refine r_istore dX11_tells_154 (by decide) rfl ?_
          have ffz : od_fr (XB M) gw (od_up (od_up g113 M 24 0) M 22 ((od_up g113 M 24 0) M 22 + 1)) := ffq.up (by unfold XB; omega)
          have hup : (pCl kc kv pl true (pSt kc kv pl true k.toNat)).1.1 ≤ 400 := by
            by_cases c0 : k + 1 = C
            · exact (hclf.2.2.2 c0).2
            · have z := hclf.2.2.1 (by omega)
              have := hvw.lt (i := (pCl kc kv pl true (pSt kc kv pl true k.toNat)).1.1) (by omega)
              have := hvw.1.2.2.1
              omega
          rw [hNx] at hup
          have hG1 : k + 1 < C → od_up (od_up g113 M 24 0) M 22 ((od_up g113 M 24 0) M 22 + 1) M 22 = b0 + (pSt kc kv pl true (k + 1).toNat).1 := fun hk2 => by
            rw [od_up_at, if_pos rfl, pSt_s hk0]
            show _ = b0 + ((pCl kc kv pl true (pSt kc kv pl true k.toNat)).1.1 + 1)
            rw [hE22, hNx]
            omega
          have hG2 : k + 1 = C → b0 + N ≤ od_up (od_up g113 M 24 0) M 22 ((od_up g113 M 24 0) M 22 + 1) M 22 := fun hk2 => by
            rw [od_up_at, if_pos rfl]
            have z := (hclf.2.2.2 hk2).1
            rw [hNx] at z
            rw [hE22]
            omega
          refine sg_X11_tt hm hc d bt wo told _ _ _ _ _ (by rw [hE22]; have := hvw.1.2.1; omega) (fun t2 ht => ?_)
          rcases ht with ⟨rfl, hz | hz | hz | hz⟩ | ⟨rfl, z1, z2, z3, z4⟩
          · exact ih _ (k + 1) _ _ _ _ _ _ ⟨by omega, by omega, hvw.fr ffz, hfr.tr (ffz.mo (fun x y z => by unfold XB at z; unfold XQ; omega)), by rw [hTn (Or.inl (by rw [hkd]; omega))]; exact htold, hG1, hG2⟩ (by omega)
          · first | (exfalso; omega) | exact ih _ (k + 1) _ _ _ _ _ _ ⟨by omega, by omega, hvw.fr ffz, hfr.tr (ffz.mo (fun x y z => by unfold XB at z; unfold XQ; omega)), by rw [hTn (Or.inr (Or.inl (by rw [hdt]; exact BrQ.ne1 q2 (by omega))))]; exact htold, hG1, hG2⟩ (by omega)
          · first | (exfalso; omega) | exact ih _ (k + 1) _ _ _ _ _ _ ⟨by omega, by omega, hvw.fr ffz, hfr.tr (ffz.mo (fun x y z => by unfold XB at z; unfold XQ; omega)), by rw [hTn (Or.inr (Or.inl (by rw [hdt]; exact BrQ.ne1 q2 (by omega))))]; exact htold, hG1, hG2⟩ (by omega)
          · first | (exfalso; omega) | exact ih _ (k + 1) _ _ _ _ _ _ ⟨by omega, by omega, hvw.fr ffz, hfr.tr (ffz.mo (fun x y z => by unfold XB at z; unfold XQ; omega)), by rw [hTn (Or.inr (Or.inr (by rw [hfx]; exact BrQ.non q1 (by omega))))]; exact htold, hG1, hG2⟩ (by omega)
          · first | (exfalso; omega) | exact ih _ (k + 1) _ _ _ _ _ _ ⟨by omega, by omega, hvw.fr ffz, hfr.tr (ffz.mo (fun x y z => by unfold XB at z; unfold XQ; omega)), by rw [hTy (by rw [hkd]; omega) (by rw [hdt]; exact (BrQ.som q2 (by omega)).trans (by first | rfl | (congr 1; omega))) (by rw [hfx]; exact BrQ.som q1 (by omega))], hG1, hG2⟩ (by omega)
      · rw [eH] at hPc hCt hCd hI2 hIf
        have hkd : ((pCs kc kv pl) k.toNat).1 = 1 := hCd.1
        have hfx : ((pCs kc kv pl) k.toNat).2.2.1 = pOne := hCd.2
        have lt := hvw.lt (i := (pSt kc kv pl true k.toNat).1) (by omega)
        have f0 : od_fr (XB M) gw (od_up (od_up gw M 24 0) M 22 (b0 + ((pSt kc kv pl true k.toNat).1 + 1))) := (od_fr.rf.up (by unfold XB; omega)).up (by unfold XB; omega)
        refine r_aload_n dX11_tells_80 rfl ?_
        refine r_aload_n dX11_tells_81 rfl ?_
        refine r_getIj (j := 22) rfl dX11_tells_82 fkX11_263 gf11_22 (mo_o hm) (by (repeat (first | rewrite [od_up_at, if_pos (by omega)] | rewrite [od_up_at, if_neg (by omega)])); first | exact e22 | rfl) ?_
        refine r_callV1i dX11_tells_85 cvX11_266 (mo_o hm) (c_X11_codeAt hm hvw (pSt kc kv pl true k.toNat).1 hs0) (by decide) (Nat.le_of_ble_eq_true rfl) od_le.rf ?_
        rw [hc1]
        refine r_istore dX11_tells_88 (by decide) rfl ?_
        refine r_aload_n dX11_tells_90 rfl ?_
        refine r_iconst dX11_tells_91 li_0 ?_
        refine r_putZj (j := 24) rfl dX11_tells_92 fkX11_273 gf11_24 pf11_24 (by first | exact Or.inl rfl | exact Or.inr rfl | omega | assumption) (mo_o hm) ?_
        refine r_aload_n dX11_tells_95 rfl ?_
        refine r_dup dX11_tells_96 (by first | exact od_ne2 | exact od_ne0) ?_
        refine r_getIj (j := 22) rfl dX11_tells_97 fkX11_263 gf11_22 (mo_o hm) (by (repeat (first | rewrite [od_up_at, if_pos (by omega)] | rewrite [od_up_at, if_neg (by omega)])); first | exact e22 | rfl) ?_
        refine r_iconst dX11_tells_100 li_1 ?_
        refine r_iaddE dX11_tells_101 (by first | exact od_w0 (by omega) (by omega) | exact od_wI (by omega) (by omega) | rfl) ?_
        rw [show b0 + (pSt kc kv pl true k.toNat).1 + 1 = b0 + ((pSt kc kv pl true k.toNat).1 + 1) by omega]
        refine r_putIj (j := 22) rfl dX11_tells_102 fkX11_263 gf11_22 pf11_22 (mo_o hm) ?_
        refine r_iload dX11_tells_105 rfl ?_
        refine r_iconst dX11_tells_107 li_1 ?_
        refine r_icmp_ne (tgt := 119) dX11_tells_108 rfl (fun _ => ?_) (fun h => absurd h (by omega))
        refine r_lconst dX11_tells_119 ll_1 ?_
        refine r_lstore dX11_tells_120 (by decide) rfl ?_
        refine r_aload_n dX11_tells_122 rfl ?_
        refine r_getIj (j := 24) rfl dX11_tells_123 fkX11_273 gf11_24 (mo_o hm) (by (repeat (first | rewrite [od_up_at, if_pos (by omega)] | rewrite [od_up_at, if_neg (by omega)])); first | exact e22 | rfl) ?_
        refine r_istore dX11_tells_126 (by decide) rfl ?_
        refine r_aload_n dX11_tells_128 rfl ?_
        refine r_iconst dX11_tells_129 li_0 ?_
        refine r_putZj (j := 24) rfl dX11_tells_130 fkX11_273 gf11_24 pf11_24 (by first | exact Or.inl rfl | exact Or.inr rfl | omega | assumption) (mo_o hm) ?_
        have f2 : od_fr (XB M) gw (od_up (od_up (od_up gw M 24 0) M 22 (b0 + ((pSt kc kv pl true k.toNat).1 + 1))) M 24 0) := (f0).up (by unfold XB; omega)
        have q1 : BrQ 1 0 0 1 (pOne w) := BrQ.one rfl
        have hg2 : (od_up (od_up (od_up gw M 24 0) M 22 (b0 + ((pSt kc kv pl true k.toNat).1 + 1))) M 24 0) M 22 = b0 + (pNx (pSt kc kv pl true k.toNat)).1 := by
          rw [od_up_at, if_neg (by omega)]
          rw [od_up_at, if_pos rfl]; rfl
        have hv2 := hvw.fr f2
        have bx1 : (pNx (pSt kc kv pl true k.toNat)).1 = (pSt kc kv pl true k.toNat).1 + 1 := rfl
        have h20 : 0 ≤ (pNx (pSt kc kv pl true k.toNat)).1 := by omega
        refine r_aload_n dX11_tells_133 rfl ?_
        refine r_iconst dX11_tells_134 li_4 ?_
        refine r_callV1p dX11_tells_135 cvX11_287 (mo_o hm) (c_X11_passes0 hm hv2 (i := (pNx (pSt kc kv pl true k.toNat)).1) h20 hg2 _ (by omega)) (by decide) (Nat.le_of_ble_eq_true rfl) od_le.rf (fun r135 g135 h135 => ?_)
        rcases h135 with ⟨rfl, h135⟩ | ⟨rfl, h135⟩
        · show od_Rq _ _ _ _ _ _ _ ((0, 1) :: _) _ _
          skip
          refine r_if_eq (tgt := 149) dX11_tells_138 rfl (fun h => absurd h (by decide)) (fun _ => ?_)
          obtain ⟨h4a, rfl⟩ := h135
          obtain ⟨_, eI⟩ : kc (pNx (pSt kc kv pl true k.toNat)).1 = 4 ∧ pIf kc kv pl true (pNx (pSt kc kv pl true k.toNat)) = (pTestL kc kv pl true 8 (pNx (pNx (pSt kc kv pl true k.toNat)))) := by
            rcases hI2.2 with h | h
            · exact h
            · exact absurd h4a h.1
          have f3 : od_fr (XB M) gw (od_up (od_up (od_up (od_up gw M 24 0) M 22 (b0 + ((pSt kc kv pl true k.toNat).1 + 1))) M 24 0) M 22 (b0 + ((pNx (pSt kc kv pl true k.toNat)).1 + 1))) := f2.up (by unfold XB; omega)
          have hTf : (pTestL kc kv pl true 8 (pNx (pNx (pSt kc kv pl true k.toNat)))).1.2.2 = -1 := by rw [← eI]; exact hIf
          have hNx : (pCl kc kv pl true (pSt kc kv pl true k.toNat)).1.1 = (pTestL kc kv pl true 8 (pNx (pNx (pSt kc kv pl true k.toNat)))).1.1 := by rw [hPc, eI]
          have hdt : ((pCs kc kv pl) k.toNat).2.2.2.2 = (pTestL kc kv pl true 8 (pNx (pNx (pSt kc kv pl true k.toNat)))).2 := by rw [hCt, eI]
          have bx2 : (pNx (pNx (pSt kc kv pl true k.toNat))).1 = (pNx (pSt kc kv pl true k.toNat)).1 + 1 := rfl
          have lt2 := hvw.lt (i := (pNx (pSt kc kv pl true k.toNat)).1) (by omega)
          refine r_aload_n dX11_tells_141 rfl ?_
          refine r_iconst dX11_tells_142 li_1 ?_
          refine r_callV1p dX11_tells_143 cvX11_323 (mo_o hm) (eTestL hm b0 N kc kv hp true w 8 (od_up (od_up (od_up (od_up gw M 24 0) M 22 (b0 + ((pSt kc kv pl true k.toNat).1 + 1))) M 24 0) M 22 (b0 + ((pNx (pSt kc kv pl true k.toNat)).1 + 1))) (pNx (pNx (pSt kc kv pl true k.toNat))) 1 (hvw.fr f3) (Or.inr rfl) (Or.inl (by rw [od_up_at, if_neg (by omega), od_up_at, if_pos rfl])) (by rw [od_up_at, if_pos rfl]; rfl) (by show 0 ≤ (pNx (pSt kc kv pl true k.toNat)).1 + 1; omega) hI2.1 hTf) (by decide) (Nat.le_of_ble_eq_true rfl) od_le.rf (fun r143 g143 h143 => ?_)
          obtain ⟨x143, rfl, hx143, hq143⟩ := h143
          show od_Rq _ _ _ _ _ _ _ ((0, _) :: _) _ _
          have q2 := hq143.2.2.2
          rw [od_up_at, if_neg (by omega), od_up_at, if_pos rfl] at q2
          have z143 := hq143.2.2.1
          have ffq := f3.tr hq143.1
          have hE22 := hq143.2.1
          refine r_if_eq (tgt := 153) dX11_tells_146 rfl (fun c146 => ?_) (fun c146 => ?_)
          · refine r_iconst dX11_tells_153 li_0 ?_
            refine r_istore dX11_tells_154 (by decide) rfl ?_
            have ffz : od_fr (XB M) gw (od_up g143 M 22 (g143 M 22 + 1)) := ffq.up (by unfold XB; omega)
            have hup : (pCl kc kv pl true (pSt kc kv pl true k.toNat)).1.1 ≤ 400 := by
              by_cases c0 : k + 1 = C
              · exact (hclf.2.2.2 c0).2
              · have z := hclf.2.2.1 (by omega)
                have := hvw.lt (i := (pCl kc kv pl true (pSt kc kv pl true k.toNat)).1.1) (by omega)
                have := hvw.1.2.2.1
                omega
            rw [hNx] at hup
            have hG1 : k + 1 < C → od_up g143 M 22 (g143 M 22 + 1) M 22 = b0 + (pSt kc kv pl true (k + 1).toNat).1 := fun hk2 => by
              rw [od_up_at, if_pos rfl, pSt_s hk0]
              show _ = b0 + ((pCl kc kv pl true (pSt kc kv pl true k.toNat)).1.1 + 1)
              rw [hE22, hNx]
              omega
            have hG2 : k + 1 = C → b0 + N ≤ od_up g143 M 22 (g143 M 22 + 1) M 22 := fun hk2 => by
              rw [od_up_at, if_pos rfl]
              have z := (hclf.2.2.2 hk2).1
              rw [hNx] at z
              rw [hE22]
              omega
            refine sg_X11_tt hm hc d bt wo told _ _ _ _ _ (by rw [hE22]; have := hvw.1.2.1; omega) (fun t2 ht => ?_)
            rcases ht with ⟨rfl, hz | hz | hz | hz⟩ | ⟨rfl, z1, z2, z3, z4⟩
            · exact ih _ (k + 1) _ _ _ _ _ _ ⟨by omega, by omega, hvw.fr ffz, hfr.tr (ffz.mo (fun x y z => by unfold XB at z; unfold XQ; omega)), by rw [hTn (Or.inl (by rw [hkd]; omega))]; exact htold, hG1, hG2⟩ (by omega)
            · first | (exfalso; omega) | exact ih _ (k + 1) _ _ _ _ _ _ ⟨by omega, by omega, hvw.fr ffz, hfr.tr (ffz.mo (fun x y z => by unfold XB at z; unfold XQ; omega)), by rw [hTn (Or.inr (Or.inl (by rw [hdt]; exact BrQ.ne1 q2 (by omega))))]; exact htold, hG1, hG2⟩ (by omega)
            · first | (exfalso; omega) | exact ih _ (k + 1) _ _ _ _ _ _ ⟨by omega, by omega, hvw.fr ffz, hfr.tr (ffz.mo (fun x y z => by unfold XB at z; unfold XQ; omega)), by rw [hTn (Or.inr (Or.inl (by rw [hdt]; exact BrQ.ne1 q2 (by omega))))]; exact htold, hG1, hG2⟩ (by omega)
            · first | (exfalso; omega) | exact ih _ (k + 1) _ _ _ _ _ _ ⟨by omega, by omega, hvw.fr ffz, hfr.tr (ffz.mo (fun x y z => by unfold XB at z; unfold XQ; omega)), by rw [hTn (Or.inr (Or.inr (by rw [hfx]; exact BrQ.non q1 (by omega))))]; exact htold, hG1, hG2⟩ (by omega)
            · first | (exfalso; omega) | exact ih _ (k + 1) _ _ _ _ _ _ ⟨by omega, by omega, hvw.fr ffz, hfr.tr (ffz.mo (fun x y z => by unfold XB at z; unfold XQ; omega)), by rw [hTy (by rw [hkd]; omega) (by rw [hdt]; exact (BrQ.som q2 (by omega)).trans (by first | rfl | (congr 1; omega))) (by rw [hfx]; exact BrQ.som q1 (by omega))], hG1, hG2⟩ (by omega)
          · refine r_iconst dX11_tells_149 li_1 ?_
            refine r_goto (tgt := 154) dX11_tells_150 rfl ?_
            refine r_istore dX11_tells_154 (by decide) rfl ?_
            have ffz : od_fr (XB M) gw (od_up g143 M 22 (g143 M 22 + 1)) := ffq.up (by unfold XB; omega)
            have hup : (pCl kc kv pl true (pSt kc kv pl true k.toNat)).1.1 ≤ 400 := by
              by_cases c0 : k + 1 = C
              · exact (hclf.2.2.2 c0).2
              · have z := hclf.2.2.1 (by omega)
                have := hvw.lt (i := (pCl kc kv pl true (pSt kc kv pl true k.toNat)).1.1) (by omega)
                have := hvw.1.2.2.1
                omega
            rw [hNx] at hup
            have hG1 : k + 1 < C → od_up g143 M 22 (g143 M 22 + 1) M 22 = b0 + (pSt kc kv pl true (k + 1).toNat).1 := fun hk2 => by
              rw [od_up_at, if_pos rfl, pSt_s hk0]
              show _ = b0 + ((pCl kc kv pl true (pSt kc kv pl true k.toNat)).1.1 + 1)
              rw [hE22, hNx]
              omega
            have hG2 : k + 1 = C → b0 + N ≤ od_up g143 M 22 (g143 M 22 + 1) M 22 := fun hk2 => by
              rw [od_up_at, if_pos rfl]
              have z := (hclf.2.2.2 hk2).1
              rw [hNx] at z
              rw [hE22]
              omega
            refine sg_X11_tt hm hc d bt wo told _ _ _ _ _ (by rw [hE22]; have := hvw.1.2.1; omega) (fun t2 ht => ?_)
            rcases ht with ⟨rfl, hz | hz | hz | hz⟩ | ⟨rfl, z1, z2, z3, z4⟩
            · exact ih _ (k + 1) _ _ _ _ _ _ ⟨by omega, by omega, hvw.fr ffz, hfr.tr (ffz.mo (fun x y z => by unfold XB at z; unfold XQ; omega)), by rw [hTn (Or.inl (by rw [hkd]; omega))]; exact htold, hG1, hG2⟩ (by omega)
            · first | (exfalso; omega) | exact ih _ (k + 1) _ _ _ _ _ _ ⟨by omega, by omega, hvw.fr ffz, hfr.tr (ffz.mo (fun x y z => by unfold XB at z; unfold XQ; omega)), by rw [hTn (Or.inr (Or.inl (by rw [hdt]; exact BrQ.ne1 q2 (by omega))))]; exact htold, hG1, hG2⟩ (by omega)
            · first | (exfalso; omega) | exact ih _ (k + 1) _ _ _ _ _ _ ⟨by omega, by omega, hvw.fr ffz, hfr.tr (ffz.mo (fun x y z => by unfold XB at z; unfold XQ; omega)), by rw [hTn (Or.inr (Or.inl (by rw [hdt]; exact BrQ.ne1 q2 (by omega))))]; exact htold, hG1, hG2⟩ (by omega)
            · first | (exfalso; omega) | exact ih _ (k + 1) _ _ _ _ _ _ ⟨by omega, by omega, hvw.fr ffz, hfr.tr (ffz.mo (fun x y z => by unfold XB at z; unfold XQ; omega)), by rw [hTn (Or.inr (Or.inr (by rw [hfx]; exact BrQ.non q1 (by omega))))]; exact htold, hG1, hG2⟩ (by omega)
            · first | (exfalso; omega) | exact ih _ (k + 1) _ _ _ _ _ _ ⟨by omega, by omega, hvw.fr ffz, hfr.tr (ffz.mo (fun x y z => by unfold XB at z; unfold XQ; omega)), by rw [hTy (by rw [hkd]; omega) (by rw [hdt]; exact (BrQ.som q2 (by omega)).trans (by first | rfl | (congr 1; omega))) (by rw [hfx]; exact BrQ.som q1 (by omega))], hG1, hG2⟩ (by omega)
        · show od_Rq _ _ _ _ _ _ _ ((0, 0) :: _) _ _
          skip
          refine r_if_eq (tgt := 149) dX11_tells_138 rfl (fun _ => ?_) (fun h => absurd h (by decide))
          obtain ⟨n4a, rfl⟩ := h135
          obtain ⟨_, eI⟩ : kc (pNx (pSt kc kv pl true k.toNat)).1 ≠ 4 ∧ pIf kc kv pl true (pNx (pSt kc kv pl true k.toNat)) = ((pNx (pSt kc kv pl true k.toNat)), pOne) := by
            rcases hI2.2 with h | h
            · exact absurd h.1 n4a
            · exact h
          have hNx : (pCl kc kv pl true (pSt kc kv pl true k.toNat)).1.1 = (pNx (pSt kc kv pl true k.toNat)).1 := by rw [hPc, eI]
          have hdt : ((pCs kc kv pl) k.toNat).2.2.2.2 = pOne := by rw [hCt, eI]
          have e24z : (od_up (od_up (od_up gw M 24 0) M 22 (b0 + ((pSt kc kv pl true k.toNat).1 + 1))) M 24 0) M 24 = 0 := by rw [od_up_at, if_pos rfl]
          have q2 : BrQ 1 0 ((od_up (od_up (od_up gw M 24 0) M 22 (b0 + ((pSt kc kv pl true k.toNat).1 + 1))) M 24 0) M 24) 1 (pOne w) := by rw [e24z]; exact BrQ.one rfl
          have ffq := f2
          have hE22 := hg2
          refine r_iconst dX11_tells_149 li_1 ?_
          refine r_goto (tgt := 154) dX11_tells_150 rfl ?_
          refine r_istore dX11_tells_154 (by decide) rfl ?_
          have ffz : od_fr (XB M) gw (od_up (od_up (od_up (od_up gw M 24 0) M 22 (b0 + ((pSt kc kv pl true k.toNat).1 + 1))) M 24 0) M 22 ((od_up (od_up (od_up gw M 24 0) M 22 (b0 + ((pSt kc kv pl true k.toNat).1 + 1))) M 24 0) M 22 + 1)) := ffq.up (by unfold XB; omega)
          have hup : (pCl kc kv pl true (pSt kc kv pl true k.toNat)).1.1 ≤ 400 := by
            by_cases c0 : k + 1 = C
            · exact (hclf.2.2.2 c0).2
            · have z := hclf.2.2.1 (by omega)
              have := hvw.lt (i := (pCl kc kv pl true (pSt kc kv pl true k.toNat)).1.1) (by omega)
              have := hvw.1.2.2.1
              omega
          rw [hNx] at hup
          have hG1 : k + 1 < C → od_up (od_up (od_up (od_up gw M 24 0) M 22 (b0 + ((pSt kc kv pl true k.toNat).1 + 1))) M 24 0) M 22 ((od_up (od_up (od_up gw M 24 0) M 22 (b0 + ((pSt kc kv pl true k.toNat).1 + 1))) M 24 0) M 22 + 1) M 22 = b0 + (pSt kc kv pl true (k + 1).toNat).1 := fun hk2 => by
            rw [od_up_at, if_pos rfl, pSt_s hk0]
            show _ = b0 + ((pCl kc kv pl true (pSt kc kv pl true k.toNat)).1.1 + 1)
            rw [hE22, hNx]
            omega
          have hG2 : k + 1 = C → b0 + N ≤ od_up (od_up (od_up (od_up gw M 24 0) M 22 (b0 + ((pSt kc kv pl true k.toNat).1 + 1))) M 24 0) M 22 ((od_up (od_up (od_up gw M 24 0) M 22 (b0 + ((pSt kc kv pl true k.toNat).1 + 1))) M 24 0) M 22 + 1) M 22 := fun hk2 => by
            rw [od_up_at, if_pos rfl]
            have z := (hclf.2.2.2 hk2).1
            rw [hNx] at z
            rw [hE22]
            omega
          refine sg_X11_tt hm hc d bt wo told _ _ _ _ _ (by rw [hE22]; have := hvw.1.2.1; omega) (fun t2 ht => ?_)
          rcases ht with ⟨rfl, hz | hz | hz | hz⟩ | ⟨rfl, z1, z2, z3, z4⟩
          · exact ih _ (k + 1) _ _ _ _ _ _ ⟨by omega, by omega, hvw.fr ffz, hfr.tr (ffz.mo (fun x y z => by unfold XB at z; unfold XQ; omega)), by rw [hTn (Or.inl (by rw [hkd]; omega))]; exact htold, hG1, hG2⟩ (by omega)
          · first | (exfalso; omega) | exact ih _ (k + 1) _ _ _ _ _ _ ⟨by omega, by omega, hvw.fr ffz, hfr.tr (ffz.mo (fun x y z => by unfold XB at z; unfold XQ; omega)), by rw [hTn (Or.inr (Or.inl (by rw [hdt]; exact BrQ.ne1 q2 (by omega))))]; exact htold, hG1, hG2⟩ (by omega)
          · first | (exfalso; omega) | exact ih _ (k + 1) _ _ _ _ _ _ ⟨by omega, by omega, hvw.fr ffz, hfr.tr (ffz.mo (fun x y z => by unfold XB at z; unfold XQ; omega)), by rw [hTn (Or.inr (Or.inl (by rw [hdt]; exact BrQ.ne1 q2 (by omega))))]; exact htold, hG1, hG2⟩ (by omega)
          · first | (exfalso; omega) | exact ih _ (k + 1) _ _ _ _ _ _ ⟨by omega, by omega, hvw.fr ffz, hfr.tr (ffz.mo (fun x y z => by unfold XB at z; unfold XQ; omega)), by rw [hTn (Or.inr (Or.inr (by rw [hfx]; exact BrQ.non q1 (by omega))))]; exact htold, hG1, hG2⟩ (by omega)
          · first | (exfalso; omega) | exact ih _ (k + 1) _ _ _ _ _ _ ⟨by omega, by omega, hvw.fr ffz, hfr.tr (ffz.mo (fun x y z => by unfold XB at z; unfold XQ; omega)), by rw [hTy (by rw [hkd]; omega) (by rw [hdt]; exact (BrQ.som q2 (by omega)).trans (by first | rfl | (congr 1; omega))) (by rw [hfx]; exact BrQ.som q1 (by omega))], hG1, hG2⟩ (by omega)
      · rw [eH] at hPc hCt hCd hI2 hIf
        have hkd : ((pCs kc kv pl) k.toNat).1 = 2 := hCd.1
        have hfx : ((pCs kc kv pl) k.toNat).2.2.1 = pOne := hCd.2
        have lt := hvw.lt (i := (pSt kc kv pl true k.toNat).1) (by omega)
        have f0 : od_fr (XB M) gw (od_up (od_up gw M 24 0) M 22 (b0 + ((pSt kc kv pl true k.toNat).1 + 1))) := (od_fr.rf.up (by unfold XB; omega)).up (by unfold XB; omega)
        refine r_aload_n dX11_tells_80 rfl ?_
        refine r_aload_n dX11_tells_81 rfl ?_
        refine r_getIj (j := 22) rfl dX11_tells_82 fkX11_263 gf11_22 (mo_o hm) (by (repeat (first | rewrite [od_up_at, if_pos (by omega)] | rewrite [od_up_at, if_neg (by omega)])); first | exact e22 | rfl) ?_
        refine r_callV1i dX11_tells_85 cvX11_266 (mo_o hm) (c_X11_codeAt hm hvw (pSt kc kv pl true k.toNat).1 hs0) (by decide) (Nat.le_of_ble_eq_true rfl) od_le.rf ?_
        rw [hc1]
        refine r_istore dX11_tells_88 (by decide) rfl ?_
        refine r_aload_n dX11_tells_90 rfl ?_
        refine r_iconst dX11_tells_91 li_0 ?_
        refine r_putZj (j := 24) rfl dX11_tells_92 fkX11_273 gf11_24 pf11_24 (by first | exact Or.inl rfl | exact Or.inr rfl | omega | assumption) (mo_o hm) ?_
        refine r_aload_n dX11_tells_95 rfl ?_
        refine r_dup dX11_tells_96 (by first | exact od_ne2 | exact od_ne0) ?_
        refine r_getIj (j := 22) rfl dX11_tells_97 fkX11_263 gf11_22 (mo_o hm) (by (repeat (first | rewrite [od_up_at, if_pos (by omega)] | rewrite [od_up_at, if_neg (by omega)])); first | exact e22 | rfl) ?_
        refine r_iconst dX11_tells_100 li_1 ?_
        refine r_iaddE dX11_tells_101 (by first | exact od_w0 (by omega) (by omega) | exact od_wI (by omega) (by omega) | rfl) ?_
        rw [show b0 + (pSt kc kv pl true k.toNat).1 + 1 = b0 + ((pSt kc kv pl true k.toNat).1 + 1) by omega]
        refine r_putIj (j := 22) rfl dX11_tells_102 fkX11_263 gf11_22 pf11_22 (mo_o hm) ?_
        refine r_iload dX11_tells_105 rfl ?_
        refine r_iconst dX11_tells_107 li_1 ?_
        refine r_icmp_ne (tgt := 119) dX11_tells_108 rfl (fun _ => ?_) (fun h => absurd h (by omega))
        refine r_lconst dX11_tells_119 ll_1 ?_
        refine r_lstore dX11_tells_120 (by decide) rfl ?_
        refine r_aload_n dX11_tells_122 rfl ?_
        refine r_getIj (j := 24) rfl dX11_tells_123 fkX11_273 gf11_24 (mo_o hm) (by (repeat (first | rewrite [od_up_at, if_pos (by omega)] | rewrite [od_up_at, if_neg (by omega)])); first | exact e22 | rfl) ?_
        refine r_istore dX11_tells_126 (by decide) rfl ?_
        refine r_aload_n dX11_tells_128 rfl ?_
        refine r_iconst dX11_tells_129 li_0 ?_
        refine r_putZj (j := 24) rfl dX11_tells_130 fkX11_273 gf11_24 pf11_24 (by first | exact Or.inl rfl | exact Or.inr rfl | omega | assumption) (mo_o hm) ?_
        have f2 : od_fr (XB M) gw (od_up (od_up (od_up gw M 24 0) M 22 (b0 + ((pSt kc kv pl true k.toNat).1 + 1))) M 24 0) := (f0).up (by unfold XB; omega)
        have q1 : BrQ 1 0 0 1 (pOne w) := BrQ.one rfl
        have hg2 : (od_up (od_up (od_up gw M 24 0) M 22 (b0 + ((pSt kc kv pl true k.toNat).1 + 1))) M 24 0) M 22 = b0 + (pNx (pSt kc kv pl true k.toNat)).1 := by
          rw [od_up_at, if_neg (by omega)]
          rw [od_up_at, if_pos rfl]; rfl
        have hv2 := hvw.fr f2
        have bx1 : (pNx (pSt kc kv pl true k.toNat)).1 = (pSt kc kv pl true k.toNat).1 + 1 := rfl
        have h20 : 0 ≤ (pNx (pSt kc kv pl true k.toNat)).1 := by omega
        refine r_aload_n dX11_tells_133 rfl ?_
        refine r_iconst dX11_tells_134 li_4 ?_
        refine r_callV1p dX11_tells_135 cvX11_287 (mo_o hm) (c_X11_passes0 hm hv2 (i := (pNx (pSt kc kv pl true k.toNat)).1) h20 hg2 _ (by omega)) (by decide) (Nat.le_of_ble_eq_true rfl) od_le.rf (fun r135 g135 h135 => ?_)
        rcases h135 with ⟨rfl, h135⟩ | ⟨rfl, h135⟩
        · show od_Rq _ _ _ _ _ _ _ ((0, 1) :: _) _ _
          skip
          refine r_if_eq (tgt := 149) dX11_tells_138 rfl (fun h => absurd h (by decide)) (fun _ => ?_)
          obtain ⟨h4a, rfl⟩ := h135
          obtain ⟨_, eI⟩ : kc (pNx (pSt kc kv pl true k.toNat)).1 = 4 ∧ pIf kc kv pl true (pNx (pSt kc kv pl true k.toNat)) = (pTestL kc kv pl true 8 (pNx (pNx (pSt kc kv pl true k.toNat)))) := by
            rcases hI2.2 with h | h
            · exact h
            · exact absurd h4a h.1
          have f3 : od_fr (XB M) gw (od_up (od_up (od_up (od_up gw M 24 0) M 22 (b0 + ((pSt kc kv pl true k.toNat).1 + 1))) M 24 0) M 22 (b0 + ((pNx (pSt kc kv pl true k.toNat)).1 + 1))) := f2.up (by unfold XB; omega)
          have hTf : (pTestL kc kv pl true 8 (pNx (pNx (pSt kc kv pl true k.toNat)))).1.2.2 = -1 := by rw [← eI]; exact hIf
          have hNx : (pCl kc kv pl true (pSt kc kv pl true k.toNat)).1.1 = (pTestL kc kv pl true 8 (pNx (pNx (pSt kc kv pl true k.toNat)))).1.1 := by rw [hPc, eI]
          have hdt : ((pCs kc kv pl) k.toNat).2.2.2.2 = (pTestL kc kv pl true 8 (pNx (pNx (pSt kc kv pl true k.toNat)))).2 := by rw [hCt, eI]
          have bx2 : (pNx (pNx (pSt kc kv pl true k.toNat))).1 = (pNx (pSt kc kv pl true k.toNat)).1 + 1 := rfl
          have lt2 := hvw.lt (i := (pNx (pSt kc kv pl true k.toNat)).1) (by omega)
          refine r_aload_n dX11_tells_141 rfl ?_
          refine r_iconst dX11_tells_142 li_1 ?_
          refine r_callV1p dX11_tells_143 cvX11_323 (mo_o hm) (eTestL hm b0 N kc kv hp true w 8 (od_up (od_up (od_up (od_up gw M 24 0) M 22 (b0 + ((pSt kc kv pl true k.toNat).1 + 1))) M 24 0) M 22 (b0 + ((pNx (pSt kc kv pl true k.toNat)).1 + 1))) (pNx (pNx (pSt kc kv pl true k.toNat))) 1 (hvw.fr f3) (Or.inr rfl) (Or.inl (by rw [od_up_at, if_neg (by omega), od_up_at, if_pos rfl])) (by rw [od_up_at, if_pos rfl]; rfl) (by show 0 ≤ (pNx (pSt kc kv pl true k.toNat)).1 + 1; omega) hI2.1 hTf) (by decide) (Nat.le_of_ble_eq_true rfl) od_le.rf (fun r143 g143 h143 => ?_)
          obtain ⟨x143, rfl, hx143, hq143⟩ := h143
          show od_Rq _ _ _ _ _ _ _ ((0, _) :: _) _ _
          have q2 := hq143.2.2.2
          rw [od_up_at, if_neg (by omega), od_up_at, if_pos rfl] at q2
          have z143 := hq143.2.2.1
          have ffq := f3.tr hq143.1
          have hE22 := hq143.2.1
          refine r_if_eq (tgt := 153) dX11_tells_146 rfl (fun c146 => ?_) (fun c146 => ?_)
          · refine r_iconst dX11_tells_153 li_0 ?_
            refine r_istore dX11_tells_154 (by decide) rfl ?_
            have ffz : od_fr (XB M) gw (od_up g143 M 22 (g143 M 22 + 1)) := ffq.up (by unfold XB; omega)
            have hup : (pCl kc kv pl true (pSt kc kv pl true k.toNat)).1.1 ≤ 400 := by
              by_cases c0 : k + 1 = C
              · exact (hclf.2.2.2 c0).2
              · have z := hclf.2.2.1 (by omega)
                have := hvw.lt (i := (pCl kc kv pl true (pSt kc kv pl true k.toNat)).1.1) (by omega)
                have := hvw.1.2.2.1
                omega
            rw [hNx] at hup
            have hG1 : k + 1 < C → od_up g143 M 22 (g143 M 22 + 1) M 22 = b0 + (pSt kc kv pl true (k + 1).toNat).1 := fun hk2 => by
              rw [od_up_at, if_pos rfl, pSt_s hk0]
              show _ = b0 + ((pCl kc kv pl true (pSt kc kv pl true k.toNat)).1.1 + 1)
              rw [hE22, hNx]
              omega
            have hG2 : k + 1 = C → b0 + N ≤ od_up g143 M 22 (g143 M 22 + 1) M 22 := fun hk2 => by
              rw [od_up_at, if_pos rfl]
              have z := (hclf.2.2.2 hk2).1
              rw [hNx] at z
              rw [hE22]
              omega
            refine sg_X11_tt hm hc d bt wo told _ _ _ _ _ (by rw [hE22]; have := hvw.1.2.1; omega) (fun t2 ht => ?_)
            rcases ht with ⟨rfl, hz | hz | hz | hz⟩ | ⟨rfl, z1, z2, z3, z4⟩
            · exact ih _ (k + 1) _ _ _ _ _ _ ⟨by omega, by omega, hvw.fr ffz, hfr.tr (ffz.mo (fun x y z => by unfold XB at z; unfold XQ; omega)), by rw [hTn (Or.inl (by rw [hkd]; omega))]; exact htold, hG1, hG2⟩ (by omega)
            · first | (exfalso; omega) | exact ih _ (k + 1) _ _ _ _ _ _ ⟨by omega, by omega, hvw.fr ffz, hfr.tr (ffz.mo (fun x y z => by unfold XB at z; unfold XQ; omega)), by rw [hTn (Or.inr (Or.inl (by rw [hdt]; exact BrQ.ne1 q2 (by omega))))]; exact htold, hG1, hG2⟩ (by omega)
            · first | (exfalso; omega) | exact ih _ (k + 1) _ _ _ _ _ _ ⟨by omega, by omega, hvw.fr ffz, hfr.tr (ffz.mo (fun x y z => by unfold XB at z; unfold XQ; omega)), by rw [hTn (Or.inr (Or.inl (by rw [hdt]; exact BrQ.ne1 q2 (by omega))))]; exact htold, hG1, hG2⟩ (by omega)
            · first | (exfalso; omega) | exact ih _ (k + 1) _ _ _ _ _ _ ⟨by omega, by omega, hvw.fr ffz, hfr.tr (ffz.mo (fun x y z => by unfold XB at z; unfold XQ; omega)), by rw [hTn (Or.inr (Or.inr (by rw [hfx]; exact BrQ.non q1 (by omega))))]; exact htold, hG1, hG2⟩ (by omega)
            · first | (exfalso; omega) | exact ih _ (k + 1) _ _ _ _ _ _ ⟨by omega, by omega, hvw.fr ffz, hfr.tr (ffz.mo (fun x y z => by unfold XB at z; unfold XQ; omega)), by rw [hTy (by rw [hkd]; omega) (by rw [hdt]; exact (BrQ.som q2 (by omega)).trans (by first | rfl | (congr 1; omega))) (by rw [hfx]; exact BrQ.som q1 (by omega))], hG1, hG2⟩ (by omega)
          · refine r_iconst dX11_tells_149 li_1 ?_
            refine r_goto (tgt := 154) dX11_tells_150 rfl ?_
            refine r_istore dX11_tells_154 (by decide) rfl ?_
            have ffz : od_fr (XB M) gw (od_up g143 M 22 (g143 M 22 + 1)) := ffq.up (by unfold XB; omega)
            have hup : (pCl kc kv pl true (pSt kc kv pl true k.toNat)).1.1 ≤ 400 := by
              by_cases c0 : k + 1 = C
              · exact (hclf.2.2.2 c0).2
              · have z := hclf.2.2.1 (by omega)
                have := hvw.lt (i := (pCl kc kv pl true (pSt kc kv pl true k.toNat)).1.1) (by omega)
                have := hvw.1.2.2.1
                omega
            rw [hNx] at hup
            have hG1 : k + 1 < C → od_up g143 M 22 (g143 M 22 + 1) M 22 = b0 + (pSt kc kv pl true (k + 1).toNat).1 := fun hk2 => by
              rw [od_up_at, if_pos rfl, pSt_s hk0]
              show _ = b0 + ((pCl kc kv pl true (pSt kc kv pl true k.toNat)).1.1 + 1)
              rw [hE22, hNx]
              omega
            have hG2 : k + 1 = C → b0 + N ≤ od_up g143 M 22 (g143 M 22 + 1) M 22 := fun hk2 => by
              rw [od_up_at, if_pos rfl]
              have z := (hclf.2.2.2 hk2).1
              rw [hNx] at z
              rw [hE22]
              omega
            refine sg_X11_tt hm hc d bt wo told _ _ _ _ _ (by rw [hE22]; have := hvw.1.2.1; omega) (fun t2 ht => ?_)
            rcases ht with ⟨rfl, hz | hz | hz | hz⟩ | ⟨rfl, z1, z2, z3, z4⟩
            · exact ih _ (k + 1) _ _ _ _ _ _ ⟨by omega, by omega, hvw.fr ffz, hfr.tr (ffz.mo (fun x y z => by unfold XB at z; unfold XQ; omega)), by rw [hTn (Or.inl (by rw [hkd]; omega))]; exact htold, hG1, hG2⟩ (by omega)
            · first | (exfalso; omega) | exact ih _ (k + 1) _ _ _ _ _ _ ⟨by omega, by omega, hvw.fr ffz, hfr.tr (ffz.mo (fun x y z => by unfold XB at z; unfold XQ; omega)), by rw [hTn (Or.inr (Or.inl (by rw [hdt]; exact BrQ.ne1 q2 (by omega))))]; exact htold, hG1, hG2⟩ (by omega)
            · first | (exfalso; omega) | exact ih _ (k + 1) _ _ _ _ _ _ ⟨by omega, by omega, hvw.fr ffz, hfr.tr (ffz.mo (fun x y z => by unfold XB at z; unfold XQ; omega)), by rw [hTn (Or.inr (Or.inl (by rw [hdt]; exact BrQ.ne1 q2 (by omega))))]; exact htold, hG1, hG2⟩ (by omega)
            · first | (exfalso; omega) | exact ih _ (k + 1) _ _ _ _ _ _ ⟨by omega, by omega, hvw.fr ffz, hfr.tr (ffz.mo (fun x y z => by unfold XB at z; unfold XQ; omega)), by rw [hTn (Or.inr (Or.inr (by rw [hfx]; exact BrQ.non q1 (by omega))))]; exact htold, hG1, hG2⟩ (by omega)
            · first | (exfalso; omega) | exact ih _ (k + 1) _ _ _ _ _ _ ⟨by omega, by omega, hvw.fr ffz, hfr.tr (ffz.mo (fun x y z => by unfold XB at z; unfold XQ; omega)), by rw [hTy (by rw [hkd]; omega) (by rw [hdt]; exact (BrQ.som q2 (by omega)).trans (by first | rfl | (congr 1; omega))) (by rw [hfx]; exact BrQ.som q1 (by omega))], hG1, hG2⟩ (by omega)
        · show od_Rq _ _ _ _ _ _ _ ((0, 0) :: _) _ _
          skip
          refine r_if_eq (tgt := 149) dX11_tells_138 rfl (fun _ => ?_) (fun h => absurd h (by decide))
          obtain ⟨n4a, rfl⟩ := h135
          obtain ⟨_, eI⟩ : kc (pNx (pSt kc kv pl true k.toNat)).1 ≠ 4 ∧ pIf kc kv pl true (pNx (pSt kc kv pl true k.toNat)) = ((pNx (pSt kc kv pl true k.toNat)), pOne) := by
            rcases hI2.2 with h | h
            · exact absurd h.1 n4a
            · exact h
          have hNx : (pCl kc kv pl true (pSt kc kv pl true k.toNat)).1.1 = (pNx (pSt kc kv pl true k.toNat)).1 := by rw [hPc, eI]
          have hdt : ((pCs kc kv pl) k.toNat).2.2.2.2 = pOne := by rw [hCt, eI]
          have e24z : (od_up (od_up (od_up gw M 24 0) M 22 (b0 + ((pSt kc kv pl true k.toNat).1 + 1))) M 24 0) M 24 = 0 := by rw [od_up_at, if_pos rfl]
          have q2 : BrQ 1 0 ((od_up (od_up (od_up gw M 24 0) M 22 (b0 + ((pSt kc kv pl true k.toNat).1 + 1))) M 24 0) M 24) 1 (pOne w) := by rw [e24z]; exact BrQ.one rfl
          have ffq := f2
          have hE22 := hg2
          refine r_iconst dX11_tells_149 li_1 ?_
          refine r_goto (tgt := 154) dX11_tells_150 rfl ?_
          refine r_istore dX11_tells_154 (by decide) rfl ?_
          have ffz : od_fr (XB M) gw (od_up (od_up (od_up (od_up gw M 24 0) M 22 (b0 + ((pSt kc kv pl true k.toNat).1 + 1))) M 24 0) M 22 ((od_up (od_up (od_up gw M 24 0) M 22 (b0 + ((pSt kc kv pl true k.toNat).1 + 1))) M 24 0) M 22 + 1)) := ffq.up (by unfold XB; omega)
          have hup : (pCl kc kv pl true (pSt kc kv pl true k.toNat)).1.1 ≤ 400 := by
            by_cases c0 : k + 1 = C
            · exact (hclf.2.2.2 c0).2
            · have z := hclf.2.2.1 (by omega)
              have := hvw.lt (i := (pCl kc kv pl true (pSt kc kv pl true k.toNat)).1.1) (by omega)
              have := hvw.1.2.2.1
              omega
          rw [hNx] at hup
          have hG1 : k + 1 < C → od_up (od_up (od_up (od_up gw M 24 0) M 22 (b0 + ((pSt kc kv pl true k.toNat).1 + 1))) M 24 0) M 22 ((od_up (od_up (od_up gw M 24 0) M 22 (b0 + ((pSt kc kv pl true k.toNat).1 + 1))) M 24 0) M 22 + 1) M 22 = b0 + (pSt kc kv pl true (k + 1).toNat).1 := fun hk2 => by
            rw [od_up_at, if_pos rfl, pSt_s hk0]
            show _ = b0 + ((pCl kc kv pl true (pSt kc kv pl true k.toNat)).1.1 + 1)
            rw [hE22, hNx]
            omega
          have hG2 : k + 1 = C → b0 + N ≤ od_up (od_up (od_up (od_up gw M 24 0) M 22 (b0 + ((pSt kc kv pl true k.toNat).1 + 1))) M 24 0) M 22 ((od_up (od_up (od_up gw M 24 0) M 22 (b0 + ((pSt kc kv pl true k.toNat).1 + 1))) M 24 0) M 22 + 1) M 22 := fun hk2 => by
            rw [od_up_at, if_pos rfl]
            have z := (hclf.2.2.2 hk2).1
            rw [hNx] at z
            rw [hE22]
            omega
          refine sg_X11_tt hm hc d bt wo told _ _ _ _ _ (by rw [hE22]; have := hvw.1.2.1; omega) (fun t2 ht => ?_)
          rcases ht with ⟨rfl, hz | hz | hz | hz⟩ | ⟨rfl, z1, z2, z3, z4⟩
          · exact ih _ (k + 1) _ _ _ _ _ _ ⟨by omega, by omega, hvw.fr ffz, hfr.tr (ffz.mo (fun x y z => by unfold XB at z; unfold XQ; omega)), by rw [hTn (Or.inl (by rw [hkd]; omega))]; exact htold, hG1, hG2⟩ (by omega)
          · first | (exfalso; omega) | exact ih _ (k + 1) _ _ _ _ _ _ ⟨by omega, by omega, hvw.fr ffz, hfr.tr (ffz.mo (fun x y z => by unfold XB at z; unfold XQ; omega)), by rw [hTn (Or.inr (Or.inl (by rw [hdt]; exact BrQ.ne1 q2 (by omega))))]; exact htold, hG1, hG2⟩ (by omega)
          · first | (exfalso; omega) | exact ih _ (k + 1) _ _ _ _ _ _ ⟨by omega, by omega, hvw.fr ffz, hfr.tr (ffz.mo (fun x y z => by unfold XB at z; unfold XQ; omega)), by rw [hTn (Or.inr (Or.inl (by rw [hdt]; exact BrQ.ne1 q2 (by omega))))]; exact htold, hG1, hG2⟩ (by omega)
          · first | (exfalso; omega) | exact ih _ (k + 1) _ _ _ _ _ _ ⟨by omega, by omega, hvw.fr ffz, hfr.tr (ffz.mo (fun x y z => by unfold XB at z; unfold XQ; omega)), by rw [hTn (Or.inr (Or.inr (by rw [hfx]; exact BrQ.non q1 (by omega))))]; exact htold, hG1, hG2⟩ (by omega)
          · first | (exfalso; omega) | exact ih _ (k + 1) _ _ _ _ _ _ ⟨by omega, by omega, hvw.fr ffz, hfr.tr (ffz.mo (fun x y z => by unfold XB at z; unfold XQ; omega)), by rw [hTy (by rw [hkd]; omega) (by rw [hdt]; exact (BrQ.som q2 (by omega)).trans (by first | rfl | (congr 1; omega))) (by rw [hfx]; exact BrQ.som q1 (by omega))], hG1, hG2⟩ (by omega)
theorem mAsk_2 (g : od_G) (M d bt : Int) : mAsk g M d bt (M + 2) = g (M + 2) := (mAsk_fr g M d bt).row (fun y => by unfold XQ; omega)
set_option maxRecDepth 10000 in
theorem c_X11_tells {E : od_E} {g : od_G} {M : Int} (hm : MoAt E M) {pl : Int → Int} {C : Int} (hI : 0 ≤ g (M + 2) 45 ∧ g (M + 2) 45 ≤ 6) (hF : LwF (g (M + 2)) pl C) (d : Int) (hd : 0 ≤ d ∧ d < 6) (hc bt wo : Int) (hwo : -1000000000 ≤ wo ∧ wo ≤ 1000000000) : od_Cq (44) mX11_tells [(2, M), (0, hc), (0, d), (0, bt), (0, wo)] E g (E, fun o g' => o = some (0, mTl (g (M + 2)) pl C (hc - 1) d bt wo) ∧ od_fr (XQ M) g g') := by
  refine od_cqI pnX11 rfl (Nat.le_of_ble_eq_true rfl) od_le.rf ?_
  show od_Rq (44) mX11_tells od_Z0 E (E, fun o g' => o = some (0, mTl (g (M + 2)) pl C (hc - 1) d bt wo) ∧ od_fr (XQ M) g g') 0 [some (2, M), some (0, hc), some (0, d), some (0, bt), some (0, wo), none, none, none, none, none, none, none] [] E g
  refine r_aload_n dX11_tells_0 rfl ?_
  refine r_getR dX11_tells_1 fkX11_28 gf11_2 (mo_o hm) (mo_r2 hm) ?_
  refine r_bipush dX11_tells_4 lb_48 ?_
  refine r_iald dX11_tells_6 (mo_k2 hm) (by omega) (by (repeat (first | rewrite [od_upn (by omega)] | rewrite [od_up_at, if_pos (by omega)] | rewrite [od_up_at, if_neg (by omega)])); (try rewrite [mAsk_2]); rfl) ?_
  refine r_iconst dX11_tells_7 li_m1 ?_
  refine r_icmp_ne (tgt := 14) dX11_tells_8 rfl (fun c8 => ?_) (fun c8 => ?_)
  · obtain ⟨h48, hNN, hp, hD⟩ : (0 ≤ g (M + 2) 48 ∧ g (M + 2) 48 ≤ 5) ∧ (0 ≤ (g (M + 2) (49 + g (M + 2) 48)) ∧ (g (M + 2) (49 + g (M + 2) 48)) ≤ 400) ∧ (∀ i : Int, 0 ≤ pl i) ∧ pDn (kC (g (M + 2)) (400 * g (M + 2) 48) (g (M + 2) (49 + g (M + 2) 48))) (kV (g (M + 2)) (400 * g (M + 2) 48) (g (M + 2) (49 + g (M + 2) 48))) pl true (g (M + 2) (49 + g (M + 2) 48)) C := hF.resolve_left (by assumption)
    refine r_aload_n dX11_tells_14 rfl ?_
    refine r_iload_n dX11_tells_15 rfl ?_
    refine r_iload_n dX11_tells_16 rfl ?_
    refine r_callV2v dX11_tells_17 cvX11_326 (mo_o hm) (c_X11_setsAsked hm _ hd _) (by decide) (Nat.le_of_ble_eq_true rfl) od_le.rf ?_
    refine r_aload_n dX11_tells_20 rfl ?_
    refine r_iconst dX11_tells_21 li_0 ?_
    refine r_putZj (j := 25) rfl dX11_tells_22 fkX11_293 gf11_25 pf11_25 (by first | exact Or.inl rfl | exact Or.inr rfl | omega | assumption) (mo_o hm) ?_
    refine r_iload dX11_tells_25 rfl ?_
    refine r_i2l dX11_tells_27 ?_
    refine r_lstore dX11_tells_28 (by decide) rfl ?_
    refine r_aload_n dX11_tells_30 rfl ?_
    refine r_sipush dX11_tells_31 ls_400 ?_
    refine r_aload_n dX11_tells_34 rfl ?_
    refine r_getR dX11_tells_35 fkX11_28 gf11_2 (mo_o hm) (mo_r2 hm) ?_
    refine r_bipush dX11_tells_38 lb_48 ?_
    refine r_iald dX11_tells_40 (mo_k2 hm) (by omega) (by (repeat (first | rewrite [od_upn (by omega)] | rewrite [od_up_at, if_pos (by omega)] | rewrite [od_up_at, if_neg (by omega)])); (try rewrite [mAsk_2]); rfl) ?_
    refine r_imulE dX11_tells_41 (by first | exact od_w0 (by omega) (by omega) | exact od_wI (by omega) (by omega) | rfl) ?_
    refine r_putIj (j := 22) rfl dX11_tells_42 fkX11_263 gf11_22 pf11_22 (mo_o hm) ?_
    refine r_aload_n dX11_tells_45 rfl ?_
    refine r_aload_n dX11_tells_46 rfl ?_
    refine r_getIj (j := 22) rfl dX11_tells_47 fkX11_263 gf11_22 (mo_o hm) (by (repeat (first | rewrite [od_upn (by omega)] | rewrite [od_up_at, if_pos (by omega)] | rewrite [od_up_at, if_neg (by omega)])); (try rewrite [mAsk_2]); rfl) ?_
    refine r_aload_n dX11_tells_50 rfl ?_
    refine r_getR dX11_tells_51 fkX11_28 gf11_2 (mo_o hm) (mo_r2 hm) ?_
    refine r_bipush dX11_tells_54 lb_49 ?_
    refine r_aload_n dX11_tells_56 rfl ?_
    refine r_getR dX11_tells_57 fkX11_28 gf11_2 (mo_o hm) (mo_r2 hm) ?_
    refine r_bipush dX11_tells_60 lb_48 ?_
    refine r_iald dX11_tells_62 (mo_k2 hm) (by omega) (by (repeat (first | rewrite [od_upn (by omega)] | rewrite [od_up_at, if_pos (by omega)] | rewrite [od_up_at, if_neg (by omega)])); (try rewrite [mAsk_2]); rfl) ?_
    refine r_iaddE dX11_tells_63 (by first | exact od_w0 (by omega) (by omega) | exact od_wI (by omega) (by omega) | rfl) ?_
    refine r_iald dX11_tells_64 (mo_k2 hm) (by omega) (by (repeat (first | rewrite [od_upn (by omega)] | rewrite [od_up_at, if_pos (by omega)] | rewrite [od_up_at, if_neg (by omega)])); (try rewrite [mAsk_2]); rfl) ?_
    refine r_iaddE dX11_tells_65 (by first | exact od_w0 (by omega) (by omega) | exact od_wI (by omega) (by omega) | rfl) ?_
    refine r_putIj (j := 23) rfl dX11_tells_66 fkX11_260 gf11_23 pf11_23 (mo_o hm) ?_
    have hfr : od_fr (XQ M) g (od_up (od_up (od_up (mAsk g M d bt) M 25 0) M 22 (400 * g (M + 2) 48)) M 23 ((400 * g (M + 2) 48) + (g (M + 2) (49 + g (M + 2) 48)))) := (((mAsk_fr g M d bt).up (by unfold XQ; omega)).up (by unfold XQ; omega)).up (by unfold XQ; omega)
    have e2 : (od_up (od_up (od_up (mAsk g M d bt) M 25 0) M 22 (400 * g (M + 2) 48)) M 23 ((400 * g (M + 2) 48) + (g (M + 2) (49 + g (M + 2) 48)))) (M + 2) = g (M + 2) := hfr.row (fun y => by unfold XQ; omega)
    have hv : EV (od_up (od_up (od_up (mAsk g M d bt) M 25 0) M 22 (400 * g (M + 2) 48)) M 23 ((400 * g (M + 2) 48) + (g (M + 2) (49 + g (M + 2) 48)))) M (400 * g (M + 2) 48) (g (M + 2) (49 + g (M + 2) 48)) (kC (g (M + 2)) (400 * g (M + 2) 48) (g (M + 2) (49 + g (M + 2) 48))) (kV (g (M + 2)) (400 * g (M + 2) 48) (g (M + 2) (49 + g (M + 2) 48))) true (mWd (g (M + 2)) d bt) := by
      refine ⟨⟨?_, by omega, hNN, fun i i0 i1 => ?_, fun i i0 => ?_, ?_⟩, ?_, ?_⟩
      · rw [od_up_at, if_pos rfl]
      · rw [e2]
        exact ⟨(if_pos ⟨i0, i1⟩).symm, (if_pos ⟨i0, i1⟩).symm⟩
      · exact if_neg (by omega)
      · rw [od_up_at, if_neg (by omega), od_up_at, if_neg (by omega), od_up_at, if_pos rfl]; rfl
      · intro k k0 k1
        rw [od_upn (by omega), od_upn (by omega), od_upn (by omega)]
        exact mAsk_env g M d bt k k0 k1
      · rw [e2]; exact hI
    have eQ : mTl (g (M + 2)) pl C (hc - 1) d bt wo = pTl (pCs (kC (g (M + 2)) (400 * g (M + 2) 48) (g (M + 2) (49 + g (M + 2) 48))) (kV (g (M + 2)) (400 * g (M + 2) 48) (g (M + 2) (49 + g (M + 2) 48))) pl) (hc - 1) (mWd (g (M + 2)) d bt) wo C.toNat := by
      unfold mTl
      rw [if_neg (by assumption)]
    rw [eQ]
    refine lp_X11_tells hm d hc bt wo hp hD hwo _ _ 0 wo _ _ _ _ _ ⟨by omega, by have := hD.1; omega, hv, hfr, rfl, fun _ => ?_, fun z => by have := hD.1; omega⟩ (Nat.lt_succ_self _)
    rw [od_up_at, if_neg (by omega), od_up_at, if_pos rfl]
    show _ = _ + (0 : Int)
    omega
  · refine r_iload dX11_tells_11 rfl ?_
    refine r_iretq dX11_tells_13 rfl rfl ⟨?_, od_fr.rf⟩
    unfold mTl
    rw [if_pos (by assumption)]
