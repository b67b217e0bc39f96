def EPos (E : od_E) (M b N : Int) (c v pl : Int → Int) (lw : Bool) (w : Int → Int) (L : Nat) : Prop := ∀ (g : od_G) (s : pS) (lv : Int), EV g M b N c v lw w → (lv = 0 ∨ lv = 1) → (g M 24 = 0 ∨ g M 24 = 1) → g M 22 = b + s.1 → 0 ≤ s.1 → s.2.2 = -1 → (pPos c pl (pSumL c v pl lw L) (pTub c v pl lw L) false s).1.2.2 = -1 → od_Cq (8 + 4 * L) mX11_positiveOf [(2, M), (0, lv)] E g (E, fun o g' => ∃ x : Int, o = some (0, x) ∧ (x = 0 ∨ x = 1) ∧ EQ g g' M b w lv x s (pPos c pl (pSumL c v pl lw L) (pTub c v pl lw L) false s))
def EPln (E : od_E) (M b N : Int) (c v pl : Int → Int) (lw : Bool) (w : Int → Int) (L : Nat) : Prop := ∀ (g : od_G) (s : pS) (lv : Int), EV g M b N c v lw w → (lv = 0 ∨ lv = 1) → (g M 24 = 0 ∨ g M 24 = 1) → g M 22 = b + s.1 → 0 ≤ s.1 → s.2.2 = -1 → (pPlain c pl (pSumL c v pl lw L) (pTub c v pl lw L) s).1.2.2 = -1 → od_Cq (9 + 4 * L) mX11_plainOf [(2, M), (0, lv)] E g (E, fun o g' => ∃ x : Int, o = some (0, x) ∧ (x = 0 ∨ x = 1) ∧ EQ g g' M b w lv x s (pPlain c pl (pSumL c v pl lw L) (pTub c v pl lw L) s))
def EBth (E : od_E) (M b N : Int) (c v pl : Int → Int) (lw : Bool) (w : Int → Int) (L : Nat) : Prop := ∀ (g : od_G) (s : pS) (lv : Int), EV g M b N c v lw w → (lv = 0 ∨ lv = 1) → (g M 24 = 0 ∨ g M 24 = 1) → g M 22 = b + s.1 → 0 ≤ s.1 → s.2.2 = -1 → (pBoth c pl (pSumL c v pl lw L) (pTub c v pl lw L) s).1.2.2 = -1 → od_Cq (10 + 4 * L) mX11_bothOf [(2, M), (0, lv)] E g (E, fun o g' => ∃ x : Int, o = some (0, x) ∧ (x = 0 ∨ x = 1) ∧ EQ g g' M b w lv x s (pBoth c pl (pSumL c v pl lw L) (pTub c v pl lw L) s))
def ETst (E : od_E) (M b N : Int) (c v pl : Int → Int) (lw : Bool) (w : Int → Int) (L : Nat) : Prop := ∀ (g : od_G) (s : pS) (lv : Int), EV g M b N c v lw w → (lv = 0 ∨ lv = 1) → (g M 24 = 0 ∨ g M 24 = 1) → g M 22 = b + s.1 → 0 ≤ s.1 → s.2.2 = -1 → (pTestL c v pl lw L s).1.2.2 = -1 → od_Cq (11 + 4 * L) mX11_testOf [(2, M), (0, lv)] E g (E, fun o g' => ∃ x : Int, o = some (0, x) ∧ (x = 0 ∨ x = 1) ∧ EQ g g' M b w lv x s (pTestL c v pl lw L s))
theorem pPos_in {c pl : Int → Int} {S : pS → pR} {T : Option (pS → pR)} {s : pS} (hp : ∀ i : Int, 0 ≤ pl i) (hb : s.2.2 = -1) (h : (pPos c pl S T false s).1.2.2 = -1) : (c s.1 = 140 ∧ ∃ T1, T = some T1 ∧ pPos c pl S T false s = (pNx (T1 (pNx s)).1, (T1 (pNx s)).2) ∧ (T1 (pNx s)).1.2.2 = -1 ∧ c (T1 (pNx s)).1.1 = 141) ∨ (c s.1 ≠ 140 ∧ (S s).1.2.2 = -1 ∧ pOc (c (S s).1.1) ≠ -1 ∧ (S (pNx (S s).1)).1.2.2 = -1 ∧ pPos c pl S T false s = ((S (pNx (S s).1)).1, pBin (pOc (c (S s).1.1)) (S s).2 (S (pNx (S s).1)).2)) := by
  unfold pPos at h ⊢
  rw [if_neg (by omega)] at h ⊢
  by_cases h1 : c s.1 = 140
  · rw [if_pos h1] at h ⊢
    cases T with
    | none => exact absurd h (pF_nb (hp _))
    | some T1 =>
      have q := pMu_nf hp h
      refine Or.inl ⟨h1, T1, rfl, ?_, q⟩
      show (pMu c pl 141 (T1 (pNx s)).1, pNot false (T1 (pNx s)).2) = _
      rw [pMu_t q, pNot_f]
  · rw [if_neg h1] at h ⊢
    by_cases h2 : (S s).1.2.2 = -1
    · rw [if_neg (by omega)] at h ⊢
      by_cases h3 : pOc (c (S s).1.1) = -1
      · rw [if_pos h3] at h
        exact absurd h (pF_nb (hp _))
      · rw [if_neg h3] at h ⊢
        exact Or.inr ⟨h1, h2, h3, h, by rw [pNot_f]⟩
    · rw [if_pos h2] at h
      exact absurd h h2
theorem pNot_No (b : Bool) : pNot b pNo = pNo := by
  cases b with
  | true => rfl
  | false => rfl
theorem pPos_not (c pl : Int → Int) (S : pS → pR) (T : Option (pS → pR)) (b : Bool) (s : pS) : pPos c pl S T b s = ((pPos c pl S T false s).1, pNot b (pPos c pl S T false s).2) := by
  unfold pPos
  by_cases h0 : s.2.2 ≠ -1
  · rw [if_pos h0, if_pos h0, pNot_No]
  · rw [if_neg h0, if_neg h0]
    by_cases h1 : c s.1 = 140
    · rw [if_pos h1, if_pos h1]
      cases T with
      | none => show (pF pl s, pNo) = (pF pl s, pNot b pNo); rw [pNot_No]
      | some T1 => rfl
    · rw [if_neg h1, if_neg h1]
      by_cases h2 : (S s).1.2.2 ≠ -1
      · rw [if_pos h2, if_pos h2, pNot_No]
      · rw [if_neg h2, if_neg h2]
        by_cases h3 : pOc (c (S s).1.1) = -1
        · rw [if_pos h3, if_pos h3, pNot_No]
        · rw [if_neg h3, if_neg h3]
          rfl
theorem BrQ.cmp {lv br br1 br2 x y o z : Int} {d e : pD} {w : Int → Int} (h1 : BrQ lv br br1 x (d w)) (h2 : BrQ lv br1 br2 y (e w)) (ho : 11 ≤ o ∧ o ≤ 13) (hz : lv = 1 → br2 = 0 → z = cJoin o x y) : BrQ lv br br2 z (pBin o d e w) := by
  obtain ⟨b1, h1⟩ := h1
  obtain ⟨b2, h2⟩ := h2
  refine ⟨b2, ?_⟩
  rcases h1 with ⟨l1, z1, ⟨n1, y1⟩ | ⟨n1, y1⟩⟩ | ⟨z1, y1⟩
  · refine Or.inl ⟨l1, z1, Or.inl ⟨pBin_n1 n1, ?_⟩⟩
    rcases h2 with h | h <;> omega
  · rcases h2 with ⟨l2, z2, ⟨n2, y2⟩ | ⟨n2, y2⟩⟩ | ⟨z2, y2⟩
    · exact Or.inl ⟨l1, z1, Or.inl ⟨pBin_n2 n1 n2, y2⟩⟩
    · refine Or.inl ⟨l1, z1, Or.inr ⟨?_, y2⟩⟩
      rw [pBin_s n1 n2, hz l1 y2]
      have t := cJoin_t (x := x) (y := y) ho
      unfold pBt at t
      unfold pJn
      rw [if_neg (by omega)]
    · omega
  · refine Or.inr ⟨z1, ?_⟩
    rcases h2 with h | h <;> omega
theorem BrQ.sc {lv lv2 br br1 br2 x y st : Int} {d e : pD} {w : Int → Int} (hl : lv = 0 ∨ lv = 1) (h1 : BrQ lv br br1 x (d w)) (h2 : BrQ lv2 br1 br2 y (e w)) (hl2 : lv2 = if lv = 1 ∧ x ≠ st then 1 else 0) : BrQ lv br br2 (if x = st then x else y) (pSc st d e w) := by
  obtain ⟨b1, h1⟩ := h1
  obtain ⟨b2, h2⟩ := h2
  refine ⟨b2, ?_⟩
  rcases h1 with ⟨l1, z1, ⟨n1, y1⟩ | ⟨n1, y1⟩⟩ | ⟨z1, y1⟩
  · refine Or.inl ⟨l1, z1, Or.inl ⟨by simp only [pSc, n1], ?_⟩⟩
    rcases h2 with h | h <;> omega
  · have es : pSc st d e w = if x = st then some x else e w := by simp only [pSc, n1]
    rw [es]
    by_cases hx : x = st
    · rw [if_pos hx, if_pos hx]
      rw [if_neg (fun z => z.2 hx)] at hl2
      refine Or.inl ⟨l1, z1, Or.inr ⟨rfl, ?_⟩⟩
      rcases h2 with h | h <;> omega
    · rw [if_neg hx, if_neg hx]
      rw [if_pos ⟨l1, hx⟩] at hl2
      rcases h2 with ⟨l2, z2, h⟩ | ⟨z2, y2⟩
      · exact Or.inl ⟨l1, z1, h⟩
      · omega
  · refine Or.inr ⟨z1, ?_⟩
    rcases h2 with h | h
    · exfalso
      obtain ⟨l2, z2, _⟩ := h
      rw [l2] at hl2
      split at hl2
      · omega
      · omega
    · omega
theorem BrQ.nt {lv br br' x : Int} {d : pD} {w : Int → Int} {b : Bool} (hx : x = 0 ∨ x = 1) (h : BrQ lv br br' x (d w)) : BrQ lv br br' (if b = true then 1 - x else x) (pNot b d w) := by
  cases b with
  | false => exact h
  | true =>
    rw [if_pos rfl]
    refine ⟨h.1, ?_⟩
    rcases h.2 with ⟨l1, z1, ⟨n1, y1⟩ | ⟨n1, y1⟩⟩ | ⟨z1, y1⟩
    · exact Or.inl ⟨l1, z1, Or.inl ⟨by unfold pNot; rw [if_pos rfl]; simp only [n1], y1⟩⟩
    · refine Or.inl ⟨l1, z1, Or.inr ⟨?_, y1⟩⟩
      unfold pNot
      rw [if_pos rfl]
      simp only [n1]
      rw [od_wlI (by omega) (by omega)]
    · exact Or.inr ⟨z1, y1⟩
set_option maxRecDepth 10000 in
theorem c_X11_positiveOf {E : od_E} {g : od_G} {M : Int} (hm : MoAt E M) {b N : Int} {c v pl : Int → Int} {lw : Bool} {w : Int → Int} (hv : EV g M b N c v lw w) (hp : ∀ i : Int, 0 ≤ pl i) {s : pS} {lv : Int} (hl : lv = 0 ∨ lv = 1) (hbr : g M 24 = 0 ∨ g M 24 = 1) (hg : g M 22 = b + s.1) (hs0 : 0 ≤ s.1) (hb : s.2.2 = -1) {L : Nat} (hf : (pPos c pl (pSumL c v pl lw L) (pTub c v pl lw L) false s).1.2.2 = -1) (hS : ESum E M b N c v pl lw w L) (hTs : ∀ L1 : Nat, L = L1 + 1 → ETst E M b N c v pl lw w L1) : od_Cq (8 + 4 * L) mX11_positiveOf [(2, M), (0, lv)] E g (E, fun o g' => ∃ x : Int, o = some (0, x) ∧ (x = 0 ∨ x = 1) ∧ EQ g g' M b w lv x s (pPos c pl (pSumL c v pl lw L) (pTub c v pl lw L) false s)) := by
  have hb0 := hv.1.2.1
  have hN0 := hv.1.2.2.1
  have hin := pPos_in hp hb hf
  refine od_cqI pnX11 rfl (Nat.le_of_ble_eq_true rfl) od_le.rf ?_
  show od_Rq (8 + 4 * L) mX11_positiveOf od_Z0 E (E, fun o g' => ∃ x : Int, o = some (0, x) ∧ (x = 0 ∨ x = 1) ∧ EQ g g' M b w lv x s (pPos c pl (pSumL c v pl lw L) (pTub c v pl lw L) false s)) 0 [some (2, M), some (0, lv), none, none, none, none, none] [] E g
  refine r_aload_n dX11_positiveOf_0 rfl ?_
  refine r_bipush dX11_positiveOf_1 lb_40 ?_
  refine r_callS1i dX11_positiveOf_3 csX11_222 (c_X11_sign _ (by omega)) (by omega) (Nat.le_of_ble_eq_true rfl) od_le.rf ?_
  refine r_callV1p dX11_positiveOf_6 cvX11_287 (mo_o hm) (c_X11_passes0 hm hv hs0 hg _ (by omega)) (by omega) (Nat.le_of_ble_eq_true rfl) od_le.rf (fun r6 g6 h6 => ?_)
  rcases h6 with ⟨rfl, h6⟩ | ⟨rfl, h6⟩
  · show od_Rq _ _ _ _ _ _ _ ((0, 1) :: _) _ _
    skip
    refine r_if_eq (tgt := 30) dX11_positiveOf_9 rfl (fun h => absurd h (by decide)) (fun _ => ?_)
    obtain ⟨hy0, rfl⟩ := h6
    have hy : c s.1 = 140 := by omega
    obtain ⟨L1, hL1, eP, hSf, h141⟩ : ∃ L1 : Nat, L = L1 + 1 ∧ pPos c pl (pSumL c v pl lw L) (pTub c v pl lw L) false s = (pNx (pTestL c v pl lw L1 (pNx s)).1, (pTestL c v pl lw L1 (pNx s)).2) ∧ (pTestL c v pl lw L1 (pNx s)).1.2.2 = -1 ∧ c (pTestL c v pl lw L1 (pNx s)).1.1 = 141 := by
      rcases hin with ⟨_, T1, hT1, e1, e2, e3⟩ | h
      · cases L with
        | zero => exact absurd hT1 (by simp [pTub])
        | succ L1 =>
          have e : pTestL c v pl lw L1 = T1 := Option.some.inj hT1
          subst e
          exact ⟨L1, rfl, e1, e2, e3⟩
      · exact absurd hy h.1
    subst hL1
    have f1 : od_fr (XB M) g (od_up g M 22 (b + (s.1 + 1))) := od_fr.rf.up (by unfold XB; omega)
    refine r_aload_n dX11_positiveOf_12 rfl ?_
    refine r_iload_n dX11_positiveOf_13 rfl ?_
    refine r_callV1p dX11_positiveOf_14 cvX11_323 (mo_o hm) (hTs L1 rfl _ (pNx s) lv (hv.fr f1) hl (by rw [od_up_at, if_neg (by omega)]; exact hbr) (by rw [od_up_at, if_pos rfl]; rfl) (by show 0 ≤ s.1 + 1; omega) hb hSf) (by omega) (Nat.le_of_ble_eq_true rfl) od_le.rf (fun r14 g14 h14 => ?_)
    obtain ⟨x14, rfl, hx14, hq14⟩ := h14
    show od_Rq _ _ _ _ _ _ _ ((0, _) :: _) _ _
    refine r_istore_n dX11_positiveOf_17 (by decide) rfl ?_
    have e22 := hq14.2.1
    have bx0 : (pNx s).1 = s.1 + 1 := rfl
    have lt := hv.lt (i := (pTestL c v pl lw L1 (pNx s)).1.1) (by omega)
    have z14 := hq14.2.2.1
    refine r_aload_n dX11_positiveOf_18 rfl ?_
    refine r_dup dX11_positiveOf_19 (by first | exact od_ne2 | exact od_ne0) ?_
    refine r_getIj (j := 22) rfl dX11_positiveOf_20 fkX11_263 gf11_22 (mo_o hm) (by first | exact e22 | rfl) ?_
    refine r_iconst dX11_positiveOf_23 li_1 ?_
    refine r_iaddE dX11_positiveOf_24 (by first | exact od_w0 (by omega) (by omega) | exact od_wI (by omega) (by omega) | rfl) ?_
    refine r_putIj (j := 22) rfl dX11_positiveOf_25 fkX11_263 gf11_22 pf11_22 (mo_o hm) ?_
    refine r_iload_n dX11_positiveOf_28 rfl ?_
    rcases hx14 with hx1 | hx1
    · rw [hx1] at hq14 ⊢
      refine r_zretq dX11_positiveOf_29 rfl od_nz0 rfl ⟨_, rfl, Or.inl rfl, ?_⟩
      rw [eP]
      have z := hq14.2.2.1
      have bx : (pNx s).1 = s.1 + 1 := rfl
      refine ⟨(f1.tr hq14.1).up (by unfold XB; omega), by rw [od_up_at, if_pos rfl]; show _ = b + (_ + 1); omega, by show s.1 ≤ _ + 1; omega, ?_⟩
      rw [od_up_at, if_neg (by omega)]
      have q := hq14.2.2.2
      rw [od_up_at, if_neg (by omega)] at q
      exact q
    · rw [hx1] at hq14 ⊢
      refine r_zretq dX11_positiveOf_29 rfl od_nz1 rfl ⟨_, rfl, Or.inr rfl, ?_⟩
      rw [eP]
      have z := hq14.2.2.1
      have bx : (pNx s).1 = s.1 + 1 := rfl
      refine ⟨(f1.tr hq14.1).up (by unfold XB; omega), by rw [od_up_at, if_pos rfl]; show _ = b + (_ + 1); omega, by show s.1 ≤ _ + 1; omega, ?_⟩
      rw [od_up_at, if_neg (by omega)]
      have q := hq14.2.2.2
      rw [od_up_at, if_neg (by omega)] at q
      exact q
  · show od_Rq _ _ _ _ _ _ _ ((0, 0) :: _) _ _
    skip
    refine r_if_eq (tgt := 30) dX11_positiveOf_9 rfl (fun _ => ?_) (fun h => absurd h (by decide))
    obtain ⟨n60, rfl⟩ := h6
    obtain ⟨_, hSf, hop, hSf2, eP⟩ : c s.1 ≠ 140 ∧ (pSumL c v pl lw L s).1.2.2 = -1 ∧ pOc (c (pSumL c v pl lw L s).1.1) ≠ -1 ∧ (pSumL c v pl lw L (pNx (pSumL c v pl lw L s).1)).1.2.2 = -1 ∧ pPos c pl (pSumL c v pl lw L) (pTub c v pl lw L) false s = ((pSumL c v pl lw L (pNx (pSumL c v pl lw L s).1)).1, pBin (pOc (c (pSumL c v pl lw L s).1.1)) (pSumL c v pl lw L s).2 (pSumL c v pl lw L (pNx (pSumL c v pl lw L s).1)).2) := by
      rcases hin with h | h
      · exact absurd h.1 (by omega)
      · exact h
    have hob := pOc_b hop
    have hoc : (c (pSumL c v pl lw L s).1.1 = 160 ∧ pOc (c (pSumL c v pl lw L s).1.1) = 11) ∨ (c (pSumL c v pl lw L s).1.1 = 162 ∧ pOc (c (pSumL c v pl lw L s).1.1) = 12) ∨ (c (pSumL c v pl lw L s).1.1 = 161 ∧ pOc (c (pSumL c v pl lw L s).1.1) = 13) := by
      have hop2 := hop
      unfold pOc at hop2 ⊢
      repeat' split
      all_goals simp_all
    refine r_aload_n dX11_positiveOf_30 rfl ?_
    refine r_iload_n dX11_positiveOf_31 rfl ?_
    refine r_callV1p dX11_positiveOf_32 cvX11_290 (mo_o hm) (hS _ s lv hv hl hbr hg hs0 hb hSf) (by omega) (Nat.le_of_ble_eq_true rfl) od_le.rf (fun r32 g32 h32 => ?_)
    obtain ⟨x32, rfl, hq32⟩ := h32
    show od_Rq _ _ _ _ _ _ _ ((1, _) :: _) _ _
    have hv32 := hv.fr hq32.1
    have e22 := hq32.2.1
    have z32 := hq32.2.2.1
    have hb32 := hq32.2.2.2.1
    have lt := hv.lt (i := (pSumL c v pl lw L s).1.1) hob.2
    have f2 : od_fr (XB M) g32 (od_up g32 M 22 (b + ((pSumL c v pl lw L s).1.1 + 1))) := od_fr.rf.up (by unfold XB; omega)
    refine r_lstore_n dX11_positiveOf_35 (by decide) rfl ?_
    refine r_aload_n dX11_positiveOf_36 rfl ?_
    refine r_aload_n dX11_positiveOf_37 rfl ?_
    refine r_getIj (j := 22) rfl dX11_positiveOf_38 fkX11_263 gf11_22 (mo_o hm) (by first | exact e22 | rfl) ?_
    refine r_callV1i dX11_positiveOf_41 cvX11_266 (mo_o hm) (c_X11_codeAt hm hv32 (pSumL c v pl lw L s).1.1 (by omega)) (by omega) (Nat.le_of_ble_eq_true rfl) od_le.rf ?_
    refine r_istore dX11_positiveOf_44 (by decide) rfl ?_
    refine r_aload_n dX11_positiveOf_46 rfl ?_
    refine r_dup dX11_positiveOf_47 (by first | exact od_ne2 | exact od_ne0) ?_
    refine r_getIj (j := 22) rfl dX11_positiveOf_48 fkX11_263 gf11_22 (mo_o hm) (by first | exact e22 | rfl) ?_
    refine r_iconst dX11_positiveOf_51 li_1 ?_
    refine r_iaddE dX11_positiveOf_52 (by first | exact od_w0 (by omega) (by omega) | exact od_wI (by omega) (by omega) | rfl) ?_
    rw [show b + (pSumL c v pl lw L s).1.1 + 1 = b + ((pSumL c v pl lw L s).1.1 + 1) by omega]
    refine r_putIj (j := 22) rfl dX11_positiveOf_53 fkX11_263 gf11_22 pf11_22 (mo_o hm) ?_
    refine r_aload_n dX11_positiveOf_56 rfl ?_
    refine r_iload_n dX11_positiveOf_57 rfl ?_
    refine r_callV1p dX11_positiveOf_58 cvX11_290 (mo_o hm) (hS _ (pNx (pSumL c v pl lw L s).1) lv (hv32.fr f2) hl (by rw [od_up_at, if_neg (by omega)]; exact hb32) (by rw [od_up_at, if_pos rfl]; rfl) (by show 0 ≤ (pSumL c v pl lw L s).1.1 + 1; omega) hSf hSf2) (by omega) (Nat.le_of_ble_eq_true rfl) od_le.rf (fun r58 g58 h58 => ?_)
    obtain ⟨x58, rfl, hq58⟩ := h58
    show od_Rq _ _ _ _ _ _ _ ((1, _) :: _) _ _
    have hb58 := hq58.2.2.2.1
    refine r_lstore dX11_positiveOf_61 (by decide) rfl ?_
    refine r_iload_n dX11_positiveOf_63 rfl ?_
    refine r_if_eq (tgt := 125) dX11_positiveOf_64 rfl (fun c64 => ?_) (fun c64 => ?_)
    · refine r_iconst dX11_positiveOf_125 li_0 ?_
      refine r_zretq dX11_positiveOf_126 rfl od_nz0 rfl ⟨_, rfl, by omega, ?_⟩
      rw [eP]
      have z := hq58.2.2.1
      have z2 := hq32.2.2.1
      have bx : (pNx (pSumL c v pl lw L s).1).1 = (pSumL c v pl lw L s).1.1 + 1 := rfl
      have q := hq58.2.2.2
      rw [od_up_at, if_neg (by omega)] at q
      refine ⟨(hq32.1.tr f2).tr hq58.1, hq58.2.1, by show s.1 ≤ (pSumL c v pl lw L (pNx (pSumL c v pl lw L s).1)).1.1; omega, BrQ.cmp hq32.2.2.2 q hob.1 (fun l1 b1 => ?_)⟩
      first
      | (exfalso; omega)
      | (rcases hoc with ⟨k1, k2⟩ | ⟨k1, k2⟩ | ⟨k1, k2⟩
         · rw [k2]; unfold cJoin; (repeat (first | rw [if_pos (by omega)] | rw [if_neg (by omega)])); done
         · first | (exfalso; omega) | (rw [k2]; unfold cJoin; (repeat (first | rw [if_pos (by omega)] | rw [if_neg (by omega)])); done)
         · first | (exfalso; omega) | (rw [k2]; unfold cJoin; (repeat (first | rw [if_pos (by omega)] | rw [if_neg (by omega)])); done))
      | (rcases hoc with ⟨k1, k2⟩ | ⟨k1, k2⟩ | ⟨k1, k2⟩
         · first | (exfalso; omega) | (rw [k2]; unfold cJoin; (repeat (first | rw [if_pos (by omega)] | rw [if_neg (by omega)])); done)
         · first | (exfalso; omega) | (rw [k2]; unfold cJoin; (repeat (first | rw [if_pos (by omega)] | rw [if_neg (by omega)])); done)
         · first | (exfalso; omega) | (rw [k2]; unfold cJoin; (repeat (first | rw [if_pos (by omega)] | rw [if_neg (by omega)])); done))
    · refine r_aload_n dX11_positiveOf_67 rfl ?_
      refine r_getIj (j := 24) rfl dX11_positiveOf_68 fkX11_273 gf11_24 (mo_o hm) (by first | exact e22 | rfl) ?_
      refine r_if_ne (tgt := 125) dX11_positiveOf_71 rfl (fun c71 => ?_) (fun c71 => ?_)
      · refine r_iconst dX11_positiveOf_125 li_0 ?_
        refine r_zretq dX11_positiveOf_126 rfl od_nz0 rfl ⟨_, rfl, by omega, ?_⟩
        rw [eP]
        have z := hq58.2.2.1
        have z2 := hq32.2.2.1
        have bx : (pNx (pSumL c v pl lw L s).1).1 = (pSumL c v pl lw L s).1.1 + 1 := rfl
        have q := hq58.2.2.2
        rw [od_up_at, if_neg (by omega)] at q
        refine ⟨(hq32.1.tr f2).tr hq58.1, hq58.2.1, by show s.1 ≤ (pSumL c v pl lw L (pNx (pSumL c v pl lw L s).1)).1.1; omega, BrQ.cmp hq32.2.2.2 q hob.1 (fun l1 b1 => ?_)⟩
        first
        | (exfalso; omega)
        | (rcases hoc with ⟨k1, k2⟩ | ⟨k1, k2⟩ | ⟨k1, k2⟩
           · rw [k2]; unfold cJoin; (repeat (first | rw [if_pos (by omega)] | rw [if_neg (by omega)])); done
           · first | (exfalso; omega) | (rw [k2]; unfold cJoin; (repeat (first | rw [if_pos (by omega)] | rw [if_neg (by omega)])); done)
           · first | (exfalso; omega) | (rw [k2]; unfold cJoin; (repeat (first | rw [if_pos (by omega)] | rw [if_neg (by omega)])); done))
        | (rcases hoc with ⟨k1, k2⟩ | ⟨k1, k2⟩ | ⟨k1, k2⟩
           · first | (exfalso; omega) | (rw [k2]; unfold cJoin; (repeat (first | rw [if_pos (by omega)] | rw [if_neg (by omega)])); done)
           · first | (exfalso; omega) | (rw [k2]; unfold cJoin; (repeat (first | rw [if_pos (by omega)] | rw [if_neg (by omega)])); done)
           · first | (exfalso; omega) | (rw [k2]; unfold cJoin; (repeat (first | rw [if_pos (by omega)] | rw [if_neg (by omega)])); done))
      · refine r_iload dX11_positiveOf_74 rfl ?_
        refine r_bipush dX11_positiveOf_76 lb_60 ?_
        refine r_callS1i dX11_positiveOf_78 csX11_222 (c_X11_sign _ (by omega)) (by omega) (Nat.le_of_ble_eq_true rfl) od_le.rf ?_
        refine r_icmp_ne (tgt := 94) dX11_positiveOf_81 rfl (fun c81 => ?_) (fun c81 => ?_)
        · refine r_iload dX11_positiveOf_94 rfl ?_
          refine r_bipush dX11_positiveOf_96 lb_62 ?_
          refine r_callS1i dX11_positiveOf_98 csX11_222 (c_X11_sign _ (by omega)) (by omega) (Nat.le_of_ble_eq_true rfl) od_le.rf ?_
          refine r_icmp_ne (tgt := 114) dX11_positiveOf_101 rfl (fun c101 => ?_) (fun c101 => ?_)
          · refine r_lload_n dX11_positiveOf_114 rfl ?_
            refine r_lload dX11_positiveOf_115 rfl ?_
            refine r_lcmp3 dX11_positiveOf_117 (fun c117 => ?_) (fun c117 => ?_) (fun c117 => ?_)
            · refine r_if_ne (tgt := 125) dX11_positiveOf_118 rfl (fun _ => ?_) (fun h => absurd h (by decide))
              refine r_iconst dX11_positiveOf_125 li_0 ?_
              refine r_zretq dX11_positiveOf_126 rfl od_nz0 rfl ⟨_, rfl, by omega, ?_⟩
              rw [eP]
              have z := hq58.2.2.1
              have z2 := hq32.2.2.1
              have bx : (pNx (pSumL c v pl lw L s).1).1 = (pSumL c v pl lw L s).1.1 + 1 := rfl
              have q := hq58.2.2.2
              rw [od_up_at, if_neg (by omega)] at q
              refine ⟨(hq32.1.tr f2).tr hq58.1, hq58.2.1, by show s.1 ≤ (pSumL c v pl lw L (pNx (pSumL c v pl lw L s).1)).1.1; omega, BrQ.cmp hq32.2.2.2 q hob.1 (fun l1 b1 => ?_)⟩
              first
              | (exfalso; omega)
              | (rcases hoc with ⟨k1, k2⟩ | ⟨k1, k2⟩ | ⟨k1, k2⟩
                 · rw [k2]; unfold cJoin; (repeat (first | rw [if_pos (by omega)] | rw [if_neg (by omega)])); done
                 · first | (exfalso; omega) | (rw [k2]; unfold cJoin; (repeat (first | rw [if_pos (by omega)] | rw [if_neg (by omega)])); done)
                 · first | (exfalso; omega) | (rw [k2]; unfold cJoin; (repeat (first | rw [if_pos (by omega)] | rw [if_neg (by omega)])); done))
              | (rcases hoc with ⟨k1, k2⟩ | ⟨k1, k2⟩ | ⟨k1, k2⟩
                 · first | (exfalso; omega) | (rw [k2]; unfold cJoin; (repeat (first | rw [if_pos (by omega)] | rw [if_neg (by omega)])); done)
                 · first | (exfalso; omega) | (rw [k2]; unfold cJoin; (repeat (first | rw [if_pos (by omega)] | rw [if_neg (by omega)])); done)
                 · first | (exfalso; omega) | (rw [k2]; unfold cJoin; (repeat (first | rw [if_pos (by omega)] | rw [if_neg (by omega)])); done))
            · refine r_if_ne (tgt := 125) dX11_positiveOf_118 rfl (fun h => absurd h (by decide)) (fun _ => ?_)
              refine r_iconst dX11_positiveOf_121 li_1 ?_
              refine r_goto (tgt := 126) dX11_positiveOf_122 rfl ?_
              refine r_zretq dX11_positiveOf_126 rfl od_nz1 rfl ⟨_, rfl, by omega, ?_⟩
              rw [eP]
              have z := hq58.2.2.1
              have z2 := hq32.2.2.1
              have bx : (pNx (pSumL c v pl lw L s).1).1 = (pSumL c v pl lw L s).1.1 + 1 := rfl
              have q := hq58.2.2.2
              rw [od_up_at, if_neg (by omega)] at q
              refine ⟨(hq32.1.tr f2).tr hq58.1, hq58.2.1, by show s.1 ≤ (pSumL c v pl lw L (pNx (pSumL c v pl lw L s).1)).1.1; omega, BrQ.cmp hq32.2.2.2 q hob.1 (fun l1 b1 => ?_)⟩
              first
              | (exfalso; omega)
              | (rcases hoc with ⟨k1, k2⟩ | ⟨k1, k2⟩ | ⟨k1, k2⟩
                 · rw [k2]; unfold cJoin; (repeat (first | rw [if_pos (by omega)] | rw [if_neg (by omega)])); done
                 · first | (exfalso; omega) | (rw [k2]; unfold cJoin; (repeat (first | rw [if_pos (by omega)] | rw [if_neg (by omega)])); done)
                 · first | (exfalso; omega) | (rw [k2]; unfold cJoin; (repeat (first | rw [if_pos (by omega)] | rw [if_neg (by omega)])); done))
              | (rcases hoc with ⟨k1, k2⟩ | ⟨k1, k2⟩ | ⟨k1, k2⟩
                 · first | (exfalso; omega) | (rw [k2]; unfold cJoin; (repeat (first | rw [if_pos (by omega)] | rw [if_neg (by omega)])); done)
                 · first | (exfalso; omega) | (rw [k2]; unfold cJoin; (repeat (first | rw [if_pos (by omega)] | rw [if_neg (by omega)])); done)
                 · first | (exfalso; omega) | (rw [k2]; unfold cJoin; (repeat (first | rw [if_pos (by omega)] | rw [if_neg (by omega)])); done))
            · refine r_if_ne (tgt := 125) dX11_positiveOf_118 rfl (fun _ => ?_) (fun h => absurd h (by decide))
              refine r_iconst dX11_positiveOf_125 li_0 ?_
              refine r_zretq dX11_positiveOf_126 rfl od_nz0 rfl ⟨_, rfl, by omega, ?_⟩
              rw [eP]
              have z := hq58.2.2.1
              have z2 := hq32.2.2.1
              have bx : (pNx (pSumL c v pl lw L s).1).1 = (pSumL c v pl lw L s).1.1 + 1 := rfl
              have q := hq58.2.2.2
              rw [od_up_at, if_neg (by omega)] at q
              refine ⟨(hq32.1.tr f2).tr hq58.1, hq58.2.1, by show s.1 ≤ (pSumL c v pl lw L (pNx (pSumL c v pl lw L s).1)).1.1; omega, BrQ.cmp hq32.2.2.2 q hob.1 (fun l1 b1 => ?_)⟩
              first
              | (exfalso; omega)
              | (rcases hoc with ⟨k1, k2⟩ | ⟨k1, k2⟩ | ⟨k1, k2⟩
                 · rw [k2]; unfold cJoin; (repeat (first | rw [if_pos (by omega)] | rw [if_neg (by omega)])); done
                 · first | (exfalso; omega) | (rw [k2]; unfold cJoin; (repeat (first | rw [if_pos (by omega)] | rw [if_neg (by omega)])); done)
                 · first | (exfalso; omega) | (rw [k2]; unfold cJoin; (repeat (first | rw [if_pos (by omega)] | rw [if_neg (by omega)])); done))
              | (rcases hoc with ⟨k1, k2⟩ | ⟨k1, k2⟩ | ⟨k1, k2⟩
                 · first | (exfalso; omega) | (rw [k2]; unfold cJoin; (repeat (first | rw [if_pos (by omega)] | rw [if_neg (by omega)])); done)
                 · first | (exfalso; omega) | (rw [k2]; unfold cJoin; (repeat (first | rw [if_pos (by omega)] | rw [if_neg (by omega)])); done)
                 · first | (exfalso; omega) | (rw [k2]; unfold cJoin; (repeat (first | rw [if_pos (by omega)] | rw [if_neg (by omega)])); done))
          · refine r_lload_n dX11_positiveOf_104 rfl ?_
            refine r_lload dX11_positiveOf_105 rfl ?_
            refine r_lcmp3 dX11_positiveOf_107 (fun c107 => ?_) (fun c107 => ?_) (fun c107 => ?_)
            · refine r_if_le (tgt := 125) dX11_positiveOf_108 rfl (fun _ => ?_) (fun h => absurd h (by decide))
              refine r_iconst dX11_positiveOf_125 li_0 ?_
              refine r_zretq dX11_positiveOf_126 rfl od_nz0 rfl ⟨_, rfl, by omega, ?_⟩
              rw [eP]
              have z := hq58.2.2.1
              have z2 := hq32.2.2.1
              have bx : (pNx (pSumL c v pl lw L s).1).1 = (pSumL c v pl lw L s).1.1 + 1 := rfl
              have q := hq58.2.2.2
              rw [od_up_at, if_neg (by omega)] at q
              refine ⟨(hq32.1.tr f2).tr hq58.1, hq58.2.1, by show s.1 ≤ (pSumL c v pl lw L (pNx (pSumL c v pl lw L s).1)).1.1; omega, BrQ.cmp hq32.2.2.2 q hob.1 (fun l1 b1 => ?_)⟩
              first
              | (exfalso; omega)
              | (rcases hoc with ⟨k1, k2⟩ | ⟨k1, k2⟩ | ⟨k1, k2⟩
                 · rw [k2]; unfold cJoin; (repeat (first | rw [if_pos (by omega)] | rw [if_neg (by omega)])); done
                 · first | (exfalso; omega) | (rw [k2]; unfold cJoin; (repeat (first | rw [if_pos (by omega)] | rw [if_neg (by omega)])); done)
                 · first | (exfalso; omega) | (rw [k2]; unfold cJoin; (repeat (first | rw [if_pos (by omega)] | rw [if_neg (by omega)])); done))
              | (rcases hoc with ⟨k1, k2⟩ | ⟨k1, k2⟩ | ⟨k1, k2⟩
                 · first | (exfalso; omega) | (rw [k2]; unfold cJoin; (repeat (first | rw [if_pos (by omega)] | rw [if_neg (by omega)])); done)
                 · first | (exfalso; omega) | (rw [k2]; unfold cJoin; (repeat (first | rw [if_pos (by omega)] | rw [if_neg (by omega)])); done)
                 · first | (exfalso; omega) | (rw [k2]; unfold cJoin; (repeat (first | rw [if_pos (by omega)] | rw [if_neg (by omega)])); done))
            · refine r_if_le (tgt := 125) dX11_positiveOf_108 rfl (fun _ => ?_) (fun h => absurd h (by decide))
              refine r_iconst dX11_positiveOf_125 li_0 ?_
              refine r_zretq dX11_positiveOf_126 rfl od_nz0 rfl ⟨_, rfl, by omega, ?_⟩
              rw [eP]
              have z := hq58.2.2.1
              have z2 := hq32.2.2.1
              have bx : (pNx (pSumL c v pl lw L s).1).1 = (pSumL c v pl lw L s).1.1 + 1 := rfl
              have q := hq58.2.2.2
              rw [od_up_at, if_neg (by omega)] at q
              refine ⟨(hq32.1.tr f2).tr hq58.1, hq58.2.1, by show s.1 ≤ (pSumL c v pl lw L (pNx (pSumL c v pl lw L s).1)).1.1; omega, BrQ.cmp hq32.2.2.2 q hob.1 (fun l1 b1 => ?_)⟩
              first
              | (exfalso; omega)
              | (rcases hoc with ⟨k1, k2⟩ | ⟨k1, k2⟩ | ⟨k1, k2⟩
                 · rw [k2]; unfold cJoin; (repeat (first | rw [if_pos (by omega)] | rw [if_neg (by omega)])); done
                 · first | (exfalso; omega) | (rw [k2]; unfold cJoin; (repeat (first | rw [if_pos (by omega)] | rw [if_neg (by omega)])); done)
                 · first | (exfalso; omega) | (rw [k2]; unfold cJoin; (repeat (first | rw [if_pos (by omega)] | rw [if_neg (by omega)])); done))
              | (rcases hoc with ⟨k1, k2⟩ | ⟨k1, k2⟩ | ⟨k1, k2⟩
                 · first | (exfalso; omega) | (rw [k2]; unfold cJoin; (repeat (first | rw [if_pos (by omega)] | rw [if_neg (by omega)])); done)
                 · first | (exfalso; omega) | (rw [k2]; unfold cJoin; (repeat (first | rw [if_pos (by omega)] | rw [if_neg (by omega)])); done)
                 · first | (exfalso; omega) | (rw [k2]; unfold cJoin; (repeat (first | rw [if_pos (by omega)] | rw [if_neg (by omega)])); done))
            · refine r_if_le (tgt := 125) dX11_positiveOf_108 rfl (fun h => absurd h (by decide)) (fun _ => ?_)
              refine r_goto (tgt := 121) dX11_positiveOf_111 rfl ?_
              refine r_iconst dX11_positiveOf_121 li_1 ?_
              refine r_goto (tgt := 126) dX11_positiveOf_122 rfl ?_
              refine r_zretq dX11_positiveOf_126 rfl od_nz1 rfl ⟨_, rfl, by omega, ?_⟩
              rw [eP]
              have z := hq58.2.2.1
              have z2 := hq32.2.2.1
              have bx : (pNx (pSumL c v pl lw L s).1).1 = (pSumL c v pl lw L s).1.1 + 1 := rfl
              have q := hq58.2.2.2
              rw [od_up_at, if_neg (by omega)] at q
              refine ⟨(hq32.1.tr f2).tr hq58.1, hq58.2.1, by show s.1 ≤ (pSumL c v pl lw L (pNx (pSumL c v pl lw L s).1)).1.1; omega, BrQ.cmp hq32.2.2.2 q hob.1 (fun l1 b1 => ?_)⟩
              first
              | (exfalso; omega)
              | (rcases hoc with ⟨k1, k2⟩ | ⟨k1, k2⟩ | ⟨k1, k2⟩
                 · rw [k2]; unfold cJoin; (repeat (first | rw [if_pos (by omega)] | rw [if_neg (by omega)])); done
                 · first | (exfalso; omega) | (rw [k2]; unfold cJoin; (repeat (first | rw [if_pos (by omega)] | rw [if_neg (by omega)])); done)
                 · first | (exfalso; omega) | (rw [k2]; unfold cJoin; (repeat (first | rw [if_pos (by omega)] | rw [if_neg (by omega)])); done))
              | (rcases hoc with ⟨k1, k2⟩ | ⟨k1, k2⟩ | ⟨k1, k2⟩
                 · first | (exfalso; omega) | (rw [k2]; unfold cJoin; (repeat (first | rw [if_pos (by omega)] | rw [if_neg (by omega)])); done)
                 · first | (exfalso; omega) | (rw [k2]; unfold cJoin; (repeat (first | rw [if_pos (by omega)] | rw [if_neg (by omega)])); done)
                 · first | (exfalso; omega) | (rw [k2]; unfold cJoin; (repeat (first | rw [if_pos (by omega)] | rw [if_neg (by omega)])); done))
        · refine r_lload_n dX11_positiveOf_84 rfl ?_
          refine r_lload dX11_positiveOf_85 rfl ?_
          refine r_lcmp3 dX11_positiveOf_87 (fun c87 => ?_) (fun c87 => ?_) (fun c87 => ?_)
          · refine r_if_ge (tgt := 125) dX11_positiveOf_88 rfl (fun h => absurd h (by decide)) (fun _ => ?_)
            refine r_goto (tgt := 121) dX11_positiveOf_91 rfl ?_
            refine r_iconst dX11_positiveOf_121 li_1 ?_
            refine r_goto (tgt := 126) dX11_positiveOf_122 rfl ?_
            refine r_zretq dX11_positiveOf_126 rfl od_nz1 rfl ⟨_, rfl, by omega, ?_⟩
            rw [eP]
            have z := hq58.2.2.1
            have z2 := hq32.2.2.1
            have bx : (pNx (pSumL c v pl lw L s).1).1 = (pSumL c v pl lw L s).1.1 + 1 := rfl
            have q := hq58.2.2.2
            rw [od_up_at, if_neg (by omega)] at q
            refine ⟨(hq32.1.tr f2).tr hq58.1, hq58.2.1, by show s.1 ≤ (pSumL c v pl lw L (pNx (pSumL c v pl lw L s).1)).1.1; omega, BrQ.cmp hq32.2.2.2 q hob.1 (fun l1 b1 => ?_)⟩
            first
            | (exfalso; omega)
            | (rcases hoc with ⟨k1, k2⟩ | ⟨k1, k2⟩ | ⟨k1, k2⟩
               · rw [k2]; unfold cJoin; (repeat (first | rw [if_pos (by omega)] | rw [if_neg (by omega)])); done
               · first | (exfalso; omega) | (rw [k2]; unfold cJoin; (repeat (first | rw [if_pos (by omega)] | rw [if_neg (by omega)])); done)
               · first | (exfalso; omega) | (rw [k2]; unfold cJoin; (repeat (first | rw [if_pos (by omega)] | rw [if_neg (by omega)])); done))
            | (rcases hoc with ⟨k1, k2⟩ | ⟨k1, k2⟩ | ⟨k1, k2⟩
               · first | (exfalso; omega) | (rw [k2]; unfold cJoin; (repeat (first | rw [if_pos (by omega)] | rw [if_neg (by omega)])); done)
               · first | (exfalso; omega) | (rw [k2]; unfold cJoin; (repeat (first | rw [if_pos (by omega)] | rw [if_neg (by omega)])); done)
               · first | (exfalso; omega) | (rw [k2]; unfold cJoin; (repeat (first | rw [if_pos (by omega)] | rw [if_neg (by omega)])); done))
          · refine r_if_ge (tgt := 125) dX11_positiveOf_88 rfl (fun _ => ?_) (fun h => absurd h (by decide))
            refine r_iconst dX11_positiveOf_125 li_0 ?_
            refine r_zretq dX11_positiveOf_126 rfl od_nz0 rfl ⟨_, rfl, by omega, ?_⟩
            rw [eP]
            have z := hq58.2.2.1
            have z2 := hq32.2.2.1
            have bx : (pNx (pSumL c v pl lw L s).1).1 = (pSumL c v pl lw L s).1.1 + 1 := rfl
            have q := hq58.2.2.2
            rw [od_up_at, if_neg (by omega)] at q
            refine ⟨(hq32.1.tr f2).tr hq58.1, hq58.2.1, by show s.1 ≤ (pSumL c v pl lw L (pNx (pSumL c v pl lw L s).1)).1.1; omega, BrQ.cmp hq32.2.2.2 q hob.1 (fun l1 b1 => ?_)⟩
            first
            | (exfalso; omega)
            | (rcases hoc with ⟨k1, k2⟩ | ⟨k1, k2⟩ | ⟨k1, k2⟩
               · rw [k2]; unfold cJoin; (repeat (first | rw [if_pos (by omega)] | rw [if_neg (by omega)])); done
               · first | (exfalso; omega) | (rw [k2]; unfold cJoin; (repeat (first | rw [if_pos (by omega)] | rw [if_neg (by omega)])); done)
               · first | (exfalso; omega) | (rw [k2]; unfold cJoin; (repeat (first | rw [if_pos (by omega)] | rw [if_neg (by omega)])); done))
            | (rcases hoc with ⟨k1, k2⟩ | ⟨k1, k2⟩ | ⟨k1, k2⟩
               · first | (exfalso; omega) | (rw [k2]; unfold cJoin; (repeat (first | rw [if_pos (by omega)] | rw [if_neg (by omega)])); done)
               · first | (exfalso; omega) | (rw [k2]; unfold cJoin; (repeat (first | rw [if_pos (by omega)] | rw [if_neg (by omega)])); done)
               · first | (exfalso; omega) | (rw [k2]; unfold cJoin; (repeat (first | rw [if_pos (by omega)] | rw [if_neg (by omega)])); done))
          · refine r_if_ge (tgt := 125) dX11_positiveOf_88 rfl (fun _ => ?_) (fun h => absurd h (by decide))
            refine r_iconst dX11_positiveOf_125 li_0 ?_
            refine r_zretq dX11_positiveOf_126 rfl od_nz0 rfl ⟨_, rfl, by omega, ?_⟩
            rw [eP]
            have z := hq58.2.2.1
            have z2 := hq32.2.2.1
            have bx : (pNx (pSumL c v pl lw L s).1).1 = (pSumL c v pl lw L s).1.1 + 1 := rfl
            have q := hq58.2.2.2
            rw [od_up_at, if_neg (by omega)] at q
            refine ⟨(hq32.1.tr f2).tr hq58.1, hq58.2.1, by show s.1 ≤ (pSumL c v pl lw L (pNx (pSumL c v pl lw L s).1)).1.1; omega, BrQ.cmp hq32.2.2.2 q hob.1 (fun l1 b1 => ?_)⟩
            first
            | (exfalso; omega)
            | (rcases hoc with ⟨k1, k2⟩ | ⟨k1, k2⟩ | ⟨k1, k2⟩
               · rw [k2]; unfold cJoin; (repeat (first | rw [if_pos (by omega)] | rw [if_neg (by omega)])); done
               · first | (exfalso; omega) | (rw [k2]; unfold cJoin; (repeat (first | rw [if_pos (by omega)] | rw [if_neg (by omega)])); done)
               · first | (exfalso; omega) | (rw [k2]; unfold cJoin; (repeat (first | rw [if_pos (by omega)] | rw [if_neg (by omega)])); done))
            | (rcases hoc with ⟨k1, k2⟩ | ⟨k1, k2⟩ | ⟨k1, k2⟩
               · first | (exfalso; omega) | (rw [k2]; unfold cJoin; (repeat (first | rw [if_pos (by omega)] | rw [if_neg (by omega)])); done)
               · first | (exfalso; omega) | (rw [k2]; unfold cJoin; (repeat (first | rw [if_pos (by omega)] | rw [if_neg (by omega)])); done)
               · first | (exfalso; omega) | (rw [k2]; unfold cJoin; (repeat (first | rw [if_pos (by omega)] | rw [if_neg (by omega)])); done))
set_option maxRecDepth 10000 in
theorem lp_X11_plO {E : od_E} {g : od_G} {M : Int} (hm : MoAt E M) {b N : Int} {c v pl : Int → Int} {lw : Bool} {w : Int → Int} (hv : EV g M b N c v lw w) (hp : ∀ i : Int, 0 ≤ pl i) {s : pS} {lv : Int} (hl : lv = 0 ∨ lv = 1) (hbr : g M 24 = 0 ∨ g M 24 = 1) (hg : g M 22 = b + s.1) (hs0 : 0 ≤ s.1) (hb : s.2.2 = -1) {L : Nat} (hf : (pPlain c pl (pSumL c v pl lw L) (pTub c v pl lw L) s).1.2.2 = -1) (hI : EPos E M b N c v pl lw w L) : ∀ (m : Nat) (gw : od_G) (f : Nat) (s1 : pS) (nb : Bool) (no : Int), (pNots c f s1 nb = pNots c 400 s false ∧ N - s1.1 ≤ f ∧ od_fr (XB M) g gw ∧ gw M 22 = b + s1.1 ∧ gw M 24 = g M 24 ∧ s.1 ≤ s1.1 ∧ s1.2.2 = -1 ∧ no = (if nb = true then 1 else 0)) → ((N - s1.1).toNat) < m → od_Rq (9 + 4 * L) mX11_plainOf od_Z0 E (E, fun o g' => ∃ x : Int, o = some (0, x) ∧ (x = 0 ∨ x = 1) ∧ EQ g g' M b w lv x s (pPlain c pl (pSumL c v pl lw L) (pTub c v pl lw L) s)) 2 [some (2, M), some (0, lv), some (0, no)] [] E gw := by
  have hb0 := hv.1.2.1
  have hN0 := hv.1.2.2.1
  intro m
  induction m with
  | zero => intro gw f s1 nb no hi hM; exact absurd hM (Nat.not_lt_zero _)
  | succ m ih =>
    intro gw f s1 nb no hi hM
    obtain ⟨hF, hfu, hfw, hgw, hw24, hss, hs1b, hno⟩ := hi
    have hvw := hv.fr hfw
    refine r_aload_n dX11_plainOf_2 rfl ?_
    refine r_bipush dX11_plainOf_3 lb_7 ?_
    refine r_callV1p dX11_plainOf_5 cvX11_287 (mo_o hm) (c_X11_passes0 hm hvw (i := s1.1) (by omega) hgw _ (by omega)) (by omega) (Nat.le_of_ble_eq_true rfl) od_le.rf (fun r5 g5 h5 => ?_)
    rcases h5 with ⟨rfl, h5⟩ | ⟨rfl, h5⟩
    · show od_Rq _ _ _ _ _ _ _ ((0, 1) :: _) _ _
      skip
      refine r_if_eq (tgt := 24) dX11_plainOf_8 rfl (fun h => absurd h (by decide)) (fun _ => ?_)
      refine r_iload_n dX11_plainOf_11 rfl ?_
      refine r_if_ne (tgt := 19) dX11_plainOf_12 rfl (fun c12 => ?_) (fun c12 => ?_)
      · refine r_iconst dX11_plainOf_19 li_0 ?_
        refine r_istore_n dX11_plainOf_20 (by decide) rfl ?_
        refine r_goto (tgt := 2) dX11_plainOf_21 rfl ?_
        obtain ⟨h5a, rfl⟩ := h5
        have lt := hvw.lt (i := s1.1) (by omega)
        obtain ⟨f0, hf0⟩ : ∃ f0 : Nat, f = f0 + 1 := ⟨f - 1, by omega⟩
        have bx : (pNx s1).1 = s1.1 + 1 := rfl
        refine ih _ f0 (pNx s1) (!nb) _ ⟨by rw [← hF, hf0, pNots_s ⟨hs1b, by omega⟩], by omega, hfw.up (by unfold XB; omega), by rw [od_up_at, if_pos rfl]; rfl, by rw [od_up_at, if_neg (by omega)]; exact hw24, by omega, hs1b, ?_⟩ (by omega)
        cases nb with
        | true => first | rfl | (rw [if_pos rfl] at hno; omega)
        | false => first | rfl | (rw [if_neg (by decide)] at hno; omega)
      · refine r_iconst dX11_plainOf_15 li_1 ?_
        refine r_goto (tgt := 20) dX11_plainOf_16 rfl ?_
        refine r_istore_n dX11_plainOf_20 (by decide) rfl ?_
        refine r_goto (tgt := 2) dX11_plainOf_21 rfl ?_
        obtain ⟨h5a, rfl⟩ := h5
        have lt := hvw.lt (i := s1.1) (by omega)
        obtain ⟨f0, hf0⟩ : ∃ f0 : Nat, f = f0 + 1 := ⟨f - 1, by omega⟩
        have bx : (pNx s1).1 = s1.1 + 1 := rfl
        refine ih _ f0 (pNx s1) (!nb) _ ⟨by rw [← hF, hf0, pNots_s ⟨hs1b, by omega⟩], by omega, hfw.up (by unfold XB; omega), by rw [od_up_at, if_pos rfl]; rfl, by rw [od_up_at, if_neg (by omega)]; exact hw24, by omega, hs1b, ?_⟩ (by omega)
        cases nb with
        | true => first | rfl | (rw [if_pos rfl] at hno; omega)
        | false => first | rfl | (rw [if_neg (by decide)] at hno; omega)
    · show od_Rq _ _ _ _ _ _ _ ((0, 0) :: _) _ _
      skip
      refine r_if_eq (tgt := 24) dX11_plainOf_8 rfl (fun _ => ?_) (fun h => absurd h (by decide))
      obtain ⟨n5, rfl⟩ := h5
      have hn5 : pNots c 400 s false = (s1, nb) := by rw [← hF, pNots_e (fun z => n5 z.2)]
      have eP : pPlain c pl (pSumL c v pl lw L) (pTub c v pl lw L) s = ((pPos c pl (pSumL c v pl lw L) (pTub c v pl lw L) false s1).1, pNot nb (pPos c pl (pSumL c v pl lw L) (pTub c v pl lw L) false s1).2) := by
        unfold pPlain
        rw [hn5]
        exact pPos_not _ _ _ _ _ _
      have hPf : (pPos c pl (pSumL c v pl lw L) (pTub c v pl lw L) false s1).1.2.2 = -1 := by
        have z := hf
        rw [eP] at z
        exact z
      refine r_aload_n dX11_plainOf_24 rfl ?_
      refine r_iload_n dX11_plainOf_25 rfl ?_
      refine r_callV1p dX11_plainOf_26 cvX11_320 (mo_o hm) (hI _ s1 lv hvw hl (by rw [hw24]; exact hbr) hgw (by omega) hs1b hPf) (by omega) (Nat.le_of_ble_eq_true rfl) od_le.rf (fun r26 g26 h26 => ?_)
      obtain ⟨x26, rfl, hx26, hq26⟩ := h26
      show od_Rq _ _ _ _ _ _ _ ((0, _) :: _) _ _
      refine r_iload_n dX11_plainOf_29 rfl ?_
      refine r_icmp_eq (tgt := 37) dX11_plainOf_30 rfl (fun c30 => ?_) (fun c30 => ?_)
      · refine r_iconst dX11_plainOf_37 li_0 ?_
        refine r_zretq dX11_plainOf_38 rfl od_nz0 rfl ⟨_, rfl, by omega, ?_⟩
        rw [eP]
        refine ⟨hfw.tr hq26.1, hq26.2.1, Int.le_trans hss hq26.2.2.1, ?_⟩
        have q := BrQ.nt (b := nb) hx26 hq26.2.2.2
        rw [hw24] at q
        have e : (if nb = true then 1 - x26 else x26) = 0 := by
          cases nb with
          | true => rw [if_pos rfl] at hno ⊢; omega
          | false => rw [if_neg (by decide)] at hno ⊢; omega
        rw [e] at q
        exact q
      · refine r_iconst dX11_plainOf_33 li_1 ?_
        refine r_goto (tgt := 38) dX11_plainOf_34 rfl ?_
        refine r_zretq dX11_plainOf_38 rfl od_nz1 rfl ⟨_, rfl, by omega, ?_⟩
        rw [eP]
        refine ⟨hfw.tr hq26.1, hq26.2.1, Int.le_trans hss hq26.2.2.1, ?_⟩
        have q := BrQ.nt (b := nb) hx26 hq26.2.2.2
        rw [hw24] at q
        have e : (if nb = true then 1 - x26 else x26) = 1 := by
          cases nb with
          | true => rw [if_pos rfl] at hno ⊢; omega
          | false => rw [if_neg (by decide)] at hno ⊢; omega
        rw [e] at q
        exact q
set_option maxRecDepth 10000 in
theorem c_X11_plainOf {E : od_E} {g : od_G} {M : Int} (hm : MoAt E M) {b N : Int} {c v pl : Int → Int} {lw : Bool} {w : Int → Int} (hv : EV g M b N c v lw w) (hp : ∀ i : Int, 0 ≤ pl i) {s : pS} {lv : Int} (hl : lv = 0 ∨ lv = 1) (hbr : g M 24 = 0 ∨ g M 24 = 1) (hg : g M 22 = b + s.1) (hs0 : 0 ≤ s.1) (hb : s.2.2 = -1) {L : Nat} (hf : (pPlain c pl (pSumL c v pl lw L) (pTub c v pl lw L) s).1.2.2 = -1) (hI : EPos E M b N c v pl lw w L) : od_Cq (9 + 4 * L) mX11_plainOf [(2, M), (0, lv)] E g (E, fun o g' => ∃ x : Int, o = some (0, x) ∧ (x = 0 ∨ x = 1) ∧ EQ g g' M b w lv x s (pPlain c pl (pSumL c v pl lw L) (pTub c v pl lw L) s)) := by
  have hb0 := hv.1.2.1
  have hN0 := hv.1.2.2.1
  refine od_cqI pnX11 rfl (Nat.le_of_ble_eq_true rfl) od_le.rf ?_
  show od_Rq (9 + 4 * L) mX11_plainOf od_Z0 E (E, fun o g' => ∃ x : Int, o = some (0, x) ∧ (x = 0 ∨ x = 1) ∧ EQ g g' M b w lv x s (pPlain c pl (pSumL c v pl lw L) (pTub c v pl lw L) s)) 0 [some (2, M), some (0, lv), none] [] E g
  refine r_iconst dX11_plainOf_0 li_0 ?_
  refine r_istore_n dX11_plainOf_1 (by decide) rfl ?_
  exact lp_X11_plO hm hv hp hl hbr hg hs0 hb hf hI _ _ 400 s false _ ⟨rfl, by omega, od_fr.rf, hg, rfl, Int.le_refl _, hb, rfl⟩ (Nat.lt_succ_self _)
theorem pAO_fine {c : Int → Int} {k st : Int} {P : pS → pR} {f : Nat} {r : pR} (h : (pAO c k st P f r).1.2.2 = -1) : r.1.2.2 = -1 := by
  by_cases z : r.1.2.2 = -1
  · exact z
  · rw [pAO_e (fun q => z q.1)] at h
    exact h
set_option maxRecDepth 10000 in
theorem lp_X11_bothOf {E : od_E} {g : od_G} {M : Int} (hm : MoAt E M) {b N : Int} {c v pl : Int → Int} {lw : Bool} {w : Int → Int} (hv : EV g M b N c v lw w) (hp : ∀ i : Int, 0 ≤ pl i) {s : pS} {lv : Int} (hl : lv = 0 ∨ lv = 1) (hbr : g M 24 = 0 ∨ g M 24 = 1) (hg : g M 22 = b + s.1) (hs0 : 0 ≤ s.1) (hb : s.2.2 = -1) {L : Nat} (hf : (pBoth c pl (pSumL c v pl lw L) (pTub c v pl lw L) s).1.2.2 = -1) (hI : EPln E M b N c v pl lw w L) : ∀ (m : Nat) (gw : od_G) (f : Nat) (r : pR) (x : Int) (L3 : Option od_V), (pAO c 6 0 (pPlain c pl (pSumL c v pl lw L) (pTub c v pl lw L)) f r = pBoth c pl (pSumL c v pl lw L) (pTub c v pl lw L) s ∧ N - r.1.1 ≤ f ∧ (x = 0 ∨ x = 1) ∧ EQ g gw M b w lv x s r) → ((N - r.1.1).toNat) < m → od_Rq (10 + 4 * L) mX11_bothOf od_Z0 E (E, fun o g' => ∃ x : Int, o = some (0, x) ∧ (x = 0 ∨ x = 1) ∧ EQ g g' M b w lv x s (pBoth c pl (pSumL c v pl lw L) (pTub c v pl lw L) s)) 6 [some (2, M), some (0, lv), some (0, x), L3] [] E gw := by
  have hb0 := hv.1.2.1
  have hN0 := hv.1.2.2.1
  intro m
  induction m with
  | zero => intro gw f r x L3 hi hM; exact absurd hM (Nat.not_lt_zero _)
  | succ m ih =>
    intro gw f r x L3 hi hM
    obtain ⟨hF, hfu, hx01, hq⟩ := hi
    have hvw := hv.fr hq.1
    have e22 := hq.2.1
    have hbw := hq.2.2.2.1
    have hr0 := hq.2.2.1
    have hrb : r.1.2.2 = -1 := pAO_fine (by rw [hF]; exact hf)
    refine r_aload_n dX11_bothOf_6 rfl ?_
    refine r_bipush dX11_bothOf_7 lb_6 ?_
    refine r_callV1p dX11_bothOf_9 cvX11_287 (mo_o hm) (c_X11_passes0 hm hvw (i := r.1.1) (by omega) e22 _ (by omega)) (by omega) (Nat.le_of_ble_eq_true rfl) od_le.rf (fun r9 g9 h9 => ?_)
    rcases h9 with ⟨rfl, h9⟩ | ⟨rfl, h9⟩
    · show od_Rq _ _ _ _ _ _ _ ((0, 1) :: _) _ _
      skip
      refine r_if_eq (tgt := 50) dX11_bothOf_12 rfl (fun h => absurd h (by decide)) (fun _ => ?_)
      obtain ⟨hy, rfl⟩ := h9
      have lt := hvw.lt (i := r.1.1) (by omega)
      obtain ⟨f0, hf0⟩ : ∃ f0 : Nat, f = f0 + 1 := ⟨f - 1, by omega⟩
      have f1 : od_fr (XB M) gw (od_up gw M 22 (b + (r.1.1 + 1))) := od_fr.rf.up (by unfold XB; omega)
      have hPf : (pPlain c pl (pSumL c v pl lw L) (pTub c v pl lw L) (pNx r.1)).1.2.2 = -1 := by
        have z := hf
        rw [← hF, hf0, pAO_s ⟨hrb, by omega⟩] at z
        have y := pAO_fine z
        exact y
      refine r_aload_n dX11_bothOf_15 rfl ?_
      refine r_iload_n dX11_bothOf_16 rfl ?_
      refine r_if_eq (tgt := 28) dX11_bothOf_17 rfl (fun c17 => ?_) (fun c17 => ?_)
      · refine r_iconst dX11_bothOf_28 li_0 ?_
        refine r_callV1p dX11_bothOf_29 cvX11_317 (mo_o hm) (hI _ (pNx r.1) 0 (hvw.fr f1) (by omega) (by rw [od_up_at, if_neg (by omega)]; exact hbw) (by rw [od_up_at, if_pos rfl]; rfl) (by show 0 ≤ r.1.1 + 1; omega) hrb hPf) (by omega) (Nat.le_of_ble_eq_true rfl) od_le.rf (fun r29 g29 h29 => ?_)
        obtain ⟨xc, rfl, hxc, hqc⟩ := h29
        show od_Rq _ _ _ _ _ _ _ ((0, _) :: _) _ _
        refine r_istore_n dX11_bothOf_32 (by decide) rfl ?_
        refine r_iload_n dX11_bothOf_33 rfl ?_
        refine r_if_eq (tgt := 45) dX11_bothOf_34 rfl (fun c34 => ?_) (fun c34 => ?_)
        · refine r_iconst dX11_bothOf_45 li_0 ?_
          refine r_istore_n dX11_bothOf_46 (by decide) rfl ?_
          refine r_goto (tgt := 6) dX11_bothOf_47 rfl ?_
          first
          | (exfalso; omega)
          | (have z := hqc.2.2.1
             have bx : (pNx r.1).1 = r.1.1 + 1 := rfl
             have e24 := hqc.2.2.2
             rw [od_up_at, if_neg (by omega)] at e24
             have q := BrQ.sc (st := 0) hl hq.2.2.2 e24 (by first | rw [if_pos ⟨by omega, by omega⟩] | rw [if_neg (by omega)])
             have eX : (if x = 0 then x else xc) = 0 := by first | (rw [if_pos (by omega)]; omega) | (rw [if_neg (by omega)]; omega)
             rw [eX] at q
             exact ih _ f0 ((pPlain c pl (pSumL c v pl lw L) (pTub c v pl lw L) (pNx r.1)).1, pSc 0 r.2 (pPlain c pl (pSumL c v pl lw L) (pTub c v pl lw L) (pNx r.1)).2) _ _ ⟨by rw [← hF, hf0, pAO_s ⟨hrb, by omega⟩], by show N - (pPlain c pl (pSumL c v pl lw L) (pTub c v pl lw L) (pNx r.1)).1.1 ≤ _; omega, by omega, (hq.1.tr f1).tr hqc.1, hqc.2.1, by show s.1 ≤ (pPlain c pl (pSumL c v pl lw L) (pTub c v pl lw L) (pNx r.1)).1.1; have := hq.2.2.1; omega, q⟩ (by show (N - (pPlain c pl (pSumL c v pl lw L) (pTub c v pl lw L) (pNx r.1)).1.1).toNat < m; omega))
        · refine r_iload_n dX11_bothOf_37 rfl ?_
          refine r_if_eq (tgt := 45) dX11_bothOf_38 rfl (fun c38 => ?_) (fun c38 => ?_)
          · refine r_iconst dX11_bothOf_45 li_0 ?_
            refine r_istore_n dX11_bothOf_46 (by decide) rfl ?_
            refine r_goto (tgt := 6) dX11_bothOf_47 rfl ?_
            first
            | (exfalso; omega)
            | (have z := hqc.2.2.1
               have bx : (pNx r.1).1 = r.1.1 + 1 := rfl
               have e24 := hqc.2.2.2
               rw [od_up_at, if_neg (by omega)] at e24
               have q := BrQ.sc (st := 0) hl hq.2.2.2 e24 (by first | rw [if_pos ⟨by omega, by omega⟩] | rw [if_neg (by omega)])
               have eX : (if x = 0 then x else xc) = 0 := by first | (rw [if_pos (by omega)]; omega) | (rw [if_neg (by omega)]; omega)
               rw [eX] at q
               exact ih _ f0 ((pPlain c pl (pSumL c v pl lw L) (pTub c v pl lw L) (pNx r.1)).1, pSc 0 r.2 (pPlain c pl (pSumL c v pl lw L) (pTub c v pl lw L) (pNx r.1)).2) _ _ ⟨by rw [← hF, hf0, pAO_s ⟨hrb, by omega⟩], by show N - (pPlain c pl (pSumL c v pl lw L) (pTub c v pl lw L) (pNx r.1)).1.1 ≤ _; omega, by omega, (hq.1.tr f1).tr hqc.1, hqc.2.1, by show s.1 ≤ (pPlain c pl (pSumL c v pl lw L) (pTub c v pl lw L) (pNx r.1)).1.1; have := hq.2.2.1; omega, q⟩ (by show (N - (pPlain c pl (pSumL c v pl lw L) (pTub c v pl lw L) (pNx r.1)).1.1).toNat < m; omega))
          · refine r_iconst dX11_bothOf_41 li_1 ?_
            refine r_goto (tgt := 46) dX11_bothOf_42 rfl ?_
            refine r_istore_n dX11_bothOf_46 (by decide) rfl ?_
            refine r_goto (tgt := 6) dX11_bothOf_47 rfl ?_
            first
            | (exfalso; omega)
            | (have z := hqc.2.2.1
               have bx : (pNx r.1).1 = r.1.1 + 1 := rfl
               have e24 := hqc.2.2.2
               rw [od_up_at, if_neg (by omega)] at e24
               have q := BrQ.sc (st := 0) hl hq.2.2.2 e24 (by first | rw [if_pos ⟨by omega, by omega⟩] | rw [if_neg (by omega)])
               have eX : (if x = 0 then x else xc) = 1 := by first | (rw [if_pos (by omega)]; omega) | (rw [if_neg (by omega)]; omega)
               rw [eX] at q
               exact ih _ f0 ((pPlain c pl (pSumL c v pl lw L) (pTub c v pl lw L) (pNx r.1)).1, pSc 0 r.2 (pPlain c pl (pSumL c v pl lw L) (pTub c v pl lw L) (pNx r.1)).2) _ _ ⟨by rw [← hF, hf0, pAO_s ⟨hrb, by omega⟩], by show N - (pPlain c pl (pSumL c v pl lw L) (pTub c v pl lw L) (pNx r.1)).1.1 ≤ _; omega, by omega, (hq.1.tr f1).tr hqc.1, hqc.2.1, by show s.1 ≤ (pPlain c pl (pSumL c v pl lw L) (pTub c v pl lw L) (pNx r.1)).1.1; have := hq.2.2.1; omega, q⟩ (by show (N - (pPlain c pl (pSumL c v pl lw L) (pTub c v pl lw L) (pNx r.1)).1.1).toNat < m; omega))
      · refine r_iload_n dX11_bothOf_20 rfl ?_
        refine r_if_eq (tgt := 28) dX11_bothOf_21 rfl (fun c21 => ?_) (fun c21 => ?_)
        · refine r_iconst dX11_bothOf_28 li_0 ?_
          refine r_callV1p dX11_bothOf_29 cvX11_317 (mo_o hm) (hI _ (pNx r.1) 0 (hvw.fr f1) (by omega) (by rw [od_up_at, if_neg (by omega)]; exact hbw) (by rw [od_up_at, if_pos rfl]; rfl) (by show 0 ≤ r.1.1 + 1; omega) hrb hPf) (by omega) (Nat.le_of_ble_eq_true rfl) od_le.rf (fun r29 g29 h29 => ?_)
          obtain ⟨xc, rfl, hxc, hqc⟩ := h29
          show od_Rq _ _ _ _ _ _ _ ((0, _) :: _) _ _
          refine r_istore_n dX11_bothOf_32 (by decide) rfl ?_
          refine r_iload_n dX11_bothOf_33 rfl ?_
          refine r_if_eq (tgt := 45) dX11_bothOf_34 rfl (fun c34 => ?_) (fun c34 => ?_)
          · refine r_iconst dX11_bothOf_45 li_0 ?_
            refine r_istore_n dX11_bothOf_46 (by decide) rfl ?_
            refine r_goto (tgt := 6) dX11_bothOf_47 rfl ?_
            first
            | (exfalso; omega)
            | (have z := hqc.2.2.1
               have bx : (pNx r.1).1 = r.1.1 + 1 := rfl
               have e24 := hqc.2.2.2
               rw [od_up_at, if_neg (by omega)] at e24
               have q := BrQ.sc (st := 0) hl hq.2.2.2 e24 (by first | rw [if_pos ⟨by omega, by omega⟩] | rw [if_neg (by omega)])
               have eX : (if x = 0 then x else xc) = 0 := by first | (rw [if_pos (by omega)]; omega) | (rw [if_neg (by omega)]; omega)
               rw [eX] at q
               exact ih _ f0 ((pPlain c pl (pSumL c v pl lw L) (pTub c v pl lw L) (pNx r.1)).1, pSc 0 r.2 (pPlain c pl (pSumL c v pl lw L) (pTub c v pl lw L) (pNx r.1)).2) _ _ ⟨by rw [← hF, hf0, pAO_s ⟨hrb, by omega⟩], by show N - (pPlain c pl (pSumL c v pl lw L) (pTub c v pl lw L) (pNx r.1)).1.1 ≤ _; omega, by omega, (hq.1.tr f1).tr hqc.1, hqc.2.1, by show s.1 ≤ (pPlain c pl (pSumL c v pl lw L) (pTub c v pl lw L) (pNx r.1)).1.1; have := hq.2.2.1; omega, q⟩ (by show (N - (pPlain c pl (pSumL c v pl lw L) (pTub c v pl lw L) (pNx r.1)).1.1).toNat < m; omega))
          · refine r_iload_n dX11_bothOf_37 rfl ?_
            refine r_if_eq (tgt := 45) dX11_bothOf_38 rfl (fun c38 => ?_) (fun c38 => ?_)
            · refine r_iconst dX11_bothOf_45 li_0 ?_
              refine r_istore_n dX11_bothOf_46 (by decide) rfl ?_
              refine r_goto (tgt := 6) dX11_bothOf_47 rfl ?_
              first
              | (exfalso; omega)
              | (have z := hqc.2.2.1
                 have bx : (pNx r.1).1 = r.1.1 + 1 := rfl
                 have e24 := hqc.2.2.2
                 rw [od_up_at, if_neg (by omega)] at e24
                 have q := BrQ.sc (st := 0) hl hq.2.2.2 e24 (by first | rw [if_pos ⟨by omega, by omega⟩] | rw [if_neg (by omega)])
                 have eX : (if x = 0 then x else xc) = 0 := by first | (rw [if_pos (by omega)]; omega) | (rw [if_neg (by omega)]; omega)
                 rw [eX] at q
                 exact ih _ f0 ((pPlain c pl (pSumL c v pl lw L) (pTub c v pl lw L) (pNx r.1)).1, pSc 0 r.2 (pPlain c pl (pSumL c v pl lw L) (pTub c v pl lw L) (pNx r.1)).2) _ _ ⟨by rw [← hF, hf0, pAO_s ⟨hrb, by omega⟩], by show N - (pPlain c pl (pSumL c v pl lw L) (pTub c v pl lw L) (pNx r.1)).1.1 ≤ _; omega, by omega, (hq.1.tr f1).tr hqc.1, hqc.2.1, by show s.1 ≤ (pPlain c pl (pSumL c v pl lw L) (pTub c v pl lw L) (pNx r.1)).1.1; have := hq.2.2.1; omega, q⟩ (by show (N - (pPlain c pl (pSumL c v pl lw L) (pTub c v pl lw L) (pNx r.1)).1.1).toNat < m; omega))
            · refine r_iconst dX11_bothOf_41 li_1 ?_
              refine r_goto (tgt := 46) dX11_bothOf_42 rfl ?_
              refine r_istore_n dX11_bothOf_46 (by decide) rfl ?_
              refine r_goto (tgt := 6) dX11_bothOf_47 rfl ?_
              first
              | (exfalso; omega)
              | (have z := hqc.2.2.1
                 have bx : (pNx r.1).1 = r.1.1 + 1 := rfl
                 have e24 := hqc.2.2.2
                 rw [od_up_at, if_neg (by omega)] at e24
                 have q := BrQ.sc (st := 0) hl hq.2.2.2 e24 (by first | rw [if_pos ⟨by omega, by omega⟩] | rw [if_neg (by omega)])
                 have eX : (if x = 0 then x else xc) = 1 := by first | (rw [if_pos (by omega)]; omega) | (rw [if_neg (by omega)]; omega)
                 rw [eX] at q
                 exact ih _ f0 ((pPlain c pl (pSumL c v pl lw L) (pTub c v pl lw L) (pNx r.1)).1, pSc 0 r.2 (pPlain c pl (pSumL c v pl lw L) (pTub c v pl lw L) (pNx r.1)).2) _ _ ⟨by rw [← hF, hf0, pAO_s ⟨hrb, by omega⟩], by show N - (pPlain c pl (pSumL c v pl lw L) (pTub c v pl lw L) (pNx r.1)).1.1 ≤ _; omega, by omega, (hq.1.tr f1).tr hqc.1, hqc.2.1, by show s.1 ≤ (pPlain c pl (pSumL c v pl lw L) (pTub c v pl lw L) (pNx r.1)).1.1; have := hq.2.2.1; omega, q⟩ (by show (N - (pPlain c pl (pSumL c v pl lw L) (pTub c v pl lw L) (pNx r.1)).1.1).toNat < m; omega))
        · refine r_iconst dX11_bothOf_24 li_1 ?_
          refine r_goto (tgt := 29) dX11_bothOf_25 rfl ?_
          refine r_callV1p dX11_bothOf_29 cvX11_317 (mo_o hm) (hI _ (pNx r.1) 1 (hvw.fr f1) (by omega) (by rw [od_up_at, if_neg (by omega)]; exact hbw) (by rw [od_up_at, if_pos rfl]; rfl) (by show 0 ≤ r.1.1 + 1; omega) hrb hPf) (by omega) (Nat.le_of_ble_eq_true rfl) od_le.rf (fun r29 g29 h29 => ?_)
          obtain ⟨xc, rfl, hxc, hqc⟩ := h29
          show od_Rq _ _ _ _ _ _ _ ((0, _) :: _) _ _
          refine r_istore_n dX11_bothOf_32 (by decide) rfl ?_
          refine r_iload_n dX11_bothOf_33 rfl ?_
          refine r_if_eq (tgt := 45) dX11_bothOf_34 rfl (fun c34 => ?_) (fun c34 => ?_)
          · refine r_iconst dX11_bothOf_45 li_0 ?_
            refine r_istore_n dX11_bothOf_46 (by decide) rfl ?_
            refine r_goto (tgt := 6) dX11_bothOf_47 rfl ?_
            first
            | (exfalso; omega)
            | (have z := hqc.2.2.1
               have bx : (pNx r.1).1 = r.1.1 + 1 := rfl
               have e24 := hqc.2.2.2
               rw [od_up_at, if_neg (by omega)] at e24
               have q := BrQ.sc (st := 0) hl hq.2.2.2 e24 (by first | rw [if_pos ⟨by omega, by omega⟩] | rw [if_neg (by omega)])
               have eX : (if x = 0 then x else xc) = 0 := by first | (rw [if_pos (by omega)]; omega) | (rw [if_neg (by omega)]; omega)
               rw [eX] at q
               exact ih _ f0 ((pPlain c pl (pSumL c v pl lw L) (pTub c v pl lw L) (pNx r.1)).1, pSc 0 r.2 (pPlain c pl (pSumL c v pl lw L) (pTub c v pl lw L) (pNx r.1)).2) _ _ ⟨by rw [← hF, hf0, pAO_s ⟨hrb, by omega⟩], by show N - (pPlain c pl (pSumL c v pl lw L) (pTub c v pl lw L) (pNx r.1)).1.1 ≤ _; omega, by omega, (hq.1.tr f1).tr hqc.1, hqc.2.1, by show s.1 ≤ (pPlain c pl (pSumL c v pl lw L) (pTub c v pl lw L) (pNx r.1)).1.1; have := hq.2.2.1; omega, q⟩ (by show (N - (pPlain c pl (pSumL c v pl lw L) (pTub c v pl lw L) (pNx r.1)).1.1).toNat < m; omega))
          · refine r_iload_n dX11_bothOf_37 rfl ?_
            refine r_if_eq (tgt := 45) dX11_bothOf_38 rfl (fun c38 => ?_) (fun c38 => ?_)
            · refine r_iconst dX11_bothOf_45 li_0 ?_
              refine r_istore_n dX11_bothOf_46 (by decide) rfl ?_
              refine r_goto (tgt := 6) dX11_bothOf_47 rfl ?_
              first
              | (exfalso; omega)
              | (have z := hqc.2.2.1
                 have bx : (pNx r.1).1 = r.1.1 + 1 := rfl
                 have e24 := hqc.2.2.2
                 rw [od_up_at, if_neg (by omega)] at e24
                 have q := BrQ.sc (st := 0) hl hq.2.2.2 e24 (by first | rw [if_pos ⟨by omega, by omega⟩] | rw [if_neg (by omega)])
                 have eX : (if x = 0 then x else xc) = 0 := by first | (rw [if_pos (by omega)]; omega) | (rw [if_neg (by omega)]; omega)
                 rw [eX] at q
                 exact ih _ f0 ((pPlain c pl (pSumL c v pl lw L) (pTub c v pl lw L) (pNx r.1)).1, pSc 0 r.2 (pPlain c pl (pSumL c v pl lw L) (pTub c v pl lw L) (pNx r.1)).2) _ _ ⟨by rw [← hF, hf0, pAO_s ⟨hrb, by omega⟩], by show N - (pPlain c pl (pSumL c v pl lw L) (pTub c v pl lw L) (pNx r.1)).1.1 ≤ _; omega, by omega, (hq.1.tr f1).tr hqc.1, hqc.2.1, by show s.1 ≤ (pPlain c pl (pSumL c v pl lw L) (pTub c v pl lw L) (pNx r.1)).1.1; have := hq.2.2.1; omega, q⟩ (by show (N - (pPlain c pl (pSumL c v pl lw L) (pTub c v pl lw L) (pNx r.1)).1.1).toNat < m; omega))
            · refine r_iconst dX11_bothOf_41 li_1 ?_
              refine r_goto (tgt := 46) dX11_bothOf_42 rfl ?_
              refine r_istore_n dX11_bothOf_46 (by decide) rfl ?_
              refine r_goto (tgt := 6) dX11_bothOf_47 rfl ?_
              first
              | (exfalso; omega)
              | (have z := hqc.2.2.1
                 have bx : (pNx r.1).1 = r.1.1 + 1 := rfl
                 have e24 := hqc.2.2.2
                 rw [od_up_at, if_neg (by omega)] at e24
                 have q := BrQ.sc (st := 0) hl hq.2.2.2 e24 (by first | rw [if_pos ⟨by omega, by omega⟩] | rw [if_neg (by omega)])
                 have eX : (if x = 0 then x else xc) = 1 := by first | (rw [if_pos (by omega)]; omega) | (rw [if_neg (by omega)]; omega)
                 rw [eX] at q
                 exact ih _ f0 ((pPlain c pl (pSumL c v pl lw L) (pTub c v pl lw L) (pNx r.1)).1, pSc 0 r.2 (pPlain c pl (pSumL c v pl lw L) (pTub c v pl lw L) (pNx r.1)).2) _ _ ⟨by rw [← hF, hf0, pAO_s ⟨hrb, by omega⟩], by show N - (pPlain c pl (pSumL c v pl lw L) (pTub c v pl lw L) (pNx r.1)).1.1 ≤ _; omega, by omega, (hq.1.tr f1).tr hqc.1, hqc.2.1, by show s.1 ≤ (pPlain c pl (pSumL c v pl lw L) (pTub c v pl lw L) (pNx r.1)).1.1; have := hq.2.2.1; omega, q⟩ (by show (N - (pPlain c pl (pSumL c v pl lw L) (pTub c v pl lw L) (pNx r.1)).1.1).toNat < m; omega))
    · show od_Rq _ _ _ _ _ _ _ ((0, 0) :: _) _ _
      skip
      refine r_if_eq (tgt := 50) dX11_bothOf_12 rfl (fun _ => ?_) (fun h => absurd h (by decide))
      refine r_iload_n dX11_bothOf_50 rfl ?_
      obtain ⟨na, rfl⟩ := h9
      have hX : pBoth c pl (pSumL c v pl lw L) (pTub c v pl lw L) s = r := by rw [← hF, pAO_e (fun z => na (by have := z.2; omega))]
      rcases hx01 with hx1 | hx1
      · rw [hx1] at hq ⊢
        refine r_zretq dX11_bothOf_51 rfl od_nz0 rfl ⟨_, rfl, Or.inl rfl, ?_⟩
        rw [hX]; exact hq
      · rw [hx1] at hq ⊢
        refine r_zretq dX11_bothOf_51 rfl od_nz1 rfl ⟨_, rfl, Or.inr rfl, ?_⟩
        rw [hX]; exact hq
set_option maxRecDepth 10000 in
theorem c_X11_bothOf {E : od_E} {g : od_G} {M : Int} (hm : MoAt E M) {b N : Int} {c v pl : Int → Int} {lw : Bool} {w : Int → Int} (hv : EV g M b N c v lw w) (hp : ∀ i : Int, 0 ≤ pl i) {s : pS} {lv : Int} (hl : lv = 0 ∨ lv = 1) (hbr : g M 24 = 0 ∨ g M 24 = 1) (hg : g M 22 = b + s.1) (hs0 : 0 ≤ s.1) (hb : s.2.2 = -1) {L : Nat} (hf : (pBoth c pl (pSumL c v pl lw L) (pTub c v pl lw L) s).1.2.2 = -1) (hI : EPln E M b N c v pl lw w L) : od_Cq (10 + 4 * L) mX11_bothOf [(2, M), (0, lv)] E g (E, fun o g' => ∃ x : Int, o = some (0, x) ∧ (x = 0 ∨ x = 1) ∧ EQ g g' M b w lv x s (pBoth c pl (pSumL c v pl lw L) (pTub c v pl lw L) s)) := by
  have hb0 := hv.1.2.1
  have hN0 := hv.1.2.2.1
  have hPs : (pPlain c pl (pSumL c v pl lw L) (pTub c v pl lw L) s).1.2.2 = -1 := pAO_fine hf
  refine od_cqI pnX11 rfl (Nat.le_of_ble_eq_true rfl) od_le.rf ?_
  show od_Rq (10 + 4 * L) mX11_bothOf od_Z0 E (E, fun o g' => ∃ x : Int, o = some (0, x) ∧ (x = 0 ∨ x = 1) ∧ EQ g g' M b w lv x s (pBoth c pl (pSumL c v pl lw L) (pTub c v pl lw L) s)) 0 [some (2, M), some (0, lv), none, none] [] E g
  refine r_aload_n dX11_bothOf_0 rfl ?_
  refine r_iload_n dX11_bothOf_1 rfl ?_
  refine r_callV1p dX11_bothOf_2 cvX11_317 (mo_o hm) (hI g s lv hv hl hbr hg hs0 hb hPs) (by omega) (Nat.le_of_ble_eq_true rfl) od_le.rf (fun r2 g2 h2 => ?_)
  obtain ⟨x2, rfl, hx2, hq2⟩ := h2
  show od_Rq _ _ _ _ _ _ _ ((0, _) :: _) _ _
  refine r_istore_n dX11_bothOf_5 (by decide) rfl ?_
  exact lp_X11_bothOf hm hv hp hl hbr hg hs0 hb hf hI _ _ 400 (pPlain c pl (pSumL c v pl lw L) (pTub c v pl lw L) s) _ _ ⟨rfl, by have := hq2.2.2.1; omega, hx2, hq2⟩ (Nat.lt_succ_self _)
set_option maxRecDepth 10000 in
theorem lp_X11_testOf {E : od_E} {g : od_G} {M : Int} (hm : MoAt E M) {b N : Int} {c v pl : Int → Int} {lw : Bool} {w : Int → Int} (hv : EV g M b N c v lw w) (hp : ∀ i : Int, 0 ≤ pl i) {s : pS} {lv : Int} (hl : lv = 0 ∨ lv = 1) (hbr : g M 24 = 0 ∨ g M 24 = 1) (hg : g M 22 = b + s.1) (hs0 : 0 ≤ s.1) (hb : s.2.2 = -1) {L : Nat} (hf : (pTest c pl (pSumL c v pl lw L) (pTub c v pl lw L) s).1.2.2 = -1) (hI : EBth E M b N c v pl lw w L) : ∀ (m : Nat) (gw : od_G) (f : Nat) (r : pR) (x : Int) (L3 : Option od_V), (pAO c 5 1 (pBoth c pl (pSumL c v pl lw L) (pTub c v pl lw L)) f r = pTest c pl (pSumL c v pl lw L) (pTub c v pl lw L) s ∧ N - r.1.1 ≤ f ∧ (x = 0 ∨ x = 1) ∧ EQ g gw M b w lv x s r) → ((N - r.1.1).toNat) < m → od_Rq (11 + 4 * L) mX11_testOf od_Z0 E (E, fun o g' => ∃ x : Int, o = some (0, x) ∧ (x = 0 ∨ x = 1) ∧ EQ g g' M b w lv x s (pTest c pl (pSumL c v pl lw L) (pTub c v pl lw L) s)) 6 [some (2, M), some (0, lv), some (0, x), L3] [] E gw := by
  have hb0 := hv.1.2.1
  have hN0 := hv.1.2.2.1
  intro m
  induction m with
  | zero => intro gw f r x L3 hi hM; exact absurd hM (Nat.not_lt_zero _)
  | succ m ih =>
    intro gw f r x L3 hi hM
    obtain ⟨hF, hfu, hx01, hq⟩ := hi
    have hvw := hv.fr hq.1
    have e22 := hq.2.1
    have hbw := hq.2.2.2.1
    have hr0 := hq.2.2.1
    have hrb : r.1.2.2 = -1 := pAO_fine (by rw [hF]; exact hf)
    refine r_aload_n dX11_testOf_6 rfl ?_
    refine r_iconst dX11_testOf_7 li_5 ?_
    refine r_callV1p dX11_testOf_8 cvX11_287 (mo_o hm) (c_X11_passes0 hm hvw (i := r.1.1) (by omega) e22 _ (by omega)) (by omega) (Nat.le_of_ble_eq_true rfl) od_le.rf (fun r8 g8 h8 => ?_)
    rcases h8 with ⟨rfl, h8⟩ | ⟨rfl, h8⟩
    · show od_Rq _ _ _ _ _ _ _ ((0, 1) :: _) _ _
      skip
      refine r_if_eq (tgt := 49) dX11_testOf_11 rfl (fun h => absurd h (by decide)) (fun _ => ?_)
      obtain ⟨hy, rfl⟩ := h8
      have lt := hvw.lt (i := r.1.1) (by omega)
      obtain ⟨f0, hf0⟩ : ∃ f0 : Nat, f = f0 + 1 := ⟨f - 1, by omega⟩
      have f1 : od_fr (XB M) gw (od_up gw M 22 (b + (r.1.1 + 1))) := od_fr.rf.up (by unfold XB; omega)
      have hPf : (pBoth c pl (pSumL c v pl lw L) (pTub c v pl lw L) (pNx r.1)).1.2.2 = -1 := by
        have z := hf
        rw [← hF, hf0, pAO_s ⟨hrb, by omega⟩] at z
        have y := pAO_fine z
        exact y
      refine r_aload_n dX11_testOf_14 rfl ?_
      refine r_iload_n dX11_testOf_15 rfl ?_
      refine r_if_eq (tgt := 27) dX11_testOf_16 rfl (fun c16 => ?_) (fun c16 => ?_)
      · refine r_iconst dX11_testOf_27 li_0 ?_
        refine r_callV1p dX11_testOf_28 cvX11_314 (mo_o hm) (hI _ (pNx r.1) 0 (hvw.fr f1) (by omega) (by rw [od_up_at, if_neg (by omega)]; exact hbw) (by rw [od_up_at, if_pos rfl]; rfl) (by show 0 ≤ r.1.1 + 1; omega) hrb hPf) (by omega) (Nat.le_of_ble_eq_true rfl) od_le.rf (fun r28 g28 h28 => ?_)
        obtain ⟨xc, rfl, hxc, hqc⟩ := h28
        show od_Rq _ _ _ _ _ _ _ ((0, _) :: _) _ _
        refine r_istore_n dX11_testOf_31 (by decide) rfl ?_
        refine r_iload_n dX11_testOf_32 rfl ?_
        refine r_if_ne (tgt := 40) dX11_testOf_33 rfl (fun c33 => ?_) (fun c33 => ?_)
        · refine r_iconst dX11_testOf_40 li_1 ?_
          refine r_goto (tgt := 45) dX11_testOf_41 rfl ?_
          refine r_istore_n dX11_testOf_45 (by decide) rfl ?_
          refine r_goto (tgt := 6) dX11_testOf_46 rfl ?_
          first
          | (exfalso; omega)
          | (have z := hqc.2.2.1
             have bx : (pNx r.1).1 = r.1.1 + 1 := rfl
             have e24 := hqc.2.2.2
             rw [od_up_at, if_neg (by omega)] at e24
             have q := BrQ.sc (st := 1) hl hq.2.2.2 e24 (by first | rw [if_pos ⟨by omega, by omega⟩] | rw [if_neg (by omega)])
             have eX : (if x = 1 then x else xc) = 1 := by first | (rw [if_pos (by omega)]; omega) | (rw [if_neg (by omega)]; omega)
             rw [eX] at q
             exact ih _ f0 ((pBoth c pl (pSumL c v pl lw L) (pTub c v pl lw L) (pNx r.1)).1, pSc 1 r.2 (pBoth c pl (pSumL c v pl lw L) (pTub c v pl lw L) (pNx r.1)).2) _ _ ⟨by rw [← hF, hf0, pAO_s ⟨hrb, by omega⟩], by show N - (pBoth c pl (pSumL c v pl lw L) (pTub c v pl lw L) (pNx r.1)).1.1 ≤ _; omega, by omega, (hq.1.tr f1).tr hqc.1, hqc.2.1, by show s.1 ≤ (pBoth c pl (pSumL c v pl lw L) (pTub c v pl lw L) (pNx r.1)).1.1; have := hq.2.2.1; omega, q⟩ (by show (N - (pBoth c pl (pSumL c v pl lw L) (pTub c v pl lw L) (pNx r.1)).1.1).toNat < m; omega))
        · refine r_iload_n dX11_testOf_36 rfl ?_
          refine r_if_eq (tgt := 44) dX11_testOf_37 rfl (fun c37 => ?_) (fun c37 => ?_)
          · refine r_iconst dX11_testOf_44 li_0 ?_
            refine r_istore_n dX11_testOf_45 (by decide) rfl ?_
            refine r_goto (tgt := 6) dX11_testOf_46 rfl ?_
            first
            | (exfalso; omega)
            | (have z := hqc.2.2.1
               have bx : (pNx r.1).1 = r.1.1 + 1 := rfl
               have e24 := hqc.2.2.2
               rw [od_up_at, if_neg (by omega)] at e24
               have q := BrQ.sc (st := 1) hl hq.2.2.2 e24 (by first | rw [if_pos ⟨by omega, by omega⟩] | rw [if_neg (by omega)])
               have eX : (if x = 1 then x else xc) = 0 := by first | (rw [if_pos (by omega)]; omega) | (rw [if_neg (by omega)]; omega)
               rw [eX] at q
               exact ih _ f0 ((pBoth c pl (pSumL c v pl lw L) (pTub c v pl lw L) (pNx r.1)).1, pSc 1 r.2 (pBoth c pl (pSumL c v pl lw L) (pTub c v pl lw L) (pNx r.1)).2) _ _ ⟨by rw [← hF, hf0, pAO_s ⟨hrb, by omega⟩], by show N - (pBoth c pl (pSumL c v pl lw L) (pTub c v pl lw L) (pNx r.1)).1.1 ≤ _; omega, by omega, (hq.1.tr f1).tr hqc.1, hqc.2.1, by show s.1 ≤ (pBoth c pl (pSumL c v pl lw L) (pTub c v pl lw L) (pNx r.1)).1.1; have := hq.2.2.1; omega, q⟩ (by show (N - (pBoth c pl (pSumL c v pl lw L) (pTub c v pl lw L) (pNx r.1)).1.1).toNat < m; omega))
          · refine r_iconst dX11_testOf_40 li_1 ?_
            refine r_goto (tgt := 45) dX11_testOf_41 rfl ?_
            refine r_istore_n dX11_testOf_45 (by decide) rfl ?_
            refine r_goto (tgt := 6) dX11_testOf_46 rfl ?_
            first
            | (exfalso; omega)
            | (have z := hqc.2.2.1
               have bx : (pNx r.1).1 = r.1.1 + 1 := rfl
               have e24 := hqc.2.2.2
               rw [od_up_at, if_neg (by omega)] at e24
               have q := BrQ.sc (st := 1) hl hq.2.2.2 e24 (by first | rw [if_pos ⟨by omega, by omega⟩] | rw [if_neg (by omega)])
               have eX : (if x = 1 then x else xc) = 1 := by first | (rw [if_pos (by omega)]; omega) | (rw [if_neg (by omega)]; omega)
               rw [eX] at q
               exact ih _ f0 ((pBoth c pl (pSumL c v pl lw L) (pTub c v pl lw L) (pNx r.1)).1, pSc 1 r.2 (pBoth c pl (pSumL c v pl lw L) (pTub c v pl lw L) (pNx r.1)).2) _ _ ⟨by rw [← hF, hf0, pAO_s ⟨hrb, by omega⟩], by show N - (pBoth c pl (pSumL c v pl lw L) (pTub c v pl lw L) (pNx r.1)).1.1 ≤ _; omega, by omega, (hq.1.tr f1).tr hqc.1, hqc.2.1, by show s.1 ≤ (pBoth c pl (pSumL c v pl lw L) (pTub c v pl lw L) (pNx r.1)).1.1; have := hq.2.2.1; omega, q⟩ (by show (N - (pBoth c pl (pSumL c v pl lw L) (pTub c v pl lw L) (pNx r.1)).1.1).toNat < m; omega))
      · refine r_iload_n dX11_testOf_19 rfl ?_
        refine r_if_ne (tgt := 27) dX11_testOf_20 rfl (fun c20 => ?_) (fun c20 => ?_)
        · refine r_iconst dX11_testOf_27 li_0 ?_
          refine r_callV1p dX11_testOf_28 cvX11_314 (mo_o hm) (hI _ (pNx r.1) 0 (hvw.fr f1) (by omega) (by rw [od_up_at, if_neg (by omega)]; exact hbw) (by rw [od_up_at, if_pos rfl]; rfl) (by show 0 ≤ r.1.1 + 1; omega) hrb hPf) (by omega) (Nat.le_of_ble_eq_true rfl) od_le.rf (fun r28 g28 h28 => ?_)
          obtain ⟨xc, rfl, hxc, hqc⟩ := h28
          show od_Rq _ _ _ _ _ _ _ ((0, _) :: _) _ _
          refine r_istore_n dX11_testOf_31 (by decide) rfl ?_
          refine r_iload_n dX11_testOf_32 rfl ?_
          refine r_if_ne (tgt := 40) dX11_testOf_33 rfl (fun c33 => ?_) (fun c33 => ?_)
          · refine r_iconst dX11_testOf_40 li_1 ?_
            refine r_goto (tgt := 45) dX11_testOf_41 rfl ?_
            refine r_istore_n dX11_testOf_45 (by decide) rfl ?_
            refine r_goto (tgt := 6) dX11_testOf_46 rfl ?_
            first
            | (exfalso; omega)
            | (have z := hqc.2.2.1
               have bx : (pNx r.1).1 = r.1.1 + 1 := rfl
               have e24 := hqc.2.2.2
               rw [od_up_at, if_neg (by omega)] at e24
               have q := BrQ.sc (st := 1) hl hq.2.2.2 e24 (by first | rw [if_pos ⟨by omega, by omega⟩] | rw [if_neg (by omega)])
               have eX : (if x = 1 then x else xc) = 1 := by first | (rw [if_pos (by omega)]; omega) | (rw [if_neg (by omega)]; omega)
               rw [eX] at q
               exact ih _ f0 ((pBoth c pl (pSumL c v pl lw L) (pTub c v pl lw L) (pNx r.1)).1, pSc 1 r.2 (pBoth c pl (pSumL c v pl lw L) (pTub c v pl lw L) (pNx r.1)).2) _ _ ⟨by rw [← hF, hf0, pAO_s ⟨hrb, by omega⟩], by show N - (pBoth c pl (pSumL c v pl lw L) (pTub c v pl lw L) (pNx r.1)).1.1 ≤ _; omega, by omega, (hq.1.tr f1).tr hqc.1, hqc.2.1, by show s.1 ≤ (pBoth c pl (pSumL c v pl lw L) (pTub c v pl lw L) (pNx r.1)).1.1; have := hq.2.2.1; omega, q⟩ (by show (N - (pBoth c pl (pSumL c v pl lw L) (pTub c v pl lw L) (pNx r.1)).1.1).toNat < m; omega))
          · refine r_iload_n dX11_testOf_36 rfl ?_
            refine r_if_eq (tgt := 44) dX11_testOf_37 rfl (fun c37 => ?_) (fun c37 => ?_)
            · refine r_iconst dX11_testOf_44 li_0 ?_
              refine r_istore_n dX11_testOf_45 (by decide) rfl ?_
              refine r_goto (tgt := 6) dX11_testOf_46 rfl ?_
              first
              | (exfalso; omega)
              | (have z := hqc.2.2.1
                 have bx : (pNx r.1).1 = r.1.1 + 1 := rfl
                 have e24 := hqc.2.2.2
                 rw [od_up_at, if_neg (by omega)] at e24
                 have q := BrQ.sc (st := 1) hl hq.2.2.2 e24 (by first | rw [if_pos ⟨by omega, by omega⟩] | rw [if_neg (by omega)])
                 have eX : (if x = 1 then x else xc) = 0 := by first | (rw [if_pos (by omega)]; omega) | (rw [if_neg (by omega)]; omega)
                 rw [eX] at q
                 exact ih _ f0 ((pBoth c pl (pSumL c v pl lw L) (pTub c v pl lw L) (pNx r.1)).1, pSc 1 r.2 (pBoth c pl (pSumL c v pl lw L) (pTub c v pl lw L) (pNx r.1)).2) _ _ ⟨by rw [← hF, hf0, pAO_s ⟨hrb, by omega⟩], by show N - (pBoth c pl (pSumL c v pl lw L) (pTub c v pl lw L) (pNx r.1)).1.1 ≤ _; omega, by omega, (hq.1.tr f1).tr hqc.1, hqc.2.1, by show s.1 ≤ (pBoth c pl (pSumL c v pl lw L) (pTub c v pl lw L) (pNx r.1)).1.1; have := hq.2.2.1; omega, q⟩ (by show (N - (pBoth c pl (pSumL c v pl lw L) (pTub c v pl lw L) (pNx r.1)).1.1).toNat < m; omega))
            · refine r_iconst dX11_testOf_40 li_1 ?_
              refine r_goto (tgt := 45) dX11_testOf_41 rfl ?_
              refine r_istore_n dX11_testOf_45 (by decide) rfl ?_
              refine r_goto (tgt := 6) dX11_testOf_46 rfl ?_
              first
              | (exfalso; omega)
              | (have z := hqc.2.2.1
                 have bx : (pNx r.1).1 = r.1.1 + 1 := rfl
                 have e24 := hqc.2.2.2
                 rw [od_up_at, if_neg (by omega)] at e24
                 have q := BrQ.sc (st := 1) hl hq.2.2.2 e24 (by first | rw [if_pos ⟨by omega, by omega⟩] | rw [if_neg (by omega)])
                 have eX : (if x = 1 then x else xc) = 1 := by first | (rw [if_pos (by omega)]; omega) | (rw [if_neg (by omega)]; omega)
                 rw [eX] at q
                 exact ih _ f0 ((pBoth c pl (pSumL c v pl lw L) (pTub c v pl lw L) (pNx r.1)).1, pSc 1 r.2 (pBoth c pl (pSumL c v pl lw L) (pTub c v pl lw L) (pNx r.1)).2) _ _ ⟨by rw [← hF, hf0, pAO_s ⟨hrb, by omega⟩], by show N - (pBoth c pl (pSumL c v pl lw L) (pTub c v pl lw L) (pNx r.1)).1.1 ≤ _; omega, by omega, (hq.1.tr f1).tr hqc.1, hqc.2.1, by show s.1 ≤ (pBoth c pl (pSumL c v pl lw L) (pTub c v pl lw L) (pNx r.1)).1.1; have := hq.2.2.1; omega, q⟩ (by show (N - (pBoth c pl (pSumL c v pl lw L) (pTub c v pl lw L) (pNx r.1)).1.1).toNat < m; omega))
        · refine r_iconst dX11_testOf_23 li_1 ?_
          refine r_goto (tgt := 28) dX11_testOf_24 rfl ?_
          refine r_callV1p dX11_testOf_28 cvX11_314 (mo_o hm) (hI _ (pNx r.1) 1 (hvw.fr f1) (by omega) (by rw [od_up_at, if_neg (by omega)]; exact hbw) (by rw [od_up_at, if_pos rfl]; rfl) (by show 0 ≤ r.1.1 + 1; omega) hrb hPf) (by omega) (Nat.le_of_ble_eq_true rfl) od_le.rf (fun r28 g28 h28 => ?_)
          obtain ⟨xc, rfl, hxc, hqc⟩ := h28
          show od_Rq _ _ _ _ _ _ _ ((0, _) :: _) _ _
          refine r_istore_n dX11_testOf_31 (by decide) rfl ?_
          refine r_iload_n dX11_testOf_32 rfl ?_
          refine r_if_ne (tgt := 40) dX11_testOf_33 rfl (fun c33 => ?_) (fun c33 => ?_)
          · refine r_iconst dX11_testOf_40 li_1 ?_
            refine r_goto (tgt := 45) dX11_testOf_41 rfl ?_
            refine r_istore_n dX11_testOf_45 (by decide) rfl ?_
            refine r_goto (tgt := 6) dX11_testOf_46 rfl ?_
            first
            | (exfalso; omega)
            | (have z := hqc.2.2.1
               have bx : (pNx r.1).1 = r.1.1 + 1 := rfl
               have e24 := hqc.2.2.2
               rw [od_up_at, if_neg (by omega)] at e24
               have q := BrQ.sc (st := 1) hl hq.2.2.2 e24 (by first | rw [if_pos ⟨by omega, by omega⟩] | rw [if_neg (by omega)])
               have eX : (if x = 1 then x else xc) = 1 := by first | (rw [if_pos (by omega)]; omega) | (rw [if_neg (by omega)]; omega)
               rw [eX] at q
               exact ih _ f0 ((pBoth c pl (pSumL c v pl lw L) (pTub c v pl lw L) (pNx r.1)).1, pSc 1 r.2 (pBoth c pl (pSumL c v pl lw L) (pTub c v pl lw L) (pNx r.1)).2) _ _ ⟨by rw [← hF, hf0, pAO_s ⟨hrb, by omega⟩], by show N - (pBoth c pl (pSumL c v pl lw L) (pTub c v pl lw L) (pNx r.1)).1.1 ≤ _; omega, by omega, (hq.1.tr f1).tr hqc.1, hqc.2.1, by show s.1 ≤ (pBoth c pl (pSumL c v pl lw L) (pTub c v pl lw L) (pNx r.1)).1.1; have := hq.2.2.1; omega, q⟩ (by show (N - (pBoth c pl (pSumL c v pl lw L) (pTub c v pl lw L) (pNx r.1)).1.1).toNat < m; omega))
          · refine r_iload_n dX11_testOf_36 rfl ?_
            refine r_if_eq (tgt := 44) dX11_testOf_37 rfl (fun c37 => ?_) (fun c37 => ?_)
            · refine r_iconst dX11_testOf_44 li_0 ?_
              refine r_istore_n dX11_testOf_45 (by decide) rfl ?_
              refine r_goto (tgt := 6) dX11_testOf_46 rfl ?_
              first
              | (exfalso; omega)
              | (have z := hqc.2.2.1
                 have bx : (pNx r.1).1 = r.1.1 + 1 := rfl
                 have e24 := hqc.2.2.2
                 rw [od_up_at, if_neg (by omega)] at e24
                 have q := BrQ.sc (st := 1) hl hq.2.2.2 e24 (by first | rw [if_pos ⟨by omega, by omega⟩] | rw [if_neg (by omega)])
                 have eX : (if x = 1 then x else xc) = 0 := by first | (rw [if_pos (by omega)]; omega) | (rw [if_neg (by omega)]; omega)
                 rw [eX] at q
                 exact ih _ f0 ((pBoth c pl (pSumL c v pl lw L) (pTub c v pl lw L) (pNx r.1)).1, pSc 1 r.2 (pBoth c pl (pSumL c v pl lw L) (pTub c v pl lw L) (pNx r.1)).2) _ _ ⟨by rw [← hF, hf0, pAO_s ⟨hrb, by omega⟩], by show N - (pBoth c pl (pSumL c v pl lw L) (pTub c v pl lw L) (pNx r.1)).1.1 ≤ _; omega, by omega, (hq.1.tr f1).tr hqc.1, hqc.2.1, by show s.1 ≤ (pBoth c pl (pSumL c v pl lw L) (pTub c v pl lw L) (pNx r.1)).1.1; have := hq.2.2.1; omega, q⟩ (by show (N - (pBoth c pl (pSumL c v pl lw L) (pTub c v pl lw L) (pNx r.1)).1.1).toNat < m; omega))
            · refine r_iconst dX11_testOf_40 li_1 ?_
              refine r_goto (tgt := 45) dX11_testOf_41 rfl ?_
              refine r_istore_n dX11_testOf_45 (by decide) rfl ?_
              refine r_goto (tgt := 6) dX11_testOf_46 rfl ?_
              first
              | (exfalso; omega)
              | (have z := hqc.2.2.1
                 have bx : (pNx r.1).1 = r.1.1 + 1 := rfl
                 have e24 := hqc.2.2.2
                 rw [od_up_at, if_neg (by omega)] at e24
                 have q := BrQ.sc (st := 1) hl hq.2.2.2 e24 (by first | rw [if_pos ⟨by omega, by omega⟩] | rw [if_neg (by omega)])
                 have eX : (if x = 1 then x else xc) = 1 := by first | (rw [if_pos (by omega)]; omega) | (rw [if_neg (by omega)]; omega)
                 rw [eX] at q
                 exact ih _ f0 ((pBoth c pl (pSumL c v pl lw L) (pTub c v pl lw L) (pNx r.1)).1, pSc 1 r.2 (pBoth c pl (pSumL c v pl lw L) (pTub c v pl lw L) (pNx r.1)).2) _ _ ⟨by rw [← hF, hf0, pAO_s ⟨hrb, by omega⟩], by show N - (pBoth c pl (pSumL c v pl lw L) (pTub c v pl lw L) (pNx r.1)).1.1 ≤ _; omega, by omega, (hq.1.tr f1).tr hqc.1, hqc.2.1, by show s.1 ≤ (pBoth c pl (pSumL c v pl lw L) (pTub c v pl lw L) (pNx r.1)).1.1; have := hq.2.2.1; omega, q⟩ (by show (N - (pBoth c pl (pSumL c v pl lw L) (pTub c v pl lw L) (pNx r.1)).1.1).toNat < m; omega))
    · show od_Rq _ _ _ _ _ _ _ ((0, 0) :: _) _ _
      skip
      refine r_if_eq (tgt := 49) dX11_testOf_11 rfl (fun _ => ?_) (fun h => absurd h (by decide))
      refine r_iload_n dX11_testOf_49 rfl ?_
      obtain ⟨na, rfl⟩ := h8
      have hX : pTest c pl (pSumL c v pl lw L) (pTub c v pl lw L) s = r := by rw [← hF, pAO_e (fun z => na (by have := z.2; omega))]
      rcases hx01 with hx1 | hx1
      · rw [hx1] at hq ⊢
        refine r_zretq dX11_testOf_50 rfl od_nz0 rfl ⟨_, rfl, Or.inl rfl, ?_⟩
        rw [hX]; exact hq
      · rw [hx1] at hq ⊢
        refine r_zretq dX11_testOf_50 rfl od_nz1 rfl ⟨_, rfl, Or.inr rfl, ?_⟩
        rw [hX]; exact hq
set_option maxRecDepth 10000 in
theorem c_X11_testOf {E : od_E} {g : od_G} {M : Int} (hm : MoAt E M) {b N : Int} {c v pl : Int → Int} {lw : Bool} {w : Int → Int} (hv : EV g M b N c v lw w) (hp : ∀ i : Int, 0 ≤ pl i) {s : pS} {lv : Int} (hl : lv = 0 ∨ lv = 1) (hbr : g M 24 = 0 ∨ g M 24 = 1) (hg : g M 22 = b + s.1) (hs0 : 0 ≤ s.1) (hb : s.2.2 = -1) {L : Nat} (hf : (pTest c pl (pSumL c v pl lw L) (pTub c v pl lw L) s).1.2.2 = -1) (hI : EBth E M b N c v pl lw w L) : od_Cq (11 + 4 * L) mX11_testOf [(2, M), (0, lv)] E g (E, fun o g' => ∃ x : Int, o = some (0, x) ∧ (x = 0 ∨ x = 1) ∧ EQ g g' M b w lv x s (pTest c pl (pSumL c v pl lw L) (pTub c v pl lw L) s)) := by
  have hb0 := hv.1.2.1
  have hN0 := hv.1.2.2.1
  have hPs : (pBoth c pl (pSumL c v pl lw L) (pTub c v pl lw L) s).1.2.2 = -1 := pAO_fine hf
  refine od_cqI pnX11 rfl (Nat.le_of_ble_eq_true rfl) od_le.rf ?_
  show od_Rq (11 + 4 * L) mX11_testOf od_Z0 E (E, fun o g' => ∃ x : Int, o = some (0, x) ∧ (x = 0 ∨ x = 1) ∧ EQ g g' M b w lv x s (pTest c pl (pSumL c v pl lw L) (pTub c v pl lw L) s)) 0 [some (2, M), some (0, lv), none, none] [] E g
  refine r_aload_n dX11_testOf_0 rfl ?_
  refine r_iload_n dX11_testOf_1 rfl ?_
  refine r_callV1p dX11_testOf_2 cvX11_314 (mo_o hm) (hI g s lv hv hl hbr hg hs0 hb hPs) (by omega) (Nat.le_of_ble_eq_true rfl) od_le.rf (fun r2 g2 h2 => ?_)
  obtain ⟨x2, rfl, hx2, hq2⟩ := h2
  show od_Rq _ _ _ _ _ _ _ ((0, _) :: _) _ _
  refine r_istore_n dX11_testOf_5 (by decide) rfl ?_
  exact lp_X11_testOf hm hv hp hl hbr hg hs0 hb hf hI _ _ 400 (pBoth c pl (pSumL c v pl lw L) (pTub c v pl lw L) s) _ _ ⟨rfl, by have := hq2.2.2.1; omega, hx2, hq2⟩ (Nat.lt_succ_self _)
theorem eTestL {E : od_E} {M : Int} (hm : MoAt E M) (b N : Int) (c v : Int → Int) {pl : Int → Int} (hp : ∀ i : Int, 0 ≤ pl i) (lw : Bool) (w : Int → Int) : ∀ L : Nat, ETst E M b N c v pl lw w L := by
  intro L
  induction L with
  | zero =>
    intro g s lv hv hl hbr hg hs0 hb hf
    rw [show pTestL c v pl lw 0 s = pTest c pl (pSumL c v pl lw 0) (pTub c v pl lw 0) s from pTestL_eq _ _ _ _ _ _] at hf ⊢
    exact c_X11_testOf hm hv hp hl hbr hg hs0 hb hf (fun g s lv hv hl hbr hg hs0 hb hf => c_X11_bothOf hm hv hp hl hbr hg hs0 hb hf (fun g s lv hv hl hbr hg hs0 hb hf => c_X11_plainOf hm hv hp hl hbr hg hs0 hb hf (fun g s lv hv hl hbr hg hs0 hb hf => c_X11_positiveOf hm hv hp hl hbr hg hs0 hb hf (eSumL hm b N c v hp lw w 0) (fun L1 e => absurd e (by omega)))))
  | succ L ih =>
    intro g s lv hv hl hbr hg hs0 hb hf
    rw [pTestL_eq] at hf ⊢
    exact c_X11_testOf hm hv hp hl hbr hg hs0 hb hf (fun g s lv hv hl hbr hg hs0 hb hf => c_X11_bothOf hm hv hp hl hbr hg hs0 hb hf (fun g s lv hv hl hbr hg hs0 hb hf => c_X11_plainOf hm hv hp hl hbr hg hs0 hb hf (fun g s lv hv hl hbr hg hs0 hb hf => c_X11_positiveOf hm hv hp hl hbr hg hs0 hb hf (eSumL hm b N c v hp lw w (L + 1)) (fun L1 e => by
      have e2 : L1 = L := by omega
      subst e2
      exact ih))))
