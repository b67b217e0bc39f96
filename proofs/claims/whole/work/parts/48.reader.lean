/-! Reader: sums -/
theorem tV_b {g : od_G} {rd : Int} {B : Int → Int} {n : Int} {s : pS} (h : RSt g rd B n s) (hv : ∀ p : Int, 0 ≤ p → p < n → 0 ≤ B p ∧ B p ≤ 255) (hb : s.2.2 = -1) (hc : tC B n s.1 = 50) : g rd 6 = min (tV B n s.1) 1001 ∧ 0 ≤ tV B n s.1 := by
  have q := tV_n ((tC_num (fun p a b => (hv p a b).1)).mp hc)
  obtain ⟨_, _, _, _, _, h6, _⟩ := h.fine hb
  rw [h6]
  exact q
theorem RSt.num {g : od_G} {rd : Int} {B : Int → Int} {n : Int} {s : pS} (h : RSt g rd B n s) (hv : ∀ p : Int, 0 ≤ p → p < n → 0 ≤ B p ∧ B p ≤ 255) : g rd 3 = 2 ↔ (s.2.2 = -1 ∧ tC B n s.1 = 50) := by
  rw [tC_num (fun p a b => (hv p a b).1)]
  by_cases hb : s.2.2 = -1
  · obtain ⟨_, _, _, _, _, _, h3⟩ := h.fine hb
    rw [h3]
    exact ⟨fun z => ⟨hb, z⟩, fun z => z.2⟩
  · have q := h.bad hb
    constructor
    · intro z; omega
    · intro z; exact absurd z.1 hb
theorem RSt.put {g : od_G} {rd t st nu : Int} {B : Int → Int} {n : Int} {s : pS} (h : RSt g rd B n s) (ho : rd + 1 ≤ t) : RSt (cTPut g t st nu) rd B n s := h.e (fun y _ _ => cTPut_rd (by omega))
theorem TpOk.put {g : od_G} {rd tp t st nu : Int} {B : Int → Int} {n : Int} (h : TpOk g tp B n) (ho : tp + 2 ≤ rd ∧ rd + 1 ≤ t) : TpOk (cTPut g t st nu) tp B n := h.xp ho (cTPut_fr (rd := rd) (Int.le_refl _))
theorem tA_2 {B : Int → Int} {n : Int} {s : pS} (hb : s.2.2 = -1) : tA B n 2 s = if 8 ≤ tC B n s.1 ∧ tC B n s.1 ≤ 14 then pIx true (tC B n s.1) else -1 := by
  unfold tA
  rw [if_pos hb]
  generalize tC B n s.1 = k
  show tWI [8, 9, 10, 11, 13, 14, 12] k 0 = _
  simp only [tWI, pIx, if_true]
  repeat' split
  all_goals omega
theorem tA_3 {B : Int → Int} {n : Int} {s : pS} (hb : s.2.2 = -1) : tA B n 3 s = if 13 ≤ tC B n s.1 ∧ tC B n s.1 ≤ 19 then (if tC B n s.1 = 13 then 6 else tC B n s.1 - 14) else -1 := by
  unfold tA
  rw [if_pos hb]
  generalize tC B n s.1 = k
  show tWI [14, 15, 16, 17, 18, 19, 13] k 0 = _
  simp only [tWI]
  repeat' split
  all_goals omega
theorem tA_bad {B : Int → Int} {n : Int} {j : Nat} {s : pS} (hb : s.2.2 ≠ -1) : tA B n j s = -1 := by unfold tA; rw [if_neg hb]
theorem pWb_t (k : Int) : pWb true k = true ↔ 8 ≤ k ∧ k ≤ 14 := by simp [pWb]
theorem pWb_f (k : Int) : pWb false k = true ↔ 13 ≤ k ∧ k ≤ 19 := by simp [pWb]
theorem pPart_flt {c v pl : Int → Int} {lw : Bool} {S : Option (pS → pR)} {s : pS} (h1 : ¬ (s.2.2 = -1 ∧ c s.1 = 191)) (h2 : s.2.2 = -1 → 50 ≤ s.2.1 ∨ ¬ ((c s.1 = 50 ∧ v s.1 ≤ 1000) ∨ pWb lw (c s.1) = true)) : pPart c v pl lw S s = (pF pl s, pNo) := by
  unfold pPart
  by_cases hb : s.2.2 = -1
  · rw [if_neg (by omega), if_neg (fun z => h1 ⟨hb, z⟩)]
    rcases h2 hb with h | h
    · split
      · unfold pLeaf; rw [if_pos h]
      · rfl
    · rw [if_neg h]
  · rw [if_pos hb, pF_bad hb]
theorem pPart_leaf {c v pl : Int → Int} {lw : Bool} {S : Option (pS → pR)} {s : pS} (hb : s.2.2 = -1) (h1 : c s.1 ≠ 191) (h2 : (c s.1 = 50 ∧ v s.1 ≤ 1000) ∨ pWb lw (c s.1) = true) : pPart c v pl lw S s = pLeaf c v pl lw s := by
  unfold pPart
  rw [if_neg (by omega), if_neg h1, if_pos h2]
theorem pPart_0 {c v pl : Int → Int} {lw : Bool} {s : pS} (hb : s.2.2 = -1) (h1 : c s.1 = 191) : pPart c v pl lw none s = (pF pl s, pNo) := by
  unfold pPart
  rw [if_neg (by omega), if_pos h1]
theorem pPart_S {c v pl : Int → Int} {lw : Bool} {S : pS → pR} {s : pS} (hb : s.2.2 = -1) (h1 : c s.1 = 191) : pPart c v pl lw (some S) s = (pMu c pl 193 (S (pNx s)).1, (S (pNx s)).2) := by
  unfold pPart
  rw [if_neg (by omega), if_pos h1]
set_option maxRecDepth 10000 in
theorem c_X3_putWord {E : od_E} {g : od_G} {rd tp t : Int} (hr : ReAt E rd tp t) {B : Int → Int} {n : Int} (hT : TpOk g tp B n) {s : pS} (hR : RSt g rd B n s) {lw : Bool} (hl : g rd 2 = lwI lw) (hb : s.2.2 = -1) (w : Int) (hw : 0 ≤ w ∧ w ≤ 6) (hz : 0 ≤ g t 7 ∧ g t 7 < 512) : od_Cq 3 mX3_putWord [(2, rd), (0, w)] E g (E, fun v g' => v = none ∧ (((lw = true ∨ w < 5) ∧ g' = cTPut g t 2 w) ∨ ((lw = false ∧ 5 ≤ w) ∧ (tC B n s.1 = 50 ∧ 0 ≤ tV B n s.1 ∧ tV B n s.1 ≤ 5) ∧ od_fr (fun x y => x = rd ∧ 3 ≤ y ∧ y ≤ 6) (cTPut g t 2 (5 + (w - 5) * 6 + tV B n s.1)) g' ∧ RSt g' rd B n (pNx s)) ∨ ((lw = false ∧ 5 ≤ w) ∧ ¬ (tC B n s.1 = 50 ∧ 0 ≤ tV B n s.1 ∧ tV B n s.1 ≤ 5) ∧ g' = cSF g rd))) := by
  have hr0 := hr
  obtain ⟨hkr, e0, e1, hta, htx, hor⟩ := hr
  have hta0 := hta
  have hk9 := htx.1
  have h40 := hT.2.2.1
  refine od_cqI pnX3 rfl (Nat.le_of_ble_eq_true rfl) od_le.rf ?_
  show od_Rq 3 mX3_putWord od_Z0 E (E, fun v g' => v = none ∧ (((lw = true ∨ w < 5) ∧ g' = cTPut g t 2 w) ∨ ((lw = false ∧ 5 ≤ w) ∧ (tC B n s.1 = 50 ∧ 0 ≤ tV B n s.1 ∧ tV B n s.1 ≤ 5) ∧ od_fr (fun x y => x = rd ∧ 3 ≤ y ∧ y ≤ 6) (cTPut g t 2 (5 + (w - 5) * 6 + tV B n s.1)) g' ∧ RSt g' rd B n (pNx s)) ∨ ((lw = false ∧ 5 ≤ w) ∧ ¬ (tC B n s.1 = 50 ∧ 0 ≤ tV B n s.1 ∧ tV B n s.1 ≤ 5) ∧ g' = cSF g rd))) 0 [some (2, rd), some (0, w)] [] E g
  refine r_aload_n dX3_putWord_0 rfl ?_
  refine r_getIj (j := 2) rfl dX3_putWord_1 fkX3_20 gf3_2 (by assumption) (by (repeat (first | rewrite [od_upn (by omega)] | rewrite [od_up_at, if_pos (by omega)] | rewrite [od_up_at, if_neg (by omega)])); rfl) ?_
  refine r_if_ne (tgt := 12) dX3_putWord_4 rfl (fun c4 => ?_) (fun c4 => ?_)
  · refine r_aload_n dX3_putWord_12 rfl ?_
    refine r_getR dX3_putWord_13 fkX3_14 gf3_0 (by assumption) (by assumption) ?_
    refine r_iconst dX3_putWord_16 li_2 ?_
    refine r_iload_n dX3_putWord_17 rfl ?_
    refine r_callV2i dX3_putWord_18 cvX3_86 (by assumption) (c_X9_put htx _ _ (by omega)) (by decide) (Nat.le_of_ble_eq_true rfl) od_le.rf ?_
    refine r_pop dX3_putWord_21 (by first | exact od_ne2 | exact od_ne0) ?_
    exact r_vretq dX3_putWord_22 rfl rfl ⟨rfl, Or.inl ⟨by first | exact Or.inl (lwI_t hl (by assumption)) | exact Or.inr (by assumption), rfl⟩⟩
  · refine r_iload_n dX3_putWord_7 rfl ?_
    refine r_iconst dX3_putWord_8 li_5 ?_
    refine r_icmp_ge (tgt := 23) dX3_putWord_9 rfl (fun c9 => ?_) (fun c9 => ?_)
    · refine r_aload_n dX3_putWord_23 rfl ?_
      refine r_getIj (j := 3) rfl dX3_putWord_24 fkX3_24 gf3_3 (by assumption) (by (repeat (first | rewrite [od_upn (by omega)] | rewrite [od_up_at, if_pos (by omega)] | rewrite [od_up_at, if_neg (by omega)])); rfl) ?_
      refine r_iconst dX3_putWord_27 li_2 ?_
      refine r_icmp_ne (tgt := 40) dX3_putWord_28 rfl (fun c28 => ?_) (fun c28 => ?_)
      · refine r_aload_n dX3_putWord_40 rfl ?_
        refine r_callV0v dX3_putWord_41 cvX3_60 (by assumption) (c_X3_setFault hr0) (by decide) (Nat.le_of_ble_eq_true rfl) od_le.rf ?_
        refine r_vretq dX3_putWord_44 rfl rfl ⟨rfl, Or.inr (Or.inr ⟨⟨lwI_f hl (by assumption), by assumption⟩, fun z => ?_, rfl⟩)⟩
        have z1 := tV_b hR hT.2.2.2 hb z.1
        have z2 := (hR.num hT.2.2.2).mpr ⟨hb, z.1⟩
        omega
      · refine r_aload_n dX3_putWord_31 rfl ?_
        refine r_getIj (j := 6) rfl dX3_putWord_32 fkX3_34 gf3_6 (by assumption) (by (repeat (first | rewrite [od_upn (by omega)] | rewrite [od_up_at, if_pos (by omega)] | rewrite [od_up_at, if_neg (by omega)])); rfl) ?_
        refine r_bipush dX3_putWord_35 lb_6 ?_
        refine r_icmp_lt (tgt := 45) dX3_putWord_37 rfl (fun c37 => ?_) (fun c37 => ?_)
        · have hc50 := ((hR.num hT.2.2.2).mp (by assumption)).2
          have z1 := tV_b hR hT.2.2.2 hb hc50
          refine r_aload_n dX3_putWord_45 rfl ?_
          refine r_getR dX3_putWord_46 fkX3_14 gf3_0 (by assumption) (by assumption) ?_
          refine r_iconst dX3_putWord_49 li_2 ?_
          refine r_iconst dX3_putWord_50 li_5 ?_
          refine r_iload_n dX3_putWord_51 rfl ?_
          refine r_iconst dX3_putWord_52 li_5 ?_
          refine r_isubE dX3_putWord_53 (by first | exact od_w0 (by omega) (by omega) | exact od_wI (by omega) (by omega) | rfl) ?_
          refine r_bipush dX3_putWord_54 lb_6 ?_
          refine r_imulE dX3_putWord_56 (by first | exact od_w0 (by omega) (by omega) | exact od_wI (by omega) (by omega) | rfl) ?_
          refine r_iaddE dX3_putWord_57 (by first | exact od_w0 (by omega) (by omega) | exact od_wI (by omega) (by omega) | rfl) ?_
          refine r_aload_n dX3_putWord_58 rfl ?_
          refine r_getIj (j := 6) rfl dX3_putWord_59 fkX3_34 gf3_6 (by assumption) (by (repeat (first | rewrite [od_upn (by omega)] | rewrite [od_up_at, if_pos (by omega)] | rewrite [od_up_at, if_neg (by omega)])); rfl) ?_
          refine r_iaddE dX3_putWord_62 (by first | exact od_w0 (by omega) (by omega) | exact od_wI (by omega) (by omega) | rfl) ?_
          rw [show g rd 6 = tV B n s.1 by omega]
          refine r_callV2i dX3_putWord_63 cvX3_86 (by assumption) (c_X9_put htx _ _ (by omega)) (by decide) (Nat.le_of_ble_eq_true rfl) od_le.rf ?_
          refine r_pop dX3_putWord_66 (by first | exact od_ne2 | exact od_ne0) ?_
          have hT1 : TpOk (cTPut g t 2 (5 + (w - 5) * 6 + tV B n s.1)) tp B n := hT.put hor
          have hR1 : RSt (cTPut g t 2 (5 + (w - 5) * 6 + tV B n s.1)) rd B n s := hR.put hor.2
          refine r_aload_n dX3_putWord_67 rfl ?_
          refine r_callV0p dX3_putWord_68 cvX3_50 (by assumption) (c_X3_goOn hr0 hT1.1 hT1.2.1 hT1.2.2.1.2 hT1.2.2.2 (hR1.g5 hT1.2.2.1.1 hb)) (by decide) (Nat.le_of_ble_eq_true rfl) od_le.rf (fun r68 g68 h68 => ?_)
          obtain ⟨rfl, f68, w468, w568, w668, w368⟩ := h68
          show od_Rq _ _ _ _ _ _ _ [] _ _
          refine r_vretq dX3_putWord_71 rfl rfl ⟨rfl, Or.inr (Or.inl ⟨⟨lwI_f hl (by assumption), by assumption⟩, ⟨hc50, by omega, by omega⟩, f68, ?_⟩)⟩
          exact RSt.go hR1 hb (by omega) f68 w468 w568 w668 w368
        · refine r_aload_n dX3_putWord_40 rfl ?_
          refine r_callV0v dX3_putWord_41 cvX3_60 (by assumption) (c_X3_setFault hr0) (by decide) (Nat.le_of_ble_eq_true rfl) od_le.rf ?_
          refine r_vretq dX3_putWord_44 rfl rfl ⟨rfl, Or.inr (Or.inr ⟨⟨lwI_f hl (by assumption), by assumption⟩, fun z => ?_, rfl⟩)⟩
          have z1 := tV_b hR hT.2.2.2 hb z.1
          have z2 := (hR.num hT.2.2.2).mpr ⟨hb, z.1⟩
          omega
    · refine r_aload_n dX3_putWord_12 rfl ?_
      refine r_getR dX3_putWord_13 fkX3_14 gf3_0 (by assumption) (by assumption) ?_
      refine r_iconst dX3_putWord_16 li_2 ?_
      refine r_iload_n dX3_putWord_17 rfl ?_
      refine r_callV2i dX3_putWord_18 cvX3_86 (by assumption) (c_X9_put htx _ _ (by omega)) (by decide) (Nat.le_of_ble_eq_true rfl) od_le.rf ?_
      refine r_pop dX3_putWord_21 (by first | exact od_ne2 | exact od_ne0) ?_
      exact r_vretq dX3_putWord_22 rfl rfl ⟨rfl, Or.inl ⟨by first | exact Or.inl (lwI_t hl (by assumption)) | exact Or.inr (by assumption), rfl⟩⟩
def CPrt (E : od_E) (rd tp t : Int) (B : Int → Int) (n : Int) (lw : Bool) (L : Nat) : Prop := ∀ (g : od_G) (s : pS), TpOk g tp B n → RSt g rd B n s → RPre g t s → g rd 2 = lwI lw → od_Cq (8 + 3 * L) mX3_readPart [(2, rd), (0, 8 - (L : Int))] E g (E, fun v g' => v = none ∧ RQ pBs (2 * L + 1) (wlI lw) g g' rd t B n s (pPart (tC B n) (tV B n) (tpl B n) lw (pSub (tC B n) (tV B n) (tpl B n) lw L) s))
def CTrm (E : od_E) (rd tp t : Int) (B : Int → Int) (n : Int) (lw : Bool) (L : Nat) : Prop := ∀ (g : od_G) (s : pS), TpOk g tp B n → RSt g rd B n s → RPre g t s → g rd 2 = lwI lw → od_Cq (9 + 3 * L) mX3_readTerm [(2, rd), (0, 8 - (L : Int))] E g (E, fun v g' => v = none ∧ RQ pBs (2 * L + 2) (wlI lw) g g' rd t B n s (pTerm (tC B n) (tV B n) (tpl B n) lw (pSub (tC B n) (tV B n) (tpl B n) lw L) s))
def CSum (E : od_E) (rd tp t : Int) (B : Int → Int) (n : Int) (lw : Bool) (L : Nat) : Prop := ∀ (g : od_G) (s : pS), TpOk g tp B n → RSt g rd B n s → RPre g t s → g rd 2 = lwI lw → od_Cq (10 + 3 * L) mX3_readSum [(2, rd), (0, 8 - (L : Int))] E g (E, fun v g' => v = none ∧ RQ pBs (2 * L + 3) (wlI lw) g g' rd t B n s (pSumL (tC B n) (tV B n) (tpl B n) lw L s))
theorem RSt.pts {g : od_G} {rd : Int} {B : Int → Int} {n : Int} {s : pS} (h : RSt g rd B n s) (hb : s.2.2 = -1) : RSt (od_up g rd 7 (g rd 7 + 1)) rd B n (s.1, s.2.1 + 1, s.2.2) := by
  obtain ⟨h0, h8, h7, h4, h5, h6, h3⟩ := h.fine hb
  refine Or.inl ⟨hb, ⟨h0.1, h0.2.1, by show 0 ≤ s.2.1 + 1; omega⟩, ?_, ?_, ?_, ?_, ?_, ?_⟩
  · rw [od_up_at, if_neg (by omega)]; exact h8
  · rw [od_up_at, if_pos rfl, h7]
  · rw [od_up_at, if_neg (by omega)]; exact h4
  · rw [od_up_at, if_neg (by omega)]; exact h5
  · rw [od_up_at, if_neg (by omega)]; exact h6
  · rw [od_up_at, if_neg (by omega)]; exact h3
theorem tA_law {B : Int → Int} {n : Int} {s : pS} (hb : s.2.2 = -1) (h : tA B n 2 s ≠ -1) : pWb true (tC B n s.1) = true ∧ ¬ (pOf true (tC B n s.1) = true) ∧ (0 ≤ pIx true (tC B n s.1) ∧ pIx true (tC B n s.1) < wlI true) ∧ tA B n 2 s = pIx true (tC B n s.1) ∧ (0 ≤ tA B n 2 s ∧ tA B n 2 s ≤ 6) ∧ 8 ≤ tC B n s.1 ∧ tC B n s.1 ≤ 14 := by
  have y := tA_2 (B := B) (n := n) hb
  by_cases c : 8 ≤ tC B n s.1 ∧ tC B n s.1 ≤ 14
  · rw [if_pos c] at y
    have z : 0 ≤ pIx true (tC B n s.1) ∧ pIx true (tC B n s.1) ≤ 6 := by
      unfold pIx
      rw [if_pos rfl]
      repeat' split
      all_goals omega
    exact ⟨(pWb_t _).mpr c, by simp [pOf], ⟨z.1, by unfold wlI; rw [if_pos rfl]; omega⟩, y, by omega, c⟩
  · rw [if_neg c] at y
    exact absurd y h
theorem tA_ord {B : Int → Int} {n : Int} {s : pS} (hb : s.2.2 = -1) (h : tA B n 3 s ≠ -1) : pWb false (tC B n s.1) = true ∧ (tA B n 3 s < 5 → ¬ (pOf false (tC B n s.1) = true) ∧ (0 ≤ pIx false (tC B n s.1) ∧ pIx false (tC B n s.1) < wlI false) ∧ tA B n 3 s = pIx false (tC B n s.1)) ∧ (5 ≤ tA B n 3 s → pOf false (tC B n s.1) = true ∧ ∀ v : Int, 0 ≤ v ∧ v ≤ 5 → (0 ≤ pIx false (tC B n s.1) + v ∧ pIx false (tC B n s.1) + v < wlI false) ∧ 5 + (tA B n 3 s - 5) * 6 + v = pIx false (tC B n s.1) + v) ∧ (0 ≤ tA B n 3 s ∧ tA B n 3 s ≤ 6) ∧ 13 ≤ tC B n s.1 ∧ tC B n s.1 ≤ 19 := by
  have y := tA_3 (B := B) (n := n) hb
  by_cases c : 13 ≤ tC B n s.1 ∧ tC B n s.1 ≤ 19
  · rw [if_pos c] at y
    have hw : wlI false = 17 := rfl
    refine ⟨(pWb_f _).mpr c, fun z => ?_, fun z => ?_, ?_, c⟩
    · have hc : tC B n s.1 ≠ 13 ∧ tC B n s.1 ≠ 19 := by
        split at y <;> omega
      have e : pIx false (tC B n s.1) = tC B n s.1 - 14 := by
        unfold pIx
        rw [if_neg (by decide), if_neg hc.2, if_neg hc.1]
      rw [if_neg hc.1] at y
      refine ⟨by simp [pOf, hc.1, hc.2], by rw [e, hw]; omega, by rw [e, y]⟩
    · by_cases c13 : tC B n s.1 = 13
      · rw [if_pos c13] at y
        have e : pIx false (tC B n s.1) = 11 := by
          unfold pIx
          rw [if_neg (by decide), if_neg (by omega), if_pos c13]
        exact ⟨by simp [pOf, c13], fun v hv => by rw [e, hw, y]; omega⟩
      · rw [if_neg c13] at y
        have c19 : tC B n s.1 = 19 := by omega
        have e : pIx false (tC B n s.1) = 5 := by
          unfold pIx
          rw [if_neg (by decide), if_pos c19]
        exact ⟨by simp [pOf, c19], fun v hv => by rw [e, hw, y]; omega⟩
    · split at y <;> omega
  · rw [if_neg c] at y
    exact absurd y h
theorem pMu_t {c pl : Int → Int} {k : Int} {s : pS} (h : s.2.2 = -1 ∧ c s.1 = k) : pMu c pl k s = pNx s := if_pos h
theorem pMu_f {c pl : Int → Int} {k : Int} {s : pS} (h : ¬ (s.2.2 = -1 ∧ c s.1 = k)) : pMu c pl k s = pF pl s := if_neg h
set_option maxRecDepth 10000 in
theorem sg_X3_rp2 {E : od_E} {g : od_G} {rd tp t : Int} (hr : ReAt E rd tp t) {B : Int → Int} {n : Int} (hT : TpOk g tp B n) {s : pS} (hR : RSt g rd B n s) (hz : RPre g t s) (hl : g rd 2 = lwI true) {L : Nat} (hL : L ≤ 8) (q3 : ¬ (s.2.2 = -1 ∧ tC B n s.1 = 100 + 91)) : od_Rq (8 + 3 * L) mX3_readPart od_Z0 E (E, fun v g' => v = none ∧ RQ pBs (2 * L + 1) (wlI true) g g' rd t B n s (pPart (tC B n) (tV B n) (tpl B n) true (pSub (tC B n) (tV B n) (tpl B n) true L) s)) 63 [some (2, rd), some (0, 8 - (L : Int)), none, none] [(0, tA B n 2 s)] E g := by
  have hr0 := hr
  obtain ⟨hkr, e0, e1, hta, htx, hor⟩ := hr
  have hta0 := hta
  have hk9 := htx.1
  have h40 := hT.2.2.1
  unfold RPre at hz
  refine r_istore_n dX3_readPart_63 (by decide) rfl ?_
  refine r_aload_n dX3_readPart_64 rfl ?_
  refine r_getIj (j := 3) rfl dX3_readPart_65 fkX3_24 gf3_3 (by assumption) (by (repeat (first | rewrite [od_upn (by omega)] | rewrite [od_up_at, if_pos (by omega)] | rewrite [od_up_at, if_neg (by omega)])); rfl) ?_
  refine r_iconst dX3_readPart_68 li_2 ?_
  refine r_icmp_ne (tgt := 86) dX3_readPart_69 rfl (fun c69 => ?_) (fun c69 => ?_)
  · refine r_iconst dX3_readPart_86 li_0 ?_
    refine r_istore_n dX3_readPart_87 (by decide) rfl ?_
    refine r_aload_n dX3_readPart_88 rfl ?_
    refine r_getIj (j := 7) rfl dX3_readPart_89 fkX3_37 gf3_7 (by assumption) (by (repeat (first | rewrite [od_upn (by omega)] | rewrite [od_up_at, if_pos (by omega)] | rewrite [od_up_at, if_neg (by omega)])); rfl) ?_
    refine r_bipush dX3_readPart_92 lb_50 ?_
    refine r_icmp_ge (tgt := 106) dX3_readPart_94 rfl (fun c94 => ?_) (fun c94 => ?_)
    · refine r_aload_n dX3_readPart_106 rfl ?_
      refine r_callV0v dX3_readPart_107 cvX3_60 (by assumption) (c_X3_setFault hr0) (by omega) (Nat.le_of_ble_eq_true rfl) od_le.rf ?_
      refine r_vretq dX3_readPart_110 rfl rfl ⟨rfl, ?_⟩
      rw [pPart_flt (fun z => q3 ⟨z.1, by have := z.2; omega⟩) (fun hb => ?_)]
      · exact RQ.flt h40.1 od_fr.rf hR (by omega) hor.2
      · have f7 := (hR.fine hb).2.2.1
        first
        | exact Or.inl (by omega)
        | (refine Or.inr (fun z => ?_)
           rcases z with ⟨z1, z2⟩ | z
           · have y1 := tV_b hR hT.2.2.2 hb z1
             have y2 := (hR.num hT.2.2.2).mpr ⟨hb, z1⟩
             omega
           · first
             | (rw [pWb_t] at z
                have y := tA_2 (B := B) (n := n) hb
                rw [if_pos z] at y
                have yb : 0 ≤ pIx true (tC B n s.1) := by
                  unfold pIx
                  rw [if_pos rfl]
                  repeat' split
                  all_goals omega
                omega)
             | (rw [pWb_f] at z
                have y := tA_3 (B := B) (n := n) hb
                rw [if_pos z] at y
                split at y <;> omega))
    · refine r_iload_n dX3_readPart_97 rfl ?_
      refine r_iconst dX3_readPart_98 li_m1 ?_
      refine r_icmp_ne (tgt := 111) dX3_readPart_99 rfl (fun c99 => ?_) (fun c99 => ?_)
      · have hb : s.2.2 = -1 := by
          by_cases hb : s.2.2 = -1
          · exact hb
          · have z1 := tA_bad (B := B) (n := n) (j := 2) hb
            have z2 := tA_bad (B := B) (n := n) (j := 3) hb
            have z3 := (hR.bad hb).2
            omega
        have f7 := (hR.fine hb).2.2.1
        have f0 := (hR.fine hb).1
        refine r_aload_n dX3_readPart_111 rfl ?_
        refine r_dup dX3_readPart_112 (by first | exact od_ne2 | exact od_ne0) ?_
        refine r_getIj (j := 7) rfl dX3_readPart_113 fkX3_37 gf3_7 (by assumption) (by (repeat (first | rewrite [od_upn (by omega)] | rewrite [od_up_at, if_pos (by omega)] | rewrite [od_up_at, if_neg (by omega)])); rfl) ?_
        refine r_iconst dX3_readPart_116 li_1 ?_
        refine r_iaddE dX3_readPart_117 (by first | exact od_w0 (by omega) (by omega) | exact od_wI (by omega) (by omega) | rfl) ?_
        refine r_putIj (j := 7) rfl dX3_readPart_118 fkX3_37 gf3_7 pf3_7 (by assumption) ?_
        refine r_iload_n dX3_readPart_121 rfl ?_
        refine r_if_eq (tgt := 145) dX3_readPart_122 rfl (fun _ => ?_) (fun h => absurd h (by decide))
        have hT1 : TpOk (od_up g rd 7 (g rd 7 + 1)) tp B n := hT.xp (rd := rd) (t := t) (z := g t 7) hor (od_fr.rf.up (by unfold XP; omega))
        have hR1 := RSt.pts hR hb
        have ya := tA_law (B := B) (n := n) hb (by assumption)
        have yb : (true = true ∨ tA B n 2 s < 5) → ¬ (pOf true (tC B n s.1) = true) ∧ (0 ≤ pIx true (tC B n s.1) ∧ pIx true (tC B n s.1) < wlI true) ∧ tA B n 2 s = pIx true (tC B n s.1) := fun _ => ⟨ya.2.1, ya.2.2.1, ya.2.2.2.1⟩
        have yc : (true = false ∧ 5 ≤ tA B n 2 s) → pOf true (tC B n s.1) = true ∧ ∀ v : Int, 0 ≤ v ∧ v ≤ 5 → (0 ≤ pIx true (tC B n s.1) + v ∧ pIx true (tC B n s.1) + v < wlI true) ∧ 5 + (tA B n 2 s - 5) * 6 + v = pIx true (tC B n s.1) + v := fun z => absurd z.1 (by decide)
        have yd := ya.2.2.2.2
        refine r_aload_n dX3_readPart_145 rfl ?_
        refine r_callV0p dX3_readPart_146 cvX3_50 (by assumption) (c_X3_goOn hr0 hT1.1 hT1.2.1 hT1.2.2.1.2 hT1.2.2.2 (hR1.g5 hT1.2.2.1.1 hb)) (by omega) (Nat.le_of_ble_eq_true rfl) od_le.rf (fun r146 g146 h146 => ?_)
        obtain ⟨rfl, f146, w4146, w5146, w6146, w3146⟩ := h146
        show od_Rq _ _ _ _ _ _ _ [] _ _
        have S3 := RSt.go hR1 hb (by show tC B n s.1 ≠ 0; omega) f146 w4146 w5146 w6146 w3146
        have hT3 := hT1.xp (t := t) (z := g t 7) hor (fr_rd f146 (by omega))
        have e7x : g146 t 7 = g t 7 := by rw [f146 t 7 (by omega), od_upn (by omega)]
        have hl3 : g146 rd 2 = _ := ((f146 rd 2 (by omega)).trans (by rw [od_up_at, if_neg (by omega)])).trans hl
        refine r_aload_n dX3_readPart_149 rfl ?_
        refine r_iload_n dX3_readPart_150 rfl ?_
        refine r_callV1p dX3_readPart_151 cvX3_148 (by assumption) (c_X3_putWord hr0 hT3 S3 hl3 hb _ (by omega) (by omega)) (by omega) (Nat.le_of_ble_eq_true rfl) od_le.rf (fun r151 g151 h151 => ?_)
        obtain ⟨rfl, p151⟩ := h151
        show od_Rq _ _ _ _ _ _ _ [] _ _
        first
        | (refine r_vretq dX3_readPart_154 rfl rfl ⟨rfl, ?_⟩
           rw [pPart_leaf hb (by omega) (Or.inl ⟨c50n, by omega⟩)]
           unfold pLeaf
           rw [if_neg (by omega), if_pos c50n]
           have S3 := RSt.go hR2 hb (by show tC B n s.1 ≠ 0; omega) f139 w4139 w5139 w6139 w3139
           have e7 : g139 t 7 = g t 7 + 1 := by rw [f139 t 7 (by omega), cTPut_7, od_upn (by omega)]
           have e6 : g139 (t + 6) = cTPut (od_up g rd 7 (g rd 7 + 1)) t 1 (tV B n s.1) (t + 6) := f139.row (fun y z => by omega)
           have i4 := S3.i4 hb h40
           refine ⟨(((od_fr.rf.up (by unfold XP; omega)).tr (cTPut_fr (by rw [od_upn (by omega)]; omega))).tr (fr_rd f139 (by omega))), S3, ⟨by omega, ?_, ?_, i4⟩, fun _ => ?_⟩
           · show g139 t 7 - g t 7 ≤ s.1 + 1 - s.1; omega
           · show s.1 ≤ s.1 + 1; omega
           · rw [e7]
             refine (RT_num hz.1 (by omega) ?_).mo (by omega)
             rw [e6, cTPut_r, od_upn (by omega), if_pos rfl])
        | (refine r_vretq dX3_readPart_154 rfl rfl ⟨rfl, ?_⟩
           have i4 := S3.i4 hb h40
           have i4x : s.1 + 1 ≤ 400 := i4
           have e7 : g146 t 7 = g t 7 := by rw [f146 t 7 (by omega), od_upn (by omega)]
           have f1 : od_fr (XP rd t (g t 7)) g g146 := (od_fr.rf.up (by unfold XP; omega)).tr (fr_rd f146 (by omega))
           rw [pPart_leaf hb (by omega) (Or.inr ya.1)]
           unfold pLeaf
           rw [if_neg (by omega), if_neg (by omega)]
           rcases p151 with ⟨z1, rfl⟩ | ⟨z1, z2, z3, z4⟩ | ⟨z1, z2, rfl⟩
           · obtain ⟨hof, hix, hwx⟩ := yb z1
             rw [if_neg hof]
             refine ⟨f1.tr (cTPut_fr (by omega)), S3.put hor.2, ⟨?_, ?_, ?_, i4⟩, fun _ => ?_⟩
             · rw [cTPut_7]; omega
             · rw [cTPut_7, e7]; show _ ≤ s.1 + 1 - s.1; omega
             · show s.1 ≤ s.1 + 1; omega
             · rw [cTPut_7, e7]
               refine (RT_wd hz.1 hix (by unfold wlI; split <;> omega) ?_).mo (by omega)
               rw [cTPut_r, e7, if_pos rfl, hwx]
           · obtain ⟨hof, hix⟩ := yc z1
             rw [if_pos hof]
             have e2 : pMn (tC B n) (tV B n) (tpl B n) 0 5 (s.1 + 1, s.2.1 + 1, s.2.2) = pNx (s.1 + 1, s.2.1 + 1, s.2.2) := if_pos ⟨hb, z2⟩
             rw [e2]
             have i5 := z4.i4 hb h40
             have hx := hix (tV B n (s.1 + 1)) ⟨z2.2.1, z2.2.2⟩
             have e77 : g151 t 7 = g t 7 + 1 := by rw [z3 t 7 (by omega), cTPut_7, e7]
             have e66 : g151 (t + 6) (g t 7) = od_stp 2 (pIx true (tC B n s.1) + tV B n (s.1 + 1)) := by
               rw [z3.row (a := t + 6) (fun y z => by omega), cTPut_r, e7, if_pos rfl, ← hx.2]
               rfl
             refine ⟨(f1.tr (cTPut_fr (by omega))).tr (fr_rd z3 (by omega)), z4, ⟨by omega, ?_, ?_, i5⟩, fun _ => ?_⟩
             · show _ ≤ s.1 + 1 + 1 - s.1; omega
             · show s.1 ≤ s.1 + 1 + 1; omega
             · rw [e77]
               exact (RT_wd hz.1 hx.1 (by unfold wlI; split <;> omega) e66).mo (by omega)
           · obtain ⟨hof, hix⟩ := yc z1
             rw [if_pos hof]
             have e2 : pMn (tC B n) (tV B n) (tpl B n) 0 5 (s.1 + 1, s.2.1 + 1, s.2.2) = pF (tpl B n) (s.1 + 1, s.2.1 + 1, s.2.2) := if_neg (fun z => z2 z.2)
             rw [e2]
             exact RQ.flt h40.1 f1 S3 (by show g t 7 ≤ g146 t 7 ∧ g146 t 7 - g t 7 ≤ s.1 + 1 - s.1 ∧ s.1 ≤ s.1 + 1 ∧ s.1 + 1 ≤ 400; omega) hor.2)
      · refine r_iload_n dX3_readPart_102 rfl ?_
        refine r_if_ne (tgt := 111) dX3_readPart_103 rfl (fun h => absurd h (by decide)) (fun _ => ?_)
        refine r_aload_n dX3_readPart_106 rfl ?_
        refine r_callV0v dX3_readPart_107 cvX3_60 (by assumption) (c_X3_setFault hr0) (by omega) (Nat.le_of_ble_eq_true rfl) od_le.rf ?_
        refine r_vretq dX3_readPart_110 rfl rfl ⟨rfl, ?_⟩
        rw [pPart_flt (fun z => q3 ⟨z.1, by have := z.2; omega⟩) (fun hb => ?_)]
        · exact RQ.flt h40.1 od_fr.rf hR (by omega) hor.2
        · have f7 := (hR.fine hb).2.2.1
          first
          | exact Or.inl (by omega)
          | (refine Or.inr (fun z => ?_)
             rcases z with ⟨z1, z2⟩ | z
             · have y1 := tV_b hR hT.2.2.2 hb z1
               have y2 := (hR.num hT.2.2.2).mpr ⟨hb, z1⟩
               omega
             · first
               | (rw [pWb_t] at z
                  have y := tA_2 (B := B) (n := n) hb
                  rw [if_pos z] at y
                  have yb : 0 ≤ pIx true (tC B n s.1) := by
                    unfold pIx
                    rw [if_pos rfl]
                    repeat' split
                    all_goals omega
                  omega)
               | (rw [pWb_f] at z
                  have y := tA_3 (B := B) (n := n) hb
                  rw [if_pos z] at y
                  split at y <;> omega))
  · refine r_aload_n dX3_readPart_72 rfl ?_
    refine r_getIj (j := 6) rfl dX3_readPart_73 fkX3_34 gf3_6 (by assumption) (by (repeat (first | rewrite [od_upn (by omega)] | rewrite [od_up_at, if_pos (by omega)] | rewrite [od_up_at, if_neg (by omega)])); rfl) ?_
    refine r_sipush dX3_readPart_76 ls_1000 ?_
    refine r_icmp_gt (tgt := 86) dX3_readPart_79 rfl (fun c79 => ?_) (fun c79 => ?_)
    · refine r_iconst dX3_readPart_86 li_0 ?_
      refine r_istore_n dX3_readPart_87 (by decide) rfl ?_
      refine r_aload_n dX3_readPart_88 rfl ?_
      refine r_getIj (j := 7) rfl dX3_readPart_89 fkX3_37 gf3_7 (by assumption) (by (repeat (first | rewrite [od_upn (by omega)] | rewrite [od_up_at, if_pos (by omega)] | rewrite [od_up_at, if_neg (by omega)])); rfl) ?_
      refine r_bipush dX3_readPart_92 lb_50 ?_
      refine r_icmp_ge (tgt := 106) dX3_readPart_94 rfl (fun c94 => ?_) (fun c94 => ?_)
      · refine r_aload_n dX3_readPart_106 rfl ?_
        refine r_callV0v dX3_readPart_107 cvX3_60 (by assumption) (c_X3_setFault hr0) (by omega) (Nat.le_of_ble_eq_true rfl) od_le.rf ?_
        refine r_vretq dX3_readPart_110 rfl rfl ⟨rfl, ?_⟩
        rw [pPart_flt (fun z => q3 ⟨z.1, by have := z.2; omega⟩) (fun hb => ?_)]
        · exact RQ.flt h40.1 od_fr.rf hR (by omega) hor.2
        · have f7 := (hR.fine hb).2.2.1
          first
          | exact Or.inl (by omega)
          | (refine Or.inr (fun z => ?_)
             rcases z with ⟨z1, z2⟩ | z
             · have y1 := tV_b hR hT.2.2.2 hb z1
               have y2 := (hR.num hT.2.2.2).mpr ⟨hb, z1⟩
               omega
             · first
               | (rw [pWb_t] at z
                  have y := tA_2 (B := B) (n := n) hb
                  rw [if_pos z] at y
                  have yb : 0 ≤ pIx true (tC B n s.1) := by
                    unfold pIx
                    rw [if_pos rfl]
                    repeat' split
                    all_goals omega
                  omega)
               | (rw [pWb_f] at z
                  have y := tA_3 (B := B) (n := n) hb
                  rw [if_pos z] at y
                  split at y <;> omega))
      · refine r_iload_n dX3_readPart_97 rfl ?_
        refine r_iconst dX3_readPart_98 li_m1 ?_
        refine r_icmp_ne (tgt := 111) dX3_readPart_99 rfl (fun c99 => ?_) (fun c99 => ?_)
        · have hb : s.2.2 = -1 := by
            by_cases hb : s.2.2 = -1
            · exact hb
            · have z1 := tA_bad (B := B) (n := n) (j := 2) hb
              have z2 := tA_bad (B := B) (n := n) (j := 3) hb
              have z3 := (hR.bad hb).2
              omega
          have f7 := (hR.fine hb).2.2.1
          have f0 := (hR.fine hb).1
          refine r_aload_n dX3_readPart_111 rfl ?_
          refine r_dup dX3_readPart_112 (by first | exact od_ne2 | exact od_ne0) ?_
          refine r_getIj (j := 7) rfl dX3_readPart_113 fkX3_37 gf3_7 (by assumption) (by (repeat (first | rewrite [od_upn (by omega)] | rewrite [od_up_at, if_pos (by omega)] | rewrite [od_up_at, if_neg (by omega)])); rfl) ?_
          refine r_iconst dX3_readPart_116 li_1 ?_
          refine r_iaddE dX3_readPart_117 (by first | exact od_w0 (by omega) (by omega) | exact od_wI (by omega) (by omega) | rfl) ?_
          refine r_putIj (j := 7) rfl dX3_readPart_118 fkX3_37 gf3_7 pf3_7 (by assumption) ?_
          refine r_iload_n dX3_readPart_121 rfl ?_
          refine r_if_eq (tgt := 145) dX3_readPart_122 rfl (fun _ => ?_) (fun h => absurd h (by decide))
          have hT1 : TpOk (od_up g rd 7 (g rd 7 + 1)) tp B n := hT.xp (rd := rd) (t := t) (z := g t 7) hor (od_fr.rf.up (by unfold XP; omega))
          have hR1 := RSt.pts hR hb
          have ya := tA_law (B := B) (n := n) hb (by assumption)
          have yb : (true = true ∨ tA B n 2 s < 5) → ¬ (pOf true (tC B n s.1) = true) ∧ (0 ≤ pIx true (tC B n s.1) ∧ pIx true (tC B n s.1) < wlI true) ∧ tA B n 2 s = pIx true (tC B n s.1) := fun _ => ⟨ya.2.1, ya.2.2.1, ya.2.2.2.1⟩
          have yc : (true = false ∧ 5 ≤ tA B n 2 s) → pOf true (tC B n s.1) = true ∧ ∀ v : Int, 0 ≤ v ∧ v ≤ 5 → (0 ≤ pIx true (tC B n s.1) + v ∧ pIx true (tC B n s.1) + v < wlI true) ∧ 5 + (tA B n 2 s - 5) * 6 + v = pIx true (tC B n s.1) + v := fun z => absurd z.1 (by decide)
          have yd := ya.2.2.2.2
          refine r_aload_n dX3_readPart_145 rfl ?_
          refine r_callV0p dX3_readPart_146 cvX3_50 (by assumption) (c_X3_goOn hr0 hT1.1 hT1.2.1 hT1.2.2.1.2 hT1.2.2.2 (hR1.g5 hT1.2.2.1.1 hb)) (by omega) (Nat.le_of_ble_eq_true rfl) od_le.rf (fun r146 g146 h146 => ?_)
          obtain ⟨rfl, f146, w4146, w5146, w6146, w3146⟩ := h146
          show od_Rq _ _ _ _ _ _ _ [] _ _
          have S3 := RSt.go hR1 hb (by show tC B n s.1 ≠ 0; omega) f146 w4146 w5146 w6146 w3146
          have hT3 := hT1.xp (t := t) (z := g t 7) hor (fr_rd f146 (by omega))
          have e7x : g146 t 7 = g t 7 := by rw [f146 t 7 (by omega), od_upn (by omega)]
          have hl3 : g146 rd 2 = _ := ((f146 rd 2 (by omega)).trans (by rw [od_up_at, if_neg (by omega)])).trans hl
          refine r_aload_n dX3_readPart_149 rfl ?_
          refine r_iload_n dX3_readPart_150 rfl ?_
          refine r_callV1p dX3_readPart_151 cvX3_148 (by assumption) (c_X3_putWord hr0 hT3 S3 hl3 hb _ (by omega) (by omega)) (by omega) (Nat.le_of_ble_eq_true rfl) od_le.rf (fun r151 g151 h151 => ?_)
          obtain ⟨rfl, p151⟩ := h151
          show od_Rq _ _ _ _ _ _ _ [] _ _
          first
          | (refine r_vretq dX3_readPart_154 rfl rfl ⟨rfl, ?_⟩
             rw [pPart_leaf hb (by omega) (Or.inl ⟨c50n, by omega⟩)]
             unfold pLeaf
             rw [if_neg (by omega), if_pos c50n]
             have S3 := RSt.go hR2 hb (by show tC B n s.1 ≠ 0; omega) f139 w4139 w5139 w6139 w3139
             have e7 : g139 t 7 = g t 7 + 1 := by rw [f139 t 7 (by omega), cTPut_7, od_upn (by omega)]
             have e6 : g139 (t + 6) = cTPut (od_up g rd 7 (g rd 7 + 1)) t 1 (tV B n s.1) (t + 6) := f139.row (fun y z => by omega)
             have i4 := S3.i4 hb h40
             refine ⟨(((od_fr.rf.up (by unfold XP; omega)).tr (cTPut_fr (by rw [od_upn (by omega)]; omega))).tr (fr_rd f139 (by omega))), S3, ⟨by omega, ?_, ?_, i4⟩, fun _ => ?_⟩
             · show g139 t 7 - g t 7 ≤ s.1 + 1 - s.1; omega
             · show s.1 ≤ s.1 + 1; omega
             · rw [e7]
               refine (RT_num hz.1 (by omega) ?_).mo (by omega)
               rw [e6, cTPut_r, od_upn (by omega), if_pos rfl])
          | (refine r_vretq dX3_readPart_154 rfl rfl ⟨rfl, ?_⟩
             have i4 := S3.i4 hb h40
             have i4x : s.1 + 1 ≤ 400 := i4
             have e7 : g146 t 7 = g t 7 := by rw [f146 t 7 (by omega), od_upn (by omega)]
             have f1 : od_fr (XP rd t (g t 7)) g g146 := (od_fr.rf.up (by unfold XP; omega)).tr (fr_rd f146 (by omega))
             rw [pPart_leaf hb (by omega) (Or.inr ya.1)]
             unfold pLeaf
             rw [if_neg (by omega), if_neg (by omega)]
             rcases p151 with ⟨z1, rfl⟩ | ⟨z1, z2, z3, z4⟩ | ⟨z1, z2, rfl⟩
             · obtain ⟨hof, hix, hwx⟩ := yb z1
               rw [if_neg hof]
               refine ⟨f1.tr (cTPut_fr (by omega)), S3.put hor.2, ⟨?_, ?_, ?_, i4⟩, fun _ => ?_⟩
               · rw [cTPut_7]; omega
               · rw [cTPut_7, e7]; show _ ≤ s.1 + 1 - s.1; omega
               · show s.1 ≤ s.1 + 1; omega
               · rw [cTPut_7, e7]
                 refine (RT_wd hz.1 hix (by unfold wlI; split <;> omega) ?_).mo (by omega)
                 rw [cTPut_r, e7, if_pos rfl, hwx]
             · obtain ⟨hof, hix⟩ := yc z1
               rw [if_pos hof]
               have e2 : pMn (tC B n) (tV B n) (tpl B n) 0 5 (s.1 + 1, s.2.1 + 1, s.2.2) = pNx (s.1 + 1, s.2.1 + 1, s.2.2) := if_pos ⟨hb, z2⟩
               rw [e2]
               have i5 := z4.i4 hb h40
               have hx := hix (tV B n (s.1 + 1)) ⟨z2.2.1, z2.2.2⟩
               have e77 : g151 t 7 = g t 7 + 1 := by rw [z3 t 7 (by omega), cTPut_7, e7]
               have e66 : g151 (t + 6) (g t 7) = od_stp 2 (pIx true (tC B n s.1) + tV B n (s.1 + 1)) := by
                 rw [z3.row (a := t + 6) (fun y z => by omega), cTPut_r, e7, if_pos rfl, ← hx.2]
                 rfl
               refine ⟨(f1.tr (cTPut_fr (by omega))).tr (fr_rd z3 (by omega)), z4, ⟨by omega, ?_, ?_, i5⟩, fun _ => ?_⟩
               · show _ ≤ s.1 + 1 + 1 - s.1; omega
               · show s.1 ≤ s.1 + 1 + 1; omega
               · rw [e77]
                 exact (RT_wd hz.1 hx.1 (by unfold wlI; split <;> omega) e66).mo (by omega)
             · obtain ⟨hof, hix⟩ := yc z1
               rw [if_pos hof]
               have e2 : pMn (tC B n) (tV B n) (tpl B n) 0 5 (s.1 + 1, s.2.1 + 1, s.2.2) = pF (tpl B n) (s.1 + 1, s.2.1 + 1, s.2.2) := if_neg (fun z => z2 z.2)
               rw [e2]
               exact RQ.flt h40.1 f1 S3 (by show g t 7 ≤ g146 t 7 ∧ g146 t 7 - g t 7 ≤ s.1 + 1 - s.1 ∧ s.1 ≤ s.1 + 1 ∧ s.1 + 1 ≤ 400; omega) hor.2)
        · refine r_iload_n dX3_readPart_102 rfl ?_
          refine r_if_ne (tgt := 111) dX3_readPart_103 rfl (fun h => absurd h (by decide)) (fun _ => ?_)
          refine r_aload_n dX3_readPart_106 rfl ?_
          refine r_callV0v dX3_readPart_107 cvX3_60 (by assumption) (c_X3_setFault hr0) (by omega) (Nat.le_of_ble_eq_true rfl) od_le.rf ?_
          refine r_vretq dX3_readPart_110 rfl rfl ⟨rfl, ?_⟩
          rw [pPart_flt (fun z => q3 ⟨z.1, by have := z.2; omega⟩) (fun hb => ?_)]
          · exact RQ.flt h40.1 od_fr.rf hR (by omega) hor.2
          · have f7 := (hR.fine hb).2.2.1
            first
            | exact Or.inl (by omega)
            | (refine Or.inr (fun z => ?_)
               rcases z with ⟨z1, z2⟩ | z
               · have y1 := tV_b hR hT.2.2.2 hb z1
                 have y2 := (hR.num hT.2.2.2).mpr ⟨hb, z1⟩
                 omega
               · first
                 | (rw [pWb_t] at z
                    have y := tA_2 (B := B) (n := n) hb
                    rw [if_pos z] at y
                    have yb : 0 ≤ pIx true (tC B n s.1) := by
                      unfold pIx
                      rw [if_pos rfl]
                      repeat' split
                      all_goals omega
                    omega)
                 | (rw [pWb_f] at z
                    have y := tA_3 (B := B) (n := n) hb
                    rw [if_pos z] at y
                    split at y <;> omega))
    · refine r_iconst dX3_readPart_82 li_1 ?_
      refine r_goto (tgt := 87) dX3_readPart_83 rfl ?_
      refine r_istore_n dX3_readPart_87 (by decide) rfl ?_
      refine r_aload_n dX3_readPart_88 rfl ?_
      refine r_getIj (j := 7) rfl dX3_readPart_89 fkX3_37 gf3_7 (by assumption) (by (repeat (first | rewrite [od_upn (by omega)] | rewrite [od_up_at, if_pos (by omega)] | rewrite [od_up_at, if_neg (by omega)])); rfl) ?_
      refine r_bipush dX3_readPart_92 lb_50 ?_
      refine r_icmp_ge (tgt := 106) dX3_readPart_94 rfl (fun c94 => ?_) (fun c94 => ?_)
      · refine r_aload_n dX3_readPart_106 rfl ?_
        refine r_callV0v dX3_readPart_107 cvX3_60 (by assumption) (c_X3_setFault hr0) (by omega) (Nat.le_of_ble_eq_true rfl) od_le.rf ?_
        refine r_vretq dX3_readPart_110 rfl rfl ⟨rfl, ?_⟩
        rw [pPart_flt (fun z => q3 ⟨z.1, by have := z.2; omega⟩) (fun hb => ?_)]
        · exact RQ.flt h40.1 od_fr.rf hR (by omega) hor.2
        · have f7 := (hR.fine hb).2.2.1
          first
          | exact Or.inl (by omega)
          | (refine Or.inr (fun z => ?_)
             rcases z with ⟨z1, z2⟩ | z
             · have y1 := tV_b hR hT.2.2.2 hb z1
               have y2 := (hR.num hT.2.2.2).mpr ⟨hb, z1⟩
               omega
             · first
               | (rw [pWb_t] at z
                  have y := tA_2 (B := B) (n := n) hb
                  rw [if_pos z] at y
                  have yb : 0 ≤ pIx true (tC B n s.1) := by
                    unfold pIx
                    rw [if_pos rfl]
                    repeat' split
                    all_goals omega
                  omega)
               | (rw [pWb_f] at z
                  have y := tA_3 (B := B) (n := n) hb
                  rw [if_pos z] at y
                  split at y <;> omega))
      · refine r_iload_n dX3_readPart_97 rfl ?_
        refine r_iconst dX3_readPart_98 li_m1 ?_
        refine r_icmp_ne (tgt := 111) dX3_readPart_99 rfl (fun c99 => ?_) (fun c99 => ?_)
        · have hb : s.2.2 = -1 := by
            by_cases hb : s.2.2 = -1
            · exact hb
            · have z1 := tA_bad (B := B) (n := n) (j := 2) hb
              have z2 := tA_bad (B := B) (n := n) (j := 3) hb
              have z3 := (hR.bad hb).2
              omega
          have f7 := (hR.fine hb).2.2.1
          have f0 := (hR.fine hb).1
          refine r_aload_n dX3_readPart_111 rfl ?_
          refine r_dup dX3_readPart_112 (by first | exact od_ne2 | exact od_ne0) ?_
          refine r_getIj (j := 7) rfl dX3_readPart_113 fkX3_37 gf3_7 (by assumption) (by (repeat (first | rewrite [od_upn (by omega)] | rewrite [od_up_at, if_pos (by omega)] | rewrite [od_up_at, if_neg (by omega)])); rfl) ?_
          refine r_iconst dX3_readPart_116 li_1 ?_
          refine r_iaddE dX3_readPart_117 (by first | exact od_w0 (by omega) (by omega) | exact od_wI (by omega) (by omega) | rfl) ?_
          refine r_putIj (j := 7) rfl dX3_readPart_118 fkX3_37 gf3_7 pf3_7 (by assumption) ?_
          refine r_iload_n dX3_readPart_121 rfl ?_
          refine r_if_eq (tgt := 145) dX3_readPart_122 rfl (fun h => absurd h (by decide)) (fun _ => ?_)
          have c50n := ((hR.num hT.2.2.2).mp (by assumption)).2
          have z1 := tV_b hR hT.2.2.2 hb c50n
          refine r_aload_n dX3_readPart_125 rfl ?_
          refine r_getR dX3_readPart_126 fkX3_14 gf3_0 (by assumption) (by assumption) ?_
          refine r_iconst dX3_readPart_129 li_1 ?_
          refine r_aload_n dX3_readPart_130 rfl ?_
          refine r_getIj (j := 6) rfl dX3_readPart_131 fkX3_34 gf3_6 (by assumption) (by (repeat (first | rewrite [od_upn (by omega)] | rewrite [od_up_at, if_pos (by omega)] | rewrite [od_up_at, if_neg (by omega)])); rfl) ?_
          rw [show g rd 6 = tV B n s.1 by omega]
          refine r_callV2i dX3_readPart_134 cvX3_86 (by assumption) (c_X9_put htx _ _ (by rw [od_upn (by omega)]; omega)) (by omega) (Nat.le_of_ble_eq_true rfl) od_le.rf ?_
          refine r_pop dX3_readPart_137 (by first | exact od_ne2 | exact od_ne0) ?_
          have hT1 : TpOk (od_up g rd 7 (g rd 7 + 1)) tp B n := hT.xp (rd := rd) (t := t) (z := g t 7) hor (od_fr.rf.up (by unfold XP; omega))
          have hR1 := RSt.pts hR hb
          have hT2 := hT1.put (st := 1) (nu := tV B n s.1) hor
          have hR2 := hR1.put (st := 1) (nu := tV B n s.1) hor.2
          refine r_aload_n dX3_readPart_138 rfl ?_
          refine r_callV0p dX3_readPart_139 cvX3_50 (by assumption) (c_X3_goOn hr0 hT2.1 hT2.2.1 hT2.2.2.1.2 hT2.2.2.2 (hR2.g5 hT2.2.2.1.1 hb)) (by omega) (Nat.le_of_ble_eq_true rfl) od_le.rf (fun r139 g139 h139 => ?_)
          obtain ⟨rfl, f139, w4139, w5139, w6139, w3139⟩ := h139
          show od_Rq _ _ _ _ _ _ _ [] _ _
          refine r_goto (tgt := 154) dX3_readPart_142 rfl ?_
          first
          | (refine r_vretq dX3_readPart_154 rfl rfl ⟨rfl, ?_⟩
             rw [pPart_leaf hb (by omega) (Or.inl ⟨c50n, by omega⟩)]
             unfold pLeaf
             rw [if_neg (by omega), if_pos c50n]
             have S3 := RSt.go hR2 hb (by show tC B n s.1 ≠ 0; omega) f139 w4139 w5139 w6139 w3139
             have e7 : g139 t 7 = g t 7 + 1 := by rw [f139 t 7 (by omega), cTPut_7, od_upn (by omega)]
             have e6 : g139 (t + 6) = cTPut (od_up g rd 7 (g rd 7 + 1)) t 1 (tV B n s.1) (t + 6) := f139.row (fun y z => by omega)
             have i4 := S3.i4 hb h40
             refine ⟨(((od_fr.rf.up (by unfold XP; omega)).tr (cTPut_fr (by rw [od_upn (by omega)]; omega))).tr (fr_rd f139 (by omega))), S3, ⟨by omega, ?_, ?_, i4⟩, fun _ => ?_⟩
             · show g139 t 7 - g t 7 ≤ s.1 + 1 - s.1; omega
             · show s.1 ≤ s.1 + 1; omega
             · rw [e7]
               refine (RT_num hz.1 (by omega) ?_).mo (by omega)
               rw [e6, cTPut_r, od_upn (by omega), if_pos rfl])
          | (refine r_vretq dX3_readPart_154 rfl rfl ⟨rfl, ?_⟩
             have i4 := S3.i4 hb h40
             have i4x : s.1 + 1 ≤ 400 := i4
             have e7 : g146 t 7 = g t 7 := by rw [f146 t 7 (by omega), od_upn (by omega)]
             have f1 : od_fr (XP rd t (g t 7)) g g146 := (od_fr.rf.up (by unfold XP; omega)).tr (fr_rd f146 (by omega))
             rw [pPart_leaf hb (by omega) (Or.inr ya.1)]
             unfold pLeaf
             rw [if_neg (by omega), if_neg (by omega)]
             rcases p151 with ⟨z1, rfl⟩ | ⟨z1, z2, z3, z4⟩ | ⟨z1, z2, rfl⟩
             · obtain ⟨hof, hix, hwx⟩ := yb z1
               rw [if_neg hof]
               refine ⟨f1.tr (cTPut_fr (by omega)), S3.put hor.2, ⟨?_, ?_, ?_, i4⟩, fun _ => ?_⟩
               · rw [cTPut_7]; omega
               · rw [cTPut_7, e7]; show _ ≤ s.1 + 1 - s.1; omega
               · show s.1 ≤ s.1 + 1; omega
               · rw [cTPut_7, e7]
                 refine (RT_wd hz.1 hix (by unfold wlI; split <;> omega) ?_).mo (by omega)
                 rw [cTPut_r, e7, if_pos rfl, hwx]
             · obtain ⟨hof, hix⟩ := yc z1
               rw [if_pos hof]
               have e2 : pMn (tC B n) (tV B n) (tpl B n) 0 5 (s.1 + 1, s.2.1 + 1, s.2.2) = pNx (s.1 + 1, s.2.1 + 1, s.2.2) := if_pos ⟨hb, z2⟩
               rw [e2]
               have i5 := z4.i4 hb h40
               have hx := hix (tV B n (s.1 + 1)) ⟨z2.2.1, z2.2.2⟩
               have e77 : g151 t 7 = g t 7 + 1 := by rw [z3 t 7 (by omega), cTPut_7, e7]
               have e66 : g151 (t + 6) (g t 7) = od_stp 2 (pIx true (tC B n s.1) + tV B n (s.1 + 1)) := by
                 rw [z3.row (a := t + 6) (fun y z => by omega), cTPut_r, e7, if_pos rfl, ← hx.2]
                 rfl
               refine ⟨(f1.tr (cTPut_fr (by omega))).tr (fr_rd z3 (by omega)), z4, ⟨by omega, ?_, ?_, i5⟩, fun _ => ?_⟩
               · show _ ≤ s.1 + 1 + 1 - s.1; omega
               · show s.1 ≤ s.1 + 1 + 1; omega
               · rw [e77]
                 exact (RT_wd hz.1 hx.1 (by unfold wlI; split <;> omega) e66).mo (by omega)
             · obtain ⟨hof, hix⟩ := yc z1
               rw [if_pos hof]
               have e2 : pMn (tC B n) (tV B n) (tpl B n) 0 5 (s.1 + 1, s.2.1 + 1, s.2.2) = pF (tpl B n) (s.1 + 1, s.2.1 + 1, s.2.2) := if_neg (fun z => z2 z.2)
               rw [e2]
               exact RQ.flt h40.1 f1 S3 (by show g t 7 ≤ g146 t 7 ∧ g146 t 7 - g t 7 ≤ s.1 + 1 - s.1 ∧ s.1 ≤ s.1 + 1 ∧ s.1 + 1 ≤ 400; omega) hor.2)
        · refine r_iload_n dX3_readPart_102 rfl ?_
          refine r_if_ne (tgt := 111) dX3_readPart_103 rfl (fun _ => ?_) (fun h => absurd h (by decide))
          have hb : s.2.2 = -1 := by
            by_cases hb : s.2.2 = -1
            · exact hb
            · have z1 := tA_bad (B := B) (n := n) (j := 2) hb
              have z2 := tA_bad (B := B) (n := n) (j := 3) hb
              have z3 := (hR.bad hb).2
              omega
          have f7 := (hR.fine hb).2.2.1
          have f0 := (hR.fine hb).1
          refine r_aload_n dX3_readPart_111 rfl ?_
          refine r_dup dX3_readPart_112 (by first | exact od_ne2 | exact od_ne0) ?_
          refine r_getIj (j := 7) rfl dX3_readPart_113 fkX3_37 gf3_7 (by assumption) (by (repeat (first | rewrite [od_upn (by omega)] | rewrite [od_up_at, if_pos (by omega)] | rewrite [od_up_at, if_neg (by omega)])); rfl) ?_
          refine r_iconst dX3_readPart_116 li_1 ?_
          refine r_iaddE dX3_readPart_117 (by first | exact od_w0 (by omega) (by omega) | exact od_wI (by omega) (by omega) | rfl) ?_
          refine r_putIj (j := 7) rfl dX3_readPart_118 fkX3_37 gf3_7 pf3_7 (by assumption) ?_
          refine r_iload_n dX3_readPart_121 rfl ?_
          refine r_if_eq (tgt := 145) dX3_readPart_122 rfl (fun h => absurd h (by decide)) (fun _ => ?_)
          have c50n := ((hR.num hT.2.2.2).mp (by assumption)).2
          have z1 := tV_b hR hT.2.2.2 hb c50n
          refine r_aload_n dX3_readPart_125 rfl ?_
          refine r_getR dX3_readPart_126 fkX3_14 gf3_0 (by assumption) (by assumption) ?_
          refine r_iconst dX3_readPart_129 li_1 ?_
          refine r_aload_n dX3_readPart_130 rfl ?_
          refine r_getIj (j := 6) rfl dX3_readPart_131 fkX3_34 gf3_6 (by assumption) (by (repeat (first | rewrite [od_upn (by omega)] | rewrite [od_up_at, if_pos (by omega)] | rewrite [od_up_at, if_neg (by omega)])); rfl) ?_
          rw [show g rd 6 = tV B n s.1 by omega]
          refine r_callV2i dX3_readPart_134 cvX3_86 (by assumption) (c_X9_put htx _ _ (by rw [od_upn (by omega)]; omega)) (by omega) (Nat.le_of_ble_eq_true rfl) od_le.rf ?_
          refine r_pop dX3_readPart_137 (by first | exact od_ne2 | exact od_ne0) ?_
          have hT1 : TpOk (od_up g rd 7 (g rd 7 + 1)) tp B n := hT.xp (rd := rd) (t := t) (z := g t 7) hor (od_fr.rf.up (by unfold XP; omega))
          have hR1 := RSt.pts hR hb
          have hT2 := hT1.put (st := 1) (nu := tV B n s.1) hor
          have hR2 := hR1.put (st := 1) (nu := tV B n s.1) hor.2
          refine r_aload_n dX3_readPart_138 rfl ?_
          refine r_callV0p dX3_readPart_139 cvX3_50 (by assumption) (c_X3_goOn hr0 hT2.1 hT2.2.1 hT2.2.2.1.2 hT2.2.2.2 (hR2.g5 hT2.2.2.1.1 hb)) (by omega) (Nat.le_of_ble_eq_true rfl) od_le.rf (fun r139 g139 h139 => ?_)
          obtain ⟨rfl, f139, w4139, w5139, w6139, w3139⟩ := h139
          show od_Rq _ _ _ _ _ _ _ [] _ _
          refine r_goto (tgt := 154) dX3_readPart_142 rfl ?_
          first
          | (refine r_vretq dX3_readPart_154 rfl rfl ⟨rfl, ?_⟩
             rw [pPart_leaf hb (by omega) (Or.inl ⟨c50n, by omega⟩)]
             unfold pLeaf
             rw [if_neg (by omega), if_pos c50n]
             have S3 := RSt.go hR2 hb (by show tC B n s.1 ≠ 0; omega) f139 w4139 w5139 w6139 w3139
             have e7 : g139 t 7 = g t 7 + 1 := by rw [f139 t 7 (by omega), cTPut_7, od_upn (by omega)]
             have e6 : g139 (t + 6) = cTPut (od_up g rd 7 (g rd 7 + 1)) t 1 (tV B n s.1) (t + 6) := f139.row (fun y z => by omega)
             have i4 := S3.i4 hb h40
             refine ⟨(((od_fr.rf.up (by unfold XP; omega)).tr (cTPut_fr (by rw [od_upn (by omega)]; omega))).tr (fr_rd f139 (by omega))), S3, ⟨by omega, ?_, ?_, i4⟩, fun _ => ?_⟩
             · show g139 t 7 - g t 7 ≤ s.1 + 1 - s.1; omega
             · show s.1 ≤ s.1 + 1; omega
             · rw [e7]
               refine (RT_num hz.1 (by omega) ?_).mo (by omega)
               rw [e6, cTPut_r, od_upn (by omega), if_pos rfl])
          | (refine r_vretq dX3_readPart_154 rfl rfl ⟨rfl, ?_⟩
             have i4 := S3.i4 hb h40
             have i4x : s.1 + 1 ≤ 400 := i4
             have e7 : g146 t 7 = g t 7 := by rw [f146 t 7 (by omega), od_upn (by omega)]
             have f1 : od_fr (XP rd t (g t 7)) g g146 := (od_fr.rf.up (by unfold XP; omega)).tr (fr_rd f146 (by omega))
             rw [pPart_leaf hb (by omega) (Or.inr ya.1)]
             unfold pLeaf
             rw [if_neg (by omega), if_neg (by omega)]
             rcases p151 with ⟨z1, rfl⟩ | ⟨z1, z2, z3, z4⟩ | ⟨z1, z2, rfl⟩
             · obtain ⟨hof, hix, hwx⟩ := yb z1
               rw [if_neg hof]
               refine ⟨f1.tr (cTPut_fr (by omega)), S3.put hor.2, ⟨?_, ?_, ?_, i4⟩, fun _ => ?_⟩
               · rw [cTPut_7]; omega
               · rw [cTPut_7, e7]; show _ ≤ s.1 + 1 - s.1; omega
               · show s.1 ≤ s.1 + 1; omega
               · rw [cTPut_7, e7]
                 refine (RT_wd hz.1 hix (by unfold wlI; split <;> omega) ?_).mo (by omega)
                 rw [cTPut_r, e7, if_pos rfl, hwx]
             · obtain ⟨hof, hix⟩ := yc z1
               rw [if_pos hof]
               have e2 : pMn (tC B n) (tV B n) (tpl B n) 0 5 (s.1 + 1, s.2.1 + 1, s.2.2) = pNx (s.1 + 1, s.2.1 + 1, s.2.2) := if_pos ⟨hb, z2⟩
               rw [e2]
               have i5 := z4.i4 hb h40
               have hx := hix (tV B n (s.1 + 1)) ⟨z2.2.1, z2.2.2⟩
               have e77 : g151 t 7 = g t 7 + 1 := by rw [z3 t 7 (by omega), cTPut_7, e7]
               have e66 : g151 (t + 6) (g t 7) = od_stp 2 (pIx true (tC B n s.1) + tV B n (s.1 + 1)) := by
                 rw [z3.row (a := t + 6) (fun y z => by omega), cTPut_r, e7, if_pos rfl, ← hx.2]
                 rfl
               refine ⟨(f1.tr (cTPut_fr (by omega))).tr (fr_rd z3 (by omega)), z4, ⟨by omega, ?_, ?_, i5⟩, fun _ => ?_⟩
               · show _ ≤ s.1 + 1 + 1 - s.1; omega
               · show s.1 ≤ s.1 + 1 + 1; omega
               · rw [e77]
                 exact (RT_wd hz.1 hx.1 (by unfold wlI; split <;> omega) e66).mo (by omega)
             · obtain ⟨hof, hix⟩ := yc z1
               rw [if_pos hof]
               have e2 : pMn (tC B n) (tV B n) (tpl B n) 0 5 (s.1 + 1, s.2.1 + 1, s.2.2) = pF (tpl B n) (s.1 + 1, s.2.1 + 1, s.2.2) := if_neg (fun z => z2 z.2)
               rw [e2]
               exact RQ.flt h40.1 f1 S3 (by show g t 7 ≤ g146 t 7 ∧ g146 t 7 - g t 7 ≤ s.1 + 1 - s.1 ∧ s.1 ≤ s.1 + 1 ∧ s.1 + 1 ≤ 400; omega) hor.2)
set_option maxRecDepth 10000 in
theorem sg_X3_rp3 {E : od_E} {g : od_G} {rd tp t : Int} (hr : ReAt E rd tp t) {B : Int → Int} {n : Int} (hT : TpOk g tp B n) {s : pS} (hR : RSt g rd B n s) (hz : RPre g t s) (hl : g rd 2 = lwI false) {L : Nat} (hL : L ≤ 8) (q3 : ¬ (s.2.2 = -1 ∧ tC B n s.1 = 100 + 91)) : od_Rq (8 + 3 * L) mX3_readPart od_Z0 E (E, fun v g' => v = none ∧ RQ pBs (2 * L + 1) (wlI false) g g' rd t B n s (pPart (tC B n) (tV B n) (tpl B n) false (pSub (tC B n) (tV B n) (tpl B n) false L) s)) 63 [some (2, rd), some (0, 8 - (L : Int)), none, none] [(0, tA B n 3 s)] E g := by
  have hr0 := hr
  obtain ⟨hkr, e0, e1, hta, htx, hor⟩ := hr
  have hta0 := hta
  have hk9 := htx.1
  have h40 := hT.2.2.1
  unfold RPre at hz
  refine r_istore_n dX3_readPart_63 (by decide) rfl ?_
  refine r_aload_n dX3_readPart_64 rfl ?_
  refine r_getIj (j := 3) rfl dX3_readPart_65 fkX3_24 gf3_3 (by assumption) (by (repeat (first | rewrite [od_upn (by omega)] | rewrite [od_up_at, if_pos (by omega)] | rewrite [od_up_at, if_neg (by omega)])); rfl) ?_
  refine r_iconst dX3_readPart_68 li_2 ?_
  refine r_icmp_ne (tgt := 86) dX3_readPart_69 rfl (fun c69 => ?_) (fun c69 => ?_)
  · refine r_iconst dX3_readPart_86 li_0 ?_
    refine r_istore_n dX3_readPart_87 (by decide) rfl ?_
    refine r_aload_n dX3_readPart_88 rfl ?_
    refine r_getIj (j := 7) rfl dX3_readPart_89 fkX3_37 gf3_7 (by assumption) (by (repeat (first | rewrite [od_upn (by omega)] | rewrite [od_up_at, if_pos (by omega)] | rewrite [od_up_at, if_neg (by omega)])); rfl) ?_
    refine r_bipush dX3_readPart_92 lb_50 ?_
    refine r_icmp_ge (tgt := 106) dX3_readPart_94 rfl (fun c94 => ?_) (fun c94 => ?_)
    · refine r_aload_n dX3_readPart_106 rfl ?_
      refine r_callV0v dX3_readPart_107 cvX3_60 (by assumption) (c_X3_setFault hr0) (by omega) (Nat.le_of_ble_eq_true rfl) od_le.rf ?_
      refine r_vretq dX3_readPart_110 rfl rfl ⟨rfl, ?_⟩
      rw [pPart_flt (fun z => q3 ⟨z.1, by have := z.2; omega⟩) (fun hb => ?_)]
      · exact RQ.flt h40.1 od_fr.rf hR (by omega) hor.2
      · have f7 := (hR.fine hb).2.2.1
        first
        | exact Or.inl (by omega)
        | (refine Or.inr (fun z => ?_)
           rcases z with ⟨z1, z2⟩ | z
           · have y1 := tV_b hR hT.2.2.2 hb z1
             have y2 := (hR.num hT.2.2.2).mpr ⟨hb, z1⟩
             omega
           · first
             | (rw [pWb_t] at z
                have y := tA_2 (B := B) (n := n) hb
                rw [if_pos z] at y
                have yb : 0 ≤ pIx true (tC B n s.1) := by
                  unfold pIx
                  rw [if_pos rfl]
                  repeat' split
                  all_goals omega
                omega)
             | (rw [pWb_f] at z
                have y := tA_3 (B := B) (n := n) hb
                rw [if_pos z] at y
                split at y <;> omega))
    · refine r_iload_n dX3_readPart_97 rfl ?_
      refine r_iconst dX3_readPart_98 li_m1 ?_
      refine r_icmp_ne (tgt := 111) dX3_readPart_99 rfl (fun c99 => ?_) (fun c99 => ?_)
      · have hb : s.2.2 = -1 := by
          by_cases hb : s.2.2 = -1
          · exact hb
          · have z1 := tA_bad (B := B) (n := n) (j := 2) hb
            have z2 := tA_bad (B := B) (n := n) (j := 3) hb
            have z3 := (hR.bad hb).2
            omega
        have f7 := (hR.fine hb).2.2.1
        have f0 := (hR.fine hb).1
        refine r_aload_n dX3_readPart_111 rfl ?_
        refine r_dup dX3_readPart_112 (by first | exact od_ne2 | exact od_ne0) ?_
        refine r_getIj (j := 7) rfl dX3_readPart_113 fkX3_37 gf3_7 (by assumption) (by (repeat (first | rewrite [od_upn (by omega)] | rewrite [od_up_at, if_pos (by omega)] | rewrite [od_up_at, if_neg (by omega)])); rfl) ?_
        refine r_iconst dX3_readPart_116 li_1 ?_
        refine r_iaddE dX3_readPart_117 (by first | exact od_w0 (by omega) (by omega) | exact od_wI (by omega) (by omega) | rfl) ?_
        refine r_putIj (j := 7) rfl dX3_readPart_118 fkX3_37 gf3_7 pf3_7 (by assumption) ?_
        refine r_iload_n dX3_readPart_121 rfl ?_
        refine r_if_eq (tgt := 145) dX3_readPart_122 rfl (fun _ => ?_) (fun h => absurd h (by decide))
        have hT1 : TpOk (od_up g rd 7 (g rd 7 + 1)) tp B n := hT.xp (rd := rd) (t := t) (z := g t 7) hor (od_fr.rf.up (by unfold XP; omega))
        have hR1 := RSt.pts hR hb
        have ya := tA_ord (B := B) (n := n) hb (by assumption)
        have yb : (false = true ∨ tA B n 3 s < 5) → ¬ (pOf false (tC B n s.1) = true) ∧ (0 ≤ pIx false (tC B n s.1) ∧ pIx false (tC B n s.1) < wlI false) ∧ tA B n 3 s = pIx false (tC B n s.1) := fun z => ya.2.1 (z.resolve_left (by decide))
        have yc : (false = false ∧ 5 ≤ tA B n 3 s) → pOf false (tC B n s.1) = true ∧ ∀ v : Int, 0 ≤ v ∧ v ≤ 5 → (0 ≤ pIx false (tC B n s.1) + v ∧ pIx false (tC B n s.1) + v < wlI false) ∧ 5 + (tA B n 3 s - 5) * 6 + v = pIx false (tC B n s.1) + v := fun z => ya.2.2.1 z.2
        have yd := ya.2.2.2
        refine r_aload_n dX3_readPart_145 rfl ?_
        refine r_callV0p dX3_readPart_146 cvX3_50 (by assumption) (c_X3_goOn hr0 hT1.1 hT1.2.1 hT1.2.2.1.2 hT1.2.2.2 (hR1.g5 hT1.2.2.1.1 hb)) (by omega) (Nat.le_of_ble_eq_true rfl) od_le.rf (fun r146 g146 h146 => ?_)
        obtain ⟨rfl, f146, w4146, w5146, w6146, w3146⟩ := h146
        show od_Rq _ _ _ _ _ _ _ [] _ _
        have S3 := RSt.go hR1 hb (by show tC B n s.1 ≠ 0; omega) f146 w4146 w5146 w6146 w3146
        have hT3 := hT1.xp (t := t) (z := g t 7) hor (fr_rd f146 (by omega))
        have e7x : g146 t 7 = g t 7 := by rw [f146 t 7 (by omega), od_upn (by omega)]
        have hl3 : g146 rd 2 = _ := ((f146 rd 2 (by omega)).trans (by rw [od_up_at, if_neg (by omega)])).trans hl
        refine r_aload_n dX3_readPart_149 rfl ?_
        refine r_iload_n dX3_readPart_150 rfl ?_
        refine r_callV1p dX3_readPart_151 cvX3_148 (by assumption) (c_X3_putWord hr0 hT3 S3 hl3 hb _ (by omega) (by omega)) (by omega) (Nat.le_of_ble_eq_true rfl) od_le.rf (fun r151 g151 h151 => ?_)
        obtain ⟨rfl, p151⟩ := h151
        show od_Rq _ _ _ _ _ _ _ [] _ _
        first
        | (refine r_vretq dX3_readPart_154 rfl rfl ⟨rfl, ?_⟩
           rw [pPart_leaf hb (by omega) (Or.inl ⟨c50n, by omega⟩)]
           unfold pLeaf
           rw [if_neg (by omega), if_pos c50n]
           have S3 := RSt.go hR2 hb (by show tC B n s.1 ≠ 0; omega) f139 w4139 w5139 w6139 w3139
           have e7 : g139 t 7 = g t 7 + 1 := by rw [f139 t 7 (by omega), cTPut_7, od_upn (by omega)]
           have e6 : g139 (t + 6) = cTPut (od_up g rd 7 (g rd 7 + 1)) t 1 (tV B n s.1) (t + 6) := f139.row (fun y z => by omega)
           have i4 := S3.i4 hb h40
           refine ⟨(((od_fr.rf.up (by unfold XP; omega)).tr (cTPut_fr (by rw [od_upn (by omega)]; omega))).tr (fr_rd f139 (by omega))), S3, ⟨by omega, ?_, ?_, i4⟩, fun _ => ?_⟩
           · show g139 t 7 - g t 7 ≤ s.1 + 1 - s.1; omega
           · show s.1 ≤ s.1 + 1; omega
           · rw [e7]
             refine (RT_num hz.1 (by omega) ?_).mo (by omega)
             rw [e6, cTPut_r, od_upn (by omega), if_pos rfl])
        | (refine r_vretq dX3_readPart_154 rfl rfl ⟨rfl, ?_⟩
           have i4 := S3.i4 hb h40
           have i4x : s.1 + 1 ≤ 400 := i4
           have e7 : g146 t 7 = g t 7 := by rw [f146 t 7 (by omega), od_upn (by omega)]
           have f1 : od_fr (XP rd t (g t 7)) g g146 := (od_fr.rf.up (by unfold XP; omega)).tr (fr_rd f146 (by omega))
           rw [pPart_leaf hb (by omega) (Or.inr ya.1)]
           unfold pLeaf
           rw [if_neg (by omega), if_neg (by omega)]
           rcases p151 with ⟨z1, rfl⟩ | ⟨z1, z2, z3, z4⟩ | ⟨z1, z2, rfl⟩
           · obtain ⟨hof, hix, hwx⟩ := yb z1
             rw [if_neg hof]
             refine ⟨f1.tr (cTPut_fr (by omega)), S3.put hor.2, ⟨?_, ?_, ?_, i4⟩, fun _ => ?_⟩
             · rw [cTPut_7]; omega
             · rw [cTPut_7, e7]; show _ ≤ s.1 + 1 - s.1; omega
             · show s.1 ≤ s.1 + 1; omega
             · rw [cTPut_7, e7]
               refine (RT_wd hz.1 hix (by unfold wlI; split <;> omega) ?_).mo (by omega)
               rw [cTPut_r, e7, if_pos rfl, hwx]
           · obtain ⟨hof, hix⟩ := yc z1
             rw [if_pos hof]
             have e2 : pMn (tC B n) (tV B n) (tpl B n) 0 5 (s.1 + 1, s.2.1 + 1, s.2.2) = pNx (s.1 + 1, s.2.1 + 1, s.2.2) := if_pos ⟨hb, z2⟩
             rw [e2]
             have i5 := z4.i4 hb h40
             have hx := hix (tV B n (s.1 + 1)) ⟨z2.2.1, z2.2.2⟩
             have e77 : g151 t 7 = g t 7 + 1 := by rw [z3 t 7 (by omega), cTPut_7, e7]
             have e66 : g151 (t + 6) (g t 7) = od_stp 2 (pIx false (tC B n s.1) + tV B n (s.1 + 1)) := by
               rw [z3.row (a := t + 6) (fun y z => by omega), cTPut_r, e7, if_pos rfl, ← hx.2]
               rfl
             refine ⟨(f1.tr (cTPut_fr (by omega))).tr (fr_rd z3 (by omega)), z4, ⟨by omega, ?_, ?_, i5⟩, fun _ => ?_⟩
             · show _ ≤ s.1 + 1 + 1 - s.1; omega
             · show s.1 ≤ s.1 + 1 + 1; omega
             · rw [e77]
               exact (RT_wd hz.1 hx.1 (by unfold wlI; split <;> omega) e66).mo (by omega)
           · obtain ⟨hof, hix⟩ := yc z1
             rw [if_pos hof]
             have e2 : pMn (tC B n) (tV B n) (tpl B n) 0 5 (s.1 + 1, s.2.1 + 1, s.2.2) = pF (tpl B n) (s.1 + 1, s.2.1 + 1, s.2.2) := if_neg (fun z => z2 z.2)
             rw [e2]
             exact RQ.flt h40.1 f1 S3 (by show g t 7 ≤ g146 t 7 ∧ g146 t 7 - g t 7 ≤ s.1 + 1 - s.1 ∧ s.1 ≤ s.1 + 1 ∧ s.1 + 1 ≤ 400; omega) hor.2)
      · refine r_iload_n dX3_readPart_102 rfl ?_
        refine r_if_ne (tgt := 111) dX3_readPart_103 rfl (fun h => absurd h (by decide)) (fun _ => ?_)
        refine r_aload_n dX3_readPart_106 rfl ?_
        refine r_callV0v dX3_readPart_107 cvX3_60 (by assumption) (c_X3_setFault hr0) (by omega) (Nat.le_of_ble_eq_true rfl) od_le.rf ?_
        refine r_vretq dX3_readPart_110 rfl rfl ⟨rfl, ?_⟩
        rw [pPart_flt (fun z => q3 ⟨z.1, by have := z.2; omega⟩) (fun hb => ?_)]
        · exact RQ.flt h40.1 od_fr.rf hR (by omega) hor.2
        · have f7 := (hR.fine hb).2.2.1
          first
          | exact Or.inl (by omega)
          | (refine Or.inr (fun z => ?_)
             rcases z with ⟨z1, z2⟩ | z
             · have y1 := tV_b hR hT.2.2.2 hb z1
               have y2 := (hR.num hT.2.2.2).mpr ⟨hb, z1⟩
               omega
             · first
               | (rw [pWb_t] at z
                  have y := tA_2 (B := B) (n := n) hb
                  rw [if_pos z] at y
                  have yb : 0 ≤ pIx true (tC B n s.1) := by
                    unfold pIx
                    rw [if_pos rfl]
                    repeat' split
                    all_goals omega
                  omega)
               | (rw [pWb_f] at z
                  have y := tA_3 (B := B) (n := n) hb
                  rw [if_pos z] at y
                  split at y <;> omega))
  · refine r_aload_n dX3_readPart_72 rfl ?_
    refine r_getIj (j := 6) rfl dX3_readPart_73 fkX3_34 gf3_6 (by assumption) (by (repeat (first | rewrite [od_upn (by omega)] | rewrite [od_up_at, if_pos (by omega)] | rewrite [od_up_at, if_neg (by omega)])); rfl) ?_
    refine r_sipush dX3_readPart_76 ls_1000 ?_
    refine r_icmp_gt (tgt := 86) dX3_readPart_79 rfl (fun c79 => ?_) (fun c79 => ?_)
    · refine r_iconst dX3_readPart_86 li_0 ?_
      refine r_istore_n dX3_readPart_87 (by decide) rfl ?_
      refine r_aload_n dX3_readPart_88 rfl ?_
      refine r_getIj (j := 7) rfl dX3_readPart_89 fkX3_37 gf3_7 (by assumption) (by (repeat (first | rewrite [od_upn (by omega)] | rewrite [od_up_at, if_pos (by omega)] | rewrite [od_up_at, if_neg (by omega)])); rfl) ?_
      refine r_bipush dX3_readPart_92 lb_50 ?_
      refine r_icmp_ge (tgt := 106) dX3_readPart_94 rfl (fun c94 => ?_) (fun c94 => ?_)
      · refine r_aload_n dX3_readPart_106 rfl ?_
        refine r_callV0v dX3_readPart_107 cvX3_60 (by assumption) (c_X3_setFault hr0) (by omega) (Nat.le_of_ble_eq_true rfl) od_le.rf ?_
        refine r_vretq dX3_readPart_110 rfl rfl ⟨rfl, ?_⟩
        rw [pPart_flt (fun z => q3 ⟨z.1, by have := z.2; omega⟩) (fun hb => ?_)]
        · exact RQ.flt h40.1 od_fr.rf hR (by omega) hor.2
        · have f7 := (hR.fine hb).2.2.1
          first
          | exact Or.inl (by omega)
          | (refine Or.inr (fun z => ?_)
             rcases z with ⟨z1, z2⟩ | z
             · have y1 := tV_b hR hT.2.2.2 hb z1
               have y2 := (hR.num hT.2.2.2).mpr ⟨hb, z1⟩
               omega
             · first
               | (rw [pWb_t] at z
                  have y := tA_2 (B := B) (n := n) hb
                  rw [if_pos z] at y
                  have yb : 0 ≤ pIx true (tC B n s.1) := by
                    unfold pIx
                    rw [if_pos rfl]
                    repeat' split
                    all_goals omega
                  omega)
               | (rw [pWb_f] at z
                  have y := tA_3 (B := B) (n := n) hb
                  rw [if_pos z] at y
                  split at y <;> omega))
      · refine r_iload_n dX3_readPart_97 rfl ?_
        refine r_iconst dX3_readPart_98 li_m1 ?_
        refine r_icmp_ne (tgt := 111) dX3_readPart_99 rfl (fun c99 => ?_) (fun c99 => ?_)
        · have hb : s.2.2 = -1 := by
            by_cases hb : s.2.2 = -1
            · exact hb
            · have z1 := tA_bad (B := B) (n := n) (j := 2) hb
              have z2 := tA_bad (B := B) (n := n) (j := 3) hb
              have z3 := (hR.bad hb).2
              omega
          have f7 := (hR.fine hb).2.2.1
          have f0 := (hR.fine hb).1
          refine r_aload_n dX3_readPart_111 rfl ?_
          refine r_dup dX3_readPart_112 (by first | exact od_ne2 | exact od_ne0) ?_
          refine r_getIj (j := 7) rfl dX3_readPart_113 fkX3_37 gf3_7 (by assumption) (by (repeat (first | rewrite [od_upn (by omega)] | rewrite [od_up_at, if_pos (by omega)] | rewrite [od_up_at, if_neg (by omega)])); rfl) ?_
          refine r_iconst dX3_readPart_116 li_1 ?_
          refine r_iaddE dX3_readPart_117 (by first | exact od_w0 (by omega) (by omega) | exact od_wI (by omega) (by omega) | rfl) ?_
          refine r_putIj (j := 7) rfl dX3_readPart_118 fkX3_37 gf3_7 pf3_7 (by assumption) ?_
          refine r_iload_n dX3_readPart_121 rfl ?_
          refine r_if_eq (tgt := 145) dX3_readPart_122 rfl (fun _ => ?_) (fun h => absurd h (by decide))
          have hT1 : TpOk (od_up g rd 7 (g rd 7 + 1)) tp B n := hT.xp (rd := rd) (t := t) (z := g t 7) hor (od_fr.rf.up (by unfold XP; omega))
          have hR1 := RSt.pts hR hb
          have ya := tA_ord (B := B) (n := n) hb (by assumption)
          have yb : (false = true ∨ tA B n 3 s < 5) → ¬ (pOf false (tC B n s.1) = true) ∧ (0 ≤ pIx false (tC B n s.1) ∧ pIx false (tC B n s.1) < wlI false) ∧ tA B n 3 s = pIx false (tC B n s.1) := fun z => ya.2.1 (z.resolve_left (by decide))
          have yc : (false = false ∧ 5 ≤ tA B n 3 s) → pOf false (tC B n s.1) = true ∧ ∀ v : Int, 0 ≤ v ∧ v ≤ 5 → (0 ≤ pIx false (tC B n s.1) + v ∧ pIx false (tC B n s.1) + v < wlI false) ∧ 5 + (tA B n 3 s - 5) * 6 + v = pIx false (tC B n s.1) + v := fun z => ya.2.2.1 z.2
          have yd := ya.2.2.2
          refine r_aload_n dX3_readPart_145 rfl ?_
          refine r_callV0p dX3_readPart_146 cvX3_50 (by assumption) (c_X3_goOn hr0 hT1.1 hT1.2.1 hT1.2.2.1.2 hT1.2.2.2 (hR1.g5 hT1.2.2.1.1 hb)) (by omega) (Nat.le_of_ble_eq_true rfl) od_le.rf (fun r146 g146 h146 => ?_)
          obtain ⟨rfl, f146, w4146, w5146, w6146, w3146⟩ := h146
          show od_Rq _ _ _ _ _ _ _ [] _ _
          have S3 := RSt.go hR1 hb (by show tC B n s.1 ≠ 0; omega) f146 w4146 w5146 w6146 w3146
          have hT3 := hT1.xp (t := t) (z := g t 7) hor (fr_rd f146 (by omega))
          have e7x : g146 t 7 = g t 7 := by rw [f146 t 7 (by omega), od_upn (by omega)]
          have hl3 : g146 rd 2 = _ := ((f146 rd 2 (by omega)).trans (by rw [od_up_at, if_neg (by omega)])).trans hl
          refine r_aload_n dX3_readPart_149 rfl ?_
          refine r_iload_n dX3_readPart_150 rfl ?_
          refine r_callV1p dX3_readPart_151 cvX3_148 (by assumption) (c_X3_putWord hr0 hT3 S3 hl3 hb _ (by omega) (by omega)) (by omega) (Nat.le_of_ble_eq_true rfl) od_le.rf (fun r151 g151 h151 => ?_)
          obtain ⟨rfl, p151⟩ := h151
          show od_Rq _ _ _ _ _ _ _ [] _ _
          first
          | (refine r_vretq dX3_readPart_154 rfl rfl ⟨rfl, ?_⟩
             rw [pPart_leaf hb (by omega) (Or.inl ⟨c50n, by omega⟩)]
             unfold pLeaf
             rw [if_neg (by omega), if_pos c50n]
             have S3 := RSt.go hR2 hb (by show tC B n s.1 ≠ 0; omega) f139 w4139 w5139 w6139 w3139
             have e7 : g139 t 7 = g t 7 + 1 := by rw [f139 t 7 (by omega), cTPut_7, od_upn (by omega)]
             have e6 : g139 (t + 6) = cTPut (od_up g rd 7 (g rd 7 + 1)) t 1 (tV B n s.1) (t + 6) := f139.row (fun y z => by omega)
             have i4 := S3.i4 hb h40
             refine ⟨(((od_fr.rf.up (by unfold XP; omega)).tr (cTPut_fr (by rw [od_upn (by omega)]; omega))).tr (fr_rd f139 (by omega))), S3, ⟨by omega, ?_, ?_, i4⟩, fun _ => ?_⟩
             · show g139 t 7 - g t 7 ≤ s.1 + 1 - s.1; omega
             · show s.1 ≤ s.1 + 1; omega
             · rw [e7]
               refine (RT_num hz.1 (by omega) ?_).mo (by omega)
               rw [e6, cTPut_r, od_upn (by omega), if_pos rfl])
          | (refine r_vretq dX3_readPart_154 rfl rfl ⟨rfl, ?_⟩
             have i4 := S3.i4 hb h40
             have i4x : s.1 + 1 ≤ 400 := i4
             have e7 : g146 t 7 = g t 7 := by rw [f146 t 7 (by omega), od_upn (by omega)]
             have f1 : od_fr (XP rd t (g t 7)) g g146 := (od_fr.rf.up (by unfold XP; omega)).tr (fr_rd f146 (by omega))
             rw [pPart_leaf hb (by omega) (Or.inr ya.1)]
             unfold pLeaf
             rw [if_neg (by omega), if_neg (by omega)]
             rcases p151 with ⟨z1, rfl⟩ | ⟨z1, z2, z3, z4⟩ | ⟨z1, z2, rfl⟩
             · obtain ⟨hof, hix, hwx⟩ := yb z1
               rw [if_neg hof]
               refine ⟨f1.tr (cTPut_fr (by omega)), S3.put hor.2, ⟨?_, ?_, ?_, i4⟩, fun _ => ?_⟩
               · rw [cTPut_7]; omega
               · rw [cTPut_7, e7]; show _ ≤ s.1 + 1 - s.1; omega
               · show s.1 ≤ s.1 + 1; omega
               · rw [cTPut_7, e7]
                 refine (RT_wd hz.1 hix (by unfold wlI; split <;> omega) ?_).mo (by omega)
                 rw [cTPut_r, e7, if_pos rfl, hwx]
             · obtain ⟨hof, hix⟩ := yc z1
               rw [if_pos hof]
               have e2 : pMn (tC B n) (tV B n) (tpl B n) 0 5 (s.1 + 1, s.2.1 + 1, s.2.2) = pNx (s.1 + 1, s.2.1 + 1, s.2.2) := if_pos ⟨hb, z2⟩
               rw [e2]
               have i5 := z4.i4 hb h40
               have hx := hix (tV B n (s.1 + 1)) ⟨z2.2.1, z2.2.2⟩
               have e77 : g151 t 7 = g t 7 + 1 := by rw [z3 t 7 (by omega), cTPut_7, e7]
               have e66 : g151 (t + 6) (g t 7) = od_stp 2 (pIx false (tC B n s.1) + tV B n (s.1 + 1)) := by
                 rw [z3.row (a := t + 6) (fun y z => by omega), cTPut_r, e7, if_pos rfl, ← hx.2]
                 rfl
               refine ⟨(f1.tr (cTPut_fr (by omega))).tr (fr_rd z3 (by omega)), z4, ⟨by omega, ?_, ?_, i5⟩, fun _ => ?_⟩
               · show _ ≤ s.1 + 1 + 1 - s.1; omega
               · show s.1 ≤ s.1 + 1 + 1; omega
               · rw [e77]
                 exact (RT_wd hz.1 hx.1 (by unfold wlI; split <;> omega) e66).mo (by omega)
             · obtain ⟨hof, hix⟩ := yc z1
               rw [if_pos hof]
               have e2 : pMn (tC B n) (tV B n) (tpl B n) 0 5 (s.1 + 1, s.2.1 + 1, s.2.2) = pF (tpl B n) (s.1 + 1, s.2.1 + 1, s.2.2) := if_neg (fun z => z2 z.2)
               rw [e2]
               exact RQ.flt h40.1 f1 S3 (by show g t 7 ≤ g146 t 7 ∧ g146 t 7 - g t 7 ≤ s.1 + 1 - s.1 ∧ s.1 ≤ s.1 + 1 ∧ s.1 + 1 ≤ 400; omega) hor.2)
        · refine r_iload_n dX3_readPart_102 rfl ?_
          refine r_if_ne (tgt := 111) dX3_readPart_103 rfl (fun h => absurd h (by decide)) (fun _ => ?_)
          refine r_aload_n dX3_readPart_106 rfl ?_
          refine r_callV0v dX3_readPart_107 cvX3_60 (by assumption) (c_X3_setFault hr0) (by omega) (Nat.le_of_ble_eq_true rfl) od_le.rf ?_
          refine r_vretq dX3_readPart_110 rfl rfl ⟨rfl, ?_⟩
          rw [pPart_flt (fun z => q3 ⟨z.1, by have := z.2; omega⟩) (fun hb => ?_)]
          · exact RQ.flt h40.1 od_fr.rf hR (by omega) hor.2
          · have f7 := (hR.fine hb).2.2.1
            first
            | exact Or.inl (by omega)
            | (refine Or.inr (fun z => ?_)
               rcases z with ⟨z1, z2⟩ | z
               · have y1 := tV_b hR hT.2.2.2 hb z1
                 have y2 := (hR.num hT.2.2.2).mpr ⟨hb, z1⟩
                 omega
               · first
                 | (rw [pWb_t] at z
                    have y := tA_2 (B := B) (n := n) hb
                    rw [if_pos z] at y
                    have yb : 0 ≤ pIx true (tC B n s.1) := by
                      unfold pIx
                      rw [if_pos rfl]
                      repeat' split
                      all_goals omega
                    omega)
                 | (rw [pWb_f] at z
                    have y := tA_3 (B := B) (n := n) hb
                    rw [if_pos z] at y
                    split at y <;> omega))
    · refine r_iconst dX3_readPart_82 li_1 ?_
      refine r_goto (tgt := 87) dX3_readPart_83 rfl ?_
      refine r_istore_n dX3_readPart_87 (by decide) rfl ?_
      refine r_aload_n dX3_readPart_88 rfl ?_
      refine r_getIj (j := 7) rfl dX3_readPart_89 fkX3_37 gf3_7 (by assumption) (by (repeat (first | rewrite [od_upn (by omega)] | rewrite [od_up_at, if_pos (by omega)] | rewrite [od_up_at, if_neg (by omega)])); rfl) ?_
      refine r_bipush dX3_readPart_92 lb_50 ?_
      refine r_icmp_ge (tgt := 106) dX3_readPart_94 rfl (fun c94 => ?_) (fun c94 => ?_)
      · refine r_aload_n dX3_readPart_106 rfl ?_
        refine r_callV0v dX3_readPart_107 cvX3_60 (by assumption) (c_X3_setFault hr0) (by omega) (Nat.le_of_ble_eq_true rfl) od_le.rf ?_
        refine r_vretq dX3_readPart_110 rfl rfl ⟨rfl, ?_⟩
        rw [pPart_flt (fun z => q3 ⟨z.1, by have := z.2; omega⟩) (fun hb => ?_)]
        · exact RQ.flt h40.1 od_fr.rf hR (by omega) hor.2
        · have f7 := (hR.fine hb).2.2.1
          first
          | exact Or.inl (by omega)
          | (refine Or.inr (fun z => ?_)
             rcases z with ⟨z1, z2⟩ | z
             · have y1 := tV_b hR hT.2.2.2 hb z1
               have y2 := (hR.num hT.2.2.2).mpr ⟨hb, z1⟩
               omega
             · first
               | (rw [pWb_t] at z
                  have y := tA_2 (B := B) (n := n) hb
                  rw [if_pos z] at y
                  have yb : 0 ≤ pIx true (tC B n s.1) := by
                    unfold pIx
                    rw [if_pos rfl]
                    repeat' split
                    all_goals omega
                  omega)
               | (rw [pWb_f] at z
                  have y := tA_3 (B := B) (n := n) hb
                  rw [if_pos z] at y
                  split at y <;> omega))
      · refine r_iload_n dX3_readPart_97 rfl ?_
        refine r_iconst dX3_readPart_98 li_m1 ?_
        refine r_icmp_ne (tgt := 111) dX3_readPart_99 rfl (fun c99 => ?_) (fun c99 => ?_)
        · have hb : s.2.2 = -1 := by
            by_cases hb : s.2.2 = -1
            · exact hb
            · have z1 := tA_bad (B := B) (n := n) (j := 2) hb
              have z2 := tA_bad (B := B) (n := n) (j := 3) hb
              have z3 := (hR.bad hb).2
              omega
          have f7 := (hR.fine hb).2.2.1
          have f0 := (hR.fine hb).1
          refine r_aload_n dX3_readPart_111 rfl ?_
          refine r_dup dX3_readPart_112 (by first | exact od_ne2 | exact od_ne0) ?_
          refine r_getIj (j := 7) rfl dX3_readPart_113 fkX3_37 gf3_7 (by assumption) (by (repeat (first | rewrite [od_upn (by omega)] | rewrite [od_up_at, if_pos (by omega)] | rewrite [od_up_at, if_neg (by omega)])); rfl) ?_
          refine r_iconst dX3_readPart_116 li_1 ?_
          refine r_iaddE dX3_readPart_117 (by first | exact od_w0 (by omega) (by omega) | exact od_wI (by omega) (by omega) | rfl) ?_
          refine r_putIj (j := 7) rfl dX3_readPart_118 fkX3_37 gf3_7 pf3_7 (by assumption) ?_
          refine r_iload_n dX3_readPart_121 rfl ?_
          refine r_if_eq (tgt := 145) dX3_readPart_122 rfl (fun h => absurd h (by decide)) (fun _ => ?_)
          have c50n := ((hR.num hT.2.2.2).mp (by assumption)).2
          have z1 := tV_b hR hT.2.2.2 hb c50n
          refine r_aload_n dX3_readPart_125 rfl ?_
          refine r_getR dX3_readPart_126 fkX3_14 gf3_0 (by assumption) (by assumption) ?_
          refine r_iconst dX3_readPart_129 li_1 ?_
          refine r_aload_n dX3_readPart_130 rfl ?_
          refine r_getIj (j := 6) rfl dX3_readPart_131 fkX3_34 gf3_6 (by assumption) (by (repeat (first | rewrite [od_upn (by omega)] | rewrite [od_up_at, if_pos (by omega)] | rewrite [od_up_at, if_neg (by omega)])); rfl) ?_
          rw [show g rd 6 = tV B n s.1 by omega]
          refine r_callV2i dX3_readPart_134 cvX3_86 (by assumption) (c_X9_put htx _ _ (by rw [od_upn (by omega)]; omega)) (by omega) (Nat.le_of_ble_eq_true rfl) od_le.rf ?_
          refine r_pop dX3_readPart_137 (by first | exact od_ne2 | exact od_ne0) ?_
          have hT1 : TpOk (od_up g rd 7 (g rd 7 + 1)) tp B n := hT.xp (rd := rd) (t := t) (z := g t 7) hor (od_fr.rf.up (by unfold XP; omega))
          have hR1 := RSt.pts hR hb
          have hT2 := hT1.put (st := 1) (nu := tV B n s.1) hor
          have hR2 := hR1.put (st := 1) (nu := tV B n s.1) hor.2
          refine r_aload_n dX3_readPart_138 rfl ?_
          refine r_callV0p dX3_readPart_139 cvX3_50 (by assumption) (c_X3_goOn hr0 hT2.1 hT2.2.1 hT2.2.2.1.2 hT2.2.2.2 (hR2.g5 hT2.2.2.1.1 hb)) (by omega) (Nat.le_of_ble_eq_true rfl) od_le.rf (fun r139 g139 h139 => ?_)
          obtain ⟨rfl, f139, w4139, w5139, w6139, w3139⟩ := h139
          show od_Rq _ _ _ _ _ _ _ [] _ _
          refine r_goto (tgt := 154) dX3_readPart_142 rfl ?_
          first
          | (refine r_vretq dX3_readPart_154 rfl rfl ⟨rfl, ?_⟩
             rw [pPart_leaf hb (by omega) (Or.inl ⟨c50n, by omega⟩)]
             unfold pLeaf
             rw [if_neg (by omega), if_pos c50n]
             have S3 := RSt.go hR2 hb (by show tC B n s.1 ≠ 0; omega) f139 w4139 w5139 w6139 w3139
             have e7 : g139 t 7 = g t 7 + 1 := by rw [f139 t 7 (by omega), cTPut_7, od_upn (by omega)]
             have e6 : g139 (t + 6) = cTPut (od_up g rd 7 (g rd 7 + 1)) t 1 (tV B n s.1) (t + 6) := f139.row (fun y z => by omega)
             have i4 := S3.i4 hb h40
             refine ⟨(((od_fr.rf.up (by unfold XP; omega)).tr (cTPut_fr (by rw [od_upn (by omega)]; omega))).tr (fr_rd f139 (by omega))), S3, ⟨by omega, ?_, ?_, i4⟩, fun _ => ?_⟩
             · show g139 t 7 - g t 7 ≤ s.1 + 1 - s.1; omega
             · show s.1 ≤ s.1 + 1; omega
             · rw [e7]
               refine (RT_num hz.1 (by omega) ?_).mo (by omega)
               rw [e6, cTPut_r, od_upn (by omega), if_pos rfl])
          | (refine r_vretq dX3_readPart_154 rfl rfl ⟨rfl, ?_⟩
             have i4 := S3.i4 hb h40
             have i4x : s.1 + 1 ≤ 400 := i4
             have e7 : g146 t 7 = g t 7 := by rw [f146 t 7 (by omega), od_upn (by omega)]
             have f1 : od_fr (XP rd t (g t 7)) g g146 := (od_fr.rf.up (by unfold XP; omega)).tr (fr_rd f146 (by omega))
             rw [pPart_leaf hb (by omega) (Or.inr ya.1)]
             unfold pLeaf
             rw [if_neg (by omega), if_neg (by omega)]
             rcases p151 with ⟨z1, rfl⟩ | ⟨z1, z2, z3, z4⟩ | ⟨z1, z2, rfl⟩
             · obtain ⟨hof, hix, hwx⟩ := yb z1
               rw [if_neg hof]
               refine ⟨f1.tr (cTPut_fr (by omega)), S3.put hor.2, ⟨?_, ?_, ?_, i4⟩, fun _ => ?_⟩
               · rw [cTPut_7]; omega
               · rw [cTPut_7, e7]; show _ ≤ s.1 + 1 - s.1; omega
               · show s.1 ≤ s.1 + 1; omega
               · rw [cTPut_7, e7]
                 refine (RT_wd hz.1 hix (by unfold wlI; split <;> omega) ?_).mo (by omega)
                 rw [cTPut_r, e7, if_pos rfl, hwx]
             · obtain ⟨hof, hix⟩ := yc z1
               rw [if_pos hof]
               have e2 : pMn (tC B n) (tV B n) (tpl B n) 0 5 (s.1 + 1, s.2.1 + 1, s.2.2) = pNx (s.1 + 1, s.2.1 + 1, s.2.2) := if_pos ⟨hb, z2⟩
               rw [e2]
               have i5 := z4.i4 hb h40
               have hx := hix (tV B n (s.1 + 1)) ⟨z2.2.1, z2.2.2⟩
               have e77 : g151 t 7 = g t 7 + 1 := by rw [z3 t 7 (by omega), cTPut_7, e7]
               have e66 : g151 (t + 6) (g t 7) = od_stp 2 (pIx false (tC B n s.1) + tV B n (s.1 + 1)) := by
                 rw [z3.row (a := t + 6) (fun y z => by omega), cTPut_r, e7, if_pos rfl, ← hx.2]
                 rfl
               refine ⟨(f1.tr (cTPut_fr (by omega))).tr (fr_rd z3 (by omega)), z4, ⟨by omega, ?_, ?_, i5⟩, fun _ => ?_⟩
               · show _ ≤ s.1 + 1 + 1 - s.1; omega
               · show s.1 ≤ s.1 + 1 + 1; omega
               · rw [e77]
                 exact (RT_wd hz.1 hx.1 (by unfold wlI; split <;> omega) e66).mo (by omega)
             · obtain ⟨hof, hix⟩ := yc z1
               rw [if_pos hof]
               have e2 : pMn (tC B n) (tV B n) (tpl B n) 0 5 (s.1 + 1, s.2.1 + 1, s.2.2) = pF (tpl B n) (s.1 + 1, s.2.1 + 1, s.2.2) := if_neg (fun z => z2 z.2)
               rw [e2]
               exact RQ.flt h40.1 f1 S3 (by show g t 7 ≤ g146 t 7 ∧ g146 t 7 - g t 7 ≤ s.1 + 1 - s.1 ∧ s.1 ≤ s.1 + 1 ∧ s.1 + 1 ≤ 400; omega) hor.2)
        · refine r_iload_n dX3_readPart_102 rfl ?_
          refine r_if_ne (tgt := 111) dX3_readPart_103 rfl (fun _ => ?_) (fun h => absurd h (by decide))
          have hb : s.2.2 = -1 := by
            by_cases hb : s.2.2 = -1
            · exact hb
            · have z1 := tA_bad (B := B) (n := n) (j := 2) hb
              have z2 := tA_bad (B := B) (n := n) (j := 3) hb
              have z3 := (hR.bad hb).2
              omega
          have f7 := (hR.fine hb).2.2.1
          have f0 := (hR.fine hb).1
          refine r_aload_n dX3_readPart_111 rfl ?_
          refine r_dup dX3_readPart_112 (by first | exact od_ne2 | exact od_ne0) ?_
          refine r_getIj (j := 7) rfl dX3_readPart_113 fkX3_37 gf3_7 (by assumption) (by (repeat (first | rewrite [od_upn (by omega)] | rewrite [od_up_at, if_pos (by omega)] | rewrite [od_up_at, if_neg (by omega)])); rfl) ?_
          refine r_iconst dX3_readPart_116 li_1 ?_
          refine r_iaddE dX3_readPart_117 (by first | exact od_w0 (by omega) (by omega) | exact od_wI (by omega) (by omega) | rfl) ?_
          refine r_putIj (j := 7) rfl dX3_readPart_118 fkX3_37 gf3_7 pf3_7 (by assumption) ?_
          refine r_iload_n dX3_readPart_121 rfl ?_
          refine r_if_eq (tgt := 145) dX3_readPart_122 rfl (fun h => absurd h (by decide)) (fun _ => ?_)
          have c50n := ((hR.num hT.2.2.2).mp (by assumption)).2
          have z1 := tV_b hR hT.2.2.2 hb c50n
          refine r_aload_n dX3_readPart_125 rfl ?_
          refine r_getR dX3_readPart_126 fkX3_14 gf3_0 (by assumption) (by assumption) ?_
          refine r_iconst dX3_readPart_129 li_1 ?_
          refine r_aload_n dX3_readPart_130 rfl ?_
          refine r_getIj (j := 6) rfl dX3_readPart_131 fkX3_34 gf3_6 (by assumption) (by (repeat (first | rewrite [od_upn (by omega)] | rewrite [od_up_at, if_pos (by omega)] | rewrite [od_up_at, if_neg (by omega)])); rfl) ?_
          rw [show g rd 6 = tV B n s.1 by omega]
          refine r_callV2i dX3_readPart_134 cvX3_86 (by assumption) (c_X9_put htx _ _ (by rw [od_upn (by omega)]; omega)) (by omega) (Nat.le_of_ble_eq_true rfl) od_le.rf ?_
          refine r_pop dX3_readPart_137 (by first | exact od_ne2 | exact od_ne0) ?_
          have hT1 : TpOk (od_up g rd 7 (g rd 7 + 1)) tp B n := hT.xp (rd := rd) (t := t) (z := g t 7) hor (od_fr.rf.up (by unfold XP; omega))
          have hR1 := RSt.pts hR hb
          have hT2 := hT1.put (st := 1) (nu := tV B n s.1) hor
          have hR2 := hR1.put (st := 1) (nu := tV B n s.1) hor.2
          refine r_aload_n dX3_readPart_138 rfl ?_
          refine r_callV0p dX3_readPart_139 cvX3_50 (by assumption) (c_X3_goOn hr0 hT2.1 hT2.2.1 hT2.2.2.1.2 hT2.2.2.2 (hR2.g5 hT2.2.2.1.1 hb)) (by omega) (Nat.le_of_ble_eq_true rfl) od_le.rf (fun r139 g139 h139 => ?_)
          obtain ⟨rfl, f139, w4139, w5139, w6139, w3139⟩ := h139
          show od_Rq _ _ _ _ _ _ _ [] _ _
          refine r_goto (tgt := 154) dX3_readPart_142 rfl ?_
          first
          | (refine r_vretq dX3_readPart_154 rfl rfl ⟨rfl, ?_⟩
             rw [pPart_leaf hb (by omega) (Or.inl ⟨c50n, by omega⟩)]
             unfold pLeaf
             rw [if_neg (by omega), if_pos c50n]
             have S3 := RSt.go hR2 hb (by show tC B n s.1 ≠ 0; omega) f139 w4139 w5139 w6139 w3139
             have e7 : g139 t 7 = g t 7 + 1 := by rw [f139 t 7 (by omega), cTPut_7, od_upn (by omega)]
             have e6 : g139 (t + 6) = cTPut (od_up g rd 7 (g rd 7 + 1)) t 1 (tV B n s.1) (t + 6) := f139.row (fun y z => by omega)
             have i4 := S3.i4 hb h40
             refine ⟨(((od_fr.rf.up (by unfold XP; omega)).tr (cTPut_fr (by rw [od_upn (by omega)]; omega))).tr (fr_rd f139 (by omega))), S3, ⟨by omega, ?_, ?_, i4⟩, fun _ => ?_⟩
             · show g139 t 7 - g t 7 ≤ s.1 + 1 - s.1; omega
             · show s.1 ≤ s.1 + 1; omega
             · rw [e7]
               refine (RT_num hz.1 (by omega) ?_).mo (by omega)
               rw [e6, cTPut_r, od_upn (by omega), if_pos rfl])
          | (refine r_vretq dX3_readPart_154 rfl rfl ⟨rfl, ?_⟩
             have i4 := S3.i4 hb h40
             have i4x : s.1 + 1 ≤ 400 := i4
             have e7 : g146 t 7 = g t 7 := by rw [f146 t 7 (by omega), od_upn (by omega)]
             have f1 : od_fr (XP rd t (g t 7)) g g146 := (od_fr.rf.up (by unfold XP; omega)).tr (fr_rd f146 (by omega))
             rw [pPart_leaf hb (by omega) (Or.inr ya.1)]
             unfold pLeaf
             rw [if_neg (by omega), if_neg (by omega)]
             rcases p151 with ⟨z1, rfl⟩ | ⟨z1, z2, z3, z4⟩ | ⟨z1, z2, rfl⟩
             · obtain ⟨hof, hix, hwx⟩ := yb z1
               rw [if_neg hof]
               refine ⟨f1.tr (cTPut_fr (by omega)), S3.put hor.2, ⟨?_, ?_, ?_, i4⟩, fun _ => ?_⟩
               · rw [cTPut_7]; omega
               · rw [cTPut_7, e7]; show _ ≤ s.1 + 1 - s.1; omega
               · show s.1 ≤ s.1 + 1; omega
               · rw [cTPut_7, e7]
                 refine (RT_wd hz.1 hix (by unfold wlI; split <;> omega) ?_).mo (by omega)
                 rw [cTPut_r, e7, if_pos rfl, hwx]
             · obtain ⟨hof, hix⟩ := yc z1
               rw [if_pos hof]
               have e2 : pMn (tC B n) (tV B n) (tpl B n) 0 5 (s.1 + 1, s.2.1 + 1, s.2.2) = pNx (s.1 + 1, s.2.1 + 1, s.2.2) := if_pos ⟨hb, z2⟩
               rw [e2]
               have i5 := z4.i4 hb h40
               have hx := hix (tV B n (s.1 + 1)) ⟨z2.2.1, z2.2.2⟩
               have e77 : g151 t 7 = g t 7 + 1 := by rw [z3 t 7 (by omega), cTPut_7, e7]
               have e66 : g151 (t + 6) (g t 7) = od_stp 2 (pIx false (tC B n s.1) + tV B n (s.1 + 1)) := by
                 rw [z3.row (a := t + 6) (fun y z => by omega), cTPut_r, e7, if_pos rfl, ← hx.2]
                 rfl
               refine ⟨(f1.tr (cTPut_fr (by omega))).tr (fr_rd z3 (by omega)), z4, ⟨by omega, ?_, ?_, i5⟩, fun _ => ?_⟩
               · show _ ≤ s.1 + 1 + 1 - s.1; omega
               · show s.1 ≤ s.1 + 1 + 1; omega
               · rw [e77]
                 exact (RT_wd hz.1 hx.1 (by unfold wlI; split <;> omega) e66).mo (by omega)
             · obtain ⟨hof, hix⟩ := yc z1
               rw [if_pos hof]
               have e2 : pMn (tC B n) (tV B n) (tpl B n) 0 5 (s.1 + 1, s.2.1 + 1, s.2.2) = pF (tpl B n) (s.1 + 1, s.2.1 + 1, s.2.2) := if_neg (fun z => z2 z.2)
               rw [e2]
               exact RQ.flt h40.1 f1 S3 (by show g t 7 ≤ g146 t 7 ∧ g146 t 7 - g t 7 ≤ s.1 + 1 - s.1 ∧ s.1 ≤ s.1 + 1 ∧ s.1 + 1 ≤ 400; omega) hor.2)
set_option maxRecDepth 10000 in
theorem c_X3_readPart {E : od_E} {g : od_G} {rd tp t : Int} (hr : ReAt E rd tp t) {B : Int → Int} {n : Int} (hT : TpOk g tp B n) {s : pS} (hR : RSt g rd B n s) (hz : RPre g t s) {lw : Bool} (hl : g rd 2 = lwI lw) {L : Nat} (hL : L ≤ 8) (hS : ∀ L1 : Nat, L = L1 + 1 → CSum E rd tp t B n lw L1) : od_Cq (8 + 3 * L) mX3_readPart [(2, rd), (0, 8 - (L : Int))] E g (E, fun v g' => v = none ∧ RQ pBs (2 * L + 1) (wlI lw) g g' rd t B n s (pPart (tC B n) (tV B n) (tpl B n) lw (pSub (tC B n) (tV B n) (tpl B n) lw L) s)) := by
  have hr0 := hr
  obtain ⟨hkr, e0, e1, hta, htx, hor⟩ := hr
  have hta0 := hta
  have hk9 := htx.1
  have h40 := hT.2.2.1
  have hz0 := hz
  unfold RPre at hz
  refine od_cqI pnX3 rfl (Nat.le_of_ble_eq_true rfl) od_le.rf ?_
  show od_Rq (8 + 3 * L) mX3_readPart od_Z0 E (E, fun v g' => v = none ∧ RQ pBs (2 * L + 1) (wlI lw) g g' rd t B n s (pPart (tC B n) (tV B n) (tpl B n) lw (pSub (tC B n) (tV B n) (tpl B n) lw L) s)) 0 [some (2, rd), some (0, 8 - (L : Int)), none, none] [] E g
  refine r_aload_n dX3_readPart_0 rfl ?_
  refine r_bipush dX3_readPart_1 lb_91 ?_
  refine r_callV1b dX3_readPart_3 cvX3_131 (by assumption) (c_X3_isSignS hr0 hT hR _ (by omega)) (by omega) (Nat.le_of_ble_eq_true rfl) od_le.rf (fun q3 => ?_) (fun q3 => ?_)
  · refine r_if_eq (tgt := 45) dX3_readPart_6 rfl (fun h => absurd h (by decide)) (fun _ => ?_)
    refine r_iload_n dX3_readPart_9 rfl ?_
    refine r_bipush dX3_readPart_10 lb_8 ?_
    refine r_icmp_lt (tgt := 20) dX3_readPart_12 rfl (fun c12 => ?_) (fun c12 => ?_)
    · obtain ⟨L1, hL1⟩ : ∃ L1 : Nat, L = L1 + 1 := ⟨L - 1, by omega⟩
      subst hL1
      have hb := q3.1
      refine r_aload_n dX3_readPart_20 rfl ?_
      refine r_callV0p dX3_readPart_21 cvX3_50 (by assumption) (c_X3_goOn hr0 hT.1 hT.2.1 hT.2.2.1.2 hT.2.2.2 (hR.g5 hT.2.2.1.1 hb)) (by omega) (Nat.le_of_ble_eq_true rfl) od_le.rf (fun r21 g21 h21 => ?_)
      obtain ⟨rfl, f21, w421, w521, w621, w321⟩ := h21
      show od_Rq _ _ _ _ _ _ _ [] _ _
      have S21 := RSt.go hR hb (by have := q3.2; omega) f21 w421 w521 w621 w321
      have hT21 := hT.xp (t := t) (z := g t 7) hor (fr_rd f21 (by omega))
      have e721 : g21 t 7 = g t 7 := f21 t 7 (by omega)
      have hl21 : g21 rd 2 = lwI lw := (f21 rd 2 (by omega)).trans hl
      have i21 := S21.i4 hb h40
      refine r_aload_n dX3_readPart_24 rfl ?_
      refine r_iload_n dX3_readPart_25 rfl ?_
      refine r_iconst dX3_readPart_26 li_1 ?_
      refine r_iaddE dX3_readPart_27 (by first | exact od_w0 (by omega) (by omega) | exact od_wI (by omega) (by omega) | rfl) ?_
      rw [show (8 - ((L1 + 1 : Nat) : Int)) + 1 = 8 - (L1 : Int) by omega]
      refine r_callV1p dX3_readPart_28 cvX3_82 (by assumption) (hS L1 rfl g21 (pNx s) hT21 S21 ⟨by omega, by show _ ≤ s.1 + 1; omega, i21⟩ hl21) (by omega) (Nat.le_of_ble_eq_true rfl) od_le.rf (fun r28 g28 h28 => ?_)
      obtain ⟨rfl, fq, sq, bq, rq⟩ := h28
      show od_Rq _ _ _ _ _ _ _ [] _ _
      have hT28 := hT21.xp hor fq
      have bx : (pNx s).1 = s.1 + 1 := rfl
      rw [e721] at fq bq rq
      have fz : od_fr (XP rd t (g t 7)) g g28 := (fr_rd f21 (by omega)).tr fq
      refine r_aload_n dX3_readPart_31 rfl ?_
      refine r_bipush dX3_readPart_32 lb_93 ?_
      refine r_callV1p dX3_readPart_34 cvX3_56 (by assumption) (c_X3_takeSign hr0 hT28 sq _ (by omega)) (by omega) (Nat.le_of_ble_eq_true rfl) od_le.rf (fun r34 g34 h34 => ?_)
      rcases h34 with ⟨rfl, h34⟩ | ⟨rfl, h34⟩
      · show od_Rq _ _ _ _ _ _ _ ((0, 1) :: _) _ _
        skip
        refine r_if_ne (tgt := 44) dX3_readPart_37 rfl (fun _ => ?_) (fun h => absurd h (by decide))
        refine r_vretq dX3_readPart_44 rfl rfl ⟨rfl, ?_⟩
        show RQ _ _ _ _ _ _ _ _ _ _ (pPart (tC B n) (tV B n) (tpl B n) lw (some (pSumL (tC B n) (tV B n) (tpl B n) lw L1)) s)
        rw [pPart_S q3.1 (by have := q3.2; omega)]
        first
        | (have hk := h34.1
           have i4 := h34.2.2.i4 hk.1 h40
           have e7 : g34 t 7 = g28 t 7 := h34.2.1 t 7 (by omega)
           have e6 : g34 (t + 6) = g28 (t + 6) := h34.2.1.row (fun y z => by omega)
           rw [pMu_t ⟨hk.1, by have := hk.2; omega⟩]
           refine ⟨fz.tr (fr_rd h34.2.1 (by omega)), h34.2.2, ⟨by rw [e7]; omega, ?_, ?_, i4⟩, fun _ => ?_⟩
           · show g34 t 7 - g t 7 ≤ _ + 1 - s.1
             rw [e7]; omega
           · show s.1 ≤ _ + 1
             omega
           · rw [e6, e7]
             exact (rq hk.1).mo (by omega))
        | (rw [pMu_f (fun z => h34.1 ⟨z.1, by have := z.2; omega⟩)]
           obtain ⟨_, rfl⟩ := h34
           exact RQ.flt h40.1 fz sq (by omega) hor.2)
      · show od_Rq _ _ _ _ _ _ _ ((0, 0) :: _) _ _
        skip
        refine r_if_ne (tgt := 44) dX3_readPart_37 rfl (fun h => absurd h (by decide)) (fun _ => ?_)
        refine r_aload_n dX3_readPart_40 rfl ?_
        refine r_callV0v dX3_readPart_41 cvX3_60 (by assumption) (c_X3_setFault hr0) (by omega) (Nat.le_of_ble_eq_true rfl) od_le.rf ?_
        refine r_vretq dX3_readPart_44 rfl rfl ⟨rfl, ?_⟩
        show RQ _ _ _ _ _ _ _ _ _ _ (pPart (tC B n) (tV B n) (tpl B n) lw (some (pSumL (tC B n) (tV B n) (tpl B n) lw L1)) s)
        rw [pPart_S q3.1 (by have := q3.2; omega)]
        first
        | (have hk := h34.1
           have i4 := h34.2.2.i4 hk.1 h40
           have e7 : g34 t 7 = g28 t 7 := h34.2.1 t 7 (by omega)
           have e6 : g34 (t + 6) = g28 (t + 6) := h34.2.1.row (fun y z => by omega)
           rw [pMu_t ⟨hk.1, by have := hk.2; omega⟩]
           refine ⟨fz.tr (fr_rd h34.2.1 (by omega)), h34.2.2, ⟨by rw [e7]; omega, ?_, ?_, i4⟩, fun _ => ?_⟩
           · show g34 t 7 - g t 7 ≤ _ + 1 - s.1
             rw [e7]; omega
           · show s.1 ≤ _ + 1
             omega
           · rw [e6, e7]
             exact (rq hk.1).mo (by omega))
        | (rw [pMu_f (fun z => h34.1 ⟨z.1, by have := z.2; omega⟩)]
           obtain ⟨_, rfl⟩ := h34
           exact RQ.flt h40.1 fz sq (by omega) hor.2)
    · refine r_aload_n dX3_readPart_15 rfl ?_
      refine r_callV0v dX3_readPart_16 cvX3_60 (by assumption) (c_X3_setFault hr0) (by omega) (Nat.le_of_ble_eq_true rfl) od_le.rf ?_
      have hL0 : L = 0 := by omega
      subst hL0
      refine r_vretq dX3_readPart_19 rfl rfl ⟨rfl, ?_⟩
      show RQ _ _ _ _ _ _ _ _ _ _ (pPart (tC B n) (tV B n) (tpl B n) lw none s)
      rw [pPart_0 q3.1 (by have := q3.2; omega)]
      exact RQ.flt h40.1 od_fr.rf hR (by omega) hor.2
  · refine r_if_eq (tgt := 45) dX3_readPart_6 rfl (fun _ => ?_) (fun h => absurd h (by decide))
    refine r_aload_n dX3_readPart_45 rfl ?_
    refine r_aload_n dX3_readPart_46 rfl ?_
    refine r_getIj (j := 2) rfl dX3_readPart_47 fkX3_20 gf3_2 (by assumption) (by (repeat (first | rewrite [od_upn (by omega)] | rewrite [od_up_at, if_pos (by omega)] | rewrite [od_up_at, if_neg (by omega)])); rfl) ?_
    refine r_if_eq (tgt := 58) dX3_readPart_50 rfl (fun c50 => ?_) (fun c50 => ?_)
    · obtain rfl : lw = false := lwI_f hl (by assumption)
      refine r_ldcs (i := 3) rfl (by decide) rfl dX3_readPart_58 ?_
      refine r_callV1i dX3_readPart_60 cvX3_67 (by assumption) (c_X3_wordIn hr0 hT hR (by decide)) (by omega) (Nat.le_of_ble_eq_true rfl) od_le.rf ?_
      first
      | exact sg_X3_rp2 hr0 hT hR hz0 hl hL q3
      | exact sg_X3_rp3 hr0 hT hR hz0 hl hL q3
    · obtain rfl : lw = true := lwI_t hl (by assumption)
      refine r_ldcs (i := 2) rfl (by decide) rfl dX3_readPart_53 ?_
      refine r_goto (tgt := 60) dX3_readPart_55 rfl ?_
      refine r_callV1i dX3_readPart_60 cvX3_67 (by assumption) (c_X3_wordIn hr0 hT hR (by decide)) (by omega) (Nat.le_of_ble_eq_true rfl) od_le.rf ?_
      first
      | exact sg_X3_rp2 hr0 hT hR hz0 hl hL q3
      | exact sg_X3_rp3 hr0 hT hR hz0 hl hL q3
