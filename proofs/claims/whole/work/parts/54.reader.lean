set_option maxRecDepth 10000 in
theorem c_X3_readClause_l {E : od_E} {g : od_G} {rd tp t : Int} (hr : ReAt E rd tp t) {B : Int → Int} {n : Int} (hT : TpOk g tp B n) {s : pS} (hR : RSt g rd B n s) (hz : 0 ≤ g t 7 ∧ g t 7 ≤ s.1 ∧ s.1 ≤ 400) (hl : g rd 2 = lwI true) (h6 : 0 ≤ g t 6 ∧ g t 6 < 12) (hb : s.2.2 = -1) : od_Cq (38) mX3_readClause [(2, rd)] E g (E, fun v g' => v = none ∧ CQ true g g' rd t B n s (pCl (tC B n) (tV B n) (tpl B n) true s)) := by
  have hr0 := hr
  obtain ⟨hkr, e0, e1, hta, htx, hor⟩ := hr
  have htx0 := htx
  have hk9 := htx.1
  have h40 := hT.2.2.1
  refine od_cqI pnX3 rfl (Nat.le_of_ble_eq_true rfl) od_le.rf ?_
  show od_Rq (38) mX3_readClause od_Z0 E (E, fun v g' => v = none ∧ CQ true g g' rd t B n s (pCl (tC B n) (tV B n) (tpl B n) true s)) 0 [some (2, rd), none, none] [] E g
  refine r_aload_n dX3_readClause_0 rfl ?_
  refine r_aload_n dX3_readClause_1 rfl ?_
  refine r_getIj (j := 2) rfl dX3_readClause_2 fkX3_20 gf3_2 (by assumption) (by (repeat (first | rewrite [od_upn (by omega)] | rewrite [od_up_at, if_pos (by omega)] | rewrite [od_up_at, if_neg (by omega)])); rfl) ?_
  rw [hl]
  show od_Rq _ _ _ _ _ _ _ ((0, 1) :: _) _ _
  refine r_if_eq (tgt := 13) dX3_readClause_5 rfl (fun h => absurd h (by decide)) (fun _ => ?_)
  refine r_ldcs (i := 0) rfl (by decide) rfl dX3_readClause_8 ?_
  refine r_goto (tgt := 15) dX3_readClause_10 rfl ?_
  refine r_callV1i dX3_readClause_15 cvX3_67 (by assumption) (c_X3_wordIn hr0 hT hR (by decide)) (by decide) (Nat.le_of_ble_eq_true rfl) od_le.rf ?_
  rcases tA_0 (B := B) (n := n) hb with ⟨hv, hc⟩ | ⟨hv, hc⟩ | ⟨hv, hc⟩ | ⟨hv, hc⟩
  · rw [hv]; exact sg_X3_rcln hr0 hT hR hz hl h6 hb hc
  · rw [hv]; exact sg_X3_rcl0 hr0 hT hR hz hl h6 hb hc
  · rw [hv]; exact sg_X3_rcl1 hr0 hT hR hz hl h6 hb hc
  · rw [hv]; exact sg_X3_rcl2 hr0 hT hR hz hl h6 hb hc
set_option maxRecDepth 10000 in
theorem c_X3_readClause_o {E : od_E} {g : od_G} {rd tp t : Int} (hr : ReAt E rd tp t) {B : Int → Int} {n : Int} (hT : TpOk g tp B n) {s : pS} (hR : RSt g rd B n s) (hz : 0 ≤ g t 7 ∧ g t 7 ≤ s.1 ∧ s.1 ≤ 400) (hl : g rd 2 = lwI false) (h6 : 0 ≤ g t 6 ∧ g t 6 < 12) (hb : s.2.2 = -1) : od_Cq (38) mX3_readClause [(2, rd)] E g (E, fun v g' => v = none ∧ CQ false g g' rd t B n s (pCl (tC B n) (tV B n) (tpl B n) false s)) := by
  have hr0 := hr
  obtain ⟨hkr, e0, e1, hta, htx, hor⟩ := hr
  have htx0 := htx
  have hk9 := htx.1
  have h40 := hT.2.2.1
  refine od_cqI pnX3 rfl (Nat.le_of_ble_eq_true rfl) od_le.rf ?_
  show od_Rq (38) mX3_readClause od_Z0 E (E, fun v g' => v = none ∧ CQ false g g' rd t B n s (pCl (tC B n) (tV B n) (tpl B n) false s)) 0 [some (2, rd), none, none] [] E g
  refine r_aload_n dX3_readClause_0 rfl ?_
  refine r_aload_n dX3_readClause_1 rfl ?_
  refine r_getIj (j := 2) rfl dX3_readClause_2 fkX3_20 gf3_2 (by assumption) (by (repeat (first | rewrite [od_upn (by omega)] | rewrite [od_up_at, if_pos (by omega)] | rewrite [od_up_at, if_neg (by omega)])); rfl) ?_
  rw [hl]
  show od_Rq _ _ _ _ _ _ _ ((0, 0) :: _) _ _
  refine r_if_eq (tgt := 13) dX3_readClause_5 rfl (fun _ => ?_) (fun h => absurd h (by decide))
  refine r_ldcs (i := 1) rfl (by decide) rfl dX3_readClause_13 ?_
  refine r_callV1i dX3_readClause_15 cvX3_67 (by assumption) (c_X3_wordIn hr0 hT hR (by decide)) (by decide) (Nat.le_of_ble_eq_true rfl) od_le.rf ?_
  rcases tA_1 (B := B) (n := n) hb with ⟨hv, hc⟩ | ⟨hv, hc⟩ | ⟨hv, hc⟩ | ⟨hv, hc⟩ | ⟨hv, hc⟩
  · rw [hv]; exact sg_X3_rcon hr0 hT hR hz hl h6 hb hc
  · rw [hv]; exact sg_X3_rco0 hr0 hT hR hz hl h6 hb hc
  · rw [hv]; exact sg_X3_rco1 hr0 hT hR hz hl h6 hb hc
  · rw [hv]; exact sg_X3_rco2 hr0 hT hR hz hl h6 hb hc
  · rw [hv]; exact sg_X3_rco3 hr0 hT hR hz hl h6 hb hc
theorem c_X3_readClause {E : od_E} {g : od_G} {rd tp t : Int} (hr : ReAt E rd tp t) {B : Int → Int} {n : Int} (hT : TpOk g tp B n) {s : pS} (hR : RSt g rd B n s) (hz : 0 ≤ g t 7 ∧ g t 7 ≤ s.1 ∧ s.1 ≤ 400) {lw : Bool} (hl : g rd 2 = lwI lw) (h6 : 0 ≤ g t 6 ∧ g t 6 < 12) (hb : s.2.2 = -1) : od_Cq 38 mX3_readClause [(2, rd)] E g (E, fun v g' => v = none ∧ CQ lw g g' rd t B n s (pCl (tC B n) (tV B n) (tpl B n) lw s)) := by
  cases lw with
  | true => exact c_X3_readClause_l hr hT hR hz hl h6 hb
  | false => exact c_X3_readClause_o hr hT hR hz hl h6 hb
/-- C clauses are the whole text of N tokens -/
def pDn (c v pl : Int → Int) (lw : Bool) (N C : Int) : Prop := (1 ≤ C ∧ C ≤ 12) ∧ ∀ k : Int, 0 ≤ k → k < C → (pSt c v pl lw k.toNat).2.2 = -1 ∧ (pCl c v pl lw (pSt c v pl lw k.toNat)).1.2.2 = -1 ∧ (k + 1 < C → c (pCl c v pl lw (pSt c v pl lw k.toNat)).1.1 = 159) ∧ (k + 1 = C → N ≤ (pCl c v pl lw (pSt c v pl lw k.toNat)).1.1 ∧ (pCl c v pl lw (pSt c v pl lw k.toNat)).1.1 ≤ 400)
/-- the reader's draft is the text -/
def TxO (lw : Bool) (g : od_G) (t : Int) (B : Int → Int) (n C : Int) : Prop := g t 6 = C ∧ (0 ≤ g t 7 ∧ g t 7 ≤ 400) ∧ ∀ k : Int, 0 ≤ k → k < C → ClOk lw g t k (g t 7) (pCl (tC B n) (tV B n) (tpl B n) lw (pSt (tC B n) (tV B n) (tpl B n) lw k.toNat)).2
def XR (rd t : Int) : Int → Int → Prop := fun x y => (x = rd ∧ 2 ≤ y ∧ y ≤ 8) ∨ (t ≤ x ∧ x ≤ t + 6)
theorem XR.xc {rd t z c : Int} : ∀ x y, XC rd t z c x y → XR rd t x y := fun x y q => by unfold XC XP at q; unfold XR; omega
theorem ClOk.kp {lw : Bool} {g g' : od_G} {rd t k z z' c : Int} {q : pC} (h : ClOk lw g t k z q) (f : od_fr (XC rd t z c) g g') (hrt : rd + 1 ≤ t) (hk : k < c) (hz : z ≤ z') : ClOk lw g' t k z' q := by
  obtain ⟨a1, a2, a3, a4, a5⟩ := h
  have es : ∀ x : Int, t + 1 ≤ x → x ≤ t + 5 → g' x k = g x k := fun x h1 h2 => f x k (fun y => by unfold XC XP at y; omega)
  have er : ∀ j : Int, 0 ≤ j → j < z → g' (t + 6) j = g (t + 6) j := fun j j0 j1 => f (t + 6) j (fun y => by unfold XC XP at y; omega)
  refine ⟨?_, ?_, ?_, ?_, ?_⟩
  · rw [es _ (by omega) (by omega)]; exact a1
  · rw [es _ (by omega) (by omega)]; exact a2
  · rw [es _ (by omega) (by omega)]; exact a3.mo hz er
  · rw [es _ (by omega) (by omega)]; exact a4.mo hz er
  · rw [es _ (by omega) (by omega)]; exact a5.mo hz er
theorem ClOk.kr {lw : Bool} {g g' : od_G} {rd t k z : Int} {q : pC} (h : ClOk lw g t k z q) (f : od_fr (fun x y => x = rd ∧ 3 ≤ y ∧ y ≤ 8) g g') (hrt : rd + 1 ≤ t) : ClOk lw g' t k z q := by
  have es : ∀ x : Int, x ≠ rd → g' x = g x := fun x h1 => f.row (fun y z => by omega)
  unfold ClOk
  rw [es _ (by omega), es _ (by omega), es _ (by omega), es _ (by omega), es _ (by omega), es _ (by omega)]
  exact h
theorem pTxt_s {c v pl : Int → Int} {lw : Bool} {f : Nat} {s : pS} (h : (pCl c v pl lw s).1.2.2 = -1 ∧ c (pCl c v pl lw s).1.1 = 159) : pTxt c v pl lw (f + 1) s = pTxt c v pl lw f (pNx (pCl c v pl lw s).1) := if_pos h
theorem pTxt_e {c v pl : Int → Int} {lw : Bool} {f : Nat} {s : pS} (h : ¬ ((pCl c v pl lw s).1.2.2 = -1 ∧ c (pCl c v pl lw s).1.1 = 159)) : pTxt c v pl lw (f + 1) s = (pCl c v pl lw s).1 := if_neg h
theorem tpl_0 (B : Int → Int) (n : Int) : tpl B n 0 = tS B n 0 := by
  unfold tpl
  exact congrArg (tS B n) rfl
theorem pSt_s {c v pl : Int → Int} {lw : Bool} {k : Int} (h : 0 ≤ k) : pSt c v pl lw (k + 1).toNat = pNx (pCl c v pl lw (pSt c v pl lw k.toNat)).1 := by
  rw [show (k + 1).toNat = k.toNat + 1 by omega]
  rfl
theorem RSt.f8 {g : od_G} {rd : Int} {B : Int → Int} {n : Int} {s : pS} (h : RSt g rd B n s) : g rd 8 = s.2.2 := by
  rcases h with h | h
  · exact h.2.2.1.trans h.1.symm
  · exact h.2.1
set_option maxRecDepth 10000 in
theorem lp_X3_read {E : od_E} {g : od_G} {rd tp t : Int} (hr : ReAt E rd tp t) {B : Int → Int} {n : Int} (hT : TpOk g tp B n) {lw : Bool} {N : Int} (hN : ∀ i : Int, 0 ≤ i → (i < N ↔ tQ B n (tpl B n i) ≠ 0)) : ∀ (m : Nat) (cc du : Int) (s : pS) (gw : od_G), (0 ≤ cc ∧ cc ≤ 12 ∧ od_fr (XR rd t) g gw ∧ gw rd 2 = lwI lw ∧ RSt gw rd B n s ∧ (0 ≤ gw t 7 ∧ s.1 ≤ 400) ∧ ((du = 1 ∧ s.2.2 = -1 ∧ s = (pSt (tC B n) (tV B n) (tpl B n) lw cc.toNat) ∧ gw t 7 ≤ s.1 ∧ gw t 6 = cc ∧ pTxt (tC B n) (tV B n) (tpl B n) lw (12 - cc).toNat s = (pTxt (tC B n) (tV B n) (tpl B n) lw 12 (0, 0, -1)) ∧ ∀ k : Int, 0 ≤ k → k < cc → ClOk lw gw t k (gw t 7) (pCl (tC B n) (tV B n) (tpl B n) lw (pSt (tC B n) (tV B n) (tpl B n) lw k.toNat)).2 ∧ (pSt (tC B n) (tV B n) (tpl B n) lw k.toNat).2.2 = -1 ∧ (pCl (tC B n) (tV B n) (tpl B n) lw (pSt (tC B n) (tV B n) (tpl B n) lw k.toNat)).1.2.2 = -1 ∧ tC B n (pCl (tC B n) (tV B n) (tpl B n) lw (pSt (tC B n) (tV B n) (tpl B n) lw k.toNat)).1.1 = 159) ∨ (du = 0 ∧ s = (pTxt (tC B n) (tV B n) (tpl B n) lw 12 (0, 0, -1)) ∧ (s.2.2 = -1 → 1 ≤ cc ∧ gw t 6 = cc ∧ gw t 7 ≤ s.1 ∧ ∀ k : Int, 0 ≤ k → k < cc → ClOk lw gw t k (gw t 7) (pCl (tC B n) (tV B n) (tpl B n) lw (pSt (tC B n) (tV B n) (tpl B n) lw k.toNat)).2 ∧ (pSt (tC B n) (tV B n) (tpl B n) lw k.toNat).2.2 = -1 ∧ (pCl (tC B n) (tV B n) (tpl B n) lw (pSt (tC B n) (tV B n) (tpl B n) lw k.toNat)).1.2.2 = -1 ∧ (k + 1 < cc → tC B n (pCl (tC B n) (tV B n) (tpl B n) lw (pSt (tC B n) (tV B n) (tpl B n) lw k.toNat)).1.1 = 159) ∧ (k + 1 = cc → (pCl (tC B n) (tV B n) (tpl B n) lw (pSt (tC B n) (tV B n) (tpl B n) lw k.toNat)).1 = s))))) → ((12 - cc).toNat) < m → od_Rq 39 mX3_read od_Z0 E (E, fun v g' => v = some (0, (pAll (tC B n) (tV B n) (tpl B n) lw N).2.2) ∧ od_fr (XR rd t) g g' ∧ ((pAll (tC B n) (tV B n) (tpl B n) lw N).2.2 = -1 → ∃ C : Int, pDn (tC B n) (tV B n) (tpl B n) lw N C ∧ TxO lw g' t B n C)) 35 [some (2, rd), some (0, lwI lw), some (0, du), some (0, cc)] [] E gw := by
  have hr0 := hr
  obtain ⟨hkr, e0, e1, hta, htx, hor⟩ := hr
  have htx0 := htx
  have hk9 := htx.1
  have h40 := hT.2.2.1
  intro m
  induction m with
  | zero => intro cc du s gw hi hM; exact absurd hM (Nat.not_lt_zero _)
  | succ m ih =>
    intro cc du s gw hi hM
    obtain ⟨hi0, hi1, hfr, hlw, hRw, hz, hcase⟩ := hi
    have hTw : TpOk gw tp B n := hT.fr hfr (fun y q => by unfold XR at q; omega) (fun q => by unfold XR at q; omega)
    have hAf : du ≠ 0 → cc = 12 → pAll (tC B n) (tV B n) (tpl B n) lw N = pF (tpl B n) s := fun hd hcc => by
      rcases hcase with ⟨_, h2, h3, h4, h5, h6, h7⟩ | ⟨h1, _⟩
      · rw [hcc] at h6
        have e : pTxt (tC B n) (tV B n) (tpl B n) lw 12 (0, 0, -1) = pF (tpl B n) s := h6.symm
        unfold pAll
        rw [e]
        have nb : (pF (tpl B n) s).2.2 ≠ -1 := pF_nb (by have := tpl_b (B := B) h40.1 s.1; omega)
        split
        · exact pF_bad nb
        · rfl
      · exact absurd h1 hd
    have hAg : du = 0 → gw rd 3 ≠ 0 → pAll (tC B n) (tV B n) (tpl B n) lw N = pF (tpl B n) s := fun hd h3 => by
      rcases hcase with ⟨h1, _⟩ | ⟨_, h2, _⟩
      · omega
      · unfold pAll
        rw [← h2]
        by_cases hb : s.2.2 = -1
        · have q := hRw.fine hb
          have hlt := (hN s.1 q.1.1).mpr (by rw [← q.2.2.2.2.2.2]; exact h3)
          rw [if_pos hlt]
        · split
          · rfl
          · rw [pF_bad hb]
    have hAh : du = 0 → gw rd 3 = 0 → pAll (tC B n) (tV B n) (tpl B n) lw N = s ∧ s.2.2 = -1 ∧ ∃ C : Int, pDn (tC B n) (tV B n) (tpl B n) lw N C ∧ TxO lw gw t B n C := fun hd h3 => by
      rcases hcase with ⟨h1, _⟩ | ⟨_, h2, h4⟩
      · omega
      · have hb : s.2.2 = -1 := by
          by_cases hb : s.2.2 = -1
          · exact hb
          · have := (hRw.bad hb).2; omega
        have q := hRw.fine hb
        have hnl : ¬ s.1 < N := fun z => (hN s.1 q.1.1).mp z (by rw [← q.2.2.2.2.2.2]; exact h3)
        obtain ⟨c1, c2, c3, c4⟩ := h4 hb
        refine ⟨by unfold pAll; rw [← h2, if_neg hnl], hb, cc, ⟨⟨c1, hi1⟩, fun k k0 k1 => ?_⟩, c2, ⟨hz.1, by omega⟩, fun k k0 k1 => (c4 k k0 k1).1⟩
        obtain ⟨d1, d2, d3, d4, d5⟩ := c4 k k0 k1
        exact ⟨d2, d3, d4, fun e => by rw [d5 e]; exact ⟨by omega, hz.2⟩⟩
    refine r_iload_n dX3_read_35 rfl ?_
    refine r_bipush dX3_read_36 lb_12 ?_
    refine r_icmp_ge (tgt := 62) dX3_read_38 rfl (fun c38 => ?_) (fun c38 => ?_)
    · refine r_iload_n dX3_read_62 rfl ?_
      refine r_if_ne (tgt := 73) dX3_read_63 rfl (fun c63 => ?_) (fun c63 => ?_)
      · refine r_aload_n dX3_read_73 rfl ?_
        refine r_callV0v dX3_read_74 cvX3_60 (by assumption) (c_X3_setFault hr0) (by decide) (Nat.le_of_ble_eq_true rfl) od_le.rf ?_
        refine r_aload_n dX3_read_77 rfl ?_
        refine r_getIj (j := 8) rfl dX3_read_78 fkX3_40 gf3_8 (by assumption) (by (repeat (first | rewrite [od_upn (by omega)] | rewrite [od_up_at, if_pos (by omega)] | rewrite [od_up_at, if_neg (by omega)])); rfl) ?_
        first
        | (have c38x : cc = 12 := by omega
           have c63x : du ≠ 0 := by assumption
           have hA := hAf c63x c38x
           have hSF := cSF_st h40.1 hRw
           have hfr2 : od_fr (XR rd t) g (cSF gw rd) := hfr.tr ((fr_rd (t := t) (z := 0) (cSF_fr gw rd) (by omega)).mo (fun x y q => XR.xc (z := 0) (c := 0) x y (Or.inl q)))
           have nb : (pF (tpl B n) s).2.2 ≠ -1 := pF_nb (by have := tpl_b (B := B) h40.1 s.1; omega)
           refine r_iretq dX3_read_81 rfl rfl ?_
           rw [hA]
           exact ⟨by rw [hSF.f8], hfr2, fun z => absurd z nb⟩)
        | (have hA := hAg (by assumption) (by assumption)
           have hSF := cSF_st h40.1 hRw
           have hfr2 : od_fr (XR rd t) g (cSF gw rd) := hfr.tr ((fr_rd (t := t) (z := 0) (cSF_fr gw rd) (by omega)).mo (fun x y q => XR.xc (z := 0) (c := 0) x y (Or.inl q)))
           have nb : (pF (tpl B n) s).2.2 ≠ -1 := pF_nb (by have := tpl_b (B := B) h40.1 s.1; omega)
           refine r_iretq dX3_read_81 rfl rfl ?_
           rw [hA]
           exact ⟨by rw [hSF.f8], hfr2, fun z => absurd z nb⟩)
        | (obtain ⟨hA, hfin, hdone⟩ := hAh (by assumption) (by assumption)
           refine r_iretq dX3_read_81 rfl rfl ?_
           rw [hA]
           exact ⟨by rw [hRw.f8], hfr, fun _ => hdone⟩)
        | (exfalso; omega)
      · refine r_aload_n dX3_read_66 rfl ?_
        refine r_getIj (j := 3) rfl dX3_read_67 fkX3_24 gf3_3 (by assumption) (by (repeat (first | rewrite [od_upn (by omega)] | rewrite [od_up_at, if_pos (by omega)] | rewrite [od_up_at, if_neg (by omega)])); rfl) ?_
        refine r_if_eq (tgt := 77) dX3_read_70 rfl (fun c70 => ?_) (fun c70 => ?_)
        · refine r_aload_n dX3_read_77 rfl ?_
          refine r_getIj (j := 8) rfl dX3_read_78 fkX3_40 gf3_8 (by assumption) (by (repeat (first | rewrite [od_upn (by omega)] | rewrite [od_up_at, if_pos (by omega)] | rewrite [od_up_at, if_neg (by omega)])); rfl) ?_
          first
          | (have c38x : cc = 12 := by omega
             have c63x : du ≠ 0 := by assumption
             have hA := hAf c63x c38x
             have hSF := cSF_st h40.1 hRw
             have hfr2 : od_fr (XR rd t) g (cSF gw rd) := hfr.tr ((fr_rd (t := t) (z := 0) (cSF_fr gw rd) (by omega)).mo (fun x y q => XR.xc (z := 0) (c := 0) x y (Or.inl q)))
             have nb : (pF (tpl B n) s).2.2 ≠ -1 := pF_nb (by have := tpl_b (B := B) h40.1 s.1; omega)
             refine r_iretq dX3_read_81 rfl rfl ?_
             rw [hA]
             exact ⟨by rw [hSF.f8], hfr2, fun z => absurd z nb⟩)
          | (have hA := hAg (by assumption) (by assumption)
             have hSF := cSF_st h40.1 hRw
             have hfr2 : od_fr (XR rd t) g (cSF gw rd) := hfr.tr ((fr_rd (t := t) (z := 0) (cSF_fr gw rd) (by omega)).mo (fun x y q => XR.xc (z := 0) (c := 0) x y (Or.inl q)))
             have nb : (pF (tpl B n) s).2.2 ≠ -1 := pF_nb (by have := tpl_b (B := B) h40.1 s.1; omega)
             refine r_iretq dX3_read_81 rfl rfl ?_
             rw [hA]
             exact ⟨by rw [hSF.f8], hfr2, fun z => absurd z nb⟩)
          | (obtain ⟨hA, hfin, hdone⟩ := hAh (by assumption) (by assumption)
             refine r_iretq dX3_read_81 rfl rfl ?_
             rw [hA]
             exact ⟨by rw [hRw.f8], hfr, fun _ => hdone⟩)
          | (exfalso; omega)
        · refine r_aload_n dX3_read_73 rfl ?_
          refine r_callV0v dX3_read_74 cvX3_60 (by assumption) (c_X3_setFault hr0) (by decide) (Nat.le_of_ble_eq_true rfl) od_le.rf ?_
          refine r_aload_n dX3_read_77 rfl ?_
          refine r_getIj (j := 8) rfl dX3_read_78 fkX3_40 gf3_8 (by assumption) (by (repeat (first | rewrite [od_upn (by omega)] | rewrite [od_up_at, if_pos (by omega)] | rewrite [od_up_at, if_neg (by omega)])); rfl) ?_
          first
          | (have c38x : cc = 12 := by omega
             have c63x : du ≠ 0 := by assumption
             have hA := hAf c63x c38x
             have hSF := cSF_st h40.1 hRw
             have hfr2 : od_fr (XR rd t) g (cSF gw rd) := hfr.tr ((fr_rd (t := t) (z := 0) (cSF_fr gw rd) (by omega)).mo (fun x y q => XR.xc (z := 0) (c := 0) x y (Or.inl q)))
             have nb : (pF (tpl B n) s).2.2 ≠ -1 := pF_nb (by have := tpl_b (B := B) h40.1 s.1; omega)
             refine r_iretq dX3_read_81 rfl rfl ?_
             rw [hA]
             exact ⟨by rw [hSF.f8], hfr2, fun z => absurd z nb⟩)
          | (have hA := hAg (by assumption) (by assumption)
             have hSF := cSF_st h40.1 hRw
             have hfr2 : od_fr (XR rd t) g (cSF gw rd) := hfr.tr ((fr_rd (t := t) (z := 0) (cSF_fr gw rd) (by omega)).mo (fun x y q => XR.xc (z := 0) (c := 0) x y (Or.inl q)))
             have nb : (pF (tpl B n) s).2.2 ≠ -1 := pF_nb (by have := tpl_b (B := B) h40.1 s.1; omega)
             refine r_iretq dX3_read_81 rfl rfl ?_
             rw [hA]
             exact ⟨by rw [hSF.f8], hfr2, fun z => absurd z nb⟩)
          | (obtain ⟨hA, hfin, hdone⟩ := hAh (by assumption) (by assumption)
             refine r_iretq dX3_read_81 rfl rfl ?_
             rw [hA]
             exact ⟨by rw [hRw.f8], hfr, fun _ => hdone⟩)
          | (exfalso; omega)
    · refine r_iload_n dX3_read_41 rfl ?_
      refine r_if_eq (tgt := 62) dX3_read_42 rfl (fun c42 => ?_) (fun c42 => ?_)
      · refine r_iload_n dX3_read_62 rfl ?_
        refine r_if_ne (tgt := 73) dX3_read_63 rfl (fun h => absurd h (by omega)) (fun _ => ?_)
        refine r_aload_n dX3_read_66 rfl ?_
        refine r_getIj (j := 3) rfl dX3_read_67 fkX3_24 gf3_3 (by assumption) (by (repeat (first | rewrite [od_upn (by omega)] | rewrite [od_up_at, if_pos (by omega)] | rewrite [od_up_at, if_neg (by omega)])); rfl) ?_
        refine r_if_eq (tgt := 77) dX3_read_70 rfl (fun c70 => ?_) (fun c70 => ?_)
        · refine r_aload_n dX3_read_77 rfl ?_
          refine r_getIj (j := 8) rfl dX3_read_78 fkX3_40 gf3_8 (by assumption) (by (repeat (first | rewrite [od_upn (by omega)] | rewrite [od_up_at, if_pos (by omega)] | rewrite [od_up_at, if_neg (by omega)])); rfl) ?_
          first
          | (have c38x : cc = 12 := by omega
             have c63x : du ≠ 0 := by assumption
             have hA := hAf c63x c38x
             have hSF := cSF_st h40.1 hRw
             have hfr2 : od_fr (XR rd t) g (cSF gw rd) := hfr.tr ((fr_rd (t := t) (z := 0) (cSF_fr gw rd) (by omega)).mo (fun x y q => XR.xc (z := 0) (c := 0) x y (Or.inl q)))
             have nb : (pF (tpl B n) s).2.2 ≠ -1 := pF_nb (by have := tpl_b (B := B) h40.1 s.1; omega)
             refine r_iretq dX3_read_81 rfl rfl ?_
             rw [hA]
             exact ⟨by rw [hSF.f8], hfr2, fun z => absurd z nb⟩)
          | (have hA := hAg (by assumption) (by assumption)
             have hSF := cSF_st h40.1 hRw
             have hfr2 : od_fr (XR rd t) g (cSF gw rd) := hfr.tr ((fr_rd (t := t) (z := 0) (cSF_fr gw rd) (by omega)).mo (fun x y q => XR.xc (z := 0) (c := 0) x y (Or.inl q)))
             have nb : (pF (tpl B n) s).2.2 ≠ -1 := pF_nb (by have := tpl_b (B := B) h40.1 s.1; omega)
             refine r_iretq dX3_read_81 rfl rfl ?_
             rw [hA]
             exact ⟨by rw [hSF.f8], hfr2, fun z => absurd z nb⟩)
          | (obtain ⟨hA, hfin, hdone⟩ := hAh (by assumption) (by assumption)
             refine r_iretq dX3_read_81 rfl rfl ?_
             rw [hA]
             exact ⟨by rw [hRw.f8], hfr, fun _ => hdone⟩)
          | (exfalso; omega)
        · refine r_aload_n dX3_read_73 rfl ?_
          refine r_callV0v dX3_read_74 cvX3_60 (by assumption) (c_X3_setFault hr0) (by decide) (Nat.le_of_ble_eq_true rfl) od_le.rf ?_
          refine r_aload_n dX3_read_77 rfl ?_
          refine r_getIj (j := 8) rfl dX3_read_78 fkX3_40 gf3_8 (by assumption) (by (repeat (first | rewrite [od_upn (by omega)] | rewrite [od_up_at, if_pos (by omega)] | rewrite [od_up_at, if_neg (by omega)])); rfl) ?_
          first
          | (have c38x : cc = 12 := by omega
             have c63x : du ≠ 0 := by assumption
             have hA := hAf c63x c38x
             have hSF := cSF_st h40.1 hRw
             have hfr2 : od_fr (XR rd t) g (cSF gw rd) := hfr.tr ((fr_rd (t := t) (z := 0) (cSF_fr gw rd) (by omega)).mo (fun x y q => XR.xc (z := 0) (c := 0) x y (Or.inl q)))
             have nb : (pF (tpl B n) s).2.2 ≠ -1 := pF_nb (by have := tpl_b (B := B) h40.1 s.1; omega)
             refine r_iretq dX3_read_81 rfl rfl ?_
             rw [hA]
             exact ⟨by rw [hSF.f8], hfr2, fun z => absurd z nb⟩)
          | (have hA := hAg (by assumption) (by assumption)
             have hSF := cSF_st h40.1 hRw
             have hfr2 : od_fr (XR rd t) g (cSF gw rd) := hfr.tr ((fr_rd (t := t) (z := 0) (cSF_fr gw rd) (by omega)).mo (fun x y q => XR.xc (z := 0) (c := 0) x y (Or.inl q)))
             have nb : (pF (tpl B n) s).2.2 ≠ -1 := pF_nb (by have := tpl_b (B := B) h40.1 s.1; omega)
             refine r_iretq dX3_read_81 rfl rfl ?_
             rw [hA]
             exact ⟨by rw [hSF.f8], hfr2, fun z => absurd z nb⟩)
          | (obtain ⟨hA, hfin, hdone⟩ := hAh (by assumption) (by assumption)
             refine r_iretq dX3_read_81 rfl rfl ?_
             rw [hA]
             exact ⟨by rw [hRw.f8], hfr, fun _ => hdone⟩)
          | (exfalso; omega)
      · obtain ⟨_, hb, hss, h7, h6, hF, hP⟩ : du = 1 ∧ s.2.2 = -1 ∧ s = (pSt (tC B n) (tV B n) (tpl B n) lw cc.toNat) ∧ gw t 7 ≤ s.1 ∧ gw t 6 = cc ∧ pTxt (tC B n) (tV B n) (tpl B n) lw (12 - cc).toNat s = (pTxt (tC B n) (tV B n) (tpl B n) lw 12 (0, 0, -1)) ∧ ∀ k : Int, 0 ≤ k → k < cc → ClOk lw gw t k (gw t 7) (pCl (tC B n) (tV B n) (tpl B n) lw (pSt (tC B n) (tV B n) (tpl B n) lw k.toNat)).2 ∧ (pSt (tC B n) (tV B n) (tpl B n) lw k.toNat).2.2 = -1 ∧ (pCl (tC B n) (tV B n) (tpl B n) lw (pSt (tC B n) (tV B n) (tpl B n) lw k.toNat)).1.2.2 = -1 ∧ tC B n (pCl (tC B n) (tV B n) (tpl B n) lw (pSt (tC B n) (tV B n) (tpl B n) lw k.toNat)).1.1 = 159 := by
          rcases hcase with h | h
          · exact h
          · exact absurd h.1 (by assumption)
        have fl : (12 - cc).toNat = (12 - (cc + 1)).toNat + 1 := by omega
        refine r_aload_n dX3_read_45 rfl ?_
        refine r_callV0p dX3_read_46 cvX3_53 (by assumption) (c_X3_readClause hr0 hTw hRw ⟨hz.1, h7, hz.2⟩ hlw (by omega) hb) (by decide) (Nat.le_of_ble_eq_true rfl) od_le.rf (fun r46 g46 h46 => ?_)
        obtain ⟨rfl, hq⟩ := h46
        show od_Rq _ _ _ _ _ _ _ [] _ _
        have hq3 := hq.2.2.1
        have hT46 := hTw.xc hor hq.1
        have hl46 : g46 rd 2 = lwI lw := (hq.1 rd 2 (fun z => by unfold XC XP at z; omega)).trans hlw
        have hfr46 : od_fr (XR rd t) g g46 := hfr.tr (hq.1.mo XR.xc)
        have hPc : (pCl (tC B n) (tV B n) (tpl B n) lw s).1.2.2 = -1 → ∀ k : Int, 0 ≤ k → k < cc + 1 → ClOk lw g46 t k (g46 t 7) (pCl (tC B n) (tV B n) (tpl B n) lw (pSt (tC B n) (tV B n) (tpl B n) lw k.toNat)).2 ∧ (pSt (tC B n) (tV B n) (tpl B n) lw k.toNat).2.2 = -1 ∧ (pCl (tC B n) (tV B n) (tpl B n) lw (pSt (tC B n) (tV B n) (tpl B n) lw k.toNat)).1.2.2 = -1 ∧ (k < cc → tC B n (pCl (tC B n) (tV B n) (tpl B n) lw (pSt (tC B n) (tV B n) (tpl B n) lw k.toNat)).1.1 = 159) := fun hf k k0 k1 => by
          by_cases ck : k = cc
          · subst ck
            have h4 := hq.2.2.2 hf
            rw [← hss]
            rw [h6] at h4
            exact ⟨h4.2.2, hb, hf, fun z => by omega⟩
          · obtain ⟨c1, c2, c3, c4⟩ := hP k k0 (by omega)
            exact ⟨ClOk.kp c1 hq.1 hor.2 (by omega) hq3.1, c2, c3, fun _ => c4⟩
        refine r_aload_n dX3_read_49 rfl ?_
        refine r_bipush dX3_read_50 lb_59 ?_
        refine r_callV1p dX3_read_52 cvX3_56 (by assumption) (c_X3_takeSign hr0 hT46 hq.2.1 _ (by omega)) (by decide) (Nat.le_of_ble_eq_true rfl) od_le.rf (fun r52 g52 h52 => ?_)
        rcases h52 with ⟨rfl, h52⟩ | ⟨rfl, h52⟩
        · show od_Rq _ _ _ _ _ _ _ ((0, 1) :: _) _ _
          skip
          refine r_istore_n dX3_read_55 (by decide) rfl ?_
          refine r_iincE dX3_read_56 rfl (by decide) (by first | exact od_w0 (by omega) (by omega) | exact od_wI (by omega) (by omega) | rfl) rfl ?_
          refine r_goto (tgt := 35) dX3_read_59 rfl ?_
          first
          | (have hk : (pCl (tC B n) (tV B n) (tpl B n) lw s).1.2.2 = -1 ∧ tC B n (pCl (tC B n) (tV B n) (tpl B n) lw s).1.1 = 159 := ⟨h52.1.1, by have := h52.1.2; omega⟩
             have h4 := hq.2.2.2 hk.1
             have e7 : g52 t 7 = g46 t 7 := h52.2.1 t 7 (by omega)
             have e6 : g52 t 6 = g46 t 6 := h52.2.1 t 6 (by omega)
             have i4 := h52.2.2.i4 hk.1 h40
             have bx : (pNx (pCl (tC B n) (tV B n) (tpl B n) lw s).1).1 = (pCl (tC B n) (tV B n) (tpl B n) lw s).1.1 + 1 := rfl
             refine ih _ _ _ _ ⟨by omega, by omega, hfr46.tr ((fr_rd (t := t) (z := 0) h52.2.1 (by omega)).mo (fun x y q => XR.xc (z := 0) (c := 0) x y (Or.inl q))), (h52.2.1 rd 2 (by omega)).trans hl46, h52.2.2, ⟨by omega, i4⟩, Or.inl ⟨rfl, hk.1, ?_, by omega, by omega, ?_, fun k k0 k1 => ?_⟩⟩ (by omega)
             · rw [pSt_s hi0, ← hss]
             · rw [fl, pTxt_s hk] at hF; exact hF
             · obtain ⟨c1, c2, c3, c4⟩ := hPc hk.1 k k0 k1
               rw [e7]
               refine ⟨ClOk.kr c1 (h52.2.1.mo (fun x y z => by omega)) hor.2, c2, c3, ?_⟩
               by_cases ck : k = cc
               · rw [ck, ← hss]; exact hk.2
               · exact c4 (by omega))
          | (obtain ⟨h52a, rfl⟩ := h52
             have hk : ¬ ((pCl (tC B n) (tV B n) (tpl B n) lw s).1.2.2 = -1 ∧ tC B n (pCl (tC B n) (tV B n) (tpl B n) lw s).1.1 = 159) := fun z => h52a ⟨z.1, by have := z.2; omega⟩
             refine ih _ _ _ _ ⟨by omega, by omega, hfr46, hl46, hq.2.1, ⟨by omega, hq3.2.2.2⟩, Or.inr ⟨rfl, ?_, fun hf => ?_⟩⟩ (by omega)
             · rw [fl, pTxt_e hk] at hF; exact hF
             · have h4 := hq.2.2.2 hf
               refine ⟨by omega, by omega, h4.1, fun k k0 k1 => ?_⟩
               obtain ⟨c1, c2, c3, c4⟩ := hPc hf k k0 k1
               exact ⟨c1, c2, c3, fun z => c4 (by omega), fun z => by rw [show k = cc by omega, ← hss]⟩)
        · show od_Rq _ _ _ _ _ _ _ ((0, 0) :: _) _ _
          skip
          refine r_istore_n dX3_read_55 (by decide) rfl ?_
          refine r_iincE dX3_read_56 rfl (by decide) (by first | exact od_w0 (by omega) (by omega) | exact od_wI (by omega) (by omega) | rfl) rfl ?_
          refine r_goto (tgt := 35) dX3_read_59 rfl ?_
          first
          | (have hk : (pCl (tC B n) (tV B n) (tpl B n) lw s).1.2.2 = -1 ∧ tC B n (pCl (tC B n) (tV B n) (tpl B n) lw s).1.1 = 159 := ⟨h52.1.1, by have := h52.1.2; omega⟩
             have h4 := hq.2.2.2 hk.1
             have e7 : g52 t 7 = g46 t 7 := h52.2.1 t 7 (by omega)
             have e6 : g52 t 6 = g46 t 6 := h52.2.1 t 6 (by omega)
             have i4 := h52.2.2.i4 hk.1 h40
             have bx : (pNx (pCl (tC B n) (tV B n) (tpl B n) lw s).1).1 = (pCl (tC B n) (tV B n) (tpl B n) lw s).1.1 + 1 := rfl
             refine ih _ _ _ _ ⟨by omega, by omega, hfr46.tr ((fr_rd (t := t) (z := 0) h52.2.1 (by omega)).mo (fun x y q => XR.xc (z := 0) (c := 0) x y (Or.inl q))), (h52.2.1 rd 2 (by omega)).trans hl46, h52.2.2, ⟨by omega, i4⟩, Or.inl ⟨rfl, hk.1, ?_, by omega, by omega, ?_, fun k k0 k1 => ?_⟩⟩ (by omega)
             · rw [pSt_s hi0, ← hss]
             · rw [fl, pTxt_s hk] at hF; exact hF
             · obtain ⟨c1, c2, c3, c4⟩ := hPc hk.1 k k0 k1
               rw [e7]
               refine ⟨ClOk.kr c1 (h52.2.1.mo (fun x y z => by omega)) hor.2, c2, c3, ?_⟩
               by_cases ck : k = cc
               · rw [ck, ← hss]; exact hk.2
               · exact c4 (by omega))
          | (obtain ⟨h52a, rfl⟩ := h52
             have hk : ¬ ((pCl (tC B n) (tV B n) (tpl B n) lw s).1.2.2 = -1 ∧ tC B n (pCl (tC B n) (tV B n) (tpl B n) lw s).1.1 = 159) := fun z => h52a ⟨z.1, by have := z.2; omega⟩
             refine ih _ _ _ _ ⟨by omega, by omega, hfr46, hl46, hq.2.1, ⟨by omega, hq3.2.2.2⟩, Or.inr ⟨rfl, ?_, fun hf => ?_⟩⟩ (by omega)
             · rw [fl, pTxt_e hk] at hF; exact hF
             · have h4 := hq.2.2.2 hf
               refine ⟨by omega, by omega, h4.1, fun k k0 k1 => ?_⟩
               obtain ⟨c1, c2, c3, c4⟩ := hPc hf k k0 k1
               exact ⟨c1, c2, c3, fun z => c4 (by omega), fun z => by rw [show k = cc by omega, ← hss]⟩)
set_option maxRecDepth 10000 in
theorem c_X3_read {E : od_E} {g : od_G} {rd tp t : Int} (hr : ReAt E rd tp t) {B : Int → Int} {n : Int} (hT : TpOk g tp B n) {lw : Bool} {N : Int} (hN : ∀ i : Int, 0 ≤ i → (i < N ↔ tQ B n (tpl B n i) ≠ 0)) : od_Cq (39) mX3_read [(2, rd), (0, lwI lw)] E g (E, fun v g' => v = some (0, (pAll (tC B n) (tV B n) (tpl B n) lw N).2.2) ∧ od_fr (XR rd t) g g' ∧ ((pAll (tC B n) (tV B n) (tpl B n) lw N).2.2 = -1 → ∃ C : Int, pDn (tC B n) (tV B n) (tpl B n) lw N C ∧ TxO lw g' t B n C)) := by
  have hr0 := hr
  obtain ⟨hkr, e0, e1, hta, htx, hor⟩ := hr
  have htx0 := htx
  have hk9 := htx.1
  have h40 := hT.2.2.1
  have hlz : lwI lw = 0 ∨ lwI lw = 1 := by cases lw <;> simp [lwI]
  refine od_cqI pnX3 rfl (Nat.le_of_ble_eq_true rfl) od_le.rf ?_
  show od_Rq (39) mX3_read od_Z0 E (E, fun v g' => v = some (0, (pAll (tC B n) (tV B n) (tpl B n) lw N).2.2) ∧ od_fr (XR rd t) g g' ∧ ((pAll (tC B n) (tV B n) (tpl B n) lw N).2.2 = -1 → ∃ C : Int, pDn (tC B n) (tV B n) (tpl B n) lw N C ∧ TxO lw g' t B n C)) 0 [some (2, rd), some (0, lwI lw), none, none] [] E g
  refine r_aload_n dX3_read_0 rfl ?_
  refine r_iload_n dX3_read_1 rfl ?_
  refine r_putZj (j := 2) rfl dX3_read_2 fkX3_20 gf3_2 pf3_2 (by first | exact Or.inl rfl | exact Or.inr rfl | omega | assumption) (by assumption) ?_
  refine r_aload_n dX3_read_5 rfl ?_
  refine r_iconst dX3_read_6 li_0 ?_
  refine r_putIj (j := 5) rfl dX3_read_7 fkX3_31 gf3_5 pf3_5 (by assumption) ?_
  refine r_aload_n dX3_read_10 rfl ?_
  refine r_iconst dX3_read_11 li_0 ?_
  refine r_putIj (j := 7) rfl dX3_read_12 fkX3_37 gf3_7 pf3_7 (by assumption) ?_
  refine r_aload_n dX3_read_15 rfl ?_
  refine r_iconst dX3_read_16 li_m1 ?_
  refine r_putIj (j := 8) rfl dX3_read_17 fkX3_40 gf3_8 pf3_8 (by assumption) ?_
  refine r_aload_n dX3_read_20 rfl ?_
  refine r_getR dX3_read_21 fkX3_14 gf3_0 (by assumption) (by assumption) ?_
  refine r_callV0v dX3_read_24 cvX3_47 (by assumption) (c_X9_begin htx0) (by decide) (Nat.le_of_ble_eq_true rfl) od_le.rf ?_
  have hfr1 : od_fr (XR rd t) g (cTBegin (od_up (od_up (od_up (od_up g rd 2 (lwI lw)) rd 5 0) rd 7 0) rd 8 (-1)) t) := by
    unfold cTBegin
    refine (((((od_fr.rf.up ?_).up ?_).up ?_).up ?_).up ?_).up ?_ <;> (unfold XR; omega)
  have hT1 : TpOk (cTBegin (od_up (od_up (od_up (od_up g rd 2 (lwI lw)) rd 5 0) rd 7 0) rd 8 (-1)) t) tp B n := hT.fr hfr1 (fun y q => by unfold XR at q; omega) (fun q => by unfold XR at q; omega)
  have e5 : (cTBegin (od_up (od_up (od_up (od_up g rd 2 (lwI lw)) rd 5 0) rd 7 0) rd 8 (-1)) t) rd 5 = 0 := by
    unfold cTBegin
    rw [od_upn (by omega), od_upn (by omega), od_up_at, if_neg (by omega), od_up_at, if_neg (by omega), od_up_at, if_pos rfl]
  have e7 : (cTBegin (od_up (od_up (od_up (od_up g rd 2 (lwI lw)) rd 5 0) rd 7 0) rd 8 (-1)) t) rd 7 = 0 := by
    unfold cTBegin
    rw [od_upn (by omega), od_upn (by omega), od_up_at, if_neg (by omega), od_up_at, if_pos rfl]
  have e8 : (cTBegin (od_up (od_up (od_up (od_up g rd 2 (lwI lw)) rd 5 0) rd 7 0) rd 8 (-1)) t) rd 8 = -1 := by
    unfold cTBegin
    rw [od_upn (by omega), od_upn (by omega), od_up_at, if_pos rfl]
  have e2 : (cTBegin (od_up (od_up (od_up (od_up g rd 2 (lwI lw)) rd 5 0) rd 7 0) rd 8 (-1)) t) rd 2 = lwI lw := by
    unfold cTBegin
    rw [od_upn (by omega), od_upn (by omega), od_up_at, if_neg (by omega), od_up_at, if_neg (by omega), od_up_at, if_neg (by omega), od_up_at, if_pos rfl]
  have e6t : (cTBegin (od_up (od_up (od_up (od_up g rd 2 (lwI lw)) rd 5 0) rd 7 0) rd 8 (-1)) t) t 6 = 0 := by
    unfold cTBegin
    rw [od_up_at, if_neg (by omega), od_up_at, if_pos rfl]
  have e7t : (cTBegin (od_up (od_up (od_up (od_up g rd 2 (lwI lw)) rd 5 0) rd 7 0) rd 8 (-1)) t) t 7 = 0 := by
    unfold cTBegin
    rw [od_up_at, if_pos rfl]
  refine r_aload_n dX3_read_27 rfl ?_
  refine r_callV0p dX3_read_28 cvX3_50 (by assumption) (c_X3_goOn hr0 hT1.1 hT1.2.1 hT1.2.2.1.2 hT1.2.2.2 (by rw [e5]; omega)) (by decide) (Nat.le_of_ble_eq_true rfl) od_le.rf (fun r28 g28 h28 => ?_)
  obtain ⟨rfl, f28, w428, w528, w628, w328⟩ := h28
  show od_Rq _ _ _ _ _ _ _ [] _ _
  refine r_iconst dX3_read_31 li_1 ?_
  refine r_istore_n dX3_read_32 (by decide) rfl ?_
  refine r_iconst dX3_read_33 li_0 ?_
  refine r_istore_n dX3_read_34 (by decide) rfl ?_
  have p0 := tpl_b (B := B) h40.1 0
  rw [e5, ← tpl_0] at w428 w528 w628 w328
  have S0 : RSt g28 rd B n (0, 0, -1) := Or.inl ⟨rfl, ⟨by show (0 : Int) ≤ 0; omega, p0.1, by show (0 : Int) ≤ 0; omega⟩, (f28 rd 8 (by omega)).trans e8, (f28 rd 7 (by omega)).trans e7, w428, w528, w628, w328⟩
  exact lp_X3_read hr0 hT hN _ _ _ (0, 0, -1) _ ⟨by omega, by omega, hfr1.tr ((fr_rd (t := t) (z := 0) f28 (by omega)).mo (fun x y q => XR.xc (z := 0) (c := 0) x y (Or.inl q))), (f28 rd 2 (by omega)).trans e2, S0, ⟨by rw [f28 t 7 (by omega)]; omega, by show (0 : Int) ≤ 400; omega⟩, Or.inl ⟨rfl, rfl, rfl, by rw [f28 t 7 (by omega), e7t]; show (0 : Int) ≤ 0; omega, (f28 t 6 (by omega)).trans e6t, rfl, fun k k0 k1 => by omega⟩⟩ (Nat.lt_succ_self _)
