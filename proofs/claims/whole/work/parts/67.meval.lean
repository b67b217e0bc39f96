def EPrt (E : od_E) (M b N : Int) (c v pl : Int → Int) (lw : Bool) (w : Int → Int) (L : Nat) : Prop := ∀ (g : od_G) (s : pS) (lv : Int), EV g M b N c v lw w → (lv = 0 ∨ lv = 1) → (g M 24 = 0 ∨ g M 24 = 1) → g M 22 = b + s.1 → 0 ≤ s.1 → s.2.2 = -1 → (pPart c v pl lw (pSub c v pl lw L) s).1.2.2 = -1 → od_Cq (5 + 4 * L) mX11_partOf [(2, M), (0, lv)] E g (E, fun o g' => ∃ x : Int, o = some (1, x) ∧ EQ g g' M b w lv x s (pPart c v pl lw (pSub c v pl lw L) s))
def ETrm (E : od_E) (M b N : Int) (c v pl : Int → Int) (lw : Bool) (w : Int → Int) (L : Nat) : Prop := ∀ (g : od_G) (s : pS) (lv : Int), EV g M b N c v lw w → (lv = 0 ∨ lv = 1) → (g M 24 = 0 ∨ g M 24 = 1) → g M 22 = b + s.1 → 0 ≤ s.1 → s.2.2 = -1 → (pTerm c v pl lw (pSub c v pl lw L) s).1.2.2 = -1 → od_Cq (6 + 4 * L) mX11_termOf [(2, M), (0, lv)] E g (E, fun o g' => ∃ x : Int, o = some (1, x) ∧ EQ g g' M b w lv x s (pTerm c v pl lw (pSub c v pl lw L) s))
def ESum (E : od_E) (M b N : Int) (c v pl : Int → Int) (lw : Bool) (w : Int → Int) (L : Nat) : Prop := ∀ (g : od_G) (s : pS) (lv : Int), EV g M b N c v lw w → (lv = 0 ∨ lv = 1) → (g M 24 = 0 ∨ g M 24 = 1) → g M 22 = b + s.1 → 0 ≤ s.1 → s.2.2 = -1 → (pSumL c v pl lw L s).1.2.2 = -1 → od_Cq (7 + 4 * L) mX11_sumOf [(2, M), (0, lv)] E g (E, fun o g' => ∃ x : Int, o = some (1, x) ∧ EQ g g' M b w lv x s (pSumL c v pl lw L s))
theorem pPart_in {c v pl : Int → Int} {lw : Bool} {S : Option (pS → pR)} {s : pS} (hp : ∀ i : Int, 0 ≤ pl i) (hb : s.2.2 = -1) (h : (pPart c v pl lw S s).1.2.2 = -1) : (c s.1 = 191 ∧ ∃ S1, S = some S1 ∧ pPart c v pl lw S s = (pNx (S1 (pNx s)).1, (S1 (pNx s)).2) ∧ (S1 (pNx s)).1.2.2 = -1 ∧ c (S1 (pNx s)).1.1 = 193) ∨ (c s.1 ≠ 191 ∧ c s.1 = 50 ∧ pPart c v pl lw S s = ((s.1 + 1, s.2.1 + 1, s.2.2), fun _ => some (v s.1))) ∨ (c s.1 ≠ 191 ∧ c s.1 ≠ 50 ∧ pWb lw (c s.1) = true ∧ pOf lw (c s.1) = true ∧ (c (s.1 + 1) = 50 ∧ 0 ≤ v (s.1 + 1) ∧ v (s.1 + 1) ≤ 5) ∧ pPart c v pl lw S s = (pNx (s.1 + 1, s.2.1 + 1, s.2.2), fun w => some (w (pIx lw (c s.1) + v (s.1 + 1))))) ∨ (c s.1 ≠ 191 ∧ c s.1 ≠ 50 ∧ pWb lw (c s.1) = true ∧ ¬ (pOf lw (c s.1) = true) ∧ pPart c v pl lw S s = ((s.1 + 1, s.2.1 + 1, s.2.2), fun w => some (w (pIx lw (c s.1))))) := by
  by_cases h1 : c s.1 = 191
  · cases S with
    | none => rw [pPart_0 hb h1] at h; exact absurd h (pF_nb (hp _))
    | some S1 =>
      rw [pPart_S hb h1] at h
      have q := pMu_nf hp h
      exact Or.inl ⟨h1, S1, rfl, by rw [pPart_S hb h1, pMu_t q], q⟩
  · right
    by_cases h2 : (c s.1 = 50 ∧ v s.1 ≤ 1000) ∨ pWb lw (c s.1) = true
    · rw [pPart_leaf hb h1 h2] at h ⊢
      unfold pLeaf at h ⊢
      by_cases h5 : 50 ≤ s.2.1
      · rw [if_pos h5] at h
        exact absurd h (pF_nb (hp _))
      · rw [if_neg h5] at h ⊢
        by_cases h6 : c s.1 = 50
        · rw [if_pos h6]
          exact Or.inl ⟨h1, h6, rfl⟩
        · rw [if_neg h6] at h ⊢
          have h7 : pWb lw (c s.1) = true := h2.resolve_left (fun z => h6 z.1)
          right
          by_cases h8 : pOf lw (c s.1) = true
          · rw [if_pos h8] at h ⊢
            by_cases h9 : s.2.2 = -1 ∧ c (s.1 + 1) = 50 ∧ 0 ≤ v (s.1 + 1) ∧ v (s.1 + 1) ≤ 5
            · have e : pMn c v pl 0 5 (s.1 + 1, s.2.1 + 1, s.2.2) = pNx (s.1 + 1, s.2.1 + 1, s.2.2) := if_pos h9
              rw [e]
              exact Or.inl ⟨h1, h6, h7, h8, h9.2, rfl⟩
            · have e : pMn c v pl 0 5 (s.1 + 1, s.2.1 + 1, s.2.2) = pF pl (s.1 + 1, s.2.1 + 1, s.2.2) := if_neg h9
              rw [e] at h
              exact absurd h (pF_nb (hp _))
          · rw [if_neg h8]
            exact Or.inr ⟨h1, h6, h7, h8, rfl⟩
    · rw [pPart_flt (fun z => h1 z.2) (fun _ => Or.inr h2)] at h
      exact absurd h (pF_nb (hp _))
theorem BrQ.lit {lv br x : Int} (hbr : br = 0 ∨ br = 1) {q : Option Int} (h : lv = 1 → br = 0 → q = some x) (hl : lv = 0 ∨ lv = 1) : BrQ lv br br x q := by
  refine ⟨hbr, ?_⟩
  by_cases c : lv = 1 ∧ br = 0
  · exact Or.inl ⟨c.1, c.2, Or.inr ⟨h c.1 c.2, c.2⟩⟩
  · exact Or.inr ⟨c, rfl⟩
theorem pWb_r {lw : Bool} {k : Int} (h : pWb lw k = true) : 8 ≤ k ∧ k ≤ 19 := by
  cases lw with
  | true => rw [pWb_t] at h; omega
  | false => rw [pWb_f] at h; omega
set_option maxRecDepth 10000 in
theorem c_X11_partOf_t {E : od_E} {g : od_G} {M : Int} (hm : MoAt E M) {b N : Int} {c v pl : Int → Int} {w : Int → Int} (hv : EV g M b N c v true w) (hp : ∀ i : Int, 0 ≤ pl i) {s : pS} {lv : Int} (hl : lv = 0 ∨ lv = 1) (hbr : g M 24 = 0 ∨ g M 24 = 1) (hg : g M 22 = b + s.1) (hs0 : 0 ≤ s.1) (hb : s.2.2 = -1) {L : Nat} (hf : (pPart c v pl true (pSub c v pl true L) s).1.2.2 = -1) (hS : ∀ L1 : Nat, L = L1 + 1 → ESum E M b N c v pl true w L1) : od_Cq (5 + 4 * L) mX11_partOf [(2, M), (0, lv)] E g (E, fun o g' => ∃ x : Int, o = some (1, x) ∧ EQ g g' M b w lv x s (pPart c v pl true (pSub c v pl true L) s)) := by
  have hb0 := hv.1.2.1
  have hN0 := hv.1.2.2.1
  have hin := pPart_in hp hb hf
  refine od_cqI pnX11 rfl (Nat.le_of_ble_eq_true rfl) od_le.rf ?_
  show od_Rq (5 + 4 * L) mX11_partOf od_Z0 E (E, fun o g' => ∃ x : Int, o = some (1, x) ∧ EQ g g' M b w lv x s (pPart c v pl true (pSub c v pl true L) s)) 0 [some (2, M), some (0, lv), none, none] [] E g
  refine r_aload_n dX11_partOf_0 rfl ?_
  refine r_bipush dX11_partOf_1 lb_91 ?_
  refine r_callS1i dX11_partOf_3 csX11_222 (c_X11_sign _ (by omega)) (by omega) (Nat.le_of_ble_eq_true rfl) od_le.rf ?_
  refine r_callV1p dX11_partOf_6 cvX11_287 (mo_o hm) (c_X11_passes0 hm hv hs0 hg _ (by omega)) (by omega) (Nat.le_of_ble_eq_true rfl) od_le.rf (fun r6 g6 h6 => ?_)
  rcases h6 with ⟨rfl, h6⟩ | ⟨rfl, h6⟩
  · show od_Rq _ _ _ _ _ _ _ ((0, 1) :: _) _ _
    skip
    refine r_if_eq (tgt := 30) dX11_partOf_9 rfl (fun h => absurd h (by decide)) (fun _ => ?_)
    obtain ⟨hy0, rfl⟩ := h6
    have hy : c s.1 = 191 := by omega
    obtain ⟨h91, L1, hL1, eP, hSf, h193⟩ : c s.1 = 191 ∧ ∃ L1 : Nat, L = L1 + 1 ∧ pPart c v pl true (pSub c v pl true L) s = (pNx (pSumL c v pl true L1 (pNx s)).1, (pSumL c v pl true L1 (pNx s)).2) ∧ (pSumL c v pl true L1 (pNx s)).1.2.2 = -1 ∧ c (pSumL c v pl true L1 (pNx s)).1.1 = 193 := by
      rcases hin with ⟨h91, S1, hS1, e1, e2, e3⟩ | h | h | h
      · cases L with
        | zero => exact absurd hS1 (by simp [pSub])
        | succ L1 =>
          have e : pSumL c v pl true L1 = S1 := Option.some.inj hS1
          subst e
          exact ⟨h91, L1, rfl, e1, e2, e3⟩
      · exact absurd hy h.1
      · exact absurd hy h.1
      · exact absurd hy h.1
    subst hL1
    have f1 : od_fr (XB M) g (od_up g M 22 (b + (s.1 + 1))) := od_fr.rf.up (by unfold XB; omega)
    refine r_aload_n dX11_partOf_12 rfl ?_
    refine r_iload_n dX11_partOf_13 rfl ?_
    refine r_callV1p dX11_partOf_14 cvX11_290 (mo_o hm) (hS L1 rfl _ (pNx s) lv (hv.fr f1) hl (by rw [od_up_at, if_neg (by omega)]; exact hbr) (by rw [od_up_at, if_pos rfl]; rfl) (by show 0 ≤ s.1 + 1; omega) hb hSf) (by omega) (Nat.le_of_ble_eq_true rfl) od_le.rf (fun r14 g14 h14 => ?_)
    obtain ⟨x14, rfl, hq14⟩ := h14
    show od_Rq _ _ _ _ _ _ _ ((1, _) :: _) _ _
    refine r_lstore_n dX11_partOf_17 (by decide) rfl ?_
    have e22 := hq14.2.1
    have bx0 : (pNx s).1 = s.1 + 1 := rfl
    have lt := hv.lt (i := (pSumL c v pl true L1 (pNx s)).1.1) (by omega)
    have z14 := hq14.2.2.1
    refine r_aload_n dX11_partOf_18 rfl ?_
    refine r_dup dX11_partOf_19 (by first | exact od_ne2 | exact od_ne0) ?_
    refine r_getIj (j := 22) rfl dX11_partOf_20 fkX11_263 gf11_22 (mo_o hm) (by first | exact e22 | rfl) ?_
    refine r_iconst dX11_partOf_23 li_1 ?_
    refine r_iaddE dX11_partOf_24 (by first | exact od_w0 (by omega) (by omega) | exact od_wI (by omega) (by omega) | rfl) ?_
    refine r_putIj (j := 22) rfl dX11_partOf_25 fkX11_263 gf11_22 pf11_22 (mo_o hm) ?_
    refine r_lload_n dX11_partOf_28 rfl ?_
    refine r_lretq dX11_partOf_29 rfl rfl ⟨_, rfl, ?_⟩
    rw [eP]
    have z := hq14.2.2.1
    have bx : (pNx s).1 = s.1 + 1 := rfl
    refine ⟨(f1.tr hq14.1).up (by unfold XB; omega), by rw [od_up_at, if_pos rfl]; show _ = b + (_ + 1); omega, by show s.1 ≤ _ + 1; omega, ?_⟩
    rw [od_up_at, if_neg (by omega)]
    have q := hq14.2.2.2
    rw [od_up_at, if_neg (by omega)] at q
    exact q
  · show od_Rq _ _ _ _ _ _ _ ((0, 0) :: _) _ _
    skip
    refine r_if_eq (tgt := 30) dX11_partOf_9 rfl (fun _ => ?_) (fun h => absurd h (by decide))
    have n60 := h6.1
    have hgg : g = g6 := h6.2.symm
    subst hgg
    have n6 : c s.1 ≠ 191 := by omega
    have h25 : g M 25 = 0 := hv.1.2.2.2.2.2
    rcases hin with ⟨h91, _⟩ | ⟨_, hc, eP⟩ | ⟨_, hc, hWb, hOf, hnm, eP⟩ | ⟨_, hc, hWb, hOf, eP⟩
    · exact absurd h91 n6
    · refine r_aload_n dX11_partOf_30 rfl ?_
      refine r_aload_n dX11_partOf_31 rfl ?_
      refine r_getIj (j := 22) rfl dX11_partOf_32 fkX11_263 gf11_22 (mo_o hm) (by (repeat (first | rewrite [od_up_at, if_pos (by omega)] | rewrite [od_up_at, if_neg (by omega)] | rewrite [od_upn (by omega)])); first | exact hg | exact h25 | rfl) ?_
      refine r_callV1i dX11_partOf_35 cvX11_266 (mo_o hm) (c_X11_codeAt hm hv s.1 hs0) (by omega) (Nat.le_of_ble_eq_true rfl) od_le.rf ?_
      refine r_istore_n dX11_partOf_38 (by decide) rfl ?_
      refine r_iconst dX11_partOf_39 li_0 ?_
      refine r_istore_n dX11_partOf_40 (by decide) rfl ?_
      have lt := hv.lt (i := s.1) (by omega)
      refine r_aload_n dX11_partOf_41 rfl ?_
      refine r_dup dX11_partOf_42 (by first | exact od_ne2 | exact od_ne0) ?_
      refine r_getIj (j := 22) rfl dX11_partOf_43 fkX11_263 gf11_22 (mo_o hm) (by (repeat (first | rewrite [od_up_at, if_pos (by omega)] | rewrite [od_up_at, if_neg (by omega)] | rewrite [od_upn (by omega)])); first | exact hg | exact h25 | rfl) ?_
      refine r_iconst dX11_partOf_46 li_1 ?_
      refine r_iaddE dX11_partOf_47 (by first | exact od_w0 (by omega) (by omega) | exact od_wI (by omega) (by omega) | rfl) ?_
      rw [show b + s.1 + 1 = b + (s.1 + 1) by omega]
      refine r_putIj (j := 22) rfl dX11_partOf_48 fkX11_263 gf11_22 pf11_22 (mo_o hm) ?_
      refine r_aload_n dX11_partOf_51 rfl ?_
      refine r_getIj (j := 25) rfl dX11_partOf_52 fkX11_293 gf11_25 (mo_o hm) (by (repeat (first | rewrite [od_up_at, if_pos (by omega)] | rewrite [od_up_at, if_neg (by omega)] | rewrite [od_upn (by omega)])); first | exact hg | exact h25 | rfl) ?_
      refine r_if_eq (tgt := 94) dX11_partOf_55 rfl (fun _ => ?_) (fun h => absurd h (by decide))
      refine r_iload_n dX11_partOf_94 rfl ?_
      refine r_if_eq (tgt := 105) dX11_partOf_95 rfl (fun c95 => ?_) (fun c95 => ?_)
      · refine r_lconst dX11_partOf_105 ll_0 ?_
        refine r_lretq dX11_partOf_106 rfl rfl ⟨_, rfl, ?_⟩
        rw [eP]
        refine ⟨od_fr.rf.up (by unfold XB; omega), by rw [od_up_at, if_pos rfl], by show s.1 ≤ s.1 + 1; omega, ?_⟩
        rw [od_up_at, if_neg (by omega)]
        exact BrQ.lit hbr (fun l1 b1 => by exfalso; omega) hl
      · refine r_aload_n dX11_partOf_98 rfl ?_
        refine r_getIj (j := 24) rfl dX11_partOf_99 fkX11_273 gf11_24 (mo_o hm) (by (repeat (first | rewrite [od_up_at, if_pos (by omega)] | rewrite [od_up_at, if_neg (by omega)] | rewrite [od_upn (by omega)])); first | exact hg | exact h25 | rfl) ?_
        refine r_if_eq (tgt := 107) dX11_partOf_102 rfl (fun c102 => ?_) (fun c102 => ?_)
        · refine r_iload_n dX11_partOf_107 rfl ?_
          refine r_bipush dX11_partOf_108 lb_50 ?_
          refine r_icmp_ne (tgt := 130) dX11_partOf_110 rfl (fun h => absurd h (by omega)) (fun c110 => ?_)
          refine r_aload_n dX11_partOf_113 rfl ?_
          refine r_getR dX11_partOf_114 fkX11_28 gf11_2 (mo_o hm) (mo_r2 hm) ?_
          refine r_sipush dX11_partOf_117 ls_2856 ?_
          refine r_aload_n dX11_partOf_120 rfl ?_
          refine r_getIj (j := 22) rfl dX11_partOf_121 fkX11_263 gf11_22 (mo_o hm) (by (repeat (first | rewrite [od_up_at, if_pos (by omega)] | rewrite [od_up_at, if_neg (by omega)] | rewrite [od_upn (by omega)])); first | exact hg | exact h25 | rfl) ?_
          refine r_iaddE dX11_partOf_124 (by first | exact od_w0 (by omega) (by omega) | exact od_wI (by omega) (by omega) | rfl) ?_
          refine r_iconst dX11_partOf_125 li_1 ?_
          refine r_isubE dX11_partOf_126 (by first | exact od_w0 (by omega) (by omega) | exact od_wI (by omega) (by omega) | rfl) ?_
          rw [show 2856 + (b + (s.1 + 1)) - 1 = 2856 + (b + s.1) by omega]
          refine r_iald dX11_partOf_127 (mo_k2 hm) (by omega) (by (repeat (first | rewrite [od_up_at, if_pos (by omega)] | rewrite [od_up_at, if_neg (by omega)] | rewrite [od_upn (by omega)])); first | exact hg | exact h25 | rfl) ?_
          rw [(hv.1.2.2.2.1 s.1 hs0 lt).2]
          refine r_i2l dX11_partOf_128 ?_
          refine r_lretq dX11_partOf_129 rfl rfl ⟨_, rfl, ?_⟩
          rw [eP]
          refine ⟨od_fr.rf.up (by unfold XB; omega), by rw [od_up_at, if_pos rfl], by show s.1 ≤ s.1 + 1; omega, ?_⟩
          rw [od_up_at, if_neg (by omega)]
          exact BrQ.lit hbr (fun l1 b1 => rfl) hl
        · refine r_lconst dX11_partOf_105 ll_0 ?_
          refine r_lretq dX11_partOf_106 rfl rfl ⟨_, rfl, ?_⟩
          rw [eP]
          refine ⟨od_fr.rf.up (by unfold XB; omega), by rw [od_up_at, if_pos rfl], by show s.1 ≤ s.1 + 1; omega, ?_⟩
          rw [od_up_at, if_neg (by omega)]
          exact BrQ.lit hbr (fun l1 b1 => by exfalso; omega) hl
    · exact absurd hOf (by simp [pOf])
    · have hkr := pWb_r hWb
      have henv := hv.2.1 (c s.1) ((pWb_t _).mp hWb).1 ((pWb_t _).mp hWb).2
      refine r_aload_n dX11_partOf_30 rfl ?_
      refine r_aload_n dX11_partOf_31 rfl ?_
      refine r_getIj (j := 22) rfl dX11_partOf_32 fkX11_263 gf11_22 (mo_o hm) (by (repeat (first | rewrite [od_up_at, if_pos (by omega)] | rewrite [od_up_at, if_neg (by omega)] | rewrite [od_upn (by omega)])); first | exact hg | exact h25 | rfl) ?_
      refine r_callV1i dX11_partOf_35 cvX11_266 (mo_o hm) (c_X11_codeAt hm hv s.1 hs0) (by omega) (Nat.le_of_ble_eq_true rfl) od_le.rf ?_
      refine r_istore_n dX11_partOf_38 (by decide) rfl ?_
      refine r_iconst dX11_partOf_39 li_0 ?_
      refine r_istore_n dX11_partOf_40 (by decide) rfl ?_
      have lt := hv.lt (i := s.1) (by omega)
      refine r_aload_n dX11_partOf_41 rfl ?_
      refine r_dup dX11_partOf_42 (by first | exact od_ne2 | exact od_ne0) ?_
      refine r_getIj (j := 22) rfl dX11_partOf_43 fkX11_263 gf11_22 (mo_o hm) (by (repeat (first | rewrite [od_up_at, if_pos (by omega)] | rewrite [od_up_at, if_neg (by omega)] | rewrite [od_upn (by omega)])); first | exact hg | exact h25 | rfl) ?_
      refine r_iconst dX11_partOf_46 li_1 ?_
      refine r_iaddE dX11_partOf_47 (by first | exact od_w0 (by omega) (by omega) | exact od_wI (by omega) (by omega) | rfl) ?_
      rw [show b + s.1 + 1 = b + (s.1 + 1) by omega]
      refine r_putIj (j := 22) rfl dX11_partOf_48 fkX11_263 gf11_22 pf11_22 (mo_o hm) ?_
      refine r_aload_n dX11_partOf_51 rfl ?_
      refine r_getIj (j := 25) rfl dX11_partOf_52 fkX11_293 gf11_25 (mo_o hm) (by (repeat (first | rewrite [od_up_at, if_pos (by omega)] | rewrite [od_up_at, if_neg (by omega)] | rewrite [od_upn (by omega)])); first | exact hg | exact h25 | rfl) ?_
      refine r_if_eq (tgt := 94) dX11_partOf_55 rfl (fun _ => ?_) (fun h => absurd h (by decide))
      refine r_iload_n dX11_partOf_94 rfl ?_
      refine r_if_eq (tgt := 105) dX11_partOf_95 rfl (fun c95 => ?_) (fun c95 => ?_)
      · refine r_lconst dX11_partOf_105 ll_0 ?_
        refine r_lretq dX11_partOf_106 rfl rfl ⟨_, rfl, ?_⟩
        rw [eP]
        refine ⟨od_fr.rf.up (by unfold XB; omega), by rw [od_up_at, if_pos rfl], by show s.1 ≤ s.1 + 1; omega, ?_⟩
        rw [od_up_at, if_neg (by omega)]
        exact BrQ.lit hbr (fun l1 b1 => by exfalso; omega) hl
      · refine r_aload_n dX11_partOf_98 rfl ?_
        refine r_getIj (j := 24) rfl dX11_partOf_99 fkX11_273 gf11_24 (mo_o hm) (by (repeat (first | rewrite [od_up_at, if_pos (by omega)] | rewrite [od_up_at, if_neg (by omega)] | rewrite [od_upn (by omega)])); first | exact hg | exact h25 | rfl) ?_
        refine r_if_eq (tgt := 107) dX11_partOf_102 rfl (fun c102 => ?_) (fun c102 => ?_)
        · refine r_iload_n dX11_partOf_107 rfl ?_
          refine r_bipush dX11_partOf_108 lb_50 ?_
          refine r_icmp_ne (tgt := 130) dX11_partOf_110 rfl (fun c110 => ?_) (fun h => absurd h (by omega))
          refine r_aload_n dX11_partOf_130 rfl ?_
          refine r_getIj (j := 25) rfl dX11_partOf_131 fkX11_293 gf11_25 (mo_o hm) (by (repeat (first | rewrite [od_up_at, if_pos (by omega)] | rewrite [od_up_at, if_neg (by omega)] | rewrite [od_upn (by omega)])); first | exact hg | exact h25 | rfl) ?_
          refine r_if_eq (tgt := 147) dX11_partOf_134 rfl (fun _ => ?_) (fun h => absurd h (by decide))
          have hk14 := (pWb_t _).mp hWb
          refine r_aload_n dX11_partOf_147 rfl ?_
          refine r_getR dX11_partOf_148 fkX11_63 gf11_26 (mo_o hm) (mo_r26 hm) ?_
          refine r_iload_n dX11_partOf_151 rfl ?_
          refine r_bipush dX11_partOf_152 lb_8 ?_
          refine r_isubE dX11_partOf_154 (by first | exact od_w0 (by omega) (by omega) | exact od_wI (by omega) (by omega) | rfl) ?_
          refine r_iald dX11_partOf_155 (mo_k26 hm) (by omega) (by (repeat (first | rewrite [od_up_at, if_pos (by omega)] | rewrite [od_up_at, if_neg (by omega)] | rewrite [od_upn (by omega)])); first | exact hg | exact h25 | rfl) ?_
          refine r_i2l dX11_partOf_156 ?_
          refine r_lretq dX11_partOf_157 rfl rfl ⟨_, rfl, ?_⟩
          rw [eP]
          refine ⟨od_fr.rf.up (by unfold XB; omega), by rw [od_up_at, if_pos rfl], by show s.1 ≤ s.1 + 1; omega, ?_⟩
          rw [od_up_at, if_neg (by omega)]
          exact BrQ.lit hbr (fun l1 b1 => by show some (w _) = some _; rw [← henv]) hl
        · refine r_lconst dX11_partOf_105 ll_0 ?_
          refine r_lretq dX11_partOf_106 rfl rfl ⟨_, rfl, ?_⟩
          rw [eP]
          refine ⟨od_fr.rf.up (by unfold XB; omega), by rw [od_up_at, if_pos rfl], by show s.1 ≤ s.1 + 1; omega, ?_⟩
          rw [od_up_at, if_neg (by omega)]
          exact BrQ.lit hbr (fun l1 b1 => by exfalso; omega) hl
set_option maxRecDepth 10000 in
theorem c_X11_partOf_f {E : od_E} {g : od_G} {M : Int} (hm : MoAt E M) {b N : Int} {c v pl : Int → Int} {w : Int → Int} (hv : EV g M b N c v false w) (hp : ∀ i : Int, 0 ≤ pl i) {s : pS} {lv : Int} (hl : lv = 0 ∨ lv = 1) (hbr : g M 24 = 0 ∨ g M 24 = 1) (hg : g M 22 = b + s.1) (hs0 : 0 ≤ s.1) (hb : s.2.2 = -1) {L : Nat} (hf : (pPart c v pl false (pSub c v pl false L) s).1.2.2 = -1) (hS : ∀ L1 : Nat, L = L1 + 1 → ESum E M b N c v pl false w L1) : od_Cq (5 + 4 * L) mX11_partOf [(2, M), (0, lv)] E g (E, fun o g' => ∃ x : Int, o = some (1, x) ∧ EQ g g' M b w lv x s (pPart c v pl false (pSub c v pl false L) s)) := by
  have hb0 := hv.1.2.1
  have hN0 := hv.1.2.2.1
  have hin := pPart_in hp hb hf
  refine od_cqI pnX11 rfl (Nat.le_of_ble_eq_true rfl) od_le.rf ?_
  show od_Rq (5 + 4 * L) mX11_partOf od_Z0 E (E, fun o g' => ∃ x : Int, o = some (1, x) ∧ EQ g g' M b w lv x s (pPart c v pl false (pSub c v pl false L) s)) 0 [some (2, M), some (0, lv), none, none] [] E g
  refine r_aload_n dX11_partOf_0 rfl ?_
  refine r_bipush dX11_partOf_1 lb_91 ?_
  refine r_callS1i dX11_partOf_3 csX11_222 (c_X11_sign _ (by omega)) (by omega) (Nat.le_of_ble_eq_true rfl) od_le.rf ?_
  refine r_callV1p dX11_partOf_6 cvX11_287 (mo_o hm) (c_X11_passes0 hm hv hs0 hg _ (by omega)) (by omega) (Nat.le_of_ble_eq_true rfl) od_le.rf (fun r6 g6 h6 => ?_)
  rcases h6 with ⟨rfl, h6⟩ | ⟨rfl, h6⟩
  · show od_Rq _ _ _ _ _ _ _ ((0, 1) :: _) _ _
    skip
    refine r_if_eq (tgt := 30) dX11_partOf_9 rfl (fun h => absurd h (by decide)) (fun _ => ?_)
    obtain ⟨hy0, rfl⟩ := h6
    have hy : c s.1 = 191 := by omega
    obtain ⟨h91, L1, hL1, eP, hSf, h193⟩ : c s.1 = 191 ∧ ∃ L1 : Nat, L = L1 + 1 ∧ pPart c v pl false (pSub c v pl false L) s = (pNx (pSumL c v pl false L1 (pNx s)).1, (pSumL c v pl false L1 (pNx s)).2) ∧ (pSumL c v pl false L1 (pNx s)).1.2.2 = -1 ∧ c (pSumL c v pl false L1 (pNx s)).1.1 = 193 := by
      rcases hin with ⟨h91, S1, hS1, e1, e2, e3⟩ | h | h | h
      · cases L with
        | zero => exact absurd hS1 (by simp [pSub])
        | succ L1 =>
          have e : pSumL c v pl false L1 = S1 := Option.some.inj hS1
          subst e
          exact ⟨h91, L1, rfl, e1, e2, e3⟩
      · exact absurd hy h.1
      · exact absurd hy h.1
      · exact absurd hy h.1
    subst hL1
    have f1 : od_fr (XB M) g (od_up g M 22 (b + (s.1 + 1))) := od_fr.rf.up (by unfold XB; omega)
    refine r_aload_n dX11_partOf_12 rfl ?_
    refine r_iload_n dX11_partOf_13 rfl ?_
    refine r_callV1p dX11_partOf_14 cvX11_290 (mo_o hm) (hS L1 rfl _ (pNx s) lv (hv.fr f1) hl (by rw [od_up_at, if_neg (by omega)]; exact hbr) (by rw [od_up_at, if_pos rfl]; rfl) (by show 0 ≤ s.1 + 1; omega) hb hSf) (by omega) (Nat.le_of_ble_eq_true rfl) od_le.rf (fun r14 g14 h14 => ?_)
    obtain ⟨x14, rfl, hq14⟩ := h14
    show od_Rq _ _ _ _ _ _ _ ((1, _) :: _) _ _
    refine r_lstore_n dX11_partOf_17 (by decide) rfl ?_
    have e22 := hq14.2.1
    have bx0 : (pNx s).1 = s.1 + 1 := rfl
    have lt := hv.lt (i := (pSumL c v pl false L1 (pNx s)).1.1) (by omega)
    have z14 := hq14.2.2.1
    refine r_aload_n dX11_partOf_18 rfl ?_
    refine r_dup dX11_partOf_19 (by first | exact od_ne2 | exact od_ne0) ?_
    refine r_getIj (j := 22) rfl dX11_partOf_20 fkX11_263 gf11_22 (mo_o hm) (by first | exact e22 | rfl) ?_
    refine r_iconst dX11_partOf_23 li_1 ?_
    refine r_iaddE dX11_partOf_24 (by first | exact od_w0 (by omega) (by omega) | exact od_wI (by omega) (by omega) | rfl) ?_
    refine r_putIj (j := 22) rfl dX11_partOf_25 fkX11_263 gf11_22 pf11_22 (mo_o hm) ?_
    refine r_lload_n dX11_partOf_28 rfl ?_
    refine r_lretq dX11_partOf_29 rfl rfl ⟨_, rfl, ?_⟩
    rw [eP]
    have z := hq14.2.2.1
    have bx : (pNx s).1 = s.1 + 1 := rfl
    refine ⟨(f1.tr hq14.1).up (by unfold XB; omega), by rw [od_up_at, if_pos rfl]; show _ = b + (_ + 1); omega, by show s.1 ≤ _ + 1; omega, ?_⟩
    rw [od_up_at, if_neg (by omega)]
    have q := hq14.2.2.2
    rw [od_up_at, if_neg (by omega)] at q
    exact q
  · show od_Rq _ _ _ _ _ _ _ ((0, 0) :: _) _ _
    skip
    refine r_if_eq (tgt := 30) dX11_partOf_9 rfl (fun _ => ?_) (fun h => absurd h (by decide))
    have n60 := h6.1
    have hgg : g = g6 := h6.2.symm
    subst hgg
    have n6 : c s.1 ≠ 191 := by omega
    have h25 : g M 25 = 1 := hv.1.2.2.2.2.2
    rcases hin with ⟨h91, _⟩ | ⟨_, hc, eP⟩ | ⟨_, hc, hWb, hOf, hnm, eP⟩ | ⟨_, hc, hWb, hOf, eP⟩
    · exact absurd h91 n6
    · refine r_aload_n dX11_partOf_30 rfl ?_
      refine r_aload_n dX11_partOf_31 rfl ?_
      refine r_getIj (j := 22) rfl dX11_partOf_32 fkX11_263 gf11_22 (mo_o hm) (by (repeat (first | rewrite [od_up_at, if_pos (by omega)] | rewrite [od_up_at, if_neg (by omega)] | rewrite [od_upn (by omega)])); first | exact hg | exact h25 | rfl) ?_
      refine r_callV1i dX11_partOf_35 cvX11_266 (mo_o hm) (c_X11_codeAt hm hv s.1 hs0) (by omega) (Nat.le_of_ble_eq_true rfl) od_le.rf ?_
      refine r_istore_n dX11_partOf_38 (by decide) rfl ?_
      refine r_iconst dX11_partOf_39 li_0 ?_
      refine r_istore_n dX11_partOf_40 (by decide) rfl ?_
      have lt := hv.lt (i := s.1) (by omega)
      refine r_aload_n dX11_partOf_41 rfl ?_
      refine r_dup dX11_partOf_42 (by first | exact od_ne2 | exact od_ne0) ?_
      refine r_getIj (j := 22) rfl dX11_partOf_43 fkX11_263 gf11_22 (mo_o hm) (by (repeat (first | rewrite [od_up_at, if_pos (by omega)] | rewrite [od_up_at, if_neg (by omega)] | rewrite [od_upn (by omega)])); first | exact hg | exact h25 | rfl) ?_
      refine r_iconst dX11_partOf_46 li_1 ?_
      refine r_iaddE dX11_partOf_47 (by first | exact od_w0 (by omega) (by omega) | exact od_wI (by omega) (by omega) | rfl) ?_
      rw [show b + s.1 + 1 = b + (s.1 + 1) by omega]
      refine r_putIj (j := 22) rfl dX11_partOf_48 fkX11_263 gf11_22 pf11_22 (mo_o hm) ?_
      refine r_aload_n dX11_partOf_51 rfl ?_
      refine r_getIj (j := 25) rfl dX11_partOf_52 fkX11_293 gf11_25 (mo_o hm) (by (repeat (first | rewrite [od_up_at, if_pos (by omega)] | rewrite [od_up_at, if_neg (by omega)] | rewrite [od_upn (by omega)])); first | exact hg | exact h25 | rfl) ?_
      refine r_if_eq (tgt := 94) dX11_partOf_55 rfl (fun h => absurd h (by decide)) (fun _ => ?_)
      refine r_iload_n dX11_partOf_58 rfl ?_
      refine r_bipush dX11_partOf_59 lb_13 ?_
      refine r_icmp_eq (tgt := 70) dX11_partOf_61 rfl (fun h => absurd h (by omega)) (fun c61 => ?_)
      refine r_iload_n dX11_partOf_64 rfl ?_
      refine r_bipush dX11_partOf_65 lb_19 ?_
      refine r_icmp_ne (tgt := 94) dX11_partOf_67 rfl (fun c67 => ?_) (fun h => absurd h (by omega))
      refine r_iload_n dX11_partOf_94 rfl ?_
      refine r_if_eq (tgt := 105) dX11_partOf_95 rfl (fun c95 => ?_) (fun c95 => ?_)
      · refine r_lconst dX11_partOf_105 ll_0 ?_
        refine r_lretq dX11_partOf_106 rfl rfl ⟨_, rfl, ?_⟩
        rw [eP]
        refine ⟨od_fr.rf.up (by unfold XB; omega), by rw [od_up_at, if_pos rfl], by show s.1 ≤ s.1 + 1; omega, ?_⟩
        rw [od_up_at, if_neg (by omega)]
        exact BrQ.lit hbr (fun l1 b1 => by exfalso; omega) hl
      · refine r_aload_n dX11_partOf_98 rfl ?_
        refine r_getIj (j := 24) rfl dX11_partOf_99 fkX11_273 gf11_24 (mo_o hm) (by (repeat (first | rewrite [od_up_at, if_pos (by omega)] | rewrite [od_up_at, if_neg (by omega)] | rewrite [od_upn (by omega)])); first | exact hg | exact h25 | rfl) ?_
        refine r_if_eq (tgt := 107) dX11_partOf_102 rfl (fun c102 => ?_) (fun c102 => ?_)
        · refine r_iload_n dX11_partOf_107 rfl ?_
          refine r_bipush dX11_partOf_108 lb_50 ?_
          refine r_icmp_ne (tgt := 130) dX11_partOf_110 rfl (fun h => absurd h (by omega)) (fun c110 => ?_)
          refine r_aload_n dX11_partOf_113 rfl ?_
          refine r_getR dX11_partOf_114 fkX11_28 gf11_2 (mo_o hm) (mo_r2 hm) ?_
          refine r_sipush dX11_partOf_117 ls_2856 ?_
          refine r_aload_n dX11_partOf_120 rfl ?_
          refine r_getIj (j := 22) rfl dX11_partOf_121 fkX11_263 gf11_22 (mo_o hm) (by (repeat (first | rewrite [od_up_at, if_pos (by omega)] | rewrite [od_up_at, if_neg (by omega)] | rewrite [od_upn (by omega)])); first | exact hg | exact h25 | rfl) ?_
          refine r_iaddE dX11_partOf_124 (by first | exact od_w0 (by omega) (by omega) | exact od_wI (by omega) (by omega) | rfl) ?_
          refine r_iconst dX11_partOf_125 li_1 ?_
          refine r_isubE dX11_partOf_126 (by first | exact od_w0 (by omega) (by omega) | exact od_wI (by omega) (by omega) | rfl) ?_
          rw [show 2856 + (b + (s.1 + 1)) - 1 = 2856 + (b + s.1) by omega]
          refine r_iald dX11_partOf_127 (mo_k2 hm) (by omega) (by (repeat (first | rewrite [od_up_at, if_pos (by omega)] | rewrite [od_up_at, if_neg (by omega)] | rewrite [od_upn (by omega)])); first | exact hg | exact h25 | rfl) ?_
          rw [(hv.1.2.2.2.1 s.1 hs0 lt).2]
          refine r_i2l dX11_partOf_128 ?_
          refine r_lretq dX11_partOf_129 rfl rfl ⟨_, rfl, ?_⟩
          rw [eP]
          refine ⟨od_fr.rf.up (by unfold XB; omega), by rw [od_up_at, if_pos rfl], by show s.1 ≤ s.1 + 1; omega, ?_⟩
          rw [od_up_at, if_neg (by omega)]
          exact BrQ.lit hbr (fun l1 b1 => rfl) hl
        · refine r_lconst dX11_partOf_105 ll_0 ?_
          refine r_lretq dX11_partOf_106 rfl rfl ⟨_, rfl, ?_⟩
          rw [eP]
          refine ⟨od_fr.rf.up (by unfold XB; omega), by rw [od_up_at, if_pos rfl], by show s.1 ≤ s.1 + 1; omega, ?_⟩
          rw [od_up_at, if_neg (by omega)]
          exact BrQ.lit hbr (fun l1 b1 => by exfalso; omega) hl
    · have hkr := pWb_r hWb
      have henv := hv.2.1 (c s.1) (v (s.1 + 1)) ((pWb_f _).mp hWb).1 ((pWb_f _).mp hWb).2 (fun _ => hnm.2)
      rw [if_pos hOf] at henv
      have hc13 : c s.1 = 13 ∨ c s.1 = 19 := by simp [pOf] at hOf; omega
      refine r_aload_n dX11_partOf_30 rfl ?_
      refine r_aload_n dX11_partOf_31 rfl ?_
      refine r_getIj (j := 22) rfl dX11_partOf_32 fkX11_263 gf11_22 (mo_o hm) (by (repeat (first | rewrite [od_up_at, if_pos (by omega)] | rewrite [od_up_at, if_neg (by omega)] | rewrite [od_upn (by omega)])); first | exact hg | exact h25 | rfl) ?_
      refine r_callV1i dX11_partOf_35 cvX11_266 (mo_o hm) (c_X11_codeAt hm hv s.1 hs0) (by omega) (Nat.le_of_ble_eq_true rfl) od_le.rf ?_
      refine r_istore_n dX11_partOf_38 (by decide) rfl ?_
      refine r_iconst dX11_partOf_39 li_0 ?_
      refine r_istore_n dX11_partOf_40 (by decide) rfl ?_
      have lt := hv.lt (i := s.1) (by omega)
      refine r_aload_n dX11_partOf_41 rfl ?_
      refine r_dup dX11_partOf_42 (by first | exact od_ne2 | exact od_ne0) ?_
      refine r_getIj (j := 22) rfl dX11_partOf_43 fkX11_263 gf11_22 (mo_o hm) (by (repeat (first | rewrite [od_up_at, if_pos (by omega)] | rewrite [od_up_at, if_neg (by omega)] | rewrite [od_upn (by omega)])); first | exact hg | exact h25 | rfl) ?_
      refine r_iconst dX11_partOf_46 li_1 ?_
      refine r_iaddE dX11_partOf_47 (by first | exact od_w0 (by omega) (by omega) | exact od_wI (by omega) (by omega) | rfl) ?_
      rw [show b + s.1 + 1 = b + (s.1 + 1) by omega]
      refine r_putIj (j := 22) rfl dX11_partOf_48 fkX11_263 gf11_22 pf11_22 (mo_o hm) ?_
      refine r_aload_n dX11_partOf_51 rfl ?_
      refine r_getIj (j := 25) rfl dX11_partOf_52 fkX11_293 gf11_25 (mo_o hm) (by (repeat (first | rewrite [od_up_at, if_pos (by omega)] | rewrite [od_up_at, if_neg (by omega)] | rewrite [od_upn (by omega)])); first | exact hg | exact h25 | rfl) ?_
      refine r_if_eq (tgt := 94) dX11_partOf_55 rfl (fun h => absurd h (by decide)) (fun _ => ?_)
      refine r_iload_n dX11_partOf_58 rfl ?_
      refine r_bipush dX11_partOf_59 lb_13 ?_
      refine r_icmp_eq (tgt := 70) dX11_partOf_61 rfl (fun c61 => ?_) (fun c61 => ?_)
      · have lt2 := hv.lt (i := s.1 + 1) (by omega)
        refine r_aload_n dX11_partOf_70 rfl ?_
        refine r_getR dX11_partOf_71 fkX11_28 gf11_2 (mo_o hm) (mo_r2 hm) ?_
        refine r_sipush dX11_partOf_74 ls_2856 ?_
        refine r_aload_n dX11_partOf_77 rfl ?_
        refine r_getIj (j := 22) rfl dX11_partOf_78 fkX11_263 gf11_22 (mo_o hm) (by (repeat (first | rewrite [od_up_at, if_pos (by omega)] | rewrite [od_up_at, if_neg (by omega)] | rewrite [od_upn (by omega)])); first | exact hg | exact h25 | rfl) ?_
        refine r_iaddE dX11_partOf_81 (by first | exact od_w0 (by omega) (by omega) | exact od_wI (by omega) (by omega) | rfl) ?_
        refine r_iald dX11_partOf_82 (mo_k2 hm) (by omega) (by (repeat (first | rewrite [od_up_at, if_pos (by omega)] | rewrite [od_up_at, if_neg (by omega)] | rewrite [od_upn (by omega)])); first | exact hg | exact h25 | rfl) ?_
        rw [(hv.1.2.2.2.1 (s.1 + 1) (by omega) lt2).2]
        refine r_istore_n dX11_partOf_83 (by decide) rfl ?_
        refine r_aload_n dX11_partOf_84 rfl ?_
        refine r_dup dX11_partOf_85 (by first | exact od_ne2 | exact od_ne0) ?_
        refine r_getIj (j := 22) rfl dX11_partOf_86 fkX11_263 gf11_22 (mo_o hm) (by (repeat (first | rewrite [od_up_at, if_pos (by omega)] | rewrite [od_up_at, if_neg (by omega)] | rewrite [od_upn (by omega)])); first | exact hg | exact h25 | rfl) ?_
        refine r_iconst dX11_partOf_89 li_1 ?_
        refine r_iaddE dX11_partOf_90 (by first | exact od_w0 (by omega) (by omega) | exact od_wI (by omega) (by omega) | rfl) ?_
        rw [show b + (s.1 + 1) + 1 = b + (s.1 + 1 + 1) by omega]
        refine r_putIj (j := 22) rfl dX11_partOf_91 fkX11_263 gf11_22 pf11_22 (mo_o hm) ?_
        refine r_iload_n dX11_partOf_94 rfl ?_
        refine r_if_eq (tgt := 105) dX11_partOf_95 rfl (fun c95 => ?_) (fun c95 => ?_)
        · refine r_lconst dX11_partOf_105 ll_0 ?_
          refine r_lretq dX11_partOf_106 rfl rfl ⟨_, rfl, ?_⟩
          rw [eP]
          refine ⟨(od_fr.rf.up (by unfold XB; omega)).up (by unfold XB; omega), by rw [od_up_at, if_pos rfl]; rfl, by show s.1 ≤ s.1 + 1 + 1; omega, ?_⟩
          rw [od_up_at, if_neg (by omega), od_up_at, if_neg (by omega)]
          exact BrQ.lit hbr (fun l1 b1 => by exfalso; omega) hl
        · refine r_aload_n dX11_partOf_98 rfl ?_
          refine r_getIj (j := 24) rfl dX11_partOf_99 fkX11_273 gf11_24 (mo_o hm) (by (repeat (first | rewrite [od_up_at, if_pos (by omega)] | rewrite [od_up_at, if_neg (by omega)] | rewrite [od_upn (by omega)])); first | exact hg | exact h25 | rfl) ?_
          refine r_if_eq (tgt := 107) dX11_partOf_102 rfl (fun c102 => ?_) (fun c102 => ?_)
          · refine r_iload_n dX11_partOf_107 rfl ?_
            refine r_bipush dX11_partOf_108 lb_50 ?_
            refine r_icmp_ne (tgt := 130) dX11_partOf_110 rfl (fun c110 => ?_) (fun h => absurd h (by omega))
            refine r_aload_n dX11_partOf_130 rfl ?_
            refine r_getIj (j := 25) rfl dX11_partOf_131 fkX11_293 gf11_25 (mo_o hm) (by (repeat (first | rewrite [od_up_at, if_pos (by omega)] | rewrite [od_up_at, if_neg (by omega)] | rewrite [od_upn (by omega)])); first | exact hg | exact h25 | rfl) ?_
            refine r_if_eq (tgt := 147) dX11_partOf_134 rfl (fun h => absurd h (by decide)) (fun _ => ?_)
            refine r_aload_n dX11_partOf_137 rfl ?_
            refine r_iload_n dX11_partOf_138 rfl ?_
            refine r_iload_n dX11_partOf_139 rfl ?_
            have hk19 := pWb_r hWb
            refine r_callV2i dX11_partOf_140 cvX11_296 (mo_o hm) (c_X11_orderValue hm (by rw [od_upn (by omega), od_upn (by omega)]; exact hv.2.2) _ _ ((pWb_f _).mp hWb)) (by omega) (Nat.le_of_ble_eq_true rfl) od_le.rf ?_
            rw [mOV_e (g := g) ((od_fr.rf.up (by unfold XB; omega)).up (by unfold XB; omega))]
            refine r_i2l dX11_partOf_143 ?_
            refine r_goto (tgt := 157) dX11_partOf_144 rfl ?_
            refine r_lretq dX11_partOf_157 rfl rfl ⟨_, rfl, ?_⟩
            rw [eP]
            refine ⟨(od_fr.rf.up (by unfold XB; omega)).up (by unfold XB; omega), by rw [od_up_at, if_pos rfl]; rfl, by show s.1 ≤ s.1 + 1 + 1; omega, ?_⟩
            rw [od_up_at, if_neg (by omega), od_up_at, if_neg (by omega)]
            exact BrQ.lit hbr (fun l1 b1 => by show some (w (_ + _)) = some _; rw [← henv]) hl
          · refine r_lconst dX11_partOf_105 ll_0 ?_
            refine r_lretq dX11_partOf_106 rfl rfl ⟨_, rfl, ?_⟩
            rw [eP]
            refine ⟨(od_fr.rf.up (by unfold XB; omega)).up (by unfold XB; omega), by rw [od_up_at, if_pos rfl]; rfl, by show s.1 ≤ s.1 + 1 + 1; omega, ?_⟩
            rw [od_up_at, if_neg (by omega), od_up_at, if_neg (by omega)]
            exact BrQ.lit hbr (fun l1 b1 => by exfalso; omega) hl
      · refine r_iload_n dX11_partOf_64 rfl ?_
        refine r_bipush dX11_partOf_65 lb_19 ?_
        refine r_icmp_ne (tgt := 94) dX11_partOf_67 rfl (fun h => absurd h (by omega)) (fun c67 => ?_)
        have lt2 := hv.lt (i := s.1 + 1) (by omega)
        refine r_aload_n dX11_partOf_70 rfl ?_
        refine r_getR dX11_partOf_71 fkX11_28 gf11_2 (mo_o hm) (mo_r2 hm) ?_
        refine r_sipush dX11_partOf_74 ls_2856 ?_
        refine r_aload_n dX11_partOf_77 rfl ?_
        refine r_getIj (j := 22) rfl dX11_partOf_78 fkX11_263 gf11_22 (mo_o hm) (by (repeat (first | rewrite [od_up_at, if_pos (by omega)] | rewrite [od_up_at, if_neg (by omega)] | rewrite [od_upn (by omega)])); first | exact hg | exact h25 | rfl) ?_
        refine r_iaddE dX11_partOf_81 (by first | exact od_w0 (by omega) (by omega) | exact od_wI (by omega) (by omega) | rfl) ?_
        refine r_iald dX11_partOf_82 (mo_k2 hm) (by omega) (by (repeat (first | rewrite [od_up_at, if_pos (by omega)] | rewrite [od_up_at, if_neg (by omega)] | rewrite [od_upn (by omega)])); first | exact hg | exact h25 | rfl) ?_
        rw [(hv.1.2.2.2.1 (s.1 + 1) (by omega) lt2).2]
        refine r_istore_n dX11_partOf_83 (by decide) rfl ?_
        refine r_aload_n dX11_partOf_84 rfl ?_
        refine r_dup dX11_partOf_85 (by first | exact od_ne2 | exact od_ne0) ?_
        refine r_getIj (j := 22) rfl dX11_partOf_86 fkX11_263 gf11_22 (mo_o hm) (by (repeat (first | rewrite [od_up_at, if_pos (by omega)] | rewrite [od_up_at, if_neg (by omega)] | rewrite [od_upn (by omega)])); first | exact hg | exact h25 | rfl) ?_
        refine r_iconst dX11_partOf_89 li_1 ?_
        refine r_iaddE dX11_partOf_90 (by first | exact od_w0 (by omega) (by omega) | exact od_wI (by omega) (by omega) | rfl) ?_
        rw [show b + (s.1 + 1) + 1 = b + (s.1 + 1 + 1) by omega]
        refine r_putIj (j := 22) rfl dX11_partOf_91 fkX11_263 gf11_22 pf11_22 (mo_o hm) ?_
        refine r_iload_n dX11_partOf_94 rfl ?_
        refine r_if_eq (tgt := 105) dX11_partOf_95 rfl (fun c95 => ?_) (fun c95 => ?_)
        · refine r_lconst dX11_partOf_105 ll_0 ?_
          refine r_lretq dX11_partOf_106 rfl rfl ⟨_, rfl, ?_⟩
          rw [eP]
          refine ⟨(od_fr.rf.up (by unfold XB; omega)).up (by unfold XB; omega), by rw [od_up_at, if_pos rfl]; rfl, by show s.1 ≤ s.1 + 1 + 1; omega, ?_⟩
          rw [od_up_at, if_neg (by omega), od_up_at, if_neg (by omega)]
          exact BrQ.lit hbr (fun l1 b1 => by exfalso; omega) hl
        · refine r_aload_n dX11_partOf_98 rfl ?_
          refine r_getIj (j := 24) rfl dX11_partOf_99 fkX11_273 gf11_24 (mo_o hm) (by (repeat (first | rewrite [od_up_at, if_pos (by omega)] | rewrite [od_up_at, if_neg (by omega)] | rewrite [od_upn (by omega)])); first | exact hg | exact h25 | rfl) ?_
          refine r_if_eq (tgt := 107) dX11_partOf_102 rfl (fun c102 => ?_) (fun c102 => ?_)
          · refine r_iload_n dX11_partOf_107 rfl ?_
            refine r_bipush dX11_partOf_108 lb_50 ?_
            refine r_icmp_ne (tgt := 130) dX11_partOf_110 rfl (fun c110 => ?_) (fun h => absurd h (by omega))
            refine r_aload_n dX11_partOf_130 rfl ?_
            refine r_getIj (j := 25) rfl dX11_partOf_131 fkX11_293 gf11_25 (mo_o hm) (by (repeat (first | rewrite [od_up_at, if_pos (by omega)] | rewrite [od_up_at, if_neg (by omega)] | rewrite [od_upn (by omega)])); first | exact hg | exact h25 | rfl) ?_
            refine r_if_eq (tgt := 147) dX11_partOf_134 rfl (fun h => absurd h (by decide)) (fun _ => ?_)
            refine r_aload_n dX11_partOf_137 rfl ?_
            refine r_iload_n dX11_partOf_138 rfl ?_
            refine r_iload_n dX11_partOf_139 rfl ?_
            have hk19 := pWb_r hWb
            refine r_callV2i dX11_partOf_140 cvX11_296 (mo_o hm) (c_X11_orderValue hm (by rw [od_upn (by omega), od_upn (by omega)]; exact hv.2.2) _ _ ((pWb_f _).mp hWb)) (by omega) (Nat.le_of_ble_eq_true rfl) od_le.rf ?_
            rw [mOV_e (g := g) ((od_fr.rf.up (by unfold XB; omega)).up (by unfold XB; omega))]
            refine r_i2l dX11_partOf_143 ?_
            refine r_goto (tgt := 157) dX11_partOf_144 rfl ?_
            refine r_lretq dX11_partOf_157 rfl rfl ⟨_, rfl, ?_⟩
            rw [eP]
            refine ⟨(od_fr.rf.up (by unfold XB; omega)).up (by unfold XB; omega), by rw [od_up_at, if_pos rfl]; rfl, by show s.1 ≤ s.1 + 1 + 1; omega, ?_⟩
            rw [od_up_at, if_neg (by omega), od_up_at, if_neg (by omega)]
            exact BrQ.lit hbr (fun l1 b1 => by show some (w (_ + _)) = some _; rw [← henv]) hl
          · refine r_lconst dX11_partOf_105 ll_0 ?_
            refine r_lretq dX11_partOf_106 rfl rfl ⟨_, rfl, ?_⟩
            rw [eP]
            refine ⟨(od_fr.rf.up (by unfold XB; omega)).up (by unfold XB; omega), by rw [od_up_at, if_pos rfl]; rfl, by show s.1 ≤ s.1 + 1 + 1; omega, ?_⟩
            rw [od_up_at, if_neg (by omega), od_up_at, if_neg (by omega)]
            exact BrQ.lit hbr (fun l1 b1 => by exfalso; omega) hl
    · have hkr := pWb_r hWb
      have henv := hv.2.1 (c s.1) 0 ((pWb_f _).mp hWb).1 ((pWb_f _).mp hWb).2 (fun z => absurd z hOf)
      rw [if_neg hOf, Int.add_zero] at henv
      have hc13 : c s.1 ≠ 13 ∧ c s.1 ≠ 19 := by simp [pOf] at hOf; omega
      refine r_aload_n dX11_partOf_30 rfl ?_
      refine r_aload_n dX11_partOf_31 rfl ?_
      refine r_getIj (j := 22) rfl dX11_partOf_32 fkX11_263 gf11_22 (mo_o hm) (by (repeat (first | rewrite [od_up_at, if_pos (by omega)] | rewrite [od_up_at, if_neg (by omega)] | rewrite [od_upn (by omega)])); first | exact hg | exact h25 | rfl) ?_
      refine r_callV1i dX11_partOf_35 cvX11_266 (mo_o hm) (c_X11_codeAt hm hv s.1 hs0) (by omega) (Nat.le_of_ble_eq_true rfl) od_le.rf ?_
      refine r_istore_n dX11_partOf_38 (by decide) rfl ?_
      refine r_iconst dX11_partOf_39 li_0 ?_
      refine r_istore_n dX11_partOf_40 (by decide) rfl ?_
      have lt := hv.lt (i := s.1) (by omega)
      refine r_aload_n dX11_partOf_41 rfl ?_
      refine r_dup dX11_partOf_42 (by first | exact od_ne2 | exact od_ne0) ?_
      refine r_getIj (j := 22) rfl dX11_partOf_43 fkX11_263 gf11_22 (mo_o hm) (by (repeat (first | rewrite [od_up_at, if_pos (by omega)] | rewrite [od_up_at, if_neg (by omega)] | rewrite [od_upn (by omega)])); first | exact hg | exact h25 | rfl) ?_
      refine r_iconst dX11_partOf_46 li_1 ?_
      refine r_iaddE dX11_partOf_47 (by first | exact od_w0 (by omega) (by omega) | exact od_wI (by omega) (by omega) | rfl) ?_
      rw [show b + s.1 + 1 = b + (s.1 + 1) by omega]
      refine r_putIj (j := 22) rfl dX11_partOf_48 fkX11_263 gf11_22 pf11_22 (mo_o hm) ?_
      refine r_aload_n dX11_partOf_51 rfl ?_
      refine r_getIj (j := 25) rfl dX11_partOf_52 fkX11_293 gf11_25 (mo_o hm) (by (repeat (first | rewrite [od_up_at, if_pos (by omega)] | rewrite [od_up_at, if_neg (by omega)] | rewrite [od_upn (by omega)])); first | exact hg | exact h25 | rfl) ?_
      refine r_if_eq (tgt := 94) dX11_partOf_55 rfl (fun h => absurd h (by decide)) (fun _ => ?_)
      refine r_iload_n dX11_partOf_58 rfl ?_
      refine r_bipush dX11_partOf_59 lb_13 ?_
      refine r_icmp_eq (tgt := 70) dX11_partOf_61 rfl (fun h => absurd h (by omega)) (fun c61 => ?_)
      refine r_iload_n dX11_partOf_64 rfl ?_
      refine r_bipush dX11_partOf_65 lb_19 ?_
      refine r_icmp_ne (tgt := 94) dX11_partOf_67 rfl (fun c67 => ?_) (fun h => absurd h (by omega))
      refine r_iload_n dX11_partOf_94 rfl ?_
      refine r_if_eq (tgt := 105) dX11_partOf_95 rfl (fun c95 => ?_) (fun c95 => ?_)
      · refine r_lconst dX11_partOf_105 ll_0 ?_
        refine r_lretq dX11_partOf_106 rfl rfl ⟨_, rfl, ?_⟩
        rw [eP]
        refine ⟨od_fr.rf.up (by unfold XB; omega), by rw [od_up_at, if_pos rfl], by show s.1 ≤ s.1 + 1; omega, ?_⟩
        rw [od_up_at, if_neg (by omega)]
        exact BrQ.lit hbr (fun l1 b1 => by exfalso; omega) hl
      · refine r_aload_n dX11_partOf_98 rfl ?_
        refine r_getIj (j := 24) rfl dX11_partOf_99 fkX11_273 gf11_24 (mo_o hm) (by (repeat (first | rewrite [od_up_at, if_pos (by omega)] | rewrite [od_up_at, if_neg (by omega)] | rewrite [od_upn (by omega)])); first | exact hg | exact h25 | rfl) ?_
        refine r_if_eq (tgt := 107) dX11_partOf_102 rfl (fun c102 => ?_) (fun c102 => ?_)
        · refine r_iload_n dX11_partOf_107 rfl ?_
          refine r_bipush dX11_partOf_108 lb_50 ?_
          refine r_icmp_ne (tgt := 130) dX11_partOf_110 rfl (fun c110 => ?_) (fun h => absurd h (by omega))
          refine r_aload_n dX11_partOf_130 rfl ?_
          refine r_getIj (j := 25) rfl dX11_partOf_131 fkX11_293 gf11_25 (mo_o hm) (by (repeat (first | rewrite [od_up_at, if_pos (by omega)] | rewrite [od_up_at, if_neg (by omega)] | rewrite [od_upn (by omega)])); first | exact hg | exact h25 | rfl) ?_
          refine r_if_eq (tgt := 147) dX11_partOf_134 rfl (fun h => absurd h (by decide)) (fun _ => ?_)
          refine r_aload_n dX11_partOf_137 rfl ?_
          refine r_iload_n dX11_partOf_138 rfl ?_
          refine r_iload_n dX11_partOf_139 rfl ?_
          refine r_callV2i dX11_partOf_140 cvX11_296 (mo_o hm) (c_X11_orderValue hm (by rw [od_upn (by omega)]; exact hv.2.2) _ _ ((pWb_f _).mp hWb)) (by omega) (Nat.le_of_ble_eq_true rfl) od_le.rf ?_
          rw [mOV_e (g := g) (od_fr.rf.up (by unfold XB; omega))]
          refine r_i2l dX11_partOf_143 ?_
          refine r_goto (tgt := 157) dX11_partOf_144 rfl ?_
          refine r_lretq dX11_partOf_157 rfl rfl ⟨_, rfl, ?_⟩
          rw [eP]
          refine ⟨od_fr.rf.up (by unfold XB; omega), by rw [od_up_at, if_pos rfl], by show s.1 ≤ s.1 + 1; omega, ?_⟩
          rw [od_up_at, if_neg (by omega)]
          exact BrQ.lit hbr (fun l1 b1 => by show some (w _) = some _; rw [← henv]) hl
        · refine r_lconst dX11_partOf_105 ll_0 ?_
          refine r_lretq dX11_partOf_106 rfl rfl ⟨_, rfl, ?_⟩
          rw [eP]
          refine ⟨od_fr.rf.up (by unfold XB; omega), by rw [od_up_at, if_pos rfl], by show s.1 ≤ s.1 + 1; omega, ?_⟩
          rw [od_up_at, if_neg (by omega)]
          exact BrQ.lit hbr (fun l1 b1 => by exfalso; omega) hl
