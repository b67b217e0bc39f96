/-- by which language it reads -/
def MFl (g : od_G) (M : Int) (lw : Bool) : Prop := g M 8 = (if lw = true then 8 else 13) ∧ g M 9 = (if lw = true then 14 else 19) ∧ g M 10 = (if lw = true then 0 else 1)
theorem MFl.xt {g g' : od_G} {M : Int} {lw : Bool} (h : MFl g M lw) (f : od_fr (XT M) g g') : MFl g' M lw := by
  unfold MFl
  rw [f M 8 (by unfold XT; omega), f M 9 (by unfold XT; omega), f M 10 (by unfold XT; omega)]
  exact h
theorem MdQ.tr {g g1 g2 : od_G} {M N : Int} {s s1 s2 : pS} (h : MdQ g g1 M N s s1) (h2 : MdQ g1 g2 M N s1 s2) : MdQ g g2 M N s s2 := ⟨h.1.tr h2.1, h2.2.1, Int.le_trans h.2.2 h2.2.2⟩
theorem MdQ.rf {g : od_G} {M N : Int} {s : pS} (h : MSt g M N s) : MdQ g g M N s s := ⟨od_fr.rf, h, Int.le_refl _⟩
def MPrt (E : od_E) (M : Int) (c v pl : Int → Int) (N : Int) (lw : Bool) (L : Nat) : Prop := ∀ (g : od_G) (s : pS), TkOk g M c v pl N → MSt g M N s → MFl g M lw → od_Cq (5 + 3 * L) mX11_readPart [(2, M), (0, 8 - (L : Int))] E g (E, fun w g' => w = none ∧ MdQ g g' M N s (pPart c v pl lw (pSub c v pl lw L) s).1)
def MTrm (E : od_E) (M : Int) (c v pl : Int → Int) (N : Int) (lw : Bool) (L : Nat) : Prop := ∀ (g : od_G) (s : pS), TkOk g M c v pl N → MSt g M N s → MFl g M lw → od_Cq (6 + 3 * L) mX11_readTerm [(2, M), (0, 8 - (L : Int))] E g (E, fun w g' => w = none ∧ MdQ g g' M N s (pTerm c v pl lw (pSub c v pl lw L) s).1)
def MSum (E : od_E) (M : Int) (c v pl : Int → Int) (N : Int) (lw : Bool) (L : Nat) : Prop := ∀ (g : od_G) (s : pS), TkOk g M c v pl N → MSt g M N s → MFl g M lw → od_Cq (7 + 3 * L) mX11_readSum [(2, M), (0, 8 - (L : Int))] E g (E, fun w g' => w = none ∧ MdQ g g' M N s (pSumL c v pl lw L s).1)
def MPln (E : od_E) (M : Int) (c v pl : Int → Int) (N : Int) (lw : Bool) (L : Nat) : Prop := ∀ (g : od_G) (s : pS), TkOk g M c v pl N → MSt g M N s → MFl g M lw → od_Cq (8 + 3 * L) mX11_readPlain [(2, M), (0, 8 - (L : Int))] E g (E, fun w g' => w = none ∧ MdQ g g' M N s (pPlain c pl (pSumL c v pl lw L) (pTub c v pl lw L) s).1)
def MBth (E : od_E) (M : Int) (c v pl : Int → Int) (N : Int) (lw : Bool) (L : Nat) : Prop := ∀ (g : od_G) (s : pS), TkOk g M c v pl N → MSt g M N s → MFl g M lw → od_Cq (9 + 3 * L) mX11_readBoth [(2, M), (0, 8 - (L : Int))] E g (E, fun w g' => w = none ∧ MdQ g g' M N s (pBoth c pl (pSumL c v pl lw L) (pTub c v pl lw L) s).1)
def MTst (E : od_E) (M : Int) (c v pl : Int → Int) (N : Int) (lw : Bool) (L : Nat) : Prop := ∀ (g : od_G) (s : pS), TkOk g M c v pl N → MSt g M N s → MFl g M lw → od_Cq (10 + 3 * L) mX11_readTest [(2, M), (0, 8 - (L : Int))] E g (E, fun w g' => w = none ∧ MdQ g g' M N s (pTestL c v pl lw L s).1)
set_option maxRecDepth 10000 in
theorem c_X11_readPart_t {E : od_E} {g : od_G} {M : Int} (hm : MoAt E M) {c v pl : Int → Int} {N : Int} (hk : TkOk g M c v pl N) {s : pS} (hs : MSt g M N s) (hf : MFl g M true) {L : Nat} (hL : L ≤ 8) (hS : ∀ L1 : Nat, L = L1 + 1 → MSum E M c v pl N true L1) : od_Cq (5 + 3 * L) mX11_readPart [(2, M), (0, 8 - (L : Int))] E g (E, fun w g' => w = none ∧ MdQ g g' M N s (pPart c v pl true (pSub c v pl true L) s).1) := by
  have hf0 := hf
  obtain ⟨f8, f9, f10⟩ := hf
  rw [if_pos rfl] at f8 f9 f10
  refine od_cqI pnX11 rfl (Nat.le_of_ble_eq_true rfl) od_le.rf ?_
  show od_Rq (5 + 3 * L) mX11_readPart od_Z0 E (E, fun w g' => w = none ∧ MdQ g g' M N s (pPart c v pl true (pSub c v pl true L) s).1) 0 [some (2, M), some (0, 8 - (L : Int)), none] [] E g
  refine r_aload_n dX11_readPart_0 rfl ?_
  refine r_callV0b dX11_readPart_1 cvX11_173 (mo_o hm) (c_X11_fine hm) (by omega) (Nat.le_of_ble_eq_true rfl) od_le.rf (fun q1 => ?_) (fun q1 => ?_)
  · refine r_if_ne (tgt := 8) dX11_readPart_4 rfl (fun _ => ?_) (fun h => absurd h (by decide))
    have hb : s.2.2 = -1 := by have := hs.bad; unfold mFine at q1; omega
    obtain ⟨e1, e2, e3⟩ := hs.cd hk hb
    have hq := hs.fine hb
    have h19 := hs.1
    refine r_aload_n dX11_readPart_8 rfl ?_
    refine r_getR dX11_readPart_9 fkX11_54 gf11_15 (mo_o hm) (mo_r15 hm) ?_
    refine r_aload_n dX11_readPart_12 rfl ?_
    refine r_getIj (j := 19) rfl dX11_readPart_13 fkX11_177 gf11_19 (mo_o hm) (by (repeat (first | rewrite [od_upn (by omega)] | rewrite [od_up_at, if_pos (by omega)] | rewrite [od_up_at, if_neg (by omega)])); rfl) ?_
    refine r_iald dX11_readPart_16 (mo_k15 hm) (by omega) (by (repeat (first | rewrite [od_upn (by omega)] | rewrite [od_up_at, if_pos (by omega)] | rewrite [od_up_at, if_neg (by omega)])); rfl) ?_
    rw [e1]
    refine r_istore_n dX11_readPart_17 (by decide) rfl ?_
    refine r_iload_n dX11_readPart_18 rfl ?_
    refine r_bipush dX11_readPart_19 lb_91 ?_
    refine r_callS1i dX11_readPart_21 csX11_222 (c_X11_sign _ (by omega)) (by omega) (Nat.le_of_ble_eq_true rfl) od_le.rf ?_
    refine r_icmp_ne (tgt := 74) dX11_readPart_24 rfl (fun c24 => ?_) (fun c24 => ?_)
    · refine r_iload_n dX11_readPart_74 rfl ?_
      refine r_bipush dX11_readPart_75 lb_50 ?_
      refine r_icmp_ne (tgt := 95) dX11_readPart_77 rfl (fun c77 => ?_) (fun c77 => ?_)
      · refine r_iload_n dX11_readPart_95 rfl ?_
        refine r_aload_n dX11_readPart_96 rfl ?_
        refine r_getIj (j := 8) rfl dX11_readPart_97 fkX11_232 gf11_8 (mo_o hm) (by (repeat (first | rewrite [od_upn (by omega)] | rewrite [od_up_at, if_pos (by omega)] | rewrite [od_up_at, if_neg (by omega)])); rfl) ?_
        rw [f8]
        refine r_icmp_lt (tgt := 143) dX11_readPart_100 rfl (fun c100 => ?_) (fun c100 => ?_)
        · have qf := hs.flt hk
          refine r_aload_n dX11_readPart_143 rfl ?_
          refine r_callV0v dX11_readPart_144 cvX11_183 (mo_o hm) (c_X11_faults hm (by have := hs.1; omega)) (by omega) (Nat.le_of_ble_eq_true rfl) od_le.rf ?_
          refine r_vretq dX11_readPart_147 rfl rfl ⟨rfl, ?_⟩
          rw [pPart_flt (fun z => by omega) (fun _ => Or.inr (fun z => by
            rcases z with z | z
            · omega
            · rw [pWb_t] at z; omega))]
          exact ⟨qf.2, qf.1, by rw [pF_1]; omega⟩
        · refine r_iload_n dX11_readPart_103 rfl ?_
          refine r_aload_n dX11_readPart_104 rfl ?_
          refine r_getIj (j := 9) rfl dX11_readPart_105 fkX11_235 gf11_9 (mo_o hm) (by (repeat (first | rewrite [od_upn (by omega)] | rewrite [od_up_at, if_pos (by omega)] | rewrite [od_up_at, if_neg (by omega)])); rfl) ?_
          rw [f9]
          refine r_icmp_gt (tgt := 143) dX11_readPart_108 rfl (fun c108 => ?_) (fun c108 => ?_)
          · have qf := hs.flt hk
            refine r_aload_n dX11_readPart_143 rfl ?_
            refine r_callV0v dX11_readPart_144 cvX11_183 (mo_o hm) (c_X11_faults hm (by have := hs.1; omega)) (by omega) (Nat.le_of_ble_eq_true rfl) od_le.rf ?_
            refine r_vretq dX11_readPart_147 rfl rfl ⟨rfl, ?_⟩
            rw [pPart_flt (fun z => by omega) (fun _ => Or.inr (fun z => by
              rcases z with z | z
              · omega
              · rw [pWb_t] at z; omega))]
            exact ⟨qf.2, qf.1, by rw [pF_1]; omega⟩
          · have hcond : (c s.1 = 50 ∧ v s.1 ≤ 1000) ∨ pWb true (c s.1) = true := by first | exact Or.inl ⟨by assumption, by assumption⟩ | exact Or.inr ((pWb_t _).mpr (by omega))
            refine r_aload_n dX11_readPart_111 rfl ?_
            refine r_callV0p dX11_readPart_112 cvX11_238 (mo_o hm) (c_X11_leaf hm hk hs hb (by omega)) (by omega) (Nat.le_of_ble_eq_true rfl) od_le.rf (fun r112 g112 h112 => ?_)
            obtain ⟨rfl, hq112⟩ := h112
            show od_Rq _ _ _ _ _ _ _ [] _ _
            have hk112 := hk.xt hq112.1
            have f10x : g112 M 10 = 0 := (hq112.1 M 10 (by unfold XT; omega)).trans f10
            refine r_aload_n dX11_readPart_115 rfl ?_
            refine r_getIj (j := 10) rfl dX11_readPart_116 fkX11_206 gf11_10 (mo_o hm) (by (repeat (first | rewrite [od_upn (by omega)] | rewrite [od_up_at, if_pos (by omega)] | rewrite [od_up_at, if_neg (by omega)])); rfl) ?_
            rw [f10x]
            refine r_if_eq (tgt := 147) dX11_readPart_119 rfl (fun _ => ?_) (fun h => absurd h (by decide))
            refine r_vretq dX11_readPart_147 rfl rfl ⟨rfl, ?_⟩
            rw [pPart_leaf hb (by omega) hcond]
            unfold pLeaf
            unfold pLf at hq112 
            by_cases h50 : 50 ≤ s.2.1
            · rw [if_pos h50] at hq112 ⊢
              first
              | exact hq112
              | (rw [if_pos h50] at h137
                 have nb : (pF pl s).2.2 ≠ -1 := pF_nb (hk.2.2.2.2 _)
                 have eM : pMn c v pl 0 5 (pF pl s) = pF pl s := (if_neg (fun z => nb z.1)).trans (pF_bad nb)
                 rw [eM] at h137
                 exact hq112.tr h137)
            · rw [if_neg h50] at hq112 ⊢
              by_cases h5 : c s.1 = 50
              · rw [if_pos h5]
                first
                | exact hq112
                | (exfalso; omega)
              · rw [if_neg h5]
                first
                | (rw [if_neg (by simp [pOf])]; exact hq112)
                | (rw [if_pos hof]
                   rw [if_neg h50] at h137
                   exact hq112.tr h137)
      · refine r_aload_n dX11_readPart_80 rfl ?_
        refine r_getR dX11_readPart_81 fkX11_57 gf11_16 (mo_o hm) (mo_r16 hm) ?_
        refine r_aload_n dX11_readPart_84 rfl ?_
        refine r_getIj (j := 19) rfl dX11_readPart_85 fkX11_177 gf11_19 (mo_o hm) (by (repeat (first | rewrite [od_upn (by omega)] | rewrite [od_up_at, if_pos (by omega)] | rewrite [od_up_at, if_neg (by omega)])); rfl) ?_
        refine r_iald dX11_readPart_88 (mo_k16 hm) (by omega) (by (repeat (first | rewrite [od_upn (by omega)] | rewrite [od_up_at, if_pos (by omega)] | rewrite [od_up_at, if_neg (by omega)])); rfl) ?_
        rw [e2]
        refine r_sipush dX11_readPart_89 ls_1000 ?_
        refine r_icmp_le (tgt := 111) dX11_readPart_92 rfl (fun c92 => ?_) (fun c92 => ?_)
        · have hcond : (c s.1 = 50 ∧ v s.1 ≤ 1000) ∨ pWb true (c s.1) = true := by first | exact Or.inl ⟨by assumption, by assumption⟩ | exact Or.inr ((pWb_t _).mpr (by omega))
          refine r_aload_n dX11_readPart_111 rfl ?_
          refine r_callV0p dX11_readPart_112 cvX11_238 (mo_o hm) (c_X11_leaf hm hk hs hb (by omega)) (by omega) (Nat.le_of_ble_eq_true rfl) od_le.rf (fun r112 g112 h112 => ?_)
          obtain ⟨rfl, hq112⟩ := h112
          show od_Rq _ _ _ _ _ _ _ [] _ _
          have hk112 := hk.xt hq112.1
          have f10x : g112 M 10 = 0 := (hq112.1 M 10 (by unfold XT; omega)).trans f10
          refine r_aload_n dX11_readPart_115 rfl ?_
          refine r_getIj (j := 10) rfl dX11_readPart_116 fkX11_206 gf11_10 (mo_o hm) (by (repeat (first | rewrite [od_upn (by omega)] | rewrite [od_up_at, if_pos (by omega)] | rewrite [od_up_at, if_neg (by omega)])); rfl) ?_
          rw [f10x]
          refine r_if_eq (tgt := 147) dX11_readPart_119 rfl (fun _ => ?_) (fun h => absurd h (by decide))
          refine r_vretq dX11_readPart_147 rfl rfl ⟨rfl, ?_⟩
          rw [pPart_leaf hb (by omega) hcond]
          unfold pLeaf
          unfold pLf at hq112 
          by_cases h50 : 50 ≤ s.2.1
          · rw [if_pos h50] at hq112 ⊢
            first
            | exact hq112
            | (rw [if_pos h50] at h137
               have nb : (pF pl s).2.2 ≠ -1 := pF_nb (hk.2.2.2.2 _)
               have eM : pMn c v pl 0 5 (pF pl s) = pF pl s := (if_neg (fun z => nb z.1)).trans (pF_bad nb)
               rw [eM] at h137
               exact hq112.tr h137)
          · rw [if_neg h50] at hq112 ⊢
            by_cases h5 : c s.1 = 50
            · rw [if_pos h5]
              first
              | exact hq112
              | (exfalso; omega)
            · rw [if_neg h5]
              first
              | (rw [if_neg (by simp [pOf])]; exact hq112)
              | (rw [if_pos hof]
                 rw [if_neg h50] at h137
                 exact hq112.tr h137)
        · refine r_iload_n dX11_readPart_95 rfl ?_
          refine r_aload_n dX11_readPart_96 rfl ?_
          refine r_getIj (j := 8) rfl dX11_readPart_97 fkX11_232 gf11_8 (mo_o hm) (by (repeat (first | rewrite [od_upn (by omega)] | rewrite [od_up_at, if_pos (by omega)] | rewrite [od_up_at, if_neg (by omega)])); rfl) ?_
          rw [f8]
          refine r_icmp_lt (tgt := 143) dX11_readPart_100 rfl (fun c100 => ?_) (fun c100 => ?_)
          · have qf := hs.flt hk
            refine r_aload_n dX11_readPart_143 rfl ?_
            refine r_callV0v dX11_readPart_144 cvX11_183 (mo_o hm) (c_X11_faults hm (by have := hs.1; omega)) (by omega) (Nat.le_of_ble_eq_true rfl) od_le.rf ?_
            refine r_vretq dX11_readPart_147 rfl rfl ⟨rfl, ?_⟩
            rw [pPart_flt (fun z => by omega) (fun _ => Or.inr (fun z => by
              rcases z with z | z
              · omega
              · rw [pWb_t] at z; omega))]
            exact ⟨qf.2, qf.1, by rw [pF_1]; omega⟩
          · refine r_iload_n dX11_readPart_103 rfl ?_
            refine r_aload_n dX11_readPart_104 rfl ?_
            refine r_getIj (j := 9) rfl dX11_readPart_105 fkX11_235 gf11_9 (mo_o hm) (by (repeat (first | rewrite [od_upn (by omega)] | rewrite [od_up_at, if_pos (by omega)] | rewrite [od_up_at, if_neg (by omega)])); rfl) ?_
            rw [f9]
            refine r_icmp_gt (tgt := 143) dX11_readPart_108 rfl (fun c108 => ?_) (fun c108 => ?_)
            · have qf := hs.flt hk
              refine r_aload_n dX11_readPart_143 rfl ?_
              refine r_callV0v dX11_readPart_144 cvX11_183 (mo_o hm) (c_X11_faults hm (by have := hs.1; omega)) (by omega) (Nat.le_of_ble_eq_true rfl) od_le.rf ?_
              refine r_vretq dX11_readPart_147 rfl rfl ⟨rfl, ?_⟩
              rw [pPart_flt (fun z => by omega) (fun _ => Or.inr (fun z => by
                rcases z with z | z
                · omega
                · rw [pWb_t] at z; omega))]
              exact ⟨qf.2, qf.1, by rw [pF_1]; omega⟩
            · have hcond : (c s.1 = 50 ∧ v s.1 ≤ 1000) ∨ pWb true (c s.1) = true := by first | exact Or.inl ⟨by assumption, by assumption⟩ | exact Or.inr ((pWb_t _).mpr (by omega))
              refine r_aload_n dX11_readPart_111 rfl ?_
              refine r_callV0p dX11_readPart_112 cvX11_238 (mo_o hm) (c_X11_leaf hm hk hs hb (by omega)) (by omega) (Nat.le_of_ble_eq_true rfl) od_le.rf (fun r112 g112 h112 => ?_)
              obtain ⟨rfl, hq112⟩ := h112
              show od_Rq _ _ _ _ _ _ _ [] _ _
              have hk112 := hk.xt hq112.1
              have f10x : g112 M 10 = 0 := (hq112.1 M 10 (by unfold XT; omega)).trans f10
              refine r_aload_n dX11_readPart_115 rfl ?_
              refine r_getIj (j := 10) rfl dX11_readPart_116 fkX11_206 gf11_10 (mo_o hm) (by (repeat (first | rewrite [od_upn (by omega)] | rewrite [od_up_at, if_pos (by omega)] | rewrite [od_up_at, if_neg (by omega)])); rfl) ?_
              rw [f10x]
              refine r_if_eq (tgt := 147) dX11_readPart_119 rfl (fun _ => ?_) (fun h => absurd h (by decide))
              refine r_vretq dX11_readPart_147 rfl rfl ⟨rfl, ?_⟩
              rw [pPart_leaf hb (by omega) hcond]
              unfold pLeaf
              unfold pLf at hq112 
              by_cases h50 : 50 ≤ s.2.1
              · rw [if_pos h50] at hq112 ⊢
                first
                | exact hq112
                | (rw [if_pos h50] at h137
                   have nb : (pF pl s).2.2 ≠ -1 := pF_nb (hk.2.2.2.2 _)
                   have eM : pMn c v pl 0 5 (pF pl s) = pF pl s := (if_neg (fun z => nb z.1)).trans (pF_bad nb)
                   rw [eM] at h137
                   exact hq112.tr h137)
              · rw [if_neg h50] at hq112 ⊢
                by_cases h5 : c s.1 = 50
                · rw [if_pos h5]
                  first
                  | exact hq112
                  | (exfalso; omega)
                · rw [if_neg h5]
                  first
                  | (rw [if_neg (by simp [pOf])]; exact hq112)
                  | (rw [if_pos hof]
                     rw [if_neg h50] at h137
                     exact hq112.tr h137)
    · refine r_iload_n dX11_readPart_27 rfl ?_
      refine r_bipush dX11_readPart_28 lb_8 ?_
      refine r_icmp_ne (tgt := 37) dX11_readPart_30 rfl (fun c30 => ?_) (fun c30 => ?_)
      · obtain ⟨L1, hL1⟩ : ∃ L1 : Nat, L = L1 + 1 := ⟨L - 1, by omega⟩
        subst hL1
        refine r_aload_n dX11_readPart_37 rfl ?_
        refine r_callV0i dX11_readPart_38 cvX11_173 (mo_o hm) (c_X11_fineT hm hq.2.2.2.2) (by omega) (Nat.le_of_ble_eq_true rfl) od_le.rf ?_
        refine r_if_ne (tgt := 45) dX11_readPart_41 rfl (fun _ => ?_) (fun h => absurd h (by decide))
        refine r_aload_n dX11_readPart_45 rfl ?_
        refine r_dup dX11_readPart_46 (by first | exact od_ne2 | exact od_ne0) ?_
        refine r_getIj (j := 19) rfl dX11_readPart_47 fkX11_177 gf11_19 (mo_o hm) (by (repeat (first | rewrite [od_upn (by omega)] | rewrite [od_up_at, if_pos (by omega)] | rewrite [od_up_at, if_neg (by omega)])); rfl) ?_
        refine r_iconst dX11_readPart_50 li_1 ?_
        refine r_iaddE dX11_readPart_51 (by first | exact od_w0 (by omega) (by omega) | exact od_wI (by omega) (by omega) | rfl) ?_
        refine r_putIj (j := 19) rfl dX11_readPart_52 fkX11_177 gf11_19 pf11_19 (mo_o hm) ?_
        have f1 : od_fr (XT M) g (od_up g M 19 (g M 19 + 1)) := od_fr.rf.up (by unfold XT; omega)
        have hs1 := hs.nx hk hb (by omega)
        have hk1 := hk.xt f1
        have hf1 := hf0.xt f1
        refine r_aload_n dX11_readPart_55 rfl ?_
        refine r_iload_n dX11_readPart_56 rfl ?_
        refine r_iconst dX11_readPart_57 li_1 ?_
        refine r_iaddE dX11_readPart_58 (by first | exact od_w0 (by omega) (by omega) | exact od_wI (by omega) (by omega) | rfl) ?_
        rw [show (8 - ((L1 + 1 : Nat) : Int)) + 1 = 8 - (L1 : Int) by omega]
        refine r_callV1p dX11_readPart_59 cvX11_189 (mo_o hm) (hS L1 rfl _ (pNx s) hk1 hs1 hf1) (by omega) (Nat.le_of_ble_eq_true rfl) od_le.rf (fun r59 g59 h59 => ?_)
        obtain ⟨rfl, hq59⟩ := h59
        show od_Rq _ _ _ _ _ _ _ [] _ _
        have hk59 := hk1.xt hq59.1
        refine r_aload_n dX11_readPart_62 rfl ?_
        refine r_bipush dX11_readPart_63 lb_93 ?_
        refine r_callS1i dX11_readPart_65 csX11_222 (c_X11_sign _ (by omega)) (by omega) (Nat.le_of_ble_eq_true rfl) od_le.rf ?_
        refine r_callV1p dX11_readPart_68 cvX11_193 (mo_o hm) (c_X11_must hm hk59 hq59.2.1 _ (by omega)) (by omega) (Nat.le_of_ble_eq_true rfl) od_le.rf (fun r68 g68 h68 => ?_)
        obtain ⟨rfl, h68⟩ := h68
        show od_Rq _ _ _ _ _ _ _ [] _ _
        refine r_goto (tgt := 147) dX11_readPart_71 rfl ?_
        refine r_vretq dX11_readPart_147 rfl rfl ⟨rfl, ?_⟩
        show MdQ _ _ _ _ _ (pPart c v pl true (some (pSumL c v pl true L1)) s).1
        rw [pPart_S hb (by omega)]
        exact ⟨(f1.tr hq59.1).tr h68.1, h68.2.1, Int.le_trans (by have := hq59.2.2; have bx : (pNx s).1 = s.1 + 1 := rfl; omega) h68.2.2⟩
      · refine r_aload_n dX11_readPart_33 rfl ?_
        refine r_callV0v dX11_readPart_34 cvX11_183 (mo_o hm) (c_X11_faults hm (by have := hs.1; omega)) (by omega) (Nat.le_of_ble_eq_true rfl) od_le.rf ?_
        have qf := hs.flt hk
        have nb : (pF pl s).2.2 ≠ -1 := pF_nb (hk.2.2.2.2 _)
        refine r_aload_n dX11_readPart_37 rfl ?_
        refine r_callV0i dX11_readPart_38 cvX11_173 (mo_o hm) (c_X11_fineF hm (by rw [qf.1.bad]; exact nb)) (by omega) (Nat.le_of_ble_eq_true rfl) od_le.rf ?_
        refine r_if_ne (tgt := 45) dX11_readPart_41 rfl (fun h => absurd h (by decide)) (fun _ => ?_)
        have hL0 : L = 0 := by omega
        subst hL0
        refine r_vretq dX11_readPart_44 rfl rfl ⟨rfl, ?_⟩
        show MdQ _ _ _ _ _ (pPart c v pl true none s).1
        rw [pPart_0 hb (by omega)]
        exact ⟨qf.2, qf.1, by rw [pF_1]; omega⟩
  · refine r_if_ne (tgt := 8) dX11_readPart_4 rfl (fun h => absurd h (by decide)) (fun _ => ?_)
    refine r_vretq dX11_readPart_7 rfl rfl ⟨rfl, ?_⟩
    have hnb : s.2.2 ≠ -1 := by have := hs.bad; unfold mFine at q1; omega
    rw [pPart_bad hnb]
    exact MdQ.rf hs
set_option maxRecDepth 10000 in
theorem c_X11_readPart_f {E : od_E} {g : od_G} {M : Int} (hm : MoAt E M) {c v pl : Int → Int} {N : Int} (hk : TkOk g M c v pl N) {s : pS} (hs : MSt g M N s) (hf : MFl g M false) {L : Nat} (hL : L ≤ 8) (hS : ∀ L1 : Nat, L = L1 + 1 → MSum E M c v pl N false L1) : od_Cq (5 + 3 * L) mX11_readPart [(2, M), (0, 8 - (L : Int))] E g (E, fun w g' => w = none ∧ MdQ g g' M N s (pPart c v pl false (pSub c v pl false L) s).1) := by
  have hf0 := hf
  obtain ⟨f8, f9, f10⟩ := hf
  rw [if_neg (by decide)] at f8 f9 f10
  refine od_cqI pnX11 rfl (Nat.le_of_ble_eq_true rfl) od_le.rf ?_
  show od_Rq (5 + 3 * L) mX11_readPart od_Z0 E (E, fun w g' => w = none ∧ MdQ g g' M N s (pPart c v pl false (pSub c v pl false L) s).1) 0 [some (2, M), some (0, 8 - (L : Int)), none] [] E g
  refine r_aload_n dX11_readPart_0 rfl ?_
  refine r_callV0b dX11_readPart_1 cvX11_173 (mo_o hm) (c_X11_fine hm) (by omega) (Nat.le_of_ble_eq_true rfl) od_le.rf (fun q1 => ?_) (fun q1 => ?_)
  · refine r_if_ne (tgt := 8) dX11_readPart_4 rfl (fun _ => ?_) (fun h => absurd h (by decide))
    have hb : s.2.2 = -1 := by have := hs.bad; unfold mFine at q1; omega
    obtain ⟨e1, e2, e3⟩ := hs.cd hk hb
    have hq := hs.fine hb
    have h19 := hs.1
    refine r_aload_n dX11_readPart_8 rfl ?_
    refine r_getR dX11_readPart_9 fkX11_54 gf11_15 (mo_o hm) (mo_r15 hm) ?_
    refine r_aload_n dX11_readPart_12 rfl ?_
    refine r_getIj (j := 19) rfl dX11_readPart_13 fkX11_177 gf11_19 (mo_o hm) (by (repeat (first | rewrite [od_upn (by omega)] | rewrite [od_up_at, if_pos (by omega)] | rewrite [od_up_at, if_neg (by omega)])); rfl) ?_
    refine r_iald dX11_readPart_16 (mo_k15 hm) (by omega) (by (repeat (first | rewrite [od_upn (by omega)] | rewrite [od_up_at, if_pos (by omega)] | rewrite [od_up_at, if_neg (by omega)])); rfl) ?_
    rw [e1]
    refine r_istore_n dX11_readPart_17 (by decide) rfl ?_
    refine r_iload_n dX11_readPart_18 rfl ?_
    refine r_bipush dX11_readPart_19 lb_91 ?_
    refine r_callS1i dX11_readPart_21 csX11_222 (c_X11_sign _ (by omega)) (by omega) (Nat.le_of_ble_eq_true rfl) od_le.rf ?_
    refine r_icmp_ne (tgt := 74) dX11_readPart_24 rfl (fun c24 => ?_) (fun c24 => ?_)
    · refine r_iload_n dX11_readPart_74 rfl ?_
      refine r_bipush dX11_readPart_75 lb_50 ?_
      refine r_icmp_ne (tgt := 95) dX11_readPart_77 rfl (fun c77 => ?_) (fun c77 => ?_)
      · refine r_iload_n dX11_readPart_95 rfl ?_
        refine r_aload_n dX11_readPart_96 rfl ?_
        refine r_getIj (j := 8) rfl dX11_readPart_97 fkX11_232 gf11_8 (mo_o hm) (by (repeat (first | rewrite [od_upn (by omega)] | rewrite [od_up_at, if_pos (by omega)] | rewrite [od_up_at, if_neg (by omega)])); rfl) ?_
        rw [f8]
        refine r_icmp_lt (tgt := 143) dX11_readPart_100 rfl (fun c100 => ?_) (fun c100 => ?_)
        · have qf := hs.flt hk
          refine r_aload_n dX11_readPart_143 rfl ?_
          refine r_callV0v dX11_readPart_144 cvX11_183 (mo_o hm) (c_X11_faults hm (by have := hs.1; omega)) (by omega) (Nat.le_of_ble_eq_true rfl) od_le.rf ?_
          refine r_vretq dX11_readPart_147 rfl rfl ⟨rfl, ?_⟩
          rw [pPart_flt (fun z => by omega) (fun _ => Or.inr (fun z => by
            rcases z with z | z
            · omega
            · rw [pWb_f] at z; omega))]
          exact ⟨qf.2, qf.1, by rw [pF_1]; omega⟩
        · refine r_iload_n dX11_readPart_103 rfl ?_
          refine r_aload_n dX11_readPart_104 rfl ?_
          refine r_getIj (j := 9) rfl dX11_readPart_105 fkX11_235 gf11_9 (mo_o hm) (by (repeat (first | rewrite [od_upn (by omega)] | rewrite [od_up_at, if_pos (by omega)] | rewrite [od_up_at, if_neg (by omega)])); rfl) ?_
          rw [f9]
          refine r_icmp_gt (tgt := 143) dX11_readPart_108 rfl (fun c108 => ?_) (fun c108 => ?_)
          · have qf := hs.flt hk
            refine r_aload_n dX11_readPart_143 rfl ?_
            refine r_callV0v dX11_readPart_144 cvX11_183 (mo_o hm) (c_X11_faults hm (by have := hs.1; omega)) (by omega) (Nat.le_of_ble_eq_true rfl) od_le.rf ?_
            refine r_vretq dX11_readPart_147 rfl rfl ⟨rfl, ?_⟩
            rw [pPart_flt (fun z => by omega) (fun _ => Or.inr (fun z => by
              rcases z with z | z
              · omega
              · rw [pWb_f] at z; omega))]
            exact ⟨qf.2, qf.1, by rw [pF_1]; omega⟩
          · have hcond : (c s.1 = 50 ∧ v s.1 ≤ 1000) ∨ pWb false (c s.1) = true := by first | exact Or.inl ⟨by assumption, by assumption⟩ | exact Or.inr ((pWb_f _).mpr (by omega))
            refine r_aload_n dX11_readPart_111 rfl ?_
            refine r_callV0p dX11_readPart_112 cvX11_238 (mo_o hm) (c_X11_leaf hm hk hs hb (by omega)) (by omega) (Nat.le_of_ble_eq_true rfl) od_le.rf (fun r112 g112 h112 => ?_)
            obtain ⟨rfl, hq112⟩ := h112
            show od_Rq _ _ _ _ _ _ _ [] _ _
            have hk112 := hk.xt hq112.1
            have f10x : g112 M 10 = 1 := (hq112.1 M 10 (by unfold XT; omega)).trans f10
            refine r_aload_n dX11_readPart_115 rfl ?_
            refine r_getIj (j := 10) rfl dX11_readPart_116 fkX11_206 gf11_10 (mo_o hm) (by (repeat (first | rewrite [od_upn (by omega)] | rewrite [od_up_at, if_pos (by omega)] | rewrite [od_up_at, if_neg (by omega)])); rfl) ?_
            rw [f10x]
            refine r_if_eq (tgt := 147) dX11_readPart_119 rfl (fun h => absurd h (by decide)) (fun _ => ?_)
            refine r_iload_n dX11_readPart_122 rfl ?_
            refine r_bipush dX11_readPart_123 lb_13 ?_
            refine r_icmp_eq (tgt := 134) dX11_readPart_125 rfl (fun c125 => ?_) (fun c125 => ?_)
            · have hof : pOf false (c s.1) = true := by simp [pOf]; omega
              refine r_aload_n dX11_readPart_134 rfl ?_
              refine r_iconst dX11_readPart_135 li_0 ?_
              refine r_iconst dX11_readPart_136 li_5 ?_
              refine r_callV2p dX11_readPart_137 cvX11_202 (mo_o hm) (c_X11_mustNumber hm hk112 hq112.2.1 0 5) (by omega) (Nat.le_of_ble_eq_true rfl) od_le.rf (fun r137 g137 h137 => ?_)
              obtain ⟨rfl, h137⟩ := h137
              show od_Rq _ _ _ _ _ _ _ [] _ _
              unfold pLf at h137
              refine r_goto (tgt := 147) dX11_readPart_140 rfl ?_
              refine r_vretq dX11_readPart_147 rfl rfl ⟨rfl, ?_⟩
              rw [pPart_leaf hb (by omega) hcond]
              unfold pLeaf
              unfold pLf at hq112 
              by_cases h50 : 50 ≤ s.2.1
              · rw [if_pos h50] at hq112 ⊢
                first
                | exact hq112
                | (rw [if_pos h50] at h137
                   have nb : (pF pl s).2.2 ≠ -1 := pF_nb (hk.2.2.2.2 _)
                   have eM : pMn c v pl 0 5 (pF pl s) = pF pl s := (if_neg (fun z => nb z.1)).trans (pF_bad nb)
                   rw [eM] at h137
                   exact hq112.tr h137)
              · rw [if_neg h50] at hq112 ⊢
                by_cases h5 : c s.1 = 50
                · rw [if_pos h5]
                  first
                  | exact hq112
                  | (exfalso; omega)
                · rw [if_neg h5]
                  first
                  | (rw [if_neg (by simp [pOf]; omega)]; exact hq112)
                  | (rw [if_pos hof]
                     rw [if_neg h50] at h137
                     exact hq112.tr h137)
            · refine r_iload_n dX11_readPart_128 rfl ?_
              refine r_bipush dX11_readPart_129 lb_19 ?_
              refine r_icmp_ne (tgt := 147) dX11_readPart_131 rfl (fun c131 => ?_) (fun c131 => ?_)
              · refine r_vretq dX11_readPart_147 rfl rfl ⟨rfl, ?_⟩
                rw [pPart_leaf hb (by omega) hcond]
                unfold pLeaf
                unfold pLf at hq112 
                by_cases h50 : 50 ≤ s.2.1
                · rw [if_pos h50] at hq112 ⊢
                  first
                  | exact hq112
                  | (rw [if_pos h50] at h137
                     have nb : (pF pl s).2.2 ≠ -1 := pF_nb (hk.2.2.2.2 _)
                     have eM : pMn c v pl 0 5 (pF pl s) = pF pl s := (if_neg (fun z => nb z.1)).trans (pF_bad nb)
                     rw [eM] at h137
                     exact hq112.tr h137)
                · rw [if_neg h50] at hq112 ⊢
                  by_cases h5 : c s.1 = 50
                  · rw [if_pos h5]
                    first
                    | exact hq112
                    | (exfalso; omega)
                  · rw [if_neg h5]
                    first
                    | (rw [if_neg (by simp [pOf]; omega)]; exact hq112)
                    | (rw [if_pos hof]
                       rw [if_neg h50] at h137
                       exact hq112.tr h137)
              · have hof : pOf false (c s.1) = true := by simp [pOf]; omega
                refine r_aload_n dX11_readPart_134 rfl ?_
                refine r_iconst dX11_readPart_135 li_0 ?_
                refine r_iconst dX11_readPart_136 li_5 ?_
                refine r_callV2p dX11_readPart_137 cvX11_202 (mo_o hm) (c_X11_mustNumber hm hk112 hq112.2.1 0 5) (by omega) (Nat.le_of_ble_eq_true rfl) od_le.rf (fun r137 g137 h137 => ?_)
                obtain ⟨rfl, h137⟩ := h137
                show od_Rq _ _ _ _ _ _ _ [] _ _
                unfold pLf at h137
                refine r_goto (tgt := 147) dX11_readPart_140 rfl ?_
                refine r_vretq dX11_readPart_147 rfl rfl ⟨rfl, ?_⟩
                rw [pPart_leaf hb (by omega) hcond]
                unfold pLeaf
                unfold pLf at hq112 
                by_cases h50 : 50 ≤ s.2.1
                · rw [if_pos h50] at hq112 ⊢
                  first
                  | exact hq112
                  | (rw [if_pos h50] at h137
                     have nb : (pF pl s).2.2 ≠ -1 := pF_nb (hk.2.2.2.2 _)
                     have eM : pMn c v pl 0 5 (pF pl s) = pF pl s := (if_neg (fun z => nb z.1)).trans (pF_bad nb)
                     rw [eM] at h137
                     exact hq112.tr h137)
                · rw [if_neg h50] at hq112 ⊢
                  by_cases h5 : c s.1 = 50
                  · rw [if_pos h5]
                    first
                    | exact hq112
                    | (exfalso; omega)
                  · rw [if_neg h5]
                    first
                    | (rw [if_neg (by simp [pOf]; omega)]; exact hq112)
                    | (rw [if_pos hof]
                       rw [if_neg h50] at h137
                       exact hq112.tr h137)
      · refine r_aload_n dX11_readPart_80 rfl ?_
        refine r_getR dX11_readPart_81 fkX11_57 gf11_16 (mo_o hm) (mo_r16 hm) ?_
        refine r_aload_n dX11_readPart_84 rfl ?_
        refine r_getIj (j := 19) rfl dX11_readPart_85 fkX11_177 gf11_19 (mo_o hm) (by (repeat (first | rewrite [od_upn (by omega)] | rewrite [od_up_at, if_pos (by omega)] | rewrite [od_up_at, if_neg (by omega)])); rfl) ?_
        refine r_iald dX11_readPart_88 (mo_k16 hm) (by omega) (by (repeat (first | rewrite [od_upn (by omega)] | rewrite [od_up_at, if_pos (by omega)] | rewrite [od_up_at, if_neg (by omega)])); rfl) ?_
        rw [e2]
        refine r_sipush dX11_readPart_89 ls_1000 ?_
        refine r_icmp_le (tgt := 111) dX11_readPart_92 rfl (fun c92 => ?_) (fun c92 => ?_)
        · have hcond : (c s.1 = 50 ∧ v s.1 ≤ 1000) ∨ pWb false (c s.1) = true := by first | exact Or.inl ⟨by assumption, by assumption⟩ | exact Or.inr ((pWb_f _).mpr (by omega))
          refine r_aload_n dX11_readPart_111 rfl ?_
          refine r_callV0p dX11_readPart_112 cvX11_238 (mo_o hm) (c_X11_leaf hm hk hs hb (by omega)) (by omega) (Nat.le_of_ble_eq_true rfl) od_le.rf (fun r112 g112 h112 => ?_)
          obtain ⟨rfl, hq112⟩ := h112
          show od_Rq _ _ _ _ _ _ _ [] _ _
          have hk112 := hk.xt hq112.1
          have f10x : g112 M 10 = 1 := (hq112.1 M 10 (by unfold XT; omega)).trans f10
          refine r_aload_n dX11_readPart_115 rfl ?_
          refine r_getIj (j := 10) rfl dX11_readPart_116 fkX11_206 gf11_10 (mo_o hm) (by (repeat (first | rewrite [od_upn (by omega)] | rewrite [od_up_at, if_pos (by omega)] | rewrite [od_up_at, if_neg (by omega)])); rfl) ?_
          rw [f10x]
          refine r_if_eq (tgt := 147) dX11_readPart_119 rfl (fun h => absurd h (by decide)) (fun _ => ?_)
          refine r_iload_n dX11_readPart_122 rfl ?_
          refine r_bipush dX11_readPart_123 lb_13 ?_
          refine r_icmp_eq (tgt := 134) dX11_readPart_125 rfl (fun c125 => ?_) (fun c125 => ?_)
          · have hof : pOf false (c s.1) = true := by simp [pOf]; omega
            refine r_aload_n dX11_readPart_134 rfl ?_
            refine r_iconst dX11_readPart_135 li_0 ?_
            refine r_iconst dX11_readPart_136 li_5 ?_
            refine r_callV2p dX11_readPart_137 cvX11_202 (mo_o hm) (c_X11_mustNumber hm hk112 hq112.2.1 0 5) (by omega) (Nat.le_of_ble_eq_true rfl) od_le.rf (fun r137 g137 h137 => ?_)
            obtain ⟨rfl, h137⟩ := h137
            show od_Rq _ _ _ _ _ _ _ [] _ _
            unfold pLf at h137
            refine r_goto (tgt := 147) dX11_readPart_140 rfl ?_
            refine r_vretq dX11_readPart_147 rfl rfl ⟨rfl, ?_⟩
            rw [pPart_leaf hb (by omega) hcond]
            unfold pLeaf
            unfold pLf at hq112 
            by_cases h50 : 50 ≤ s.2.1
            · rw [if_pos h50] at hq112 ⊢
              first
              | exact hq112
              | (rw [if_pos h50] at h137
                 have nb : (pF pl s).2.2 ≠ -1 := pF_nb (hk.2.2.2.2 _)
                 have eM : pMn c v pl 0 5 (pF pl s) = pF pl s := (if_neg (fun z => nb z.1)).trans (pF_bad nb)
                 rw [eM] at h137
                 exact hq112.tr h137)
            · rw [if_neg h50] at hq112 ⊢
              by_cases h5 : c s.1 = 50
              · rw [if_pos h5]
                first
                | exact hq112
                | (exfalso; omega)
              · rw [if_neg h5]
                first
                | (rw [if_neg (by simp [pOf]; omega)]; exact hq112)
                | (rw [if_pos hof]
                   rw [if_neg h50] at h137
                   exact hq112.tr h137)
          · refine r_iload_n dX11_readPart_128 rfl ?_
            refine r_bipush dX11_readPart_129 lb_19 ?_
            refine r_icmp_ne (tgt := 147) dX11_readPart_131 rfl (fun c131 => ?_) (fun c131 => ?_)
            · refine r_vretq dX11_readPart_147 rfl rfl ⟨rfl, ?_⟩
              rw [pPart_leaf hb (by omega) hcond]
              unfold pLeaf
              unfold pLf at hq112 
              by_cases h50 : 50 ≤ s.2.1
              · rw [if_pos h50] at hq112 ⊢
                first
                | exact hq112
                | (rw [if_pos h50] at h137
                   have nb : (pF pl s).2.2 ≠ -1 := pF_nb (hk.2.2.2.2 _)
                   have eM : pMn c v pl 0 5 (pF pl s) = pF pl s := (if_neg (fun z => nb z.1)).trans (pF_bad nb)
                   rw [eM] at h137
                   exact hq112.tr h137)
              · rw [if_neg h50] at hq112 ⊢
                by_cases h5 : c s.1 = 50
                · rw [if_pos h5]
                  first
                  | exact hq112
                  | (exfalso; omega)
                · rw [if_neg h5]
                  first
                  | (rw [if_neg (by simp [pOf]; omega)]; exact hq112)
                  | (rw [if_pos hof]
                     rw [if_neg h50] at h137
                     exact hq112.tr h137)
            · have hof : pOf false (c s.1) = true := by simp [pOf]; omega
              refine r_aload_n dX11_readPart_134 rfl ?_
              refine r_iconst dX11_readPart_135 li_0 ?_
              refine r_iconst dX11_readPart_136 li_5 ?_
              refine r_callV2p dX11_readPart_137 cvX11_202 (mo_o hm) (c_X11_mustNumber hm hk112 hq112.2.1 0 5) (by omega) (Nat.le_of_ble_eq_true rfl) od_le.rf (fun r137 g137 h137 => ?_)
              obtain ⟨rfl, h137⟩ := h137
              show od_Rq _ _ _ _ _ _ _ [] _ _
              unfold pLf at h137
              refine r_goto (tgt := 147) dX11_readPart_140 rfl ?_
              refine r_vretq dX11_readPart_147 rfl rfl ⟨rfl, ?_⟩
              rw [pPart_leaf hb (by omega) hcond]
              unfold pLeaf
              unfold pLf at hq112 
              by_cases h50 : 50 ≤ s.2.1
              · rw [if_pos h50] at hq112 ⊢
                first
                | exact hq112
                | (rw [if_pos h50] at h137
                   have nb : (pF pl s).2.2 ≠ -1 := pF_nb (hk.2.2.2.2 _)
                   have eM : pMn c v pl 0 5 (pF pl s) = pF pl s := (if_neg (fun z => nb z.1)).trans (pF_bad nb)
                   rw [eM] at h137
                   exact hq112.tr h137)
              · rw [if_neg h50] at hq112 ⊢
                by_cases h5 : c s.1 = 50
                · rw [if_pos h5]
                  first
                  | exact hq112
                  | (exfalso; omega)
                · rw [if_neg h5]
                  first
                  | (rw [if_neg (by simp [pOf]; omega)]; exact hq112)
                  | (rw [if_pos hof]
                     rw [if_neg h50] at h137
                     exact hq112.tr h137)
        · refine r_iload_n dX11_readPart_95 rfl ?_
          refine r_aload_n dX11_readPart_96 rfl ?_
          refine r_getIj (j := 8) rfl dX11_readPart_97 fkX11_232 gf11_8 (mo_o hm) (by (repeat (first | rewrite [od_upn (by omega)] | rewrite [od_up_at, if_pos (by omega)] | rewrite [od_up_at, if_neg (by omega)])); rfl) ?_
          rw [f8]
          refine r_icmp_lt (tgt := 143) dX11_readPart_100 rfl (fun c100 => ?_) (fun c100 => ?_)
          · have qf := hs.flt hk
            refine r_aload_n dX11_readPart_143 rfl ?_
            refine r_callV0v dX11_readPart_144 cvX11_183 (mo_o hm) (c_X11_faults hm (by have := hs.1; omega)) (by omega) (Nat.le_of_ble_eq_true rfl) od_le.rf ?_
            refine r_vretq dX11_readPart_147 rfl rfl ⟨rfl, ?_⟩
            rw [pPart_flt (fun z => by omega) (fun _ => Or.inr (fun z => by
              rcases z with z | z
              · omega
              · rw [pWb_f] at z; omega))]
            exact ⟨qf.2, qf.1, by rw [pF_1]; omega⟩
          · refine r_iload_n dX11_readPart_103 rfl ?_
            refine r_aload_n dX11_readPart_104 rfl ?_
            refine r_getIj (j := 9) rfl dX11_readPart_105 fkX11_235 gf11_9 (mo_o hm) (by (repeat (first | rewrite [od_upn (by omega)] | rewrite [od_up_at, if_pos (by omega)] | rewrite [od_up_at, if_neg (by omega)])); rfl) ?_
            rw [f9]
            refine r_icmp_gt (tgt := 143) dX11_readPart_108 rfl (fun c108 => ?_) (fun c108 => ?_)
            · have qf := hs.flt hk
              refine r_aload_n dX11_readPart_143 rfl ?_
              refine r_callV0v dX11_readPart_144 cvX11_183 (mo_o hm) (c_X11_faults hm (by have := hs.1; omega)) (by omega) (Nat.le_of_ble_eq_true rfl) od_le.rf ?_
              refine r_vretq dX11_readPart_147 rfl rfl ⟨rfl, ?_⟩
              rw [pPart_flt (fun z => by omega) (fun _ => Or.inr (fun z => by
                rcases z with z | z
                · omega
                · rw [pWb_f] at z; omega))]
              exact ⟨qf.2, qf.1, by rw [pF_1]; omega⟩
            · have hcond : (c s.1 = 50 ∧ v s.1 ≤ 1000) ∨ pWb false (c s.1) = true := by first | exact Or.inl ⟨by assumption, by assumption⟩ | exact Or.inr ((pWb_f _).mpr (by omega))
              refine r_aload_n dX11_readPart_111 rfl ?_
              refine r_callV0p dX11_readPart_112 cvX11_238 (mo_o hm) (c_X11_leaf hm hk hs hb (by omega)) (by omega) (Nat.le_of_ble_eq_true rfl) od_le.rf (fun r112 g112 h112 => ?_)
              obtain ⟨rfl, hq112⟩ := h112
              show od_Rq _ _ _ _ _ _ _ [] _ _
              have hk112 := hk.xt hq112.1
              have f10x : g112 M 10 = 1 := (hq112.1 M 10 (by unfold XT; omega)).trans f10
              refine r_aload_n dX11_readPart_115 rfl ?_
              refine r_getIj (j := 10) rfl dX11_readPart_116 fkX11_206 gf11_10 (mo_o hm) (by (repeat (first | rewrite [od_upn (by omega)] | rewrite [od_up_at, if_pos (by omega)] | rewrite [od_up_at, if_neg (by omega)])); rfl) ?_
              rw [f10x]
              refine r_if_eq (tgt := 147) dX11_readPart_119 rfl (fun h => absurd h (by decide)) (fun _ => ?_)
              refine r_iload_n dX11_readPart_122 rfl ?_
              refine r_bipush dX11_readPart_123 lb_13 ?_
              refine r_icmp_eq (tgt := 134) dX11_readPart_125 rfl (fun c125 => ?_) (fun c125 => ?_)
              · have hof : pOf false (c s.1) = true := by simp [pOf]; omega
                refine r_aload_n dX11_readPart_134 rfl ?_
                refine r_iconst dX11_readPart_135 li_0 ?_
                refine r_iconst dX11_readPart_136 li_5 ?_
                refine r_callV2p dX11_readPart_137 cvX11_202 (mo_o hm) (c_X11_mustNumber hm hk112 hq112.2.1 0 5) (by omega) (Nat.le_of_ble_eq_true rfl) od_le.rf (fun r137 g137 h137 => ?_)
                obtain ⟨rfl, h137⟩ := h137
                show od_Rq _ _ _ _ _ _ _ [] _ _
                unfold pLf at h137
                refine r_goto (tgt := 147) dX11_readPart_140 rfl ?_
                refine r_vretq dX11_readPart_147 rfl rfl ⟨rfl, ?_⟩
                rw [pPart_leaf hb (by omega) hcond]
                unfold pLeaf
                unfold pLf at hq112 
                by_cases h50 : 50 ≤ s.2.1
                · rw [if_pos h50] at hq112 ⊢
                  first
                  | exact hq112
                  | (rw [if_pos h50] at h137
                     have nb : (pF pl s).2.2 ≠ -1 := pF_nb (hk.2.2.2.2 _)
                     have eM : pMn c v pl 0 5 (pF pl s) = pF pl s := (if_neg (fun z => nb z.1)).trans (pF_bad nb)
                     rw [eM] at h137
                     exact hq112.tr h137)
                · rw [if_neg h50] at hq112 ⊢
                  by_cases h5 : c s.1 = 50
                  · rw [if_pos h5]
                    first
                    | exact hq112
                    | (exfalso; omega)
                  · rw [if_neg h5]
                    first
                    | (rw [if_neg (by simp [pOf]; omega)]; exact hq112)
                    | (rw [if_pos hof]
                       rw [if_neg h50] at h137
                       exact hq112.tr h137)
              · refine r_iload_n dX11_readPart_128 rfl ?_
                refine r_bipush dX11_readPart_129 lb_19 ?_
                refine r_icmp_ne (tgt := 147) dX11_readPart_131 rfl (fun c131 => ?_) (fun c131 => ?_)
                · refine r_vretq dX11_readPart_147 rfl rfl ⟨rfl, ?_⟩
                  rw [pPart_leaf hb (by omega) hcond]
                  unfold pLeaf
                  unfold pLf at hq112 
                  by_cases h50 : 50 ≤ s.2.1
                  · rw [if_pos h50] at hq112 ⊢
                    first
                    | exact hq112
                    | (rw [if_pos h50] at h137
                       have nb : (pF pl s).2.2 ≠ -1 := pF_nb (hk.2.2.2.2 _)
                       have eM : pMn c v pl 0 5 (pF pl s) = pF pl s := (if_neg (fun z => nb z.1)).trans (pF_bad nb)
                       rw [eM] at h137
                       exact hq112.tr h137)
                  · rw [if_neg h50] at hq112 ⊢
                    by_cases h5 : c s.1 = 50
                    · rw [if_pos h5]
                      first
                      | exact hq112
                      | (exfalso; omega)
                    · rw [if_neg h5]
                      first
                      | (rw [if_neg (by simp [pOf]; omega)]; exact hq112)
                      | (rw [if_pos hof]
                         rw [if_neg h50] at h137
                         exact hq112.tr h137)
                · have hof : pOf false (c s.1) = true := by simp [pOf]; omega
                  refine r_aload_n dX11_readPart_134 rfl ?_
                  refine r_iconst dX11_readPart_135 li_0 ?_
                  refine r_iconst dX11_readPart_136 li_5 ?_
                  refine r_callV2p dX11_readPart_137 cvX11_202 (mo_o hm) (c_X11_mustNumber hm hk112 hq112.2.1 0 5) (by omega) (Nat.le_of_ble_eq_true rfl) od_le.rf (fun r137 g137 h137 => ?_)
                  obtain ⟨rfl, h137⟩ := h137
                  show od_Rq _ _ _ _ _ _ _ [] _ _
                  unfold pLf at h137
                  refine r_goto (tgt := 147) dX11_readPart_140 rfl ?_
                  refine r_vretq dX11_readPart_147 rfl rfl ⟨rfl, ?_⟩
                  rw [pPart_leaf hb (by omega) hcond]
                  unfold pLeaf
                  unfold pLf at hq112 
                  by_cases h50 : 50 ≤ s.2.1
                  · rw [if_pos h50] at hq112 ⊢
                    first
                    | exact hq112
                    | (rw [if_pos h50] at h137
                       have nb : (pF pl s).2.2 ≠ -1 := pF_nb (hk.2.2.2.2 _)
                       have eM : pMn c v pl 0 5 (pF pl s) = pF pl s := (if_neg (fun z => nb z.1)).trans (pF_bad nb)
                       rw [eM] at h137
                       exact hq112.tr h137)
                  · rw [if_neg h50] at hq112 ⊢
                    by_cases h5 : c s.1 = 50
                    · rw [if_pos h5]
                      first
                      | exact hq112
                      | (exfalso; omega)
                    · rw [if_neg h5]
                      first
                      | (rw [if_neg (by simp [pOf]; omega)]; exact hq112)
                      | (rw [if_pos hof]
                         rw [if_neg h50] at h137
                         exact hq112.tr h137)
    · refine r_iload_n dX11_readPart_27 rfl ?_
      refine r_bipush dX11_readPart_28 lb_8 ?_
      refine r_icmp_ne (tgt := 37) dX11_readPart_30 rfl (fun c30 => ?_) (fun c30 => ?_)
      · obtain ⟨L1, hL1⟩ : ∃ L1 : Nat, L = L1 + 1 := ⟨L - 1, by omega⟩
        subst hL1
        refine r_aload_n dX11_readPart_37 rfl ?_
        refine r_callV0i dX11_readPart_38 cvX11_173 (mo_o hm) (c_X11_fineT hm hq.2.2.2.2) (by omega) (Nat.le_of_ble_eq_true rfl) od_le.rf ?_
        refine r_if_ne (tgt := 45) dX11_readPart_41 rfl (fun _ => ?_) (fun h => absurd h (by decide))
        refine r_aload_n dX11_readPart_45 rfl ?_
        refine r_dup dX11_readPart_46 (by first | exact od_ne2 | exact od_ne0) ?_
        refine r_getIj (j := 19) rfl dX11_readPart_47 fkX11_177 gf11_19 (mo_o hm) (by (repeat (first | rewrite [od_upn (by omega)] | rewrite [od_up_at, if_pos (by omega)] | rewrite [od_up_at, if_neg (by omega)])); rfl) ?_
        refine r_iconst dX11_readPart_50 li_1 ?_
        refine r_iaddE dX11_readPart_51 (by first | exact od_w0 (by omega) (by omega) | exact od_wI (by omega) (by omega) | rfl) ?_
        refine r_putIj (j := 19) rfl dX11_readPart_52 fkX11_177 gf11_19 pf11_19 (mo_o hm) ?_
        have f1 : od_fr (XT M) g (od_up g M 19 (g M 19 + 1)) := od_fr.rf.up (by unfold XT; omega)
        have hs1 := hs.nx hk hb (by omega)
        have hk1 := hk.xt f1
        have hf1 := hf0.xt f1
        refine r_aload_n dX11_readPart_55 rfl ?_
        refine r_iload_n dX11_readPart_56 rfl ?_
        refine r_iconst dX11_readPart_57 li_1 ?_
        refine r_iaddE dX11_readPart_58 (by first | exact od_w0 (by omega) (by omega) | exact od_wI (by omega) (by omega) | rfl) ?_
        rw [show (8 - ((L1 + 1 : Nat) : Int)) + 1 = 8 - (L1 : Int) by omega]
        refine r_callV1p dX11_readPart_59 cvX11_189 (mo_o hm) (hS L1 rfl _ (pNx s) hk1 hs1 hf1) (by omega) (Nat.le_of_ble_eq_true rfl) od_le.rf (fun r59 g59 h59 => ?_)
        obtain ⟨rfl, hq59⟩ := h59
        show od_Rq _ _ _ _ _ _ _ [] _ _
        have hk59 := hk1.xt hq59.1
        refine r_aload_n dX11_readPart_62 rfl ?_
        refine r_bipush dX11_readPart_63 lb_93 ?_
        refine r_callS1i dX11_readPart_65 csX11_222 (c_X11_sign _ (by omega)) (by omega) (Nat.le_of_ble_eq_true rfl) od_le.rf ?_
        refine r_callV1p dX11_readPart_68 cvX11_193 (mo_o hm) (c_X11_must hm hk59 hq59.2.1 _ (by omega)) (by omega) (Nat.le_of_ble_eq_true rfl) od_le.rf (fun r68 g68 h68 => ?_)
        obtain ⟨rfl, h68⟩ := h68
        show od_Rq _ _ _ _ _ _ _ [] _ _
        refine r_goto (tgt := 147) dX11_readPart_71 rfl ?_
        refine r_vretq dX11_readPart_147 rfl rfl ⟨rfl, ?_⟩
        show MdQ _ _ _ _ _ (pPart c v pl false (some (pSumL c v pl false L1)) s).1
        rw [pPart_S hb (by omega)]
        exact ⟨(f1.tr hq59.1).tr h68.1, h68.2.1, Int.le_trans (by have := hq59.2.2; have bx : (pNx s).1 = s.1 + 1 := rfl; omega) h68.2.2⟩
      · refine r_aload_n dX11_readPart_33 rfl ?_
        refine r_callV0v dX11_readPart_34 cvX11_183 (mo_o hm) (c_X11_faults hm (by have := hs.1; omega)) (by omega) (Nat.le_of_ble_eq_true rfl) od_le.rf ?_
        have qf := hs.flt hk
        have nb : (pF pl s).2.2 ≠ -1 := pF_nb (hk.2.2.2.2 _)
        refine r_aload_n dX11_readPart_37 rfl ?_
        refine r_callV0i dX11_readPart_38 cvX11_173 (mo_o hm) (c_X11_fineF hm (by rw [qf.1.bad]; exact nb)) (by omega) (Nat.le_of_ble_eq_true rfl) od_le.rf ?_
        refine r_if_ne (tgt := 45) dX11_readPart_41 rfl (fun h => absurd h (by decide)) (fun _ => ?_)
        have hL0 : L = 0 := by omega
        subst hL0
        refine r_vretq dX11_readPart_44 rfl rfl ⟨rfl, ?_⟩
        show MdQ _ _ _ _ _ (pPart c v pl false none s).1
        rw [pPart_0 hb (by omega)]
        exact ⟨qf.2, qf.1, by rw [pF_1]; omega⟩
  · refine r_if_ne (tgt := 8) dX11_readPart_4 rfl (fun h => absurd h (by decide)) (fun _ => ?_)
    refine r_vretq dX11_readPart_7 rfl rfl ⟨rfl, ?_⟩
    have hnb : s.2.2 ≠ -1 := by have := hs.bad; unfold mFine at q1; omega
    rw [pPart_bad hnb]
    exact MdQ.rf hs
theorem c_X11_readPart {E : od_E} {M : Int} (hm : MoAt E M) {c v pl : Int → Int} {N : Int} {lw : Bool} {L : Nat} (hL : L ≤ 8) (hS : ∀ L1 : Nat, L = L1 + 1 → MSum E M c v pl N lw L1) : MPrt E M c v pl N lw L := fun g s hk hs hf => by
  cases lw with
  | true => exact c_X11_readPart_t hm hk hs hf hL hS
  | false => exact c_X11_readPart_f hm hk hs hf hL hS
set_option maxRecDepth 10000 in
theorem lp_X11_readTerm {E : od_E} {g : od_G} {M : Int} (hm : MoAt E M) {c v pl : Int → Int} {N : Int} (hk : TkOk g M c v pl N) {s : pS} (hs : MSt g M N s) {lw : Bool} (hf : MFl g M lw) {L : Nat} (hI : MPrt E M c v pl N lw L) : ∀ (m : Nat) (gw : od_G) (f : Nat) (r : pR), (pLoop c pOt (pPart c v pl lw (pSub c v pl lw L)) f r = pTerm c v pl lw (pSub c v pl lw L) s ∧ (r.1.2.2 = -1 → N - r.1.1 ≤ f) ∧ MdQ g gw M N s r.1 ∧ TkOk gw M c v pl N ∧ MFl gw M lw) → ((N - r.1.1).toNat) < m → od_Rq (6 + 3 * L) mX11_readTerm od_Z0 E (E, fun w g' => w = none ∧ MdQ g g' M N s (pTerm c v pl lw (pSub c v pl lw L) s).1) 5 [some (2, M), some (0, 8 - (L : Int))] [] E gw := by
  intro m
  induction m with
  | zero => intro gw f r hi hM; exact absurd hM (Nat.not_lt_zero _)
  | succ m ih =>
    intro gw f r hi hM
    obtain ⟨hF, hfu, hq, hkw, hfw⟩ := hi
    have hN := hk.2.1
    refine r_aload_n dX11_readTerm_5 rfl ?_
    refine r_bipush dX11_readTerm_6 lb_42 ?_
    refine r_callS1i dX11_readTerm_8 csX11_222 (c_X11_sign _ (by omega)) (by omega) (Nat.le_of_ble_eq_true rfl) od_le.rf ?_
    refine r_callV1p dX11_readTerm_11 cvX11_180 (mo_o hm) (c_X11_takesS hm hkw hq.2.1 _ (by omega)) (by omega) (Nat.le_of_ble_eq_true rfl) od_le.rf (fun r11 g11 h11 => ?_)
    rcases h11 with ⟨rfl, h11⟩ | ⟨rfl, h11⟩
    · show od_Rq _ _ _ _ _ _ _ ((0, 1) :: _) _ _
      skip
      refine r_if_ne (tgt := 41) dX11_readTerm_14 rfl (fun _ => ?_) (fun h => absurd h (by decide))
      have hop : r.1.2.2 = -1 ∧ pOt (c r.1.1) ≠ -1 := by
        refine ⟨h11.1.1, ?_⟩
        rw [h11.1.2]
        decide
      have hlt := hkw.lt (i := r.1.1) (by have := h11.1.2; omega)
      obtain ⟨f0, hf0⟩ : ∃ f0 : Nat, f = f0 + 1 := ⟨f - 1, by have := hfu hop.1; omega⟩
      refine r_aload_n dX11_readTerm_41 rfl ?_
      refine r_iload_n dX11_readTerm_42 rfl ?_
      refine r_callV1p dX11_readTerm_43 cvX11_229 (mo_o hm) (hI _ (pNx r.1) (hkw.xt h11.2.1) h11.2.2 (hfw.xt h11.2.1)) (by omega) (Nat.le_of_ble_eq_true rfl) od_le.rf (fun r43 g43 h43 => ?_)
      obtain ⟨rfl, hqc⟩ := h43
      show od_Rq _ _ _ _ _ _ _ [] _ _
      refine r_goto (tgt := 5) dX11_readTerm_46 rfl ?_
      exact ih _ f0 ((pPart c v pl lw (pSub c v pl lw L) (pNx r.1)).1, pBin (pOt (c r.1.1)) r.2 (pPart c v pl lw (pSub c v pl lw L) (pNx r.1)).2) ⟨by rw [← hF, hf0, pLoop_s hop], fun hb2 => by have z := hqc.2.2; have bx : (pNx r.1).1 = r.1.1 + 1 := rfl; have z2 : (pPart c v pl lw (pSub c v pl lw L) (pNx r.1)).1.2.2 = -1 := hb2; show N - (pPart c v pl lw (pSub c v pl lw L) (pNx r.1)).1.1 ≤ _; omega, ⟨(hq.1.tr h11.2.1).tr hqc.1, hqc.2.1, by have z := hqc.2.2; have bx : (pNx r.1).1 = r.1.1 + 1 := rfl; show s.1 ≤ (pPart c v pl lw (pSub c v pl lw L) (pNx r.1)).1.1; have := hq.2.2; omega⟩, hk.xt ((hq.1.tr h11.2.1).tr hqc.1), hf.xt ((hq.1.tr h11.2.1).tr hqc.1)⟩ (by have z := hqc.2.2; have bx : (pNx r.1).1 = r.1.1 + 1 := rfl; show (N - (pPart c v pl lw (pSub c v pl lw L) (pNx r.1)).1.1).toNat < m; omega)
    · show od_Rq _ _ _ _ _ _ _ ((0, 0) :: _) _ _
      skip
      refine r_if_ne (tgt := 41) dX11_readTerm_14 rfl (fun h => absurd h (by decide)) (fun _ => ?_)
      obtain ⟨n11, rfl⟩ := h11
      refine r_aload_n dX11_readTerm_17 rfl ?_
      refine r_bipush dX11_readTerm_18 lb_47 ?_
      refine r_callS1i dX11_readTerm_20 csX11_222 (c_X11_sign _ (by omega)) (by omega) (Nat.le_of_ble_eq_true rfl) od_le.rf ?_
      refine r_callV1p dX11_readTerm_23 cvX11_180 (mo_o hm) (c_X11_takesS hm hkw hq.2.1 _ (by omega)) (by omega) (Nat.le_of_ble_eq_true rfl) od_le.rf (fun r23 g23 h23 => ?_)
      rcases h23 with ⟨rfl, h23⟩ | ⟨rfl, h23⟩
      · show od_Rq _ _ _ _ _ _ _ ((0, 1) :: _) _ _
        skip
        refine r_if_ne (tgt := 41) dX11_readTerm_26 rfl (fun _ => ?_) (fun h => absurd h (by decide))
        have hop : r.1.2.2 = -1 ∧ pOt (c r.1.1) ≠ -1 := by
          refine ⟨h23.1.1, ?_⟩
          rw [h23.1.2]
          decide
        have hlt := hkw.lt (i := r.1.1) (by have := h23.1.2; omega)
        obtain ⟨f0, hf0⟩ : ∃ f0 : Nat, f = f0 + 1 := ⟨f - 1, by have := hfu hop.1; omega⟩
        refine r_aload_n dX11_readTerm_41 rfl ?_
        refine r_iload_n dX11_readTerm_42 rfl ?_
        refine r_callV1p dX11_readTerm_43 cvX11_229 (mo_o hm) (hI _ (pNx r.1) (hkw.xt h23.2.1) h23.2.2 (hfw.xt h23.2.1)) (by omega) (Nat.le_of_ble_eq_true rfl) od_le.rf (fun r43 g43 h43 => ?_)
        obtain ⟨rfl, hqc⟩ := h43
        show od_Rq _ _ _ _ _ _ _ [] _ _
        refine r_goto (tgt := 5) dX11_readTerm_46 rfl ?_
        exact ih _ f0 ((pPart c v pl lw (pSub c v pl lw L) (pNx r.1)).1, pBin (pOt (c r.1.1)) r.2 (pPart c v pl lw (pSub c v pl lw L) (pNx r.1)).2) ⟨by rw [← hF, hf0, pLoop_s hop], fun hb2 => by have z := hqc.2.2; have bx : (pNx r.1).1 = r.1.1 + 1 := rfl; have z2 : (pPart c v pl lw (pSub c v pl lw L) (pNx r.1)).1.2.2 = -1 := hb2; show N - (pPart c v pl lw (pSub c v pl lw L) (pNx r.1)).1.1 ≤ _; omega, ⟨(hq.1.tr h23.2.1).tr hqc.1, hqc.2.1, by have z := hqc.2.2; have bx : (pNx r.1).1 = r.1.1 + 1 := rfl; show s.1 ≤ (pPart c v pl lw (pSub c v pl lw L) (pNx r.1)).1.1; have := hq.2.2; omega⟩, hk.xt ((hq.1.tr h23.2.1).tr hqc.1), hf.xt ((hq.1.tr h23.2.1).tr hqc.1)⟩ (by have z := hqc.2.2; have bx : (pNx r.1).1 = r.1.1 + 1 := rfl; show (N - (pPart c v pl lw (pSub c v pl lw L) (pNx r.1)).1.1).toNat < m; omega)
      · show od_Rq _ _ _ _ _ _ _ ((0, 0) :: _) _ _
        skip
        refine r_if_ne (tgt := 41) dX11_readTerm_26 rfl (fun h => absurd h (by decide)) (fun _ => ?_)
        obtain ⟨n23, rfl⟩ := h23
        refine r_aload_n dX11_readTerm_29 rfl ?_
        refine r_bipush dX11_readTerm_30 lb_37 ?_
        refine r_callS1i dX11_readTerm_32 csX11_222 (c_X11_sign _ (by omega)) (by omega) (Nat.le_of_ble_eq_true rfl) od_le.rf ?_
        refine r_callV1p dX11_readTerm_35 cvX11_180 (mo_o hm) (c_X11_takesS hm hkw hq.2.1 _ (by omega)) (by omega) (Nat.le_of_ble_eq_true rfl) od_le.rf (fun r35 g35 h35 => ?_)
        rcases h35 with ⟨rfl, h35⟩ | ⟨rfl, h35⟩
        · show od_Rq _ _ _ _ _ _ _ ((0, 1) :: _) _ _
          skip
          refine r_if_eq (tgt := 49) dX11_readTerm_38 rfl (fun h => absurd h (by decide)) (fun _ => ?_)
          have hop : r.1.2.2 = -1 ∧ pOt (c r.1.1) ≠ -1 := by
            refine ⟨h35.1.1, ?_⟩
            rw [h35.1.2]
            decide
          have hlt := hkw.lt (i := r.1.1) (by have := h35.1.2; omega)
          obtain ⟨f0, hf0⟩ : ∃ f0 : Nat, f = f0 + 1 := ⟨f - 1, by have := hfu hop.1; omega⟩
          refine r_aload_n dX11_readTerm_41 rfl ?_
          refine r_iload_n dX11_readTerm_42 rfl ?_
          refine r_callV1p dX11_readTerm_43 cvX11_229 (mo_o hm) (hI _ (pNx r.1) (hkw.xt h35.2.1) h35.2.2 (hfw.xt h35.2.1)) (by omega) (Nat.le_of_ble_eq_true rfl) od_le.rf (fun r43 g43 h43 => ?_)
          obtain ⟨rfl, hqc⟩ := h43
          show od_Rq _ _ _ _ _ _ _ [] _ _
          refine r_goto (tgt := 5) dX11_readTerm_46 rfl ?_
          exact ih _ f0 ((pPart c v pl lw (pSub c v pl lw L) (pNx r.1)).1, pBin (pOt (c r.1.1)) r.2 (pPart c v pl lw (pSub c v pl lw L) (pNx r.1)).2) ⟨by rw [← hF, hf0, pLoop_s hop], fun hb2 => by have z := hqc.2.2; have bx : (pNx r.1).1 = r.1.1 + 1 := rfl; have z2 : (pPart c v pl lw (pSub c v pl lw L) (pNx r.1)).1.2.2 = -1 := hb2; show N - (pPart c v pl lw (pSub c v pl lw L) (pNx r.1)).1.1 ≤ _; omega, ⟨(hq.1.tr h35.2.1).tr hqc.1, hqc.2.1, by have z := hqc.2.2; have bx : (pNx r.1).1 = r.1.1 + 1 := rfl; show s.1 ≤ (pPart c v pl lw (pSub c v pl lw L) (pNx r.1)).1.1; have := hq.2.2; omega⟩, hk.xt ((hq.1.tr h35.2.1).tr hqc.1), hf.xt ((hq.1.tr h35.2.1).tr hqc.1)⟩ (by have z := hqc.2.2; have bx : (pNx r.1).1 = r.1.1 + 1 := rfl; show (N - (pPart c v pl lw (pSub c v pl lw L) (pNx r.1)).1.1).toNat < m; omega)
        · show od_Rq _ _ _ _ _ _ _ ((0, 0) :: _) _ _
          skip
          refine r_if_eq (tgt := 49) dX11_readTerm_38 rfl (fun _ => ?_) (fun h => absurd h (by decide))
          obtain ⟨n35, rfl⟩ := h35
          refine r_vretq dX11_readTerm_49 rfl rfl ⟨rfl, ?_⟩
          have hne : ¬ (r.1.2.2 = -1 ∧ pOt (c r.1.1) ≠ -1) := fun z => z.2 (by
            unfold pOt
            rw [if_neg (fun q => n11 ⟨z.1, by omega⟩), if_neg (fun q => n23 ⟨z.1, by omega⟩), if_neg (fun q => n35 ⟨z.1, by omega⟩)])
          rw [← hF, pLoop_e hne]
          exact hq
set_option maxRecDepth 10000 in
theorem c_X11_readTerm {E : od_E} {g : od_G} {M : Int} (hm : MoAt E M) {c v pl : Int → Int} {N : Int} (hk : TkOk g M c v pl N) {s : pS} (hs : MSt g M N s) {lw : Bool} (hf : MFl g M lw) {L : Nat} (hI : MPrt E M c v pl N lw L) : od_Cq (6 + 3 * L) mX11_readTerm [(2, M), (0, 8 - (L : Int))] E g (E, fun w g' => w = none ∧ MdQ g g' M N s (pTerm c v pl lw (pSub c v pl lw L) s).1) := by
  refine od_cqI pnX11 rfl (Nat.le_of_ble_eq_true rfl) od_le.rf ?_
  show od_Rq (6 + 3 * L) mX11_readTerm od_Z0 E (E, fun w g' => w = none ∧ MdQ g g' M N s (pTerm c v pl lw (pSub c v pl lw L) s).1) 0 [some (2, M), some (0, 8 - (L : Int))] [] E g
  refine r_aload_n dX11_readTerm_0 rfl ?_
  refine r_iload_n dX11_readTerm_1 rfl ?_
  refine r_callV1p dX11_readTerm_2 cvX11_229 (mo_o hm) (hI g s hk hs hf) (by omega) (Nat.le_of_ble_eq_true rfl) od_le.rf (fun r2 g2 h2 => ?_)
  obtain ⟨rfl, hq2⟩ := h2
  show od_Rq _ _ _ _ _ _ _ [] _ _
  exact lp_X11_readTerm hm hk hs hf hI _ _ 400 (pPart c v pl lw (pSub c v pl lw L) s) ⟨rfl, fun hb => by have z := (hq2.2.1.fine hb).1; have := hk.2.1; omega, hq2, hk.xt hq2.1, hf.xt hq2.1⟩ (Nat.lt_succ_self _)
set_option maxRecDepth 10000 in
theorem lp_X11_readSum {E : od_E} {g : od_G} {M : Int} (hm : MoAt E M) {c v pl : Int → Int} {N : Int} (hk : TkOk g M c v pl N) {s : pS} (hs : MSt g M N s) {lw : Bool} (hf : MFl g M lw) {L : Nat} (hI : MTrm E M c v pl N lw L) : ∀ (m : Nat) (gw : od_G) (f : Nat) (r : pR), (pLoop c pOs (pTerm c v pl lw (pSub c v pl lw L)) f r = pSum c v pl lw (pSub c v pl lw L) s ∧ (r.1.2.2 = -1 → N - r.1.1 ≤ f) ∧ MdQ g gw M N s r.1 ∧ TkOk gw M c v pl N ∧ MFl gw M lw) → ((N - r.1.1).toNat) < m → od_Rq (7 + 3 * L) mX11_readSum od_Z0 E (E, fun w g' => w = none ∧ MdQ g g' M N s (pSum c v pl lw (pSub c v pl lw L) s).1) 5 [some (2, M), some (0, 8 - (L : Int))] [] E gw := by
  intro m
  induction m with
  | zero => intro gw f r hi hM; exact absurd hM (Nat.not_lt_zero _)
  | succ m ih =>
    intro gw f r hi hM
    obtain ⟨hF, hfu, hq, hkw, hfw⟩ := hi
    have hN := hk.2.1
    refine r_aload_n dX11_readSum_5 rfl ?_
    refine r_bipush dX11_readSum_6 lb_43 ?_
    refine r_callS1i dX11_readSum_8 csX11_222 (c_X11_sign _ (by omega)) (by omega) (Nat.le_of_ble_eq_true rfl) od_le.rf ?_
    refine r_callV1p dX11_readSum_11 cvX11_180 (mo_o hm) (c_X11_takesS hm hkw hq.2.1 _ (by omega)) (by omega) (Nat.le_of_ble_eq_true rfl) od_le.rf (fun r11 g11 h11 => ?_)
    rcases h11 with ⟨rfl, h11⟩ | ⟨rfl, h11⟩
    · show od_Rq _ _ _ _ _ _ _ ((0, 1) :: _) _ _
      skip
      refine r_if_ne (tgt := 29) dX11_readSum_14 rfl (fun _ => ?_) (fun h => absurd h (by decide))
      have hop : r.1.2.2 = -1 ∧ pOs (c r.1.1) ≠ -1 := by
        refine ⟨h11.1.1, ?_⟩
        rw [h11.1.2]
        decide
      have hlt := hkw.lt (i := r.1.1) (by have := h11.1.2; omega)
      obtain ⟨f0, hf0⟩ : ∃ f0 : Nat, f = f0 + 1 := ⟨f - 1, by have := hfu hop.1; omega⟩
      refine r_aload_n dX11_readSum_29 rfl ?_
      refine r_iload_n dX11_readSum_30 rfl ?_
      refine r_callV1p dX11_readSum_31 cvX11_226 (mo_o hm) (hI _ (pNx r.1) (hkw.xt h11.2.1) h11.2.2 (hfw.xt h11.2.1)) (by omega) (Nat.le_of_ble_eq_true rfl) od_le.rf (fun r31 g31 h31 => ?_)
      obtain ⟨rfl, hqc⟩ := h31
      show od_Rq _ _ _ _ _ _ _ [] _ _
      refine r_goto (tgt := 5) dX11_readSum_34 rfl ?_
      exact ih _ f0 ((pTerm c v pl lw (pSub c v pl lw L) (pNx r.1)).1, pBin (pOs (c r.1.1)) r.2 (pTerm c v pl lw (pSub c v pl lw L) (pNx r.1)).2) ⟨by rw [← hF, hf0, pLoop_s hop], fun hb2 => by have z := hqc.2.2; have bx : (pNx r.1).1 = r.1.1 + 1 := rfl; have z2 : (pTerm c v pl lw (pSub c v pl lw L) (pNx r.1)).1.2.2 = -1 := hb2; show N - (pTerm c v pl lw (pSub c v pl lw L) (pNx r.1)).1.1 ≤ _; omega, ⟨(hq.1.tr h11.2.1).tr hqc.1, hqc.2.1, by have z := hqc.2.2; have bx : (pNx r.1).1 = r.1.1 + 1 := rfl; show s.1 ≤ (pTerm c v pl lw (pSub c v pl lw L) (pNx r.1)).1.1; have := hq.2.2; omega⟩, hk.xt ((hq.1.tr h11.2.1).tr hqc.1), hf.xt ((hq.1.tr h11.2.1).tr hqc.1)⟩ (by have z := hqc.2.2; have bx : (pNx r.1).1 = r.1.1 + 1 := rfl; show (N - (pTerm c v pl lw (pSub c v pl lw L) (pNx r.1)).1.1).toNat < m; omega)
    · show od_Rq _ _ _ _ _ _ _ ((0, 0) :: _) _ _
      skip
      refine r_if_ne (tgt := 29) dX11_readSum_14 rfl (fun h => absurd h (by decide)) (fun _ => ?_)
      obtain ⟨n11, rfl⟩ := h11
      refine r_aload_n dX11_readSum_17 rfl ?_
      refine r_bipush dX11_readSum_18 lb_45 ?_
      refine r_callS1i dX11_readSum_20 csX11_222 (c_X11_sign _ (by omega)) (by omega) (Nat.le_of_ble_eq_true rfl) od_le.rf ?_
      refine r_callV1p dX11_readSum_23 cvX11_180 (mo_o hm) (c_X11_takesS hm hkw hq.2.1 _ (by omega)) (by omega) (Nat.le_of_ble_eq_true rfl) od_le.rf (fun r23 g23 h23 => ?_)
      rcases h23 with ⟨rfl, h23⟩ | ⟨rfl, h23⟩
      · show od_Rq _ _ _ _ _ _ _ ((0, 1) :: _) _ _
        skip
        refine r_if_eq (tgt := 37) dX11_readSum_26 rfl (fun h => absurd h (by decide)) (fun _ => ?_)
        have hop : r.1.2.2 = -1 ∧ pOs (c r.1.1) ≠ -1 := by
          refine ⟨h23.1.1, ?_⟩
          rw [h23.1.2]
          decide
        have hlt := hkw.lt (i := r.1.1) (by have := h23.1.2; omega)
        obtain ⟨f0, hf0⟩ : ∃ f0 : Nat, f = f0 + 1 := ⟨f - 1, by have := hfu hop.1; omega⟩
        refine r_aload_n dX11_readSum_29 rfl ?_
        refine r_iload_n dX11_readSum_30 rfl ?_
        refine r_callV1p dX11_readSum_31 cvX11_226 (mo_o hm) (hI _ (pNx r.1) (hkw.xt h23.2.1) h23.2.2 (hfw.xt h23.2.1)) (by omega) (Nat.le_of_ble_eq_true rfl) od_le.rf (fun r31 g31 h31 => ?_)
        obtain ⟨rfl, hqc⟩ := h31
        show od_Rq _ _ _ _ _ _ _ [] _ _
        refine r_goto (tgt := 5) dX11_readSum_34 rfl ?_
        exact ih _ f0 ((pTerm c v pl lw (pSub c v pl lw L) (pNx r.1)).1, pBin (pOs (c r.1.1)) r.2 (pTerm c v pl lw (pSub c v pl lw L) (pNx r.1)).2) ⟨by rw [← hF, hf0, pLoop_s hop], fun hb2 => by have z := hqc.2.2; have bx : (pNx r.1).1 = r.1.1 + 1 := rfl; have z2 : (pTerm c v pl lw (pSub c v pl lw L) (pNx r.1)).1.2.2 = -1 := hb2; show N - (pTerm c v pl lw (pSub c v pl lw L) (pNx r.1)).1.1 ≤ _; omega, ⟨(hq.1.tr h23.2.1).tr hqc.1, hqc.2.1, by have z := hqc.2.2; have bx : (pNx r.1).1 = r.1.1 + 1 := rfl; show s.1 ≤ (pTerm c v pl lw (pSub c v pl lw L) (pNx r.1)).1.1; have := hq.2.2; omega⟩, hk.xt ((hq.1.tr h23.2.1).tr hqc.1), hf.xt ((hq.1.tr h23.2.1).tr hqc.1)⟩ (by have z := hqc.2.2; have bx : (pNx r.1).1 = r.1.1 + 1 := rfl; show (N - (pTerm c v pl lw (pSub c v pl lw L) (pNx r.1)).1.1).toNat < m; omega)
      · show od_Rq _ _ _ _ _ _ _ ((0, 0) :: _) _ _
        skip
        refine r_if_eq (tgt := 37) dX11_readSum_26 rfl (fun _ => ?_) (fun h => absurd h (by decide))
        obtain ⟨n23, rfl⟩ := h23
        refine r_vretq dX11_readSum_37 rfl rfl ⟨rfl, ?_⟩
        have hne : ¬ (r.1.2.2 = -1 ∧ pOs (c r.1.1) ≠ -1) := fun z => z.2 (by
          unfold pOs
          rw [if_neg (fun q => n11 ⟨z.1, by omega⟩), if_neg (fun q => n23 ⟨z.1, by omega⟩)])
        rw [← hF, pLoop_e hne]
        exact hq
set_option maxRecDepth 10000 in
theorem c_X11_readSum {E : od_E} {g : od_G} {M : Int} (hm : MoAt E M) {c v pl : Int → Int} {N : Int} (hk : TkOk g M c v pl N) {s : pS} (hs : MSt g M N s) {lw : Bool} (hf : MFl g M lw) {L : Nat} (hI : MTrm E M c v pl N lw L) : od_Cq (7 + 3 * L) mX11_readSum [(2, M), (0, 8 - (L : Int))] E g (E, fun w g' => w = none ∧ MdQ g g' M N s (pSum c v pl lw (pSub c v pl lw L) s).1) := by
  refine od_cqI pnX11 rfl (Nat.le_of_ble_eq_true rfl) od_le.rf ?_
  show od_Rq (7 + 3 * L) mX11_readSum od_Z0 E (E, fun w g' => w = none ∧ MdQ g g' M N s (pSum c v pl lw (pSub c v pl lw L) s).1) 0 [some (2, M), some (0, 8 - (L : Int))] [] E g
  refine r_aload_n dX11_readSum_0 rfl ?_
  refine r_iload_n dX11_readSum_1 rfl ?_
  refine r_callV1p dX11_readSum_2 cvX11_226 (mo_o hm) (hI g s hk hs hf) (by omega) (Nat.le_of_ble_eq_true rfl) od_le.rf (fun r2 g2 h2 => ?_)
  obtain ⟨rfl, hq2⟩ := h2
  show od_Rq _ _ _ _ _ _ _ [] _ _
  exact lp_X11_readSum hm hk hs hf hI _ _ 400 (pTerm c v pl lw (pSub c v pl lw L) s) ⟨rfl, fun hb => by have z := (hq2.2.1.fine hb).1; have := hk.2.1; omega, hq2, hk.xt hq2.1, hf.xt hq2.1⟩ (Nat.lt_succ_self _)
