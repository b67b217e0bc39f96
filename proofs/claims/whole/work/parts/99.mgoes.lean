/-! the reference: goesAlong, whole -/
theorem pCl_f (c v pl : Int → Int) (s : pS) : pCl c v pl false s = ((pIf c v pl false (pTi c v pl (pHdO c v pl s).1).1).1, (pHdO c v pl s).2.1, (pTi c v pl (pHdO c v pl s).1).2, (pHdO c v pl s).2.2.1, (pHdO c v pl s).2.2.2, (pIf c v pl false (pTi c v pl (pHdO c v pl s).1).1).2) := by
  unfold pCl
  rw [if_neg Bool.false_ne_true]
def SmQ (g : od_G) (M : Int) (q : pC) (w : Int → Int) : Prop := (g M 45 = 0 ∧ (q.2.2.1 w = none ∨ q.2.2.2.1 w = none)) ∨ (g M 45 = 1 ∧ ∃ x y : Int, q.2.2.1 w = some x ∧ q.2.2.2.1 w = some y ∧ (q.1 ≠ 3 → g (M + 22) 0 = x) ∧ (q.1 = 0 ∨ q.1 = 1 → g (M + 22) 1 = y))
def GaQ (g : od_G) (M : Int) (K : pS × pC) (lv : Int) (w : Int → Int) : Prop := g M 22 = 2400 + (K.1.1 + 1) ∧ g M 43 = K.2.2.1 ∧ g M 44 = mHc K.2.1 ∧ (lv = 1 → g M 46 = od_b (K.2.2.2.2.2 w = some 1) ∧ SmQ g M K.2 w)
theorem GaQ_0 {g : od_G} {M : Int} {K : pS × pC} {w w' : Int → Int} (h : GaQ g M K 0 w) : GaQ g M K 0 w' := ⟨h.1, h.2.1, h.2.2.1, fun z => absurd z (by decide)⟩
def TxH (g : od_G) (M N : Int) (c v : Int → Int) : Prop := (0 ≤ N ∧ N ≤ 400) ∧ (∀ i : Int, 0 ≤ i → i < N → g (M + 2) (56 + (2400 + i)) = c i ∧ g (M + 2) (2856 + (2400 + i)) = v i) ∧ (∀ i : Int, N ≤ i → c i = 0)
theorem EV_mk {g gw : od_G} {M N : Int} {c v w : Int → Int} (hT : TxH g M N c v) (hE : EnvO g M w) (h45 : 0 ≤ g (M + 2) 45 ∧ g (M + 2) 45 ≤ 6) (f : od_fr (GX M) g gw) (e23 : gw M 23 = 2400 + N) (e25 : gw M 25 = 1) : EV gw M 2400 N c v false w := by
  have e2 : gw (M + 2) = g (M + 2) := f.row (fun y => by unfold GX; omega)
  refine ⟨⟨e23, by omega, hT.1, fun i a1 b1 => by rw [e2]; exact hT.2.1 i a1 b1, hT.2.2, e25⟩, ?_, ?_⟩
  · intro k x a1 b1 c1
    have e : mOV gw M k x = mOV g M k x := by
      unfold mOV mDr mPins
      rw [e2, f M 27 (by unfold GX; omega), f M 28 (by unfold GX; omega), f M 29 (by unfold GX; omega)]
    rw [e]
    exact hE k x a1 b1 c1
  · rw [e2]; exact h45
theorem pTi_le (c v pl : Int → Int) (s : pS) : s.1 ≤ (pTi c v pl s).1.1 := by
  unfold pTi
  split
  · have z := pMn_le c v pl 1 20 (pNx s)
    have e : (pNx s).1 = s.1 + 1 := rfl
    show s.1 ≤ (pMn c v pl 1 20 (pNx s)).1
    omega
  · exact Int.le_refl _
theorem pIf_le (c v pl : Int → Int) (lw : Bool) (s : pS) : s.1 ≤ (pIf c v pl lw s).1.1 := by
  unfold pIf
  split
  · have z := pTestL_le (c := c) (v := v) (pl := pl) (lw := lw) 8 (pNx s)
    have e : (pNx s).1 = s.1 + 1 := rfl
    omega
  · exact Int.le_refl _
set_option maxRecDepth 10000 in
theorem sg_X11_gaM {E : od_E} {g : od_G} {Q : Option od_V → od_G → Prop} {M : Int} (hm : MoAt E M) {N : Int} {c v pl w : Int → Int} (hp : ∀ i : Int, 0 ≤ pl i) (hT : TxH g M N c v) (hE : EnvO g M w) (h45 : 0 ≤ g (M + 2) 45 ∧ g (M + 2) 45 ≤ 6) (s : pS) (h42 : g M 42 = 2400 + s.1) (hs0 : 0 ≤ s.1) (hf : (pCl c v pl false s).1.2.2 = -1) (hm4 : (pCl c v pl false s).1.1 ≤ 400) {lv en : Int} (hl : lv = 0 ∨ lv = 1) (hen : en = 2400 + N) (hq : ∀ g' : od_G, od_fr (GX M) g g' → GaQ g' M (pCl c v pl false s) lv w → Q none g') : od_Rq 48 mX11_goesAlong od_Z0 E (E, Q) 17 [some (2, M), some (0, en), some (0, lv), none, none] [] E g := by
  have hK := pCl_f c v pl s
  have ls := pCl_le c v pl false s
  have hIf : (pIf c v pl false (pTi c v pl (pHdO c v pl s).1).1).1.2.2 = -1 := by rw [hK] at hf; exact hf
  have hH := pHdO_in hp (pTi_in hp (pIf_in hIf).1).1
  refine r_aload_n dX11_goesAlong_17 rfl ?_
  refine r_iconst dX11_goesAlong_18 li_1 ?_
  refine r_putZj (j := 25) rfl dX11_goesAlong_19 fkX11_293 gf11_25 pf11_25 (by first | exact Or.inl rfl | exact Or.inr rfl | omega | assumption) (mo_o hm) ?_
  refine r_aload_n dX11_goesAlong_22 rfl ?_
  refine r_iload_n dX11_goesAlong_23 rfl ?_
  refine r_putIj (j := 23) rfl dX11_goesAlong_24 fkX11_260 gf11_23 pf11_23 (mo_o hm) ?_
  refine r_aload_n dX11_goesAlong_27 rfl ?_
  refine r_aload_n dX11_goesAlong_28 rfl ?_
  refine r_getIj (j := 42) rfl dX11_goesAlong_29 fkX11_431 gf11_42 (mo_o hm) (by (repeat (first | rewrite [od_up_at, if_pos (by omega)] | rewrite [od_up_at, if_neg (by omega)])); first | exact h42 | exact eA44 | rfl) ?_
  refine r_putIj (j := 22) rfl dX11_goesAlong_32 fkX11_263 gf11_22 pf11_22 (mo_o hm) ?_
  refine r_aload_n dX11_goesAlong_35 rfl ?_
  refine r_aload_n dX11_goesAlong_36 rfl ?_
  refine r_aload_n dX11_goesAlong_37 rfl ?_
  refine r_getIj (j := 22) rfl dX11_goesAlong_38 fkX11_263 gf11_22 (mo_o hm) (by (repeat (first | rewrite [od_up_at, if_pos (by omega)] | rewrite [od_up_at, if_neg (by omega)])); first | exact h42 | exact eA44 | rfl) ?_
  refine r_callV1i dX11_goesAlong_41 cvX11_266 (mo_o hm) (c_X11_codeAt hm (EV_mk hT hE h45 (((od_fr.rf.up (by unfold GX; omega)).up (by unfold GX; omega)).up (by unfold GX; omega)) (by rw [od_up_at, if_neg (by omega), od_up_i]; exact hen) (by rw [od_up_at, if_neg (by omega), od_up_at, if_neg (by omega), od_up_i])) s.1 hs0) (by decide) (Nat.le_of_ble_eq_true rfl) od_le.rf ?_
  refine r_putIj (j := 44) rfl dX11_goesAlong_44 fkX11_440 gf11_44 pf11_44 (mo_o hm) ?_
  refine r_aload_n dX11_goesAlong_47 rfl ?_
  refine r_dup dX11_goesAlong_48 (by first | exact od_ne2 | exact od_ne0) ?_
  refine r_getIj (j := 22) rfl dX11_goesAlong_49 fkX11_263 gf11_22 (mo_o hm) (by (repeat (first | rewrite [od_up_at, if_pos (by omega)] | rewrite [od_up_at, if_neg (by omega)])); first | exact h42 | exact eA44 | rfl) ?_
  refine r_iconst dX11_goesAlong_52 li_1 ?_
  refine r_iaddE dX11_goesAlong_53 (by first | exact od_w0 (by omega) (by omega) | exact od_wI (by omega) (by omega) | rfl) ?_
  refine r_putIj (j := 22) rfl dX11_goesAlong_54 fkX11_263 gf11_22 pf11_22 (mo_o hm) ?_
  refine r_aload_n dX11_goesAlong_57 rfl ?_
  refine r_iconst dX11_goesAlong_58 li_1 ?_
  refine r_putZj (j := 45) rfl dX11_goesAlong_59 fkX11_443 gf11_45 pf11_45 (by first | exact Or.inl rfl | exact Or.inr rfl | omega | assumption) (mo_o hm) ?_
  obtain ⟨gA, hgA⟩ : ∃ z, z = od_up (od_up (od_up (od_up (od_up (od_up g M 25 1) M 23 en) M 22 (2400 + s.1)) M 44 (c s.1)) M 22 (2400 + s.1 + 1)) M 45 1 := ⟨_, rfl⟩
  rw [← hgA]
  have fA : od_fr (GX M) g gA := by
    rw [hgA]
    exact (((((od_fr.rf.up (by unfold GX; omega)).up (by unfold GX; omega)).up (by unfold GX; omega)).up (by unfold GX; omega)).up (by unfold GX; omega)).up (by unfold GX; omega)
  have bx : (pNx s).1 = s.1 + 1 := rfl
  have eA22 : gA M 22 = 2400 + (pNx s).1 := by rw [hgA, od_up_at, if_neg (by omega), od_up_i]; omega
  have eA44 : gA M 44 = c s.1 := by rw [hgA, od_up_at, if_neg (by omega), od_up_at, if_neg (by omega), od_up_i]
  have eA45 : gA M 45 = 1 := by rw [hgA, od_up_i]
  have hvA : EV gA M 2400 N c v false w := EV_mk hT hE h45 fA (by rw [hgA, od_up_at, if_neg (by omega), od_up_at, if_neg (by omega), od_up_at, if_neg (by omega), od_up_at, if_neg (by omega), od_up_i]; exact hen) (by rw [hgA, od_up_at, if_neg (by omega), od_up_at, if_neg (by omega), od_up_at, if_neg (by omega), od_up_at, if_neg (by omega), od_up_at, if_neg (by omega), od_up_i])
  refine r_aload_n dX11_goesAlong_62 rfl ?_
  refine r_getIj (j := 44) rfl dX11_goesAlong_63 fkX11_440 gf11_44 (mo_o hm) (by (repeat (first | rewrite [od_up_at, if_pos (by omega)] | rewrite [od_up_at, if_neg (by omega)])); first | exact h42 | exact eA44 | rfl) ?_
  refine r_bipush dX11_goesAlong_66 lb_24 ?_
  refine r_icmp_ne (tgt := 75) dX11_goesAlong_68 rfl (fun c68 => ?_) (fun c68 => ?_)
  · refine r_aload_n dX11_goesAlong_75 rfl ?_
    refine r_getIj (j := 44) rfl dX11_goesAlong_76 fkX11_440 gf11_44 (mo_o hm) (by (repeat (first | rewrite [od_up_at, if_pos (by omega)] | rewrite [od_up_at, if_neg (by omega)])); first | exact h42 | exact eA44 | rfl) ?_
    refine r_bipush dX11_goesAlong_79 lb_23 ?_
    refine r_icmp_ne (tgt := 88) dX11_goesAlong_81 rfl (fun c81 => ?_) (fun c81 => ?_)
    · refine r_iconst dX11_goesAlong_88 li_2 ?_
      refine r_istore_n dX11_goesAlong_89 (by decide) rfl ?_
      refine r_iconst dX11_goesAlong_90 li_0 ?_
      refine r_istore dX11_goesAlong_91 (by decide) rfl ?_
      have hd : ∃ kd sp : Int, (kd = 0 ∨ kd = 1) ∧ c s.1 = mHc kd ∧ (pTwo c v pl sp (pNx s)).1.2.2 = -1 ∧ pHdO c v pl s = ((pTwo c v pl sp (pNx s)).1, kd, (pTwo c v pl sp (pNx s)).2) := by
        rcases hH.2 with h | h | h | h
        · exact ⟨0, 19, Or.inl rfl, h⟩
        · exact ⟨1, 22, Or.inr rfl, h⟩
        · omega
        · omega
      obtain ⟨kd, sp, hkd, hck, h2f, eH⟩ := hd
      obtain ⟨_, hS1, hsp, hS2, eW⟩ := pTwo_in hp h2f
      rw [eW] at eH
      rw [eH] at hK
      rw [hK] at hm4 hf
      have hm4' : (pIf c v pl false (pTi c v pl (pSumL c v pl false 8 (pNx (pSumL c v pl false 8 (pNx s)).1)).1).1).1.1 ≤ 400 := hm4
      have l2 := pSumL_le (c := c) (v := v) (pl := pl) (lw := false) 8 (pNx s)
      have l3 := pSumL_le (c := c) (v := v) (pl := pl) (lw := false) 8 (pNx (pSumL c v pl false 8 (pNx s)).1)
      have bx2 : (pNx (pSumL c v pl false 8 (pNx s)).1).1 = (pSumL c v pl false 8 (pNx s)).1.1 + 1 := rfl
      have l4 := pTi_le c v pl (pSumL c v pl false 8 (pNx (pSumL c v pl false 8 (pNx s)).1)).1
      have l5 := pIf_le c v pl false (pTi c v pl (pSumL c v pl false 8 (pNx (pSumL c v pl false 8 (pNx s)).1)).1).1
      refine sg_X11_gaS hm hp hvA hl en 2 0 (by omega) (pNx s) (by omega) (by omega) hH.1 hS1 (Or.inr eA45) (fun g1 f1 e1 v1 b1 => ?_)
      have hv1 := hvA.fo (f1.mo (fun x y z => by unfold GY; omega))
      refine sg_X11_gaS hm hp hv1 hl en 2 (0 + 1) (by omega) (pNx (pSumL c v pl false 8 (pNx s)).1) (by omega) (by omega) hS1 hS2 b1 (fun g2 f2 e2 v2 b2 => ?_)
      have hv2 := hv1.fo (f2.mo (fun x y z => by unfold GY; omega))
      refine sg_X11_gaZ hm en lv 2 (0 + 1 + 1) (by omega) ?_
      refine sg_X11_gaT hm hp hv2 hl en 2 _ (pSumL c v pl false 8 (pNx (pSumL c v pl false 8 (pNx s)).1)).1 e2 (by omega) (by omega) hf (fun g' f' h22' h43' h46' => ?_)
      rw [hK] at hq
      refine hq g' ?_ ⟨h22', h43', ?_, fun l1 => ⟨h46' l1, ?_⟩⟩
      · exact ((fA.tr (f1.mo (fun x y z => by unfold GX; omega))).tr (f2.mo (fun x y z => by unfold GX; omega))).tr (f'.mo (fun x y z => by unfold GX; omega))
      · rw [f' _ _ (by omega), f2 _ _ (by omega), f1 _ _ (by omega), eA44]; exact hck
      · have w1 := v1 l1
        have w2 := v2 l1
        rw [eA45] at w1
        unfold SmQ
        rw [f' M 45 (by omega), f' (M + 22) 0 (by omega), f' (M + 22) 1 (by omega), f2 (M + 22) 0 (by omega)]
        show (g2 M 45 = 0 ∧ ((pSumL c v pl false 8 (pNx s)).2 w = none ∨ (pSumL c v pl false 8 (pNx (pSumL c v pl false 8 (pNx s)).1)).2 w = none)) ∨ (g2 M 45 = 1 ∧ ∃ x y : Int, (pSumL c v pl false 8 (pNx s)).2 w = some x ∧ (pSumL c v pl false 8 (pNx (pSumL c v pl false 8 (pNx s)).1)).2 w = some y ∧ (kd ≠ 3 → g1 (M + 22) 0 = x) ∧ (kd = 0 ∨ kd = 1 → g2 (M + 22) 1 = y))
        rcases w1 with ⟨a1, a2⟩ | ⟨x, a1, a2, a3⟩
        · refine Or.inl ⟨?_, Or.inl a1⟩
          rcases w2 with ⟨c1, c2⟩ | ⟨y, c1, c2, c3⟩
          · exact c2
          · rw [c3]; exact a2
        · rcases w2 with ⟨c1, c2⟩ | ⟨y, c1, c2, c3⟩
          · exact Or.inl ⟨c2, Or.inr c1⟩
          · exact Or.inr ⟨by rw [c3]; exact a3, x, y, a1, c1, fun _ => a2, fun _ => c2⟩
    · refine r_iconst dX11_goesAlong_84 li_1 ?_
      refine r_goto (tgt := 89) dX11_goesAlong_85 rfl ?_
      refine r_istore_n dX11_goesAlong_89 (by decide) rfl ?_
      refine r_iconst dX11_goesAlong_90 li_0 ?_
      refine r_istore dX11_goesAlong_91 (by decide) rfl ?_
      have hd : c s.1 = 23 ∧ (pSumL c v pl false 8 (pNx s)).1.2.2 = -1 ∧ pHdO c v pl s = ((pSumL c v pl false 8 (pNx s)).1, 2, (pSumL c v pl false 8 (pNx s)).2, pOne) := by
        rcases hH.2 with h | h | h | h
        · omega
        · omega
        · exact h
        · omega
      obtain ⟨hck, hS1, eH⟩ := hd
      rw [eH] at hK
      rw [hK] at hm4 hf
      have hm4' : (pIf c v pl false (pTi c v pl (pSumL c v pl false 8 (pNx s)).1).1).1.1 ≤ 400 := hm4
      have l2 := pSumL_le (c := c) (v := v) (pl := pl) (lw := false) 8 (pNx s)
      have l4 := pTi_le c v pl (pSumL c v pl false 8 (pNx s)).1
      have l5 := pIf_le c v pl false (pTi c v pl (pSumL c v pl false 8 (pNx s)).1).1
      refine sg_X11_gaS hm hp hvA hl en 1 0 (by omega) (pNx s) (by omega) (by omega) hH.1 hS1 (Or.inr eA45) (fun g1 f1 e1 v1 b1 => ?_)
      have hv1 := hvA.fo (f1.mo (fun x y z => by unfold GY; omega))
      refine sg_X11_gaZ hm en lv 1 (0 + 1) (by omega) ?_
      refine sg_X11_gaT hm hp hv1 hl en 1 _ (pSumL c v pl false 8 (pNx s)).1 e1 (by omega) (by omega) hf (fun g' f' h22' h43' h46' => ?_)
      rw [hK] at hq
      refine hq g' ?_ ⟨h22', h43', ?_, fun l1 => ⟨h46' l1, ?_⟩⟩
      · exact (fA.tr (f1.mo (fun x y z => by unfold GX; omega))).tr (f'.mo (fun x y z => by unfold GX; omega))
      · rw [f' _ _ (by omega), f1 _ _ (by omega), eA44]; exact hck
      · have w1 := v1 l1
        rw [eA45] at w1
        unfold SmQ
        rw [f' M 45 (by omega), f' (M + 22) 0 (by omega)]
        show (g1 M 45 = 0 ∧ ((pSumL c v pl false 8 (pNx s)).2 w = none ∨ pOne w = none)) ∨ (g1 M 45 = 1 ∧ ∃ x y : Int, (pSumL c v pl false 8 (pNx s)).2 w = some x ∧ pOne w = some y ∧ ((2 : Int) ≠ 3 → g1 (M + 22) 0 = x) ∧ ((2 : Int) = 0 ∨ (2 : Int) = 1 → g' (M + 22) 1 = y))
        rcases w1 with ⟨a1, a2⟩ | ⟨x, a1, a2, a3⟩
        · exact Or.inl ⟨a2, Or.inl a1⟩
        · exact Or.inr ⟨a3, x, 1, a1, rfl, fun _ => a2, fun z => by omega⟩
  · refine r_iconst dX11_goesAlong_71 li_0 ?_
    refine r_goto (tgt := 89) dX11_goesAlong_72 rfl ?_
    refine r_istore_n dX11_goesAlong_89 (by decide) rfl ?_
    refine r_iconst dX11_goesAlong_90 li_0 ?_
    refine r_istore dX11_goesAlong_91 (by decide) rfl ?_
    have hd : c s.1 = 24 ∧ pHdO c v pl s = (pNx s, 3, pOne, pOne) := by
      rcases hH.2 with h | h | h | h
      · omega
      · omega
      · omega
      · exact h
    obtain ⟨hck, eH⟩ := hd
    rw [eH] at hK
    rw [hK] at hm4 hf
    have hm4' : (pIf c v pl false (pTi c v pl (pNx s)).1).1.1 ≤ 400 := hm4
    have l4 := pTi_le c v pl (pNx s)
    have l5 := pIf_le c v pl false (pTi c v pl (pNx s)).1
    refine sg_X11_gaZ hm en lv 0 0 (by omega) ?_
    refine sg_X11_gaT hm hp hvA hl en 0 _ (pNx s) eA22 (by omega) (by omega) hf (fun g' f' h22' h43' h46' => ?_)
    rw [hK] at hq
    refine hq g' ?_ ⟨h22', h43', ?_, fun l1 => ⟨h46' l1, ?_⟩⟩
    · exact fA.tr (f'.mo (fun x y z => by unfold GX; omega))
    · rw [f' _ _ (by omega), eA44]; exact hck
    · unfold SmQ
      rw [f' M 45 (by omega)]
      exact Or.inr ⟨eA45, 1, 1, rfl, rfl, fun z => absurd rfl z, fun z => by have z1 : (3 : Int) = 0 ∨ (3 : Int) = 1 := z; omega⟩
/-- what the words of orders say -/
noncomputable def mWo (g : od_G) (M : Int) : Int → Int := fun i => if i < 5 then mOV g M (14 + i) 0 else if i < 11 then mOV g M 19 (i - 5) else mOV g M 13 (i - 11)
theorem mOV_x (g : od_G) (M k x y : Int) (h : k ≠ 13) (h' : k ≠ 19) : mOV g M k x = mOV g M k y := by
  unfold mOV
  rw [if_neg h, if_neg h]
  repeat (first | rfl | (split; rfl) | (rw [if_neg h']))
theorem mWo_ok (g : od_G) (M : Int) : EnvO g M (mWo g M) := by
  intro k x k0 k1 hx
  have e : ∀ z : Int, z ≠ 13 → z ≠ 19 → pOf false z = false := fun z z1 z2 => by simp [pOf, z1, z2]
  by_cases c13 : k = 13
  · subst c13
    have o : pOf false 13 = true := by decide
    have x0 := hx o
    rw [if_pos o, show pIx false 13 = 11 from rfl]
    unfold mWo
    rw [if_neg (by omega), if_neg (by omega), show 11 + x - 11 = x by omega]
  · by_cases c19 : k = 19
    · subst c19
      have o : pOf false 19 = true := by decide
      have x0 := hx o
      rw [if_pos o, show pIx false 19 = 5 from rfl]
      unfold mWo
      rw [if_neg (by omega), if_pos (by omega), show 5 + x - 5 = x by omega]
    · rw [e k c13 c19, if_neg Bool.false_ne_true]
      have p : pIx false k = k - 14 := by
        unfold pIx
        rw [if_neg Bool.false_ne_true, if_neg c19, if_neg c13]
      rw [p]
      unfold mWo
      rw [if_pos (by omega), show 14 + (k - 14 + 0) = k by omega]
      exact mOV_x g M k x 0 c13 c19
theorem mOV_c {g g' : od_G} {M : Int} (e2 : g' (M + 2) = g (M + 2)) (e27 : g' M 27 = g M 27) (e28 : g' M 28 = g M 28) (e29 : g' M 29 = g M 29) (k x : Int) : mOV g' M k x = mOV g M k x := by
  unfold mOV mDr mPins
  rw [e2, e27, e28, e29]
theorem mWo_c {g g' : od_G} {M : Int} (e2 : g' (M + 2) = g (M + 2)) (e27 : g' M 27 = g M 27) (e28 : g' M 28 = g M 28) (e29 : g' M 29 = g M 29) : mWo g' M = mWo g M := by
  funext i
  unfold mWo
  rw [mOV_c e2 e27 e28 e29, mOV_c e2 e27 e28 e29, mOV_c e2 e27 e28 e29]
noncomputable def mEn (g : od_G) (M : Int) (pl : Int → Int) (C : Int) : Int → Int := mWo (od_up g M 29 (mLoud g M pl C 0)) M
def GZ (M : Int) : Int → Int → Prop := fun x y => GX M x y ∨ XQ M x y ∨ (x = M ∧ y = 29)
set_option maxRecDepth 10000 in
theorem c_X11_goesAlong {E : od_E} {g : od_G} {M : Int} (hm : MoAt E M) {lp : Int → Int} {C : Int} (hI : MI g M) (hF : LwF (g (M + 2)) lp C) {N : Int} {c v pl : Int → Int} (hp : ∀ i : Int, 0 ≤ pl i) (hT : TxH g M N c v) (s : pS) (h42 : g M 42 = 2400 + s.1) (hs0 : 0 ≤ s.1) (hf : (pCl c v pl false s).1.2.2 = -1) (hm4 : (pCl c v pl false s).1.1 ≤ 400) {lv en : Int} (hl : lv = 0 ∨ lv = 1) (hen : en = 2400 + N) : od_Cq 48 mX11_goesAlong [(2, M), (0, en), (0, lv)] E g (E, fun o g' => o = none ∧ od_fr (GZ M) g g' ∧ GaQ g' M (pCl c v pl false s) lv (mEn g M lp C)) := by
  refine od_cqI pnX11 rfl (Nat.le_of_ble_eq_true rfl) od_le.rf ?_
  show od_Rq 48 mX11_goesAlong od_Z0 E (E, fun o g' => o = none ∧ od_fr (GZ M) g g' ∧ GaQ g' M (pCl c v pl false s) lv (mEn g M lp C)) 0 [some (2, M), some (0, en), some (0, lv), none, none] [] E g
  refine r_aload_n dX11_goesAlong_0 rfl ?_
  refine r_iload_n dX11_goesAlong_1 rfl ?_
  refine r_if_eq (tgt := 13) dX11_goesAlong_2 rfl (fun c2 => ?_) (fun c2 => ?_)
  · refine r_iconst dX11_goesAlong_13 li_0 ?_
    refine r_putIj (j := 29) rfl dX11_goesAlong_14 fkX11_308 gf11_29 pf11_29 (mo_o hm) ?_
    first
    | (have l0 : lv = 0 := by omega
       have z : EnvO (od_up g M 29 0) M (mWo (od_up g M 29 0) M) := mWo_ok _ _
       refine sg_X11_gaM hm hp ⟨hT.1, fun i a1 b1 => by rw [od_upn (by omega)]; rw [od_upn (by omega)]; exact hT.2.1 i a1 b1, hT.2.2⟩ z (by rw [od_upn (by omega)]; exact hI.1) s (by rw [od_up_at, if_neg (by omega)]; exact h42) hs0 hf hm4 hl hen (fun g' f' q' => ⟨rfl, ?_, ?_⟩)
       · exact (od_fr.rf.up (Or.inr (Or.inr ⟨rfl, rfl⟩))).tr (f'.mo (fun x y z => Or.inl z))
       · rw [l0] at q' ⊢
         exact GaQ_0 q')
    | (have l1 : lv = 1 := by omega
       have e2 : g7 (M + 2) = g (M + 2) := f7.row (fun y => by unfold XQ; omega)
       have z : EnvO (od_up g7 M 29 (mLoud g M lp C 0)) M (mEn g M lp C) := by
         unfold mEn
         have y : EnvO (od_up g7 M 29 (mLoud g M lp C 0)) M (mWo (od_up g7 M 29 (mLoud g M lp C 0)) M) := mWo_ok _ _
         rw [mWo_c (g := od_up g M 29 (mLoud g M lp C 0)) (by rw [od_up_ne (by omega), od_up_ne (by omega), e2]) (by rw [od_up_at, if_neg (by omega), od_up_at, if_neg (by omega), f7 _ _ (by unfold XQ; omega)]) (by rw [od_up_at, if_neg (by omega), od_up_at, if_neg (by omega), f7 _ _ (by unfold XQ; omega)]) (by rw [od_up_i, od_up_i])] at y
         exact y
       refine sg_X11_gaM hm hp ⟨hT.1, fun i a1 b1 => by rw [od_upn (by omega), od_upn (by omega), e2]; exact hT.2.1 i a1 b1, hT.2.2⟩ z (by rw [od_upn (by omega), e2]; exact hI.1) s (by rw [od_up_at, if_neg (by omega), f7 _ _ (by unfold XQ; omega)]; exact h42) hs0 hf hm4 hl hen (fun g' f' q' => ⟨rfl, ?_, q'⟩)
       exact ((f7.mo (fun x y z => Or.inr (Or.inl z))).up (Or.inr (Or.inr ⟨rfl, rfl⟩))).tr (f'.mo (fun x y z => Or.inl z)))
  · refine r_aload_n dX11_goesAlong_5 rfl ?_
    refine r_iconst dX11_goesAlong_6 li_0 ?_
    refine r_callV1f dX11_goesAlong_7 cvX11_344 (mo_o hm) (c_X11_loudAt hm hI hF _) (by decide) (Nat.le_of_ble_eq_true rfl) od_le.rf (fun g7 f7 => ?_)
    refine r_goto (tgt := 14) dX11_goesAlong_10 rfl ?_
    refine r_putIj (j := 29) rfl dX11_goesAlong_14 fkX11_308 gf11_29 pf11_29 (mo_o hm) ?_
    first
    | (have l0 : lv = 0 := by omega
       have z : EnvO (od_up g M 29 0) M (mWo (od_up g M 29 0) M) := mWo_ok _ _
       refine sg_X11_gaM hm hp ⟨hT.1, fun i a1 b1 => by rw [od_upn (by omega)]; rw [od_upn (by omega)]; exact hT.2.1 i a1 b1, hT.2.2⟩ z (by rw [od_upn (by omega)]; exact hI.1) s (by rw [od_up_at, if_neg (by omega)]; exact h42) hs0 hf hm4 hl hen (fun g' f' q' => ⟨rfl, ?_, ?_⟩)
       · exact (od_fr.rf.up (Or.inr (Or.inr ⟨rfl, rfl⟩))).tr (f'.mo (fun x y z => Or.inl z))
       · rw [l0] at q' ⊢
         exact GaQ_0 q')
    | (have l1 : lv = 1 := by omega
       have e2 : g7 (M + 2) = g (M + 2) := f7.row (fun y => by unfold XQ; omega)
       have z : EnvO (od_up g7 M 29 (mLoud g M lp C 0)) M (mEn g M lp C) := by
         unfold mEn
         have y : EnvO (od_up g7 M 29 (mLoud g M lp C 0)) M (mWo (od_up g7 M 29 (mLoud g M lp C 0)) M) := mWo_ok _ _
         rw [mWo_c (g := od_up g M 29 (mLoud g M lp C 0)) (by rw [od_up_ne (by omega), od_up_ne (by omega), e2]) (by rw [od_up_at, if_neg (by omega), od_up_at, if_neg (by omega), f7 _ _ (by unfold XQ; omega)]) (by rw [od_up_at, if_neg (by omega), od_up_at, if_neg (by omega), f7 _ _ (by unfold XQ; omega)]) (by rw [od_up_i, od_up_i])] at y
         exact y
       refine sg_X11_gaM hm hp ⟨hT.1, fun i a1 b1 => by rw [od_upn (by omega), od_upn (by omega), e2]; exact hT.2.1 i a1 b1, hT.2.2⟩ z (by rw [od_upn (by omega), e2]; exact hI.1) s (by rw [od_up_at, if_neg (by omega), f7 _ _ (by unfold XQ; omega)]; exact h42) hs0 hf hm4 hl hen (fun g' f' q' => ⟨rfl, ?_, q'⟩)
       exact ((f7.mo (fun x y z => Or.inr (Or.inl z))).up (Or.inr (Or.inr ⟨rfl, rfl⟩))).tr (f'.mo (fun x y z => Or.inl z)))
