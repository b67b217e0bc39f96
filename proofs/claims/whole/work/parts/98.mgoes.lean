/-! the reference: goesAlong -/
def GX (M : Int) : Int → Int → Prop := fun x y => (x = M ∧ (y = 22 ∨ y = 23 ∨ y = 24 ∨ y = 25 ∨ (43 ≤ y ∧ y ≤ 46))) ∨ x = M + 22
def GY (M : Int) : Int → Int → Prop := fun x y => (x = M ∧ (y = 22 ∨ y = 24 ∨ (43 ≤ y ∧ y ≤ 46))) ∨ x = M + 22
theorem EV.fo {g g' : od_G} {M b N : Int} {c v : Int → Int} {w : Int → Int} (h : EV g M b N c v false w) (f : od_fr (GY M) g g') : EV g' M b N c v false w := by
  have e2 : g' (M + 2) = g (M + 2) := f.row (fun y => by unfold GY; omega)
  refine ⟨⟨(f M 23 (by unfold GY; omega)).trans h.1.1, h.1.2.1, h.1.2.2.1, fun i a1 b1 => by rw [e2]; exact h.1.2.2.2.1 i a1 b1, h.1.2.2.2.2.1, (f M 25 (by unfold GY; omega)).trans h.1.2.2.2.2.2⟩, ?_, ?_⟩
  · have q := h.2.1
    intro k x a1 b1 c1
    have e : mOV g' M k x = mOV g M k x := by
      unfold mOV mDr mPins
      rw [e2, f M 27 (by unfold GY; omega), f M 28 (by unfold GY; omega), f M 29 (by unfold GY; omega)]
    rw [e]
    exact q k x a1 b1 c1
  · rw [e2]; exact h.2.2
theorem pTwo_in {c v pl : Int → Int} {k : Int} {s : pS} (hp : ∀ i : Int, 0 ≤ pl i) (h : (pTwo c v pl k s).1.2.2 = -1) : s.2.2 = -1 ∧ (pSumL c v pl false 8 s).1.2.2 = -1 ∧ c (pSumL c v pl false 8 s).1.1 = k ∧ (pSumL c v pl false 8 (pNx (pSumL c v pl false 8 s).1)).1.2.2 = -1 ∧ pTwo c v pl k s = ((pSumL c v pl false 8 (pNx (pSumL c v pl false 8 s).1)).1, (pSumL c v pl false 8 s).2, (pSumL c v pl false 8 (pNx (pSumL c v pl false 8 s).1)).2) := by
  have h1 : (pSumL c v pl false 8 (pMu c pl k (pSumL c v pl false 8 s).1)).1.2.2 = -1 := h
  have q := pMu_nf hp (pSumL_f h1)
  have h2 := h1
  rw [pMu_t q] at h2
  refine ⟨pSumL_f q.1, q.1, q.2, h2, ?_⟩
  unfold pTwo
  rw [pMu_t q]
theorem pTi_in {c v pl : Int → Int} {s : pS} (hp : ∀ i : Int, 0 ≤ pl i) (h : (pTi c v pl s).1.2.2 = -1) : s.2.2 = -1 ∧ ((c s.1 = 25 ∧ c (s.1 + 1) = 50 ∧ (1 ≤ v (s.1 + 1) ∧ v (s.1 + 1) ≤ 20) ∧ pTi c v pl s = (pNx (pNx s), v (s.1 + 1))) ∨ (c s.1 ≠ 25 ∧ pTi c v pl s = (s, 1))) := by
  unfold pTi at h ⊢
  by_cases h1 : s.2.2 = -1 ∧ c s.1 = 25
  · rw [if_pos h1] at h ⊢
    refine ⟨h1.1, Or.inl ?_⟩
    have h2 : (pMn c v pl 1 20 (pNx s)).2.2 = -1 := h
    unfold pMn at h2 ⊢
    by_cases h3 : (pNx s).2.2 = -1 ∧ c (pNx s).1 = 50 ∧ 1 ≤ v (pNx s).1 ∧ v (pNx s).1 ≤ 20
    · rw [if_pos h3]
      exact ⟨h1.2, h3.2.1, h3.2.2, rfl⟩
    · rw [if_neg h3] at h2
      exact absurd h2 (pF_nb (hp _))
  · rw [if_neg h1] at h ⊢
    exact ⟨h, Or.inr ⟨fun z => h1 ⟨h, z⟩, rfl⟩⟩
def mHc (k : Int) : Int := if k = 0 then 20 else if k = 1 then 21 else if k = 2 then 23 else 24
theorem pHdO_in {c v pl : Int → Int} {s : pS} (hp : ∀ i : Int, 0 ≤ pl i) (h : (pHdO c v pl s).1.2.2 = -1) : s.2.2 = -1 ∧
    ((c s.1 = 20 ∧ (pTwo c v pl 19 (pNx s)).1.2.2 = -1 ∧ pHdO c v pl s = ((pTwo c v pl 19 (pNx s)).1, 0, (pTwo c v pl 19 (pNx s)).2)) ∨
     (c s.1 = 21 ∧ (pTwo c v pl 22 (pNx s)).1.2.2 = -1 ∧ pHdO c v pl s = ((pTwo c v pl 22 (pNx s)).1, 1, (pTwo c v pl 22 (pNx s)).2)) ∨
     (c s.1 = 23 ∧ (pSumL c v pl false 8 (pNx s)).1.2.2 = -1 ∧ pHdO c v pl s = ((pSumL c v pl false 8 (pNx s)).1, 2, (pSumL c v pl false 8 (pNx s)).2, pOne)) ∨
     (c s.1 = 24 ∧ pHdO c v pl s = (pNx s, 3, pOne, pOne))) := by
  unfold pHdO at h ⊢
  by_cases h1 : s.2.2 = -1 ∧ c s.1 = 20
  · rw [if_pos h1] at h ⊢
    exact ⟨h1.1, Or.inl ⟨h1.2, h, rfl⟩⟩
  · rw [if_neg h1] at h ⊢
    by_cases h2 : s.2.2 = -1 ∧ c s.1 = 21
    · rw [if_pos h2] at h ⊢
      exact ⟨h2.1, Or.inr (Or.inl ⟨h2.2, h, rfl⟩)⟩
    · rw [if_neg h2] at h ⊢
      by_cases h3 : s.2.2 = -1 ∧ c s.1 = 23
      · rw [if_pos h3] at h ⊢
        exact ⟨h3.1, Or.inr (Or.inr (Or.inl ⟨h3.2, h, rfl⟩))⟩
      · rw [if_neg h3] at h ⊢
        have q := pMu_nf hp h
        exact ⟨q.1, Or.inr (Or.inr (Or.inr ⟨q.2, by rw [pMu_t q]⟩))⟩
set_option maxRecDepth 10000 in
theorem sg_X11_gaE {E : od_E} {g : od_G} {Q : Option od_V → od_G → Prop} {M : Int} (hm : MoAt E M) (en lv n t y : Int) (x4 : Option od_V) (ht : t = 0 ∨ t = 1) (e24 : g M 24 = 0 ∨ g M 24 = 1) (e22 : g M 22 = y) (hy : 0 ≤ y ∧ y ≤ 100000) (hq : ∀ g' : od_G, od_fr (fun x z => x = M ∧ (z = 22 ∨ z = 46)) g g' → g' M 22 = y + 1 → g' M 46 = od_b (t = 1 ∧ g M 24 = 0) → Q none g') : od_Rq 48 mX11_goesAlong od_Z0 E (E, Q) 228 [some (2, M), some (0, en), some (0, lv), some (0, n), x4] [(0, t), (2, M)] E g := by
  refine r_putZj (j := 46) rfl dX11_goesAlong_228 fkX11_449 gf11_46 pf11_46 (by first | exact Or.inl rfl | exact Or.inr rfl | omega | assumption) (mo_o hm) ?_
  refine r_aload_n dX11_goesAlong_231 rfl ?_
  refine r_aload_n dX11_goesAlong_232 rfl ?_
  refine r_getIj (j := 46) rfl dX11_goesAlong_233 fkX11_449 gf11_46 (mo_o hm) (by (repeat (first | rewrite [od_up_at, if_pos (by omega)] | rewrite [od_up_at, if_neg (by omega)])); first | exact e22 | rfl) ?_
  refine r_if_eq (tgt := 250) dX11_goesAlong_236 rfl (fun c236 => ?_) (fun c236 => ?_)
  · refine r_iconst dX11_goesAlong_250 li_0 ?_
    refine r_putZj (j := 46) rfl dX11_goesAlong_251 fkX11_449 gf11_46 pf11_46 (by first | exact Or.inl rfl | exact Or.inr rfl | omega | assumption) (mo_o hm) ?_
    refine r_aload_n dX11_goesAlong_254 rfl ?_
    refine r_dup dX11_goesAlong_255 (by first | exact od_ne2 | exact od_ne0) ?_
    refine r_getIj (j := 22) rfl dX11_goesAlong_256 fkX11_263 gf11_22 (mo_o hm) (by (repeat (first | rewrite [od_up_at, if_pos (by omega)] | rewrite [od_up_at, if_neg (by omega)])); first | exact e22 | rfl) ?_
    refine r_iconst dX11_goesAlong_259 li_1 ?_
    refine r_iaddE dX11_goesAlong_260 (by first | exact od_w0 (by omega) (by omega) | exact od_wI (by omega) (by omega) | rfl) ?_
    refine r_putIj (j := 22) rfl dX11_goesAlong_261 fkX11_263 gf11_22 pf11_22 (mo_o hm) ?_
    first
    | (exfalso; omega)
    | (refine r_vretq dX11_goesAlong_264 rfl rfl (hq _ ?_ ?_ ?_)
       · exact ((od_fr.rf.up (by omega)).up (by omega)).up (by omega)
       · exact od_up_i
       · rw [od_up_at, if_neg (by omega), od_up_i]
         first
         | (rw [od_b_t (by omega)])
         | (rw [od_b_f (by omega)]))
  · refine r_aload_n dX11_goesAlong_239 rfl ?_
    refine r_getIj (j := 24) rfl dX11_goesAlong_240 fkX11_273 gf11_24 (mo_o hm) (by (repeat (first | rewrite [od_up_at, if_pos (by omega)] | rewrite [od_up_at, if_neg (by omega)])); first | exact e22 | rfl) ?_
    refine r_if_ne (tgt := 250) dX11_goesAlong_243 rfl (fun c243 => ?_) (fun c243 => ?_)
    · refine r_iconst dX11_goesAlong_250 li_0 ?_
      refine r_putZj (j := 46) rfl dX11_goesAlong_251 fkX11_449 gf11_46 pf11_46 (by first | exact Or.inl rfl | exact Or.inr rfl | omega | assumption) (mo_o hm) ?_
      refine r_aload_n dX11_goesAlong_254 rfl ?_
      refine r_dup dX11_goesAlong_255 (by first | exact od_ne2 | exact od_ne0) ?_
      refine r_getIj (j := 22) rfl dX11_goesAlong_256 fkX11_263 gf11_22 (mo_o hm) (by (repeat (first | rewrite [od_up_at, if_pos (by omega)] | rewrite [od_up_at, if_neg (by omega)])); first | exact e22 | rfl) ?_
      refine r_iconst dX11_goesAlong_259 li_1 ?_
      refine r_iaddE dX11_goesAlong_260 (by first | exact od_w0 (by omega) (by omega) | exact od_wI (by omega) (by omega) | rfl) ?_
      refine r_putIj (j := 22) rfl dX11_goesAlong_261 fkX11_263 gf11_22 pf11_22 (mo_o hm) ?_
      first
      | (exfalso; omega)
      | (refine r_vretq dX11_goesAlong_264 rfl rfl (hq _ ?_ ?_ ?_)
         · exact ((od_fr.rf.up (by omega)).up (by omega)).up (by omega)
         · exact od_up_i
         · rw [od_up_at, if_neg (by omega), od_up_i]
           first
           | (rw [od_b_t (by omega)])
           | (rw [od_b_f (by omega)]))
    · refine r_iconst dX11_goesAlong_246 li_1 ?_
      refine r_goto (tgt := 251) dX11_goesAlong_247 rfl ?_
      refine r_putZj (j := 46) rfl dX11_goesAlong_251 fkX11_449 gf11_46 pf11_46 (by first | exact Or.inl rfl | exact Or.inr rfl | omega | assumption) (mo_o hm) ?_
      refine r_aload_n dX11_goesAlong_254 rfl ?_
      refine r_dup dX11_goesAlong_255 (by first | exact od_ne2 | exact od_ne0) ?_
      refine r_getIj (j := 22) rfl dX11_goesAlong_256 fkX11_263 gf11_22 (mo_o hm) (by (repeat (first | rewrite [od_up_at, if_pos (by omega)] | rewrite [od_up_at, if_neg (by omega)])); first | exact e22 | rfl) ?_
      refine r_iconst dX11_goesAlong_259 li_1 ?_
      refine r_iaddE dX11_goesAlong_260 (by first | exact od_w0 (by omega) (by omega) | exact od_wI (by omega) (by omega) | rfl) ?_
      refine r_putIj (j := 22) rfl dX11_goesAlong_261 fkX11_263 gf11_22 pf11_22 (mo_o hm) ?_
      first
      | (exfalso; omega)
      | (refine r_vretq dX11_goesAlong_264 rfl rfl (hq _ ?_ ?_ ?_)
         · exact ((od_fr.rf.up (by omega)).up (by omega)).up (by omega)
         · exact od_up_i
         · rw [od_up_at, if_neg (by omega), od_up_i]
           first
           | (rw [od_b_t (by omega)])
           | (rw [od_b_f (by omega)]))
set_option maxRecDepth 10000 in
theorem sg_X11_gaI {E : od_E} {g : od_G} {Q : Option od_V → od_G → Prop} {M : Int} (hm : MoAt E M) {b N : Int} {c v pl w : Int → Int} (hp : ∀ i : Int, 0 ≤ pl i) (hv : EV g M b N c v false w) {lv : Int} (hl : lv = 0 ∨ lv = 1) (en n : Int) (x4 : Option od_V) (s : pS) (h22 : g M 22 = b + s.1) (hs0 : 0 ≤ s.1 ∧ s.1 ≤ 2000) (hm4 : (pIf c v pl false s).1.1 ≤ 2000) (hf : (pIf c v pl false s).1.2.2 = -1) (hq : ∀ g' : od_G, od_fr (fun x z => x = M ∧ (z = 22 ∨ z = 24 ∨ z = 46)) g g' → g' M 22 = b + ((pIf c v pl false s).1.1 + 1) → (lv = 1 → g' M 46 = od_b ((pIf c v pl false s).2 w = some 1)) → Q none g') : od_Rq 48 mX11_goesAlong od_Z0 E (E, Q) 201 [some (2, M), some (0, en), some (0, lv), some (0, n), x4] [] E g := by
  have hI2 := pIf_in hf
  have hb := hv.1.2.1
  have hN := hv.1.2.2.1
  have f1 : od_fr (GY M) g (od_up g M 24 0) := od_fr.rf.up (by unfold GY; omega)
  have hv1 := hv.fo f1
  have g22 : od_up g M 24 0 M 22 = b + s.1 := by rw [od_up_at, if_neg (by omega)]; exact h22
  refine r_aload_n dX11_goesAlong_201 rfl ?_
  refine r_iconst dX11_goesAlong_202 li_0 ?_
  refine r_putZj (j := 24) rfl dX11_goesAlong_203 fkX11_273 gf11_24 pf11_24 (by first | exact Or.inl rfl | exact Or.inr rfl | omega | assumption) (mo_o hm) ?_
  refine r_aload_n dX11_goesAlong_206 rfl ?_
  refine r_aload_n dX11_goesAlong_207 rfl ?_
  refine r_iconst dX11_goesAlong_208 li_4 ?_
  refine r_callV1p dX11_goesAlong_209 cvX11_287 (mo_o hm) (c_X11_passes0 hm hv1 (i := s.1) hs0.1 g22 _ (by omega)) (by decide) (Nat.le_of_ble_eq_true rfl) od_le.rf (fun r209 g209 h209 => ?_)
  rcases h209 with ⟨rfl, h209⟩ | ⟨rfl, h209⟩
  · show od_Rq _ _ _ _ _ _ _ ((0, 1) :: _) _ _
    skip
    refine r_if_eq (tgt := 223) dX11_goesAlong_212 rfl (fun h => absurd h (by decide)) (fun _ => ?_)
    obtain ⟨h4a, rfl⟩ := h209
    obtain ⟨_, eI⟩ : c s.1 = 4 ∧ (pIf c v pl false s) = pTestL c v pl false 8 (pNx s) := by
      rcases hI2.2 with h | h
      · exact h
      · exact absurd h4a h.1
    have hTf : (pTestL c v pl false 8 (pNx s)).1.2.2 = -1 := by rw [← eI]; exact hf
    have bx2 : (pNx s).1 = s.1 + 1 := rfl
    rw [eI] at hm4
    refine r_aload_n dX11_goesAlong_215 rfl ?_
    refine r_iload_n dX11_goesAlong_216 rfl ?_
    refine r_callV1p dX11_goesAlong_217 cvX11_323 (mo_o hm) (eTestL hm b N c v hp false w 8 (od_up (od_up g M 24 0) M 22 (b + (s.1 + 1))) (pNx s) lv (hv1.fo (od_fr.rf.up (by unfold GY; omega))) hl (Or.inl (by rw [od_up_at, if_neg (by omega)]; exact od_up_i)) (by exact od_up_i) (by show 0 ≤ s.1 + 1; omega) hI2.1 hTf) (by decide) (Nat.le_of_ble_eq_true rfl) od_le.rf (fun r217 g217 h217 => ?_)
    obtain ⟨x217, rfl, hx217, hq217⟩ := h217
    show od_Rq _ _ _ _ _ _ _ ((0, x217) :: _) _ _
    have q2 := hq217.2.2.2
    rw [od_up_at, if_neg (by omega), od_up_i] at q2
    have z217 := hq217.2.2.1
    have hE22 := hq217.2.1
    have f217 := hq217.1
    refine r_if_eq (tgt := 227) dX11_goesAlong_220 rfl (fun c220 => ?_) (fun c220 => ?_)
    · refine r_iconst dX11_goesAlong_227 li_0 ?_
      refine sg_X11_gaE hm en lv n _ (b + (pTestL c v pl false 8 (pNx s)).1.1) x4 (by omega) q2.1 hE22 (by omega) (fun g' hf' h22' h46' => hq g' ?_ (by rw [eI]; omega) (fun l1 => ?_))
      · exact (((od_fr.rf.up (by omega)).up (by omega)).tr (f217.mo (fun x y z => by unfold XB at z; omega))).tr (hf'.mo (fun x y z => by omega))
      · rw [h46', eI]
        rcases q2.2 with ⟨_, _, ⟨z1, z2⟩ | ⟨z1, z2⟩⟩ | ⟨z1, z2⟩
        · rw [z1, od_b_f (by omega), od_b_f (by simp)]
        · rw [z1]
          first
          | rw [od_b_t (by omega), od_b_t (by rw [show x217 = 1 by omega])]
          | rw [od_b_f (by omega), od_b_f (by intro q; injection q; omega)]
        · exact absurd ⟨l1, rfl⟩ z1
    · refine r_iconst dX11_goesAlong_223 li_1 ?_
      refine r_goto (tgt := 228) dX11_goesAlong_224 rfl ?_
      refine sg_X11_gaE hm en lv n _ (b + (pTestL c v pl false 8 (pNx s)).1.1) x4 (by omega) q2.1 hE22 (by omega) (fun g' hf' h22' h46' => hq g' ?_ (by rw [eI]; omega) (fun l1 => ?_))
      · exact (((od_fr.rf.up (by omega)).up (by omega)).tr (f217.mo (fun x y z => by unfold XB at z; omega))).tr (hf'.mo (fun x y z => by omega))
      · rw [h46', eI]
        rcases q2.2 with ⟨_, _, ⟨z1, z2⟩ | ⟨z1, z2⟩⟩ | ⟨z1, z2⟩
        · rw [z1, od_b_f (by omega), od_b_f (by simp)]
        · rw [z1]
          first
          | rw [od_b_t (by omega), od_b_t (by rw [show x217 = 1 by omega])]
          | rw [od_b_f (by omega), od_b_f (by intro q; injection q; omega)]
        · exact absurd ⟨l1, rfl⟩ z1
  · show od_Rq _ _ _ _ _ _ _ ((0, 0) :: _) _ _
    skip
    refine r_if_eq (tgt := 223) dX11_goesAlong_212 rfl (fun _ => ?_) (fun h => absurd h (by decide))
    obtain ⟨n4a, rfl⟩ := h209
    obtain ⟨_, eI⟩ : c s.1 ≠ 4 ∧ (pIf c v pl false s) = (s, pOne) := by
      rcases hI2.2 with h | h
      · exact absurd h.1 n4a
      · exact h
    refine r_iconst dX11_goesAlong_223 li_1 ?_
    refine r_goto (tgt := 228) dX11_goesAlong_224 rfl ?_
    refine sg_X11_gaE hm en lv n _ (b + s.1) x4 (by omega) (Or.inl od_up_i) g22 (by omega) (fun g' hf' h22' h46' => hq g' ?_ (by rw [eI]; show g' M 22 = b + (s.1 + 1); omega) (fun l1 => ?_))
    · exact (od_fr.rf.up (by omega)).tr (hf'.mo (fun x y z => by omega))
    · rw [h46', eI, od_b_t ⟨rfl, od_up_i⟩]
      exact (od_b_t (show (s, pOne).2 w = some 1 from rfl)).symm
set_option maxRecDepth 10000 in
theorem sg_X11_gaT {E : od_E} {g : od_G} {Q : Option od_V → od_G → Prop} {M : Int} (hm : MoAt E M) {b N : Int} {c v pl w : Int → Int} (hp : ∀ i : Int, 0 ≤ pl i) (hv : EV g M b N c v false w) {lv : Int} (hl : lv = 0 ∨ lv = 1) (en n : Int) (x4 : Option od_V) (s : pS) (h22 : g M 22 = b + s.1) (hs0 : 0 ≤ s.1 ∧ s.1 ≤ 1900) (hm4 : (pIf c v pl false (pTi c v pl s).1).1.1 ≤ 2000) (hf : (pIf c v pl false (pTi c v pl s).1).1.2.2 = -1) (hq : ∀ g' : od_G, od_fr (fun x z => x = M ∧ (z = 22 ∨ z = 24 ∨ z = 43 ∨ z = 46)) g g' → g' M 22 = b + ((pIf c v pl false (pTi c v pl s).1).1.1 + 1) → g' M 43 = (pTi c v pl s).2 → (lv = 1 → g' M 46 = od_b ((pIf c v pl false (pTi c v pl s).1).2 w = some 1)) → Q none g') : od_Rq 48 mX11_goesAlong od_Z0 E (E, Q) 160 [some (2, M), some (0, en), some (0, lv), some (0, n), x4] [] E g := by
  have hI2 := pTi_in hp (pIf_in hf).1
  have hb := hv.1.2.1
  have hN := hv.1.2.2.1
  have f1 : od_fr (GY M) g (od_up g M 43 1) := od_fr.rf.up (by unfold GY; omega)
  have hv1 := hv.fo f1
  have g22 : od_up g M 43 1 M 22 = b + s.1 := by rw [od_up_at, if_neg (by omega)]; exact h22
  refine r_aload_n dX11_goesAlong_160 rfl ?_
  refine r_iconst dX11_goesAlong_161 li_1 ?_
  refine r_putIj (j := 43) rfl dX11_goesAlong_162 fkX11_446 gf11_43 pf11_43 (mo_o hm) ?_
  refine r_aload_n dX11_goesAlong_165 rfl ?_
  refine r_bipush dX11_goesAlong_166 lb_25 ?_
  refine r_callV1p dX11_goesAlong_168 cvX11_287 (mo_o hm) (c_X11_passes0 hm hv1 (i := s.1) hs0.1 g22 _ (by omega)) (by decide) (Nat.le_of_ble_eq_true rfl) od_le.rf (fun r168 g168 h168 => ?_)
  rcases h168 with ⟨rfl, h168⟩ | ⟨rfl, h168⟩
  · show od_Rq _ _ _ _ _ _ _ ((0, 1) :: _) _ _
    skip
    refine r_if_eq (tgt := 201) dX11_goesAlong_171 rfl (fun h => absurd h (by decide)) (fun _ => ?_)
    obtain ⟨h25, rfl⟩ := h168
    obtain ⟨_, z50, zv, eT⟩ : c s.1 = 25 ∧ c (s.1 + 1) = 50 ∧ (1 ≤ v (s.1 + 1) ∧ v (s.1 + 1) ≤ 20) ∧ pTi c v pl s = (pNx (pNx s), v (s.1 + 1)) := by
      rcases hI2.2 with h | h
      · exact h
      · exact absurd h25 h.1
    have lt := hv.lt (i := s.1 + 1) (by omega)
    have ek : od_up (od_up g M 43 1) M 22 (b + (s.1 + 1)) (M + 2) (2856 + (b + (s.1 + 1))) = v (s.1 + 1) := by
      rw [od_upn (by omega), od_upn (by omega)]
      exact (hv.1.2.2.2.1 (s.1 + 1) (by omega) lt).2
    rw [eT] at hf hm4 hq
    refine r_aload_n dX11_goesAlong_174 rfl ?_
    refine r_aload_n dX11_goesAlong_175 rfl ?_
    refine r_getR dX11_goesAlong_176 fkX11_28 gf11_2 (mo_o hm) (mo_r2 hm) ?_
    refine r_sipush dX11_goesAlong_179 ls_2856 ?_
    refine r_aload_n dX11_goesAlong_182 rfl ?_
    refine r_getIj (j := 22) rfl dX11_goesAlong_183 fkX11_263 gf11_22 (mo_o hm) (by first | exact ek | ((repeat (first | rewrite [od_up_at, if_pos (by omega)] | rewrite [od_up_at, if_neg (by omega)])); rfl)) ?_
    refine r_iaddE dX11_goesAlong_186 (by first | exact od_w0 (by omega) (by omega) | exact od_wI (by omega) (by omega) | rfl) ?_
    refine r_iald dX11_goesAlong_187 (mo_k2 hm) (by omega) (by first | exact ek | ((repeat (first | rewrite [od_up_at, if_pos (by omega)] | rewrite [od_up_at, if_neg (by omega)])); rfl)) ?_
    refine r_putIj (j := 43) rfl dX11_goesAlong_188 fkX11_446 gf11_43 pf11_43 (mo_o hm) ?_
    refine r_aload_n dX11_goesAlong_191 rfl ?_
    refine r_dup dX11_goesAlong_192 (by first | exact od_ne2 | exact od_ne0) ?_
    refine r_getIj (j := 22) rfl dX11_goesAlong_193 fkX11_263 gf11_22 (mo_o hm) (by first | exact ek | ((repeat (first | rewrite [od_up_at, if_pos (by omega)] | rewrite [od_up_at, if_neg (by omega)])); rfl)) ?_
    refine r_iconst dX11_goesAlong_196 li_1 ?_
    refine r_iaddE dX11_goesAlong_197 (by first | exact od_w0 (by omega) (by omega) | exact od_wI (by omega) (by omega) | rfl) ?_
    refine r_putIj (j := 22) rfl dX11_goesAlong_198 fkX11_263 gf11_22 pf11_22 (mo_o hm) ?_
    first
    | (have h0 : c s.1 = 25 := h25
       refine sg_X11_gaI hm hp (hv1.fo (((od_fr.rf.up (by unfold GY; omega)).up (by unfold GY; omega)).up (by unfold GY; omega))) hl en n x4 (pNx (pNx s)) (by rw [od_up_i]; show _ = b + (s.1 + 1 + 1); omega) ⟨by show 0 ≤ s.1 + 1 + 1; omega, by show s.1 + 1 + 1 ≤ 2000; omega⟩ hm4 hf (fun g' hf' h22' h46' => hq g' ?_ h22' ?_ h46')
       · exact ((((od_fr.rf.up (by omega)).up (by omega)).up (by omega)).up (by omega)).tr (hf'.mo (fun x y z => by omega))
       · rw [hf' _ _ (by omega), od_up_at, if_neg (by omega), od_up_i])
    | (obtain ⟨n25, rfl⟩ := h168
       obtain ⟨_, eT⟩ : c s.1 ≠ 25 ∧ pTi c v pl s = (s, 1) := by
         rcases hI2.2 with h | h
         · exact absurd h.1 n25
         · exact h
       rw [eT] at hf hm4 hq
       refine sg_X11_gaI hm hp hv1 hl en n x4 s g22 (by omega) hm4 hf (fun g' hf' h22' h46' => hq g' ?_ h22' ?_ h46')
       · exact (od_fr.rf.up (by omega)).tr (hf'.mo (fun x y z => by omega))
       · rw [hf' _ _ (by omega), od_up_i])
  · show od_Rq _ _ _ _ _ _ _ ((0, 0) :: _) _ _
    skip
    refine r_if_eq (tgt := 201) dX11_goesAlong_171 rfl (fun _ => ?_) (fun h => absurd h (by decide))
    first
    | (have h0 : c s.1 = 25 := h25
       refine sg_X11_gaI hm hp (hv1.fo (((od_fr.rf.up (by unfold GY; omega)).up (by unfold GY; omega)).up (by unfold GY; omega))) hl en n x4 (pNx (pNx s)) (by rw [od_up_i]; show _ = b + (s.1 + 1 + 1); omega) ⟨by show 0 ≤ s.1 + 1 + 1; omega, by show s.1 + 1 + 1 ≤ 2000; omega⟩ hm4 hf (fun g' hf' h22' h46' => hq g' ?_ h22' ?_ h46')
       · exact ((((od_fr.rf.up (by omega)).up (by omega)).up (by omega)).up (by omega)).tr (hf'.mo (fun x y z => by omega))
       · rw [hf' _ _ (by omega), od_up_at, if_neg (by omega), od_up_i])
    | (obtain ⟨n25, rfl⟩ := h168
       obtain ⟨_, eT⟩ : c s.1 ≠ 25 ∧ pTi c v pl s = (s, 1) := by
         rcases hI2.2 with h | h
         · exact absurd h.1 n25
         · exact h
       rw [eT] at hf hm4 hq
       refine sg_X11_gaI hm hp hv1 hl en n x4 s g22 (by omega) hm4 hf (fun g' hf' h22' h46' => hq g' ?_ h22' ?_ h46')
       · exact (od_fr.rf.up (by omega)).tr (hf'.mo (fun x y z => by omega))
       · rw [hf' _ _ (by omega), od_up_i])
set_option maxRecDepth 10000 in
theorem sg_X11_gaR {E : od_E} {g : od_G} {Q : Option od_V → od_G → Prop} {M : Int} (hm : MoAt E M) {b N : Int} {c v pl w : Int → Int} (hp : ∀ i : Int, 0 ≤ pl i) (hv : EV g M b N c v false w) {lv : Int} (hl : lv = 0 ∨ lv = 1) (en n : Int) (k : Int) (hk : 0 ≤ k ∧ k < 2 ∧ k < n) (s : pS) (h22 : g M 22 = b + s.1) (hs0 : 0 ≤ s.1) (hsb : s.2.2 = -1) (hf : (pSumL c v pl false 8 s).1.2.2 = -1) (h45 : g M 45 = 0 ∨ g M 45 = 1) (hx : ∀ g' : od_G, od_fr (fun x z => (x = M ∧ (z = 22 ∨ z = 24 ∨ z = 45)) ∨ (x = M + 22 ∧ z = k)) g g' → g' M 22 = b + (pSumL c v pl false 8 s).1.1 → (lv = 1 → ((pSumL c v pl false 8 s).2 w = none ∧ g' M 45 = 0) ∨ (∃ x : Int, (pSumL c v pl false 8 s).2 w = some x ∧ g' (M + 22) k = x ∧ g' M 45 = g M 45)) → (g' M 45 = 0 ∨ g' M 45 = 1) → od_Rq 48 mX11_goesAlong od_Z0 E (E, Q) 93 [some (2, M), some (0, en), some (0, lv), some (0, n), some (0, k + 1)] [] E g') : od_Rq 48 mX11_goesAlong od_Z0 E (E, Q) 114 [some (2, M), some (0, en), some (0, lv), some (0, n), some (0, k)] [] E g := by
  have hv1 := hv.fo (g' := od_up g M 24 0) (od_fr.rf.up (by unfold GY; omega))
  have g22 : od_up g M 24 0 M 22 = b + s.1 := by rw [od_up_at, if_neg (by omega)]; exact h22
  refine r_aload_n dX11_goesAlong_114 rfl ?_
  refine r_iconst dX11_goesAlong_115 li_0 ?_
  refine r_putZj (j := 24) rfl dX11_goesAlong_116 fkX11_273 gf11_24 pf11_24 (by first | exact Or.inl rfl | exact Or.inr rfl | omega | assumption) (mo_o hm) ?_
  refine r_aload_n dX11_goesAlong_119 rfl ?_
  refine r_getR dX11_goesAlong_120 fkX11_97 gf11_47 (mo_o hm) (mo_r47 hm) ?_
  refine r_iload dX11_goesAlong_123 rfl ?_
  refine r_aload_n dX11_goesAlong_125 rfl ?_
  refine r_iload_n dX11_goesAlong_126 rfl ?_
  refine r_callV1p dX11_goesAlong_127 cvX11_290 (mo_o hm) (eSumL hm b N c v hp false w 8 (od_up g M 24 0) s lv hv1 hl (Or.inl od_up_i) g22 hs0 hsb hf) (by decide) (Nat.le_of_ble_eq_true rfl) od_le.rf (fun r127 g127 h127 => ?_)
  obtain ⟨x127, rfl, hq127⟩ := h127
  show od_Rq _ _ _ _ _ _ _ ((1, x127) :: _) _ _
  have q2 := hq127.2.2.2
  rw [od_up_i] at q2
  have f127 := hq127.1
  have e45 : od_up g127 (M + 22) k x127 M 45 = g M 45 := by rw [od_upn (by omega), f127 _ _ (by unfold XB; omega), od_up_at, if_neg (by omega)]
  have e24 : od_up g127 (M + 22) k x127 M 24 = g127 M 24 := od_upn (by omega)
  refine r_last dX11_goesAlong_130 (mo_k47 hm) (by omega) ?_
  refine r_aload_n dX11_goesAlong_131 rfl ?_
  refine r_aload_n dX11_goesAlong_132 rfl ?_
  refine r_getIj (j := 45) rfl dX11_goesAlong_133 fkX11_443 gf11_45 (mo_o hm) (by first | exact e45 | exact e24 | rfl) ?_
  refine r_if_eq (tgt := 150) dX11_goesAlong_136 rfl (fun c136 => ?_) (fun c136 => ?_)
  · refine r_iconst dX11_goesAlong_150 li_0 ?_
    refine r_putZj (j := 45) rfl dX11_goesAlong_151 fkX11_443 gf11_45 pf11_45 (by first | exact Or.inl rfl | exact Or.inr rfl | omega | assumption) (mo_o hm) ?_
    refine r_iincE dX11_goesAlong_154 rfl (by decide) (by first | exact od_w0 (by omega) (by omega) | exact od_wI (by omega) (by omega) | rfl) rfl ?_
    refine r_goto (tgt := 93) dX11_goesAlong_157 rfl ?_
    refine hx _ ?_ ?_ (fun l1 => ?_) ?_
    · exact (((od_fr.rf.up (by omega)).tr (f127.mo (fun x y z => by unfold XB at z; omega))).up (Or.inr ⟨rfl, rfl⟩)).up (by omega)
    · rw [od_up_at, if_neg (by omega), od_upn (by omega)]
      exact hq127.2.1
    · rw [od_up_i]
      rcases q2.2 with ⟨_, _, ⟨z1, z2⟩ | ⟨z1, z2⟩⟩ | ⟨z1, z2⟩
      · first
        | (exfalso; omega)
        | exact Or.inl ⟨z1, rfl⟩
      · refine Or.inr ⟨x127, z1, ?_, ?_⟩
        · rw [od_upn (by omega)]; exact od_up_i
        · omega
      · exact absurd ⟨l1, rfl⟩ z1
    · rw [od_up_i]; omega
  · refine r_aload_n dX11_goesAlong_139 rfl ?_
    refine r_getIj (j := 24) rfl dX11_goesAlong_140 fkX11_273 gf11_24 (mo_o hm) (by first | exact e45 | exact e24 | rfl) ?_
    refine r_if_ne (tgt := 150) dX11_goesAlong_143 rfl (fun c143 => ?_) (fun c143 => ?_)
    · refine r_iconst dX11_goesAlong_150 li_0 ?_
      refine r_putZj (j := 45) rfl dX11_goesAlong_151 fkX11_443 gf11_45 pf11_45 (by first | exact Or.inl rfl | exact Or.inr rfl | omega | assumption) (mo_o hm) ?_
      refine r_iincE dX11_goesAlong_154 rfl (by decide) (by first | exact od_w0 (by omega) (by omega) | exact od_wI (by omega) (by omega) | rfl) rfl ?_
      refine r_goto (tgt := 93) dX11_goesAlong_157 rfl ?_
      refine hx _ ?_ ?_ (fun l1 => ?_) ?_
      · exact (((od_fr.rf.up (by omega)).tr (f127.mo (fun x y z => by unfold XB at z; omega))).up (Or.inr ⟨rfl, rfl⟩)).up (by omega)
      · rw [od_up_at, if_neg (by omega), od_upn (by omega)]
        exact hq127.2.1
      · rw [od_up_i]
        rcases q2.2 with ⟨_, _, ⟨z1, z2⟩ | ⟨z1, z2⟩⟩ | ⟨z1, z2⟩
        · first
          | (exfalso; omega)
          | exact Or.inl ⟨z1, rfl⟩
        · refine Or.inr ⟨x127, z1, ?_, ?_⟩
          · rw [od_upn (by omega)]; exact od_up_i
          · omega
        · exact absurd ⟨l1, rfl⟩ z1
      · rw [od_up_i]; omega
    · refine r_iconst dX11_goesAlong_146 li_1 ?_
      refine r_goto (tgt := 151) dX11_goesAlong_147 rfl ?_
      refine r_putZj (j := 45) rfl dX11_goesAlong_151 fkX11_443 gf11_45 pf11_45 (by first | exact Or.inl rfl | exact Or.inr rfl | omega | assumption) (mo_o hm) ?_
      refine r_iincE dX11_goesAlong_154 rfl (by decide) (by first | exact od_w0 (by omega) (by omega) | exact od_wI (by omega) (by omega) | rfl) rfl ?_
      refine r_goto (tgt := 93) dX11_goesAlong_157 rfl ?_
      refine hx _ ?_ ?_ (fun l1 => ?_) ?_
      · exact (((od_fr.rf.up (by omega)).tr (f127.mo (fun x y z => by unfold XB at z; omega))).up (Or.inr ⟨rfl, rfl⟩)).up (by omega)
      · rw [od_up_at, if_neg (by omega), od_upn (by omega)]
        exact hq127.2.1
      · rw [od_up_i]
        rcases q2.2 with ⟨_, _, ⟨z1, z2⟩ | ⟨z1, z2⟩⟩ | ⟨z1, z2⟩
        · first
          | (exfalso; omega)
          | exact Or.inl ⟨z1, rfl⟩
        · refine Or.inr ⟨x127, z1, ?_, ?_⟩
          · rw [od_upn (by omega)]; exact od_up_i
          · omega
        · exact absurd ⟨l1, rfl⟩ z1
      · rw [od_up_i]; omega
set_option maxRecDepth 10000 in
theorem sg_X11_gaS {E : od_E} {g : od_G} {Q : Option od_V → od_G → Prop} {M : Int} (hm : MoAt E M) {b N : Int} {c v pl w : Int → Int} (hp : ∀ i : Int, 0 ≤ pl i) (hv : EV g M b N c v false w) {lv : Int} (hl : lv = 0 ∨ lv = 1) (en n : Int) (k : Int) (hk : 0 ≤ k ∧ k < 2 ∧ k < n) (s : pS) (h22 : g M 22 = b + s.1 - k) (hs0 : 0 ≤ s.1 ∧ s.1 ≤ 2000) (hsb : s.2.2 = -1) (hf : (pSumL c v pl false 8 s).1.2.2 = -1) (h45 : g M 45 = 0 ∨ g M 45 = 1) (hx : ∀ g' : od_G, od_fr (fun x z => (x = M ∧ (z = 22 ∨ z = 24 ∨ z = 45)) ∨ (x = M + 22 ∧ z = k)) g g' → g' M 22 = b + (pSumL c v pl false 8 s).1.1 → (lv = 1 → ((pSumL c v pl false 8 s).2 w = none ∧ g' M 45 = 0) ∨ (∃ x : Int, (pSumL c v pl false 8 s).2 w = some x ∧ g' (M + 22) k = x ∧ g' M 45 = g M 45)) → (g' M 45 = 0 ∨ g' M 45 = 1) → od_Rq 48 mX11_goesAlong od_Z0 E (E, Q) 93 [some (2, M), some (0, en), some (0, lv), some (0, n), some (0, k + 1)] [] E g') : od_Rq 48 mX11_goesAlong od_Z0 E (E, Q) 93 [some (2, M), some (0, en), some (0, lv), some (0, n), some (0, k)] [] E g := by
  have hb := hv.1.2.1
  refine r_iload dX11_goesAlong_93 rfl ?_
  refine r_iload_n dX11_goesAlong_95 rfl ?_
  refine r_icmp_ge (tgt := 160) dX11_goesAlong_96 rfl (fun h => absurd h (by omega)) (fun c96 => ?_)
  refine r_iload dX11_goesAlong_99 rfl ?_
  refine r_if_le (tgt := 114) dX11_goesAlong_101 rfl (fun c101 => ?_) (fun c101 => ?_)
  · first
    | (have k0 : k = 0 := by omega
       exact sg_X11_gaR hm hp hv hl en n k hk s (by omega) hs0.1 hsb hf h45 hx)
    | (have k1 : k = 1 := by omega
       refine sg_X11_gaR hm hp (hv.fo (od_fr.rf.up (by unfold GY; omega))) hl en n k hk s (by rw [od_up_i]; omega) hs0.1 hsb hf (by rw [od_up_at, if_neg (by omega)]; exact h45) (fun g' a1 a2 a3 a4 => hx g' ((od_fr.rf.up (by omega)).tr a1) a2 (fun l1 => ?_) a4)
       have z := a3 l1
       rw [od_up_at, if_neg (by omega)] at z
       exact z)
  · refine r_aload_n dX11_goesAlong_104 rfl ?_
    refine r_dup dX11_goesAlong_105 (by first | exact od_ne2 | exact od_ne0) ?_
    refine r_getIj (j := 22) rfl dX11_goesAlong_106 fkX11_263 gf11_22 (mo_o hm) (by exact h22) ?_
    refine r_iconst dX11_goesAlong_109 li_1 ?_
    refine r_iaddE dX11_goesAlong_110 (by first | exact od_w0 (by omega) (by omega) | exact od_wI (by omega) (by omega) | rfl) ?_
    refine r_putIj (j := 22) rfl dX11_goesAlong_111 fkX11_263 gf11_22 pf11_22 (mo_o hm) ?_
    first
    | (have k0 : k = 0 := by omega
       exact sg_X11_gaR hm hp hv hl en n k hk s (by omega) hs0.1 hsb hf h45 hx)
    | (have k1 : k = 1 := by omega
       refine sg_X11_gaR hm hp (hv.fo (od_fr.rf.up (by unfold GY; omega))) hl en n k hk s (by rw [od_up_i]; omega) hs0.1 hsb hf (by rw [od_up_at, if_neg (by omega)]; exact h45) (fun g' a1 a2 a3 a4 => hx g' ((od_fr.rf.up (by omega)).tr a1) a2 (fun l1 => ?_) a4)
       have z := a3 l1
       rw [od_up_at, if_neg (by omega)] at z
       exact z)
set_option maxRecDepth 10000 in
theorem sg_X11_gaZ {E : od_E} {g : od_G} {Q : Option od_V → od_G → Prop} {M : Int} (hm : MoAt E M) (en lv n k : Int) (hk : n ≤ k) (hx : od_Rq 48 mX11_goesAlong od_Z0 E (E, Q) 160 [some (2, M), some (0, en), some (0, lv), some (0, n), some (0, k)] [] E g) : od_Rq 48 mX11_goesAlong od_Z0 E (E, Q) 93 [some (2, M), some (0, en), some (0, lv), some (0, n), some (0, k)] [] E g := by
  refine r_iload dX11_goesAlong_93 rfl ?_
  refine r_iload_n dX11_goesAlong_95 rfl ?_
  refine r_icmp_ge (tgt := 160) dX11_goesAlong_96 rfl (fun c96 => ?_) (fun h => absurd h (by omega))
  exact hx
