/-! a sum that stands in a clause -/
def OA (lw : Bool) (g g2 : od_G) (rd t : Int) (B : Int → Int) (n c : Int) (s : pS) (r : pR) : Prop := od_fr (XC rd t (g t 7) c) g g2 ∧ g2 t 6 = g t 6 ∧ (g2 (t + 1) c = g (t + 1) c ∧ g2 (t + 2) c = g (t + 2) c ∧ g2 (t + 4) c = g (t + 4) c ∧ g2 (t + 5) c = g (t + 5) c) ∧ RSt g2 rd B n r.1 ∧ (g t 7 ≤ g2 t 7 ∧ g2 t 7 ≤ r.1.1 ∧ s.1 ≤ r.1.1 ∧ r.1.1 ≤ 400) ∧ (r.1.2.2 = -1 → EvOk lw (g2 (t + 6)) (g2 (t + 3) c) (g2 t 7) r.2)
theorem OA.mk {lw : Bool} {g g1 : od_G} {rd t : Int} {B : Int → Int} {n c : Int} {s : pS} {r : pR} (hrt : rd + 1 ≤ t) (hz : g t 7 + 1 ≤ s.1) (h : RQ pBs 19 (wlI lw) (od_up g (t + 3) c (g t 7)) g1 rd t B n s r) : OA lw g (cTPut g1 t 0 0) rd t B n c s r := by
  have e7 : od_up g (t + 3) c (g t 7) t 7 = g t 7 := od_upn (by omega)
  have a3 := h.2.2.1
  have a1 := h.1
  rw [e7] at a3 a1
  have es : ∀ x y : Int, x ≠ rd → x ≠ t → x ≠ t + 6 → x ≠ t + 3 → cTPut g1 t 0 0 x y = g x y := fun x y h1 h2 h3 h4 => by
    rw [cTPut_rd ⟨h2, h3⟩, a1 x y (fun z => by unfold XP at z; omega), od_upn h4]
  refine ⟨?_, ?_, ⟨es _ _ (by omega) (by omega) (by omega) (by omega), es _ _ (by omega) (by omega) (by omega) (by omega), es _ _ (by omega) (by omega) (by omega) (by omega), es _ _ (by omega) (by omega) (by omega) (by omega)⟩, h.2.1.put hrt, ⟨?_, ?_, a3.2.2.1, a3.2.2.2⟩, fun z => ?_⟩
  · refine (od_fr.rf.up (Or.inr (Or.inr ⟨by omega, by omega, rfl⟩))).tr ((a1.mo (XC.xp (Int.le_refl _))).tr ((cTPut_fr (by omega)).mo (XC.xp (Int.le_refl _))))
  · unfold cTPut
    rw [od_up_at, if_neg (by omega), od_upn (by omega), a1 t 6 (fun z => by unfold XP at z; omega), od_upn (by omega)]
  · rw [cTPut_7]; omega
  · rw [cTPut_7]; omega
  · have e := EvOk.sum h pBs_i (by omega) z
    rw [e7] at e
    have e3 : cTPut g1 t 0 0 (t + 3) c = g t 7 := by
      rw [cTPut_rd (by omega), a1 (t + 3) c (fun z => by unfold XP at z; omega), od_up_at, if_pos rfl]
    rw [e3, cTPut_7]
    exact e
/-- the word between two sums -/
theorem OA.wd {lw : Bool} {g g2 g3 : od_G} {rd t : Int} {B : Int → Int} {n c : Int} {s s2 : pS} {r : pR} (hrt : rd + 1 ≤ t) (h : OA lw g g2 rd t B n c s r) (f : od_fr (fun x y => x = rd ∧ 3 ≤ y ∧ y ≤ 8) g2 g3) (h3 : RSt g3 rd B n s2) (hs : r.1.1 ≤ s2.1 ∧ s2.1 ≤ 400) (hb : s2.2.2 = -1 → r.1.2.2 = -1) : OA lw g g3 rd t B n c s (s2, r.2) := by
  obtain ⟨a1, a2, a3, a4, a5, a6⟩ := h
  have es : ∀ x y : Int, x ≠ rd → g3 x y = g2 x y := fun x y hx => f x y (by omega)
  have er : ∀ x : Int, x ≠ rd → g3 x = g2 x := fun x hx => funext fun y => es x y hx
  refine ⟨a1.tr ((fr_rd f (by omega)).mo (XC.xp (Int.le_refl _))), ?_, ?_, h3, ?_, fun z => ?_⟩
  · rw [es t 6 (by omega)]; exact a2
  · rw [er (t + 1) (by omega), er (t + 2) (by omega), er (t + 4) (by omega), er (t + 5) (by omega)]; exact a3
  · rw [es t 7 (by omega)]
    exact ⟨a5.1, by show _ ≤ s2.1; omega, by show _ ≤ s2.1; omega, hs.2⟩
  · rw [er (t + 6) (by omega), er (t + 3) (by omega), es t 7 (by omega)]
    exact a6 (hb z)
theorem OQ.one {g g2 : od_G} {rd t : Int} {B : Int → Int} {n c : Int} {s : pS} {r : pR} (h : OA false g g2 rd t B n c s r) (h4 : g (t + 4) c = -1) : OQ g g2 rd t B n c s (r.1, r.2, pOne) := by
  obtain ⟨a1, a2, a3, a4, a5, a6⟩ := h
  refine ⟨a1, a2, ⟨a3.1, a3.2.2.2⟩, a4, ⟨a5.1, by show _ ≤ r.1.1 + 1; omega, a5.2.2.1, a5.2.2.2, fun _ => a5.2.1⟩, fun z => ⟨a6 z, ?_⟩⟩
  rw [a3.2.2.1, h4]
  exact EvOk.none _ _ _
theorem OQ.two {g g2 g3 : od_G} {rd t : Int} {B : Int → Int} {n c : Int} {s s2 : pS} {d : pD} {r : pR} (hrt : rd + 1 ≤ t) (h : OA false g g2 rd t B n c s (s2, d)) (hy : s2.2.2 = -1 → g2 t 7 + 1 ≤ s2.1) (h2 : RQ pBs 19 (wlI false) (od_up g2 (t + 4) c (g2 t 7)) g3 rd t B n s2 r) (hb : r.1.2.2 = -1 → s2.2.2 = -1) (hf : s2.2.2 ≠ -1 → r.1 = s2) : OQ g (cTPut g3 t 0 0) rd t B n c s (r.1, d, r.2) := by
  obtain ⟨a1, a2, a3, a4, a5, a6⟩ := h
  have e7 : od_up g2 (t + 4) c (g2 t 7) t 7 = g2 t 7 := od_upn (by omega)
  have b3 := h2.2.2.1
  have b1 := h2.1
  rw [e7] at b3 b1
  have a5x : g2 t 7 ≤ s2.1 ∧ s.1 ≤ s2.1 := ⟨a5.2.1, a5.2.2.1⟩
  have es : ∀ x y : Int, x ≠ rd → x ≠ t → x ≠ t + 6 → x ≠ t + 4 → cTPut g3 t 0 0 x y = g2 x y := fun x y h1 h2 h3 h4 => by
    rw [cTPut_rd ⟨h2, h3⟩, b1 x y (fun z => by unfold XP at z; omega), od_upn h4]
  have hf1 : od_fr (XC rd t (g t 7) c) g2 (cTPut g3 t 0 0) := by
    have q1 : od_fr (XC rd t (g t 7) c) g2 (od_up g2 (t + 4) c (g2 t 7)) := od_fr.rf.up (Or.inr (Or.inr ⟨by omega, by omega, rfl⟩))
    exact q1.tr ((b1.mo (XC.xp (by omega))).tr ((cTPut_fr (z := g t 7) (by omega)).mo (XC.xp (Int.le_refl _))))
  refine ⟨a1.tr hf1, ?_, ⟨?_, ?_⟩, h2.2.1.put hrt, ⟨?_, ?_, ?_, b3.2.2.2, fun z => ?_⟩, fun z => ⟨?_, ?_⟩⟩
  · unfold cTPut
    rw [od_up_at, if_neg (by omega), od_upn (by omega), b1 t 6 (fun z => by unfold XP at z; omega), od_upn (by omega)]
    exact a2
  · rw [es _ _ (by omega) (by omega) (by omega) (by omega)]; exact a3.1
  · rw [es _ _ (by omega) (by omega) (by omega) (by omega)]; exact a3.2.2.2
  · rw [cTPut_7]; omega
  · rw [cTPut_7]; show g3 t 7 + 1 ≤ r.1.1 + 1; omega
  · show s.1 ≤ r.1.1; omega
  · have := hy (hb z)
    rw [cTPut_7]; show g3 t 7 + 1 ≤ r.1.1; omega
  · rw [es (t + 3) c (by omega) (by omega) (by omega) (by omega), cTPut_7]
    refine (a6 (hb z)).mo (by omega) (fun j j0 j1 => ?_)
    rw [cTPut_r, if_neg (by omega), b1 (t + 6) j (fun z => by unfold XP at z; omega), od_upn (by omega)]
  · have e := EvOk.sum h2 pBs_i (by omega) z
    rw [e7] at e
    have e3 : cTPut g3 t 0 0 (t + 4) c = g2 t 7 := by
      rw [cTPut_rd (by omega), b1 (t + 4) c (fun z => by unfold XP at z; omega), od_up_at, if_pos rfl]
    rw [e3, cTPut_7]
    exact e
theorem RSt.upt {g : od_G} {rd t a c x : Int} {B : Int → Int} {n : Int} {s : pS} (h : RSt g rd B n s) (ho : rd + 1 ≤ t) (ha : t ≤ a) : RSt (od_up g a c x) rd B n s := h.e (fun y _ _ => od_upn (by omega))
theorem TpOk.upt {g : od_G} {rd tp t a c x : Int} {B : Int → Int} {n : Int} (h : TpOk g tp B n) (ho : tp + 2 ≤ rd ∧ rd + 1 ≤ t) (ha : t ≤ a) : TpOk (od_up g a c x) tp B n := h.fr (X := fun x y => x = a) (od_fr.rf.up rfl) (fun y z => by omega) (by omega)
theorem pSumL_f {c v pl : Int → Int} {lw : Bool} {L : Nat} {s : pS} (h : (pSumL c v pl lw L s).1.2.2 = -1) : s.2.2 = -1 := by
  by_cases z : s.2.2 = -1
  · exact z
  · rw [pSumL_bad z] at h; exact h
theorem pMu_f1 {c pl : Int → Int} {k : Int} {s : pS} (hp : 0 ≤ pl s.1) (h : (pMu c pl k s).2.2 = -1) : s.2.2 = -1 := by
  by_cases z : s.2.2 = -1 ∧ c s.1 = k
  · exact z.1
  · rw [pMu_f z] at h
    exact absurd h (pF_nb hp)
set_option maxRecDepth 10000 in
theorem c_X3_readOrder0 {E : od_E} {g : od_G} {rd tp t : Int} (hr : ReAt E rd tp t) {B : Int → Int} {n : Int} (hT : TpOk g tp B n) {s : pS} (hR : RSt g rd B n s) (hz : 0 ≤ g t 7 ∧ g t 7 + 1 ≤ s.1 ∧ s.1 ≤ 400) (hl : g rd 2 = lwI false) (c : Int) (hc : 0 ≤ c ∧ c < 12) (h2 : g (t + 2) c = 1 ∧ g (t + 3) c = -1 ∧ g (t + 4) c = -1) : od_Cq (35) mX3_readOrder [(2, rd), (0, c), (0, 0)] E g (E, fun v g' => v = none ∧ OQ g g' rd t B n c s ((pTi (tC B n) (tV B n) (tpl B n) (pOb (tC B n) (tV B n) (tpl B n) 0 s).1).1, (pOb (tC B n) (tV B n) (tpl B n) 0 s).2) ∧ ((pTi (tC B n) (tV B n) (tpl B n) (pOb (tC B n) (tV B n) (tpl B n) 0 s).1).1.2.2 = -1 → g' (t + 2) c = (pTi (tC B n) (tV B n) (tpl B n) (pOb (tC B n) (tV B n) (tpl B n) 0 s).1).2)) := by
  have hr0 := hr
  obtain ⟨hkr, e0, e1, hta, htx, hor⟩ := hr
  have htx0 := htx
  have hk9 := htx.1
  obtain ⟨_, x0, x1, x2, x3, x4, x5, y1, y2, y3, y4, y5, y6, _, _⟩ := htx
  have h40 := hT.2.2.1
  refine od_cqI pnX3 rfl (Nat.le_of_ble_eq_true rfl) od_le.rf ?_
  show od_Rq (35) mX3_readOrder od_Z0 E (E, fun v g' => v = none ∧ OQ g g' rd t B n c s ((pTi (tC B n) (tV B n) (tpl B n) (pOb (tC B n) (tV B n) (tpl B n) 0 s).1).1, (pOb (tC B n) (tV B n) (tpl B n) 0 s).2) ∧ ((pTi (tC B n) (tV B n) (tpl B n) (pOb (tC B n) (tV B n) (tpl B n) 0 s).1).1.2.2 = -1 → g' (t + 2) c = (pTi (tC B n) (tV B n) (tpl B n) (pOb (tC B n) (tV B n) (tpl B n) 0 s).1).2)) 0 [some (2, rd), some (0, c), some (0, 0)] [] E g
  refine r_iload_n dX3_readOrder_0 rfl ?_
  refine r_iconst dX3_readOrder_1 li_3 ?_
  refine r_icmp_eq (tgt := 36) dX3_readOrder_2 rfl (fun h => absurd h (by omega)) (fun _ => ?_)
  refine r_aload_n dX3_readOrder_5 rfl ?_
  refine r_getR dX3_readOrder_6 fkX3_14 gf3_0 (by assumption) (by assumption) ?_
  refine r_getR dX3_readOrder_9 fkX3_75 gf9_2 (by assumption) (by assumption) ?_
  refine r_iload_n dX3_readOrder_12 rfl ?_
  refine r_aload_n dX3_readOrder_13 rfl ?_
  refine r_getR dX3_readOrder_14 fkX3_14 gf3_0 (by assumption) (by assumption) ?_
  refine r_getIj (j := 7) rfl dX3_readOrder_17 fkX3_79 gf9_7 (by assumption) (by (repeat (first | rewrite [od_upn (by omega)] | rewrite [od_up_at, if_pos (by omega)] | rewrite [od_up_at, if_neg (by omega)])); rfl) ?_
  refine r_iast dX3_readOrder_20 (by assumption) (by omega) ?_
  refine r_aload_n dX3_readOrder_21 rfl ?_
  refine r_iconst dX3_readOrder_22 li_0 ?_
  refine r_callV1p dX3_readOrder_23 cvX3_82 (by assumption) (c_X3_sum8 hr0 (hT.upt (rd := rd) (t := t) (a := t + 3) (c := c) (x := g t 7) hor (by omega)) (hR.upt hor.2 (by omega)) ⟨by rw [od_upn (by omega)]; omega, by rw [od_upn (by omega)]; omega, hz.2.2⟩ (lw := false) (by rw [od_upn (by omega)]; exact hl)) (by decide) (Nat.le_of_ble_eq_true rfl) od_le.rf (fun r23 g23 h23 => ?_)
  obtain ⟨rfl, hq23⟩ := h23
  show od_Rq _ _ _ _ _ _ _ [] _ _
  have hA := OA.mk hor.2 hz.2.1 hq23
  have b23 := hq23.2.2.1
  rw [od_upn (by omega)] at b23
  have hTA := hT.xc hor hA.1
  have hlA : cTPut g23 t 0 0 rd 2 = lwI false := (hA.1 rd 2 (fun z => by unfold XC XP at z; omega)).trans hl
  refine r_aload_n dX3_readOrder_26 rfl ?_
  refine r_getR dX3_readOrder_27 fkX3_14 gf3_0 (by assumption) (by assumption) ?_
  refine r_iconst dX3_readOrder_30 li_0 ?_
  refine r_iconst dX3_readOrder_31 li_0 ?_
  refine r_callV2i dX3_readOrder_32 cvX3_86 (by assumption) (c_X9_put htx0 _ _ (by omega)) (by decide) (Nat.le_of_ble_eq_true rfl) od_le.rf ?_
  refine r_pop dX3_readOrder_35 (by first | exact od_ne2 | exact od_ne0) ?_
  refine r_iload_n dX3_readOrder_36 rfl ?_
  refine r_if_eq (tgt := 45) dX3_readOrder_37 rfl (fun _ => ?_) (fun h => absurd h (by omega))
  refine r_aload_n dX3_readOrder_45 rfl ?_
  refine r_iload_n dX3_readOrder_46 rfl ?_
  refine r_if_ne (tgt := 55) dX3_readOrder_47 rfl (fun h => absurd h (by omega)) (fun _ => ?_)
  refine r_ldcs (i := 4) rfl (by decide) rfl dX3_readOrder_50 ?_
  refine r_goto (tgt := 57) dX3_readOrder_52 rfl ?_
  refine r_callV1p dX3_readOrder_57 cvX3_95 (by assumption) (c_X3_takeWord hr0 hTA hA.2.2.2.1 (by decide) (k := 19) (by decide) rfl) (by decide) (Nat.le_of_ble_eq_true rfl) od_le.rf (fun r57 g57 h57 => ?_)
  rcases h57 with ⟨rfl, h57⟩ | ⟨rfl, h57⟩
  · show od_Rq _ _ _ _ _ _ _ ((0, 1) :: _) _ _
    skip
    refine r_if_ne (tgt := 67) dX3_readOrder_60 rfl (fun _ => ?_) (fun h => absurd h (by decide))
    have hsB := h57.2.2.i4 h57.1.1 h40
    have eB := pMu_t (pl := tpl B n) h57.1
    have hAB : OA false g g57 rd t B n c s ((pMu (tC B n) (tpl B n) 19 (pSumL (tC B n) (tV B n) (tpl B n) false 8 s).1), (pSumL (tC B n) (tV B n) (tpl B n) false 8 s).2) := by
      rw [eB]
      exact hA.wd hor.2 (h57.2.1.mo (fun x y z => by omega)) h57.2.2 ⟨by show _ ≤ _ + 1; omega, hsB⟩ (fun _ => h57.1.1)
    have hRB := hAB.2.2.2.1
    have hsB := hAB.2.2.2.2.1.2.2.2
    have hTB := hT.xc hor hAB.1
    have hlB : g57 rd 2 = lwI false := (hAB.1 rd 2 (fun z => by unfold XC XP at z; omega)).trans hl
    have h7B := hAB.2.2.2.2.1
    have hyB : ((pMu (tC B n) (tpl B n) 19 (pSumL (tC B n) (tV B n) (tpl B n) false 8 s).1)).2.2 = -1 → g57 t 7 + 1 ≤ ((pMu (tC B n) (tpl B n) 19 (pSumL (tC B n) (tV B n) (tpl B n) false 8 s).1)).1 := fun _ => by
      rw [eB, h57.2.1 t 7 (by omega)]
      have := hA.2.2.2.2.1.2.1
      show _ ≤ _ + 1
      omega
    refine r_aload_n dX3_readOrder_67 rfl ?_
    refine r_getR dX3_readOrder_68 fkX3_14 gf3_0 (by assumption) (by assumption) ?_
    refine r_getR dX3_readOrder_71 fkX3_109 gf9_3 (by assumption) (by assumption) ?_
    refine r_iload_n dX3_readOrder_74 rfl ?_
    refine r_aload_n dX3_readOrder_75 rfl ?_
    refine r_getR dX3_readOrder_76 fkX3_14 gf3_0 (by assumption) (by assumption) ?_
    refine r_getIj (j := 7) rfl dX3_readOrder_79 fkX3_79 gf9_7 (by assumption) (by (repeat (first | rewrite [od_upn (by omega)] | rewrite [od_up_at, if_pos (by omega)] | rewrite [od_up_at, if_neg (by omega)])); rfl) ?_
    refine r_iast dX3_readOrder_82 (by assumption) (by omega) ?_
    refine r_aload_n dX3_readOrder_83 rfl ?_
    refine r_iconst dX3_readOrder_84 li_0 ?_
    refine r_callV1p dX3_readOrder_85 cvX3_82 (by assumption) (c_X3_sum8 hr0 (hTB.upt (rd := rd) (t := t) hor (by omega)) (hRB.upt hor.2 (by omega)) ⟨by rw [od_upn (by omega)]; omega, by rw [od_upn (by omega)]; omega, hsB⟩ (lw := false) (by rw [od_upn (by omega)]; exact hlB)) (by decide) (Nat.le_of_ble_eq_true rfl) od_le.rf (fun r85 g85 h85 => ?_)
    obtain ⟨rfl, hq85⟩ := h85
    show od_Rq _ _ _ _ _ _ _ [] _ _
    have b85 := hq85.2.2.1
    rw [od_upn (by omega)] at b85
    refine r_aload_n dX3_readOrder_88 rfl ?_
    refine r_getR dX3_readOrder_89 fkX3_14 gf3_0 (by assumption) (by assumption) ?_
    refine r_iconst dX3_readOrder_92 li_0 ?_
    refine r_iconst dX3_readOrder_93 li_0 ?_
    refine r_callV2i dX3_readOrder_94 cvX3_86 (by assumption) (c_X9_put htx0 _ _ (by omega)) (by decide) (Nat.le_of_ble_eq_true rfl) od_le.rf ?_
    refine r_pop dX3_readOrder_97 (by first | exact od_ne2 | exact od_ne0) ?_
    refine sg_X3_ti hr0 hT hR hz hl c 0 hc h2 (u := (pOb (tC B n) (tV B n) (tpl B n) 0 s)) (OQ.two hor.2 hAB hyB hq85 pSumL_f (fun z => by rw [pSumL_bad z])) ?_
    rw [cTPut_rd (by omega), hq85.1 (t + 2) c (fun z => by unfold XP at z; omega), od_upn (by omega)]
    exact hAB.2.2.1.2.1.trans h2.1
  · show od_Rq _ _ _ _ _ _ _ ((0, 0) :: _) _ _
    skip
    refine r_if_ne (tgt := 67) dX3_readOrder_60 rfl (fun h => absurd h (by decide)) (fun _ => ?_)
    refine r_aload_n dX3_readOrder_63 rfl ?_
    refine r_callV0v dX3_readOrder_64 cvX3_60 (by assumption) (c_X3_setFault hr0) (by decide) (Nat.le_of_ble_eq_true rfl) od_le.rf ?_
    obtain ⟨h57a, rfl⟩ := h57
    have hab := hA.2.2.2.2.1
    have eB := pMu_f (pl := tpl B n) h57a
    have hnb : ((pMu (tC B n) (tpl B n) 19 (pSumL (tC B n) (tV B n) (tpl B n) false 8 s).1)).2.2 ≠ -1 := by rw [eB]; exact pF_nb (by have := tpl_b (B := B) h40.1 (pSumL (tC B n) (tV B n) (tpl B n) false 8 s).1.1; omega)
    have hAB : OA false g (cSF (cTPut g23 t 0 0) rd) rd t B n c s ((pMu (tC B n) (tpl B n) 19 (pSumL (tC B n) (tV B n) (tpl B n) false 8 s).1), (pSumL (tC B n) (tV B n) (tpl B n) false 8 s).2) := by
      rw [eB]
      exact hA.wd hor.2 (cSF_fr _ _) (cSF_st h40.1 hA.2.2.2.1) ⟨by rw [pF_1]; omega, by rw [pF_1]; omega⟩ (fun z => absurd z (pF_nb (by have := tpl_b (B := B) h40.1 (pSumL (tC B n) (tV B n) (tpl B n) false 8 s).1.1; omega)))
    have hRB := hAB.2.2.2.1
    have hsB := hAB.2.2.2.2.1.2.2.2
    have hTB := hT.xc hor hAB.1
    have hlB : cSF (cTPut g23 t 0 0) rd rd 2 = lwI false := (hAB.1 rd 2 (fun z => by unfold XC XP at z; omega)).trans hl
    have h7B := hAB.2.2.2.2.1
    have hyB : ((pMu (tC B n) (tpl B n) 19 (pSumL (tC B n) (tV B n) (tpl B n) false 8 s).1)).2.2 = -1 → cSF (cTPut g23 t 0 0) rd t 7 + 1 ≤ ((pMu (tC B n) (tpl B n) 19 (pSumL (tC B n) (tV B n) (tpl B n) false 8 s).1)).1 := fun z => absurd z hnb
    refine r_aload_n dX3_readOrder_67 rfl ?_
    refine r_getR dX3_readOrder_68 fkX3_14 gf3_0 (by assumption) (by assumption) ?_
    refine r_getR dX3_readOrder_71 fkX3_109 gf9_3 (by assumption) (by assumption) ?_
    refine r_iload_n dX3_readOrder_74 rfl ?_
    refine r_aload_n dX3_readOrder_75 rfl ?_
    refine r_getR dX3_readOrder_76 fkX3_14 gf3_0 (by assumption) (by assumption) ?_
    refine r_getIj (j := 7) rfl dX3_readOrder_79 fkX3_79 gf9_7 (by assumption) (by (repeat (first | rewrite [od_upn (by omega)] | rewrite [od_up_at, if_pos (by omega)] | rewrite [od_up_at, if_neg (by omega)])); rfl) ?_
    refine r_iast dX3_readOrder_82 (by assumption) (by omega) ?_
    refine r_aload_n dX3_readOrder_83 rfl ?_
    refine r_iconst dX3_readOrder_84 li_0 ?_
    refine r_callV1p dX3_readOrder_85 cvX3_82 (by assumption) (c_X3_sum8 hr0 (hTB.upt (rd := rd) (t := t) hor (by omega)) (hRB.upt hor.2 (by omega)) ⟨by rw [od_upn (by omega)]; omega, by rw [od_upn (by omega)]; omega, hsB⟩ (lw := false) (by rw [od_upn (by omega)]; exact hlB)) (by decide) (Nat.le_of_ble_eq_true rfl) od_le.rf (fun r85 g85 h85 => ?_)
    obtain ⟨rfl, hq85⟩ := h85
    show od_Rq _ _ _ _ _ _ _ [] _ _
    have b85 := hq85.2.2.1
    rw [od_upn (by omega)] at b85
    refine r_aload_n dX3_readOrder_88 rfl ?_
    refine r_getR dX3_readOrder_89 fkX3_14 gf3_0 (by assumption) (by assumption) ?_
    refine r_iconst dX3_readOrder_92 li_0 ?_
    refine r_iconst dX3_readOrder_93 li_0 ?_
    refine r_callV2i dX3_readOrder_94 cvX3_86 (by assumption) (c_X9_put htx0 _ _ (by omega)) (by decide) (Nat.le_of_ble_eq_true rfl) od_le.rf ?_
    refine r_pop dX3_readOrder_97 (by first | exact od_ne2 | exact od_ne0) ?_
    refine sg_X3_ti hr0 hT hR hz hl c 0 hc h2 (u := (pOb (tC B n) (tV B n) (tpl B n) 0 s)) (OQ.two hor.2 hAB hyB hq85 pSumL_f (fun z => by rw [pSumL_bad z])) ?_
    rw [cTPut_rd (by omega), hq85.1 (t + 2) c (fun z => by unfold XP at z; omega), od_upn (by omega)]
    exact hAB.2.2.1.2.1.trans h2.1
set_option maxRecDepth 10000 in
theorem c_X3_readOrder1 {E : od_E} {g : od_G} {rd tp t : Int} (hr : ReAt E rd tp t) {B : Int → Int} {n : Int} (hT : TpOk g tp B n) {s : pS} (hR : RSt g rd B n s) (hz : 0 ≤ g t 7 ∧ g t 7 + 1 ≤ s.1 ∧ s.1 ≤ 400) (hl : g rd 2 = lwI false) (c : Int) (hc : 0 ≤ c ∧ c < 12) (h2 : g (t + 2) c = 1 ∧ g (t + 3) c = -1 ∧ g (t + 4) c = -1) : od_Cq (35) mX3_readOrder [(2, rd), (0, c), (0, 1)] E g (E, fun v g' => v = none ∧ OQ g g' rd t B n c s ((pTi (tC B n) (tV B n) (tpl B n) (pOb (tC B n) (tV B n) (tpl B n) 1 s).1).1, (pOb (tC B n) (tV B n) (tpl B n) 1 s).2) ∧ ((pTi (tC B n) (tV B n) (tpl B n) (pOb (tC B n) (tV B n) (tpl B n) 1 s).1).1.2.2 = -1 → g' (t + 2) c = (pTi (tC B n) (tV B n) (tpl B n) (pOb (tC B n) (tV B n) (tpl B n) 1 s).1).2)) := by
  have hr0 := hr
  obtain ⟨hkr, e0, e1, hta, htx, hor⟩ := hr
  have htx0 := htx
  have hk9 := htx.1
  obtain ⟨_, x0, x1, x2, x3, x4, x5, y1, y2, y3, y4, y5, y6, _, _⟩ := htx
  have h40 := hT.2.2.1
  refine od_cqI pnX3 rfl (Nat.le_of_ble_eq_true rfl) od_le.rf ?_
  show od_Rq (35) mX3_readOrder od_Z0 E (E, fun v g' => v = none ∧ OQ g g' rd t B n c s ((pTi (tC B n) (tV B n) (tpl B n) (pOb (tC B n) (tV B n) (tpl B n) 1 s).1).1, (pOb (tC B n) (tV B n) (tpl B n) 1 s).2) ∧ ((pTi (tC B n) (tV B n) (tpl B n) (pOb (tC B n) (tV B n) (tpl B n) 1 s).1).1.2.2 = -1 → g' (t + 2) c = (pTi (tC B n) (tV B n) (tpl B n) (pOb (tC B n) (tV B n) (tpl B n) 1 s).1).2)) 0 [some (2, rd), some (0, c), some (0, 1)] [] E g
  refine r_iload_n dX3_readOrder_0 rfl ?_
  refine r_iconst dX3_readOrder_1 li_3 ?_
  refine r_icmp_eq (tgt := 36) dX3_readOrder_2 rfl (fun h => absurd h (by omega)) (fun _ => ?_)
  refine r_aload_n dX3_readOrder_5 rfl ?_
  refine r_getR dX3_readOrder_6 fkX3_14 gf3_0 (by assumption) (by assumption) ?_
  refine r_getR dX3_readOrder_9 fkX3_75 gf9_2 (by assumption) (by assumption) ?_
  refine r_iload_n dX3_readOrder_12 rfl ?_
  refine r_aload_n dX3_readOrder_13 rfl ?_
  refine r_getR dX3_readOrder_14 fkX3_14 gf3_0 (by assumption) (by assumption) ?_
  refine r_getIj (j := 7) rfl dX3_readOrder_17 fkX3_79 gf9_7 (by assumption) (by (repeat (first | rewrite [od_upn (by omega)] | rewrite [od_up_at, if_pos (by omega)] | rewrite [od_up_at, if_neg (by omega)])); rfl) ?_
  refine r_iast dX3_readOrder_20 (by assumption) (by omega) ?_
  refine r_aload_n dX3_readOrder_21 rfl ?_
  refine r_iconst dX3_readOrder_22 li_0 ?_
  refine r_callV1p dX3_readOrder_23 cvX3_82 (by assumption) (c_X3_sum8 hr0 (hT.upt (rd := rd) (t := t) (a := t + 3) (c := c) (x := g t 7) hor (by omega)) (hR.upt hor.2 (by omega)) ⟨by rw [od_upn (by omega)]; omega, by rw [od_upn (by omega)]; omega, hz.2.2⟩ (lw := false) (by rw [od_upn (by omega)]; exact hl)) (by decide) (Nat.le_of_ble_eq_true rfl) od_le.rf (fun r23 g23 h23 => ?_)
  obtain ⟨rfl, hq23⟩ := h23
  show od_Rq _ _ _ _ _ _ _ [] _ _
  have hA := OA.mk hor.2 hz.2.1 hq23
  have b23 := hq23.2.2.1
  rw [od_upn (by omega)] at b23
  have hTA := hT.xc hor hA.1
  have hlA : cTPut g23 t 0 0 rd 2 = lwI false := (hA.1 rd 2 (fun z => by unfold XC XP at z; omega)).trans hl
  refine r_aload_n dX3_readOrder_26 rfl ?_
  refine r_getR dX3_readOrder_27 fkX3_14 gf3_0 (by assumption) (by assumption) ?_
  refine r_iconst dX3_readOrder_30 li_0 ?_
  refine r_iconst dX3_readOrder_31 li_0 ?_
  refine r_callV2i dX3_readOrder_32 cvX3_86 (by assumption) (c_X9_put htx0 _ _ (by omega)) (by decide) (Nat.le_of_ble_eq_true rfl) od_le.rf ?_
  refine r_pop dX3_readOrder_35 (by first | exact od_ne2 | exact od_ne0) ?_
  refine r_iload_n dX3_readOrder_36 rfl ?_
  refine r_if_eq (tgt := 45) dX3_readOrder_37 rfl (fun h => absurd h (by omega)) (fun _ => ?_)
  refine r_iload_n dX3_readOrder_40 rfl ?_
  refine r_iconst dX3_readOrder_41 li_1 ?_
  refine r_icmp_ne (tgt := 98) dX3_readOrder_42 rfl (fun h => absurd h (by omega)) (fun _ => ?_)
  refine r_aload_n dX3_readOrder_45 rfl ?_
  refine r_iload_n dX3_readOrder_46 rfl ?_
  refine r_if_ne (tgt := 55) dX3_readOrder_47 rfl (fun _ => ?_) (fun h => absurd h (by omega))
  refine r_ldcs (i := 5) rfl (by decide) rfl dX3_readOrder_55 ?_
  refine r_callV1p dX3_readOrder_57 cvX3_95 (by assumption) (c_X3_takeWord hr0 hTA hA.2.2.2.1 (by decide) (k := 22) (by decide) rfl) (by decide) (Nat.le_of_ble_eq_true rfl) od_le.rf (fun r57 g57 h57 => ?_)
  rcases h57 with ⟨rfl, h57⟩ | ⟨rfl, h57⟩
  · show od_Rq _ _ _ _ _ _ _ ((0, 1) :: _) _ _
    skip
    refine r_if_ne (tgt := 67) dX3_readOrder_60 rfl (fun _ => ?_) (fun h => absurd h (by decide))
    have hsB := h57.2.2.i4 h57.1.1 h40
    have eB := pMu_t (pl := tpl B n) h57.1
    have hAB : OA false g g57 rd t B n c s ((pMu (tC B n) (tpl B n) 22 (pSumL (tC B n) (tV B n) (tpl B n) false 8 s).1), (pSumL (tC B n) (tV B n) (tpl B n) false 8 s).2) := by
      rw [eB]
      exact hA.wd hor.2 (h57.2.1.mo (fun x y z => by omega)) h57.2.2 ⟨by show _ ≤ _ + 1; omega, hsB⟩ (fun _ => h57.1.1)
    have hRB := hAB.2.2.2.1
    have hsB := hAB.2.2.2.2.1.2.2.2
    have hTB := hT.xc hor hAB.1
    have hlB : g57 rd 2 = lwI false := (hAB.1 rd 2 (fun z => by unfold XC XP at z; omega)).trans hl
    have h7B := hAB.2.2.2.2.1
    have hyB : ((pMu (tC B n) (tpl B n) 22 (pSumL (tC B n) (tV B n) (tpl B n) false 8 s).1)).2.2 = -1 → g57 t 7 + 1 ≤ ((pMu (tC B n) (tpl B n) 22 (pSumL (tC B n) (tV B n) (tpl B n) false 8 s).1)).1 := fun _ => by
      rw [eB, h57.2.1 t 7 (by omega)]
      have := hA.2.2.2.2.1.2.1
      show _ ≤ _ + 1
      omega
    refine r_aload_n dX3_readOrder_67 rfl ?_
    refine r_getR dX3_readOrder_68 fkX3_14 gf3_0 (by assumption) (by assumption) ?_
    refine r_getR dX3_readOrder_71 fkX3_109 gf9_3 (by assumption) (by assumption) ?_
    refine r_iload_n dX3_readOrder_74 rfl ?_
    refine r_aload_n dX3_readOrder_75 rfl ?_
    refine r_getR dX3_readOrder_76 fkX3_14 gf3_0 (by assumption) (by assumption) ?_
    refine r_getIj (j := 7) rfl dX3_readOrder_79 fkX3_79 gf9_7 (by assumption) (by (repeat (first | rewrite [od_upn (by omega)] | rewrite [od_up_at, if_pos (by omega)] | rewrite [od_up_at, if_neg (by omega)])); rfl) ?_
    refine r_iast dX3_readOrder_82 (by assumption) (by omega) ?_
    refine r_aload_n dX3_readOrder_83 rfl ?_
    refine r_iconst dX3_readOrder_84 li_0 ?_
    refine r_callV1p dX3_readOrder_85 cvX3_82 (by assumption) (c_X3_sum8 hr0 (hTB.upt (rd := rd) (t := t) hor (by omega)) (hRB.upt hor.2 (by omega)) ⟨by rw [od_upn (by omega)]; omega, by rw [od_upn (by omega)]; omega, hsB⟩ (lw := false) (by rw [od_upn (by omega)]; exact hlB)) (by decide) (Nat.le_of_ble_eq_true rfl) od_le.rf (fun r85 g85 h85 => ?_)
    obtain ⟨rfl, hq85⟩ := h85
    show od_Rq _ _ _ _ _ _ _ [] _ _
    have b85 := hq85.2.2.1
    rw [od_upn (by omega)] at b85
    refine r_aload_n dX3_readOrder_88 rfl ?_
    refine r_getR dX3_readOrder_89 fkX3_14 gf3_0 (by assumption) (by assumption) ?_
    refine r_iconst dX3_readOrder_92 li_0 ?_
    refine r_iconst dX3_readOrder_93 li_0 ?_
    refine r_callV2i dX3_readOrder_94 cvX3_86 (by assumption) (c_X9_put htx0 _ _ (by omega)) (by decide) (Nat.le_of_ble_eq_true rfl) od_le.rf ?_
    refine r_pop dX3_readOrder_97 (by first | exact od_ne2 | exact od_ne0) ?_
    refine sg_X3_ti hr0 hT hR hz hl c 1 hc h2 (u := (pOb (tC B n) (tV B n) (tpl B n) 1 s)) (OQ.two hor.2 hAB hyB hq85 pSumL_f (fun z => by rw [pSumL_bad z])) ?_
    rw [cTPut_rd (by omega), hq85.1 (t + 2) c (fun z => by unfold XP at z; omega), od_upn (by omega)]
    exact hAB.2.2.1.2.1.trans h2.1
  · show od_Rq _ _ _ _ _ _ _ ((0, 0) :: _) _ _
    skip
    refine r_if_ne (tgt := 67) dX3_readOrder_60 rfl (fun h => absurd h (by decide)) (fun _ => ?_)
    refine r_aload_n dX3_readOrder_63 rfl ?_
    refine r_callV0v dX3_readOrder_64 cvX3_60 (by assumption) (c_X3_setFault hr0) (by decide) (Nat.le_of_ble_eq_true rfl) od_le.rf ?_
    obtain ⟨h57a, rfl⟩ := h57
    have hab := hA.2.2.2.2.1
    have eB := pMu_f (pl := tpl B n) h57a
    have hnb : ((pMu (tC B n) (tpl B n) 22 (pSumL (tC B n) (tV B n) (tpl B n) false 8 s).1)).2.2 ≠ -1 := by rw [eB]; exact pF_nb (by have := tpl_b (B := B) h40.1 (pSumL (tC B n) (tV B n) (tpl B n) false 8 s).1.1; omega)
    have hAB : OA false g (cSF (cTPut g23 t 0 0) rd) rd t B n c s ((pMu (tC B n) (tpl B n) 22 (pSumL (tC B n) (tV B n) (tpl B n) false 8 s).1), (pSumL (tC B n) (tV B n) (tpl B n) false 8 s).2) := by
      rw [eB]
      exact hA.wd hor.2 (cSF_fr _ _) (cSF_st h40.1 hA.2.2.2.1) ⟨by rw [pF_1]; omega, by rw [pF_1]; omega⟩ (fun z => absurd z (pF_nb (by have := tpl_b (B := B) h40.1 (pSumL (tC B n) (tV B n) (tpl B n) false 8 s).1.1; omega)))
    have hRB := hAB.2.2.2.1
    have hsB := hAB.2.2.2.2.1.2.2.2
    have hTB := hT.xc hor hAB.1
    have hlB : cSF (cTPut g23 t 0 0) rd rd 2 = lwI false := (hAB.1 rd 2 (fun z => by unfold XC XP at z; omega)).trans hl
    have h7B := hAB.2.2.2.2.1
    have hyB : ((pMu (tC B n) (tpl B n) 22 (pSumL (tC B n) (tV B n) (tpl B n) false 8 s).1)).2.2 = -1 → cSF (cTPut g23 t 0 0) rd t 7 + 1 ≤ ((pMu (tC B n) (tpl B n) 22 (pSumL (tC B n) (tV B n) (tpl B n) false 8 s).1)).1 := fun z => absurd z hnb
    refine r_aload_n dX3_readOrder_67 rfl ?_
    refine r_getR dX3_readOrder_68 fkX3_14 gf3_0 (by assumption) (by assumption) ?_
    refine r_getR dX3_readOrder_71 fkX3_109 gf9_3 (by assumption) (by assumption) ?_
    refine r_iload_n dX3_readOrder_74 rfl ?_
    refine r_aload_n dX3_readOrder_75 rfl ?_
    refine r_getR dX3_readOrder_76 fkX3_14 gf3_0 (by assumption) (by assumption) ?_
    refine r_getIj (j := 7) rfl dX3_readOrder_79 fkX3_79 gf9_7 (by assumption) (by (repeat (first | rewrite [od_upn (by omega)] | rewrite [od_up_at, if_pos (by omega)] | rewrite [od_up_at, if_neg (by omega)])); rfl) ?_
    refine r_iast dX3_readOrder_82 (by assumption) (by omega) ?_
    refine r_aload_n dX3_readOrder_83 rfl ?_
    refine r_iconst dX3_readOrder_84 li_0 ?_
    refine r_callV1p dX3_readOrder_85 cvX3_82 (by assumption) (c_X3_sum8 hr0 (hTB.upt (rd := rd) (t := t) hor (by omega)) (hRB.upt hor.2 (by omega)) ⟨by rw [od_upn (by omega)]; omega, by rw [od_upn (by omega)]; omega, hsB⟩ (lw := false) (by rw [od_upn (by omega)]; exact hlB)) (by decide) (Nat.le_of_ble_eq_true rfl) od_le.rf (fun r85 g85 h85 => ?_)
    obtain ⟨rfl, hq85⟩ := h85
    show od_Rq _ _ _ _ _ _ _ [] _ _
    have b85 := hq85.2.2.1
    rw [od_upn (by omega)] at b85
    refine r_aload_n dX3_readOrder_88 rfl ?_
    refine r_getR dX3_readOrder_89 fkX3_14 gf3_0 (by assumption) (by assumption) ?_
    refine r_iconst dX3_readOrder_92 li_0 ?_
    refine r_iconst dX3_readOrder_93 li_0 ?_
    refine r_callV2i dX3_readOrder_94 cvX3_86 (by assumption) (c_X9_put htx0 _ _ (by omega)) (by decide) (Nat.le_of_ble_eq_true rfl) od_le.rf ?_
    refine r_pop dX3_readOrder_97 (by first | exact od_ne2 | exact od_ne0) ?_
    refine sg_X3_ti hr0 hT hR hz hl c 1 hc h2 (u := (pOb (tC B n) (tV B n) (tpl B n) 1 s)) (OQ.two hor.2 hAB hyB hq85 pSumL_f (fun z => by rw [pSumL_bad z])) ?_
    rw [cTPut_rd (by omega), hq85.1 (t + 2) c (fun z => by unfold XP at z; omega), od_upn (by omega)]
    exact hAB.2.2.1.2.1.trans h2.1
set_option maxRecDepth 10000 in
theorem c_X3_readOrder2 {E : od_E} {g : od_G} {rd tp t : Int} (hr : ReAt E rd tp t) {B : Int → Int} {n : Int} (hT : TpOk g tp B n) {s : pS} (hR : RSt g rd B n s) (hz : 0 ≤ g t 7 ∧ g t 7 + 1 ≤ s.1 ∧ s.1 ≤ 400) (hl : g rd 2 = lwI false) (c : Int) (hc : 0 ≤ c ∧ c < 12) (h2 : g (t + 2) c = 1 ∧ g (t + 3) c = -1 ∧ g (t + 4) c = -1) : od_Cq (35) mX3_readOrder [(2, rd), (0, c), (0, 2)] E g (E, fun v g' => v = none ∧ OQ g g' rd t B n c s ((pTi (tC B n) (tV B n) (tpl B n) (pOb (tC B n) (tV B n) (tpl B n) 2 s).1).1, (pOb (tC B n) (tV B n) (tpl B n) 2 s).2) ∧ ((pTi (tC B n) (tV B n) (tpl B n) (pOb (tC B n) (tV B n) (tpl B n) 2 s).1).1.2.2 = -1 → g' (t + 2) c = (pTi (tC B n) (tV B n) (tpl B n) (pOb (tC B n) (tV B n) (tpl B n) 2 s).1).2)) := by
  have hr0 := hr
  obtain ⟨hkr, e0, e1, hta, htx, hor⟩ := hr
  have htx0 := htx
  have hk9 := htx.1
  obtain ⟨_, x0, x1, x2, x3, x4, x5, y1, y2, y3, y4, y5, y6, _, _⟩ := htx
  have h40 := hT.2.2.1
  refine od_cqI pnX3 rfl (Nat.le_of_ble_eq_true rfl) od_le.rf ?_
  show od_Rq (35) mX3_readOrder od_Z0 E (E, fun v g' => v = none ∧ OQ g g' rd t B n c s ((pTi (tC B n) (tV B n) (tpl B n) (pOb (tC B n) (tV B n) (tpl B n) 2 s).1).1, (pOb (tC B n) (tV B n) (tpl B n) 2 s).2) ∧ ((pTi (tC B n) (tV B n) (tpl B n) (pOb (tC B n) (tV B n) (tpl B n) 2 s).1).1.2.2 = -1 → g' (t + 2) c = (pTi (tC B n) (tV B n) (tpl B n) (pOb (tC B n) (tV B n) (tpl B n) 2 s).1).2)) 0 [some (2, rd), some (0, c), some (0, 2)] [] E g
  refine r_iload_n dX3_readOrder_0 rfl ?_
  refine r_iconst dX3_readOrder_1 li_3 ?_
  refine r_icmp_eq (tgt := 36) dX3_readOrder_2 rfl (fun h => absurd h (by omega)) (fun _ => ?_)
  refine r_aload_n dX3_readOrder_5 rfl ?_
  refine r_getR dX3_readOrder_6 fkX3_14 gf3_0 (by assumption) (by assumption) ?_
  refine r_getR dX3_readOrder_9 fkX3_75 gf9_2 (by assumption) (by assumption) ?_
  refine r_iload_n dX3_readOrder_12 rfl ?_
  refine r_aload_n dX3_readOrder_13 rfl ?_
  refine r_getR dX3_readOrder_14 fkX3_14 gf3_0 (by assumption) (by assumption) ?_
  refine r_getIj (j := 7) rfl dX3_readOrder_17 fkX3_79 gf9_7 (by assumption) (by (repeat (first | rewrite [od_upn (by omega)] | rewrite [od_up_at, if_pos (by omega)] | rewrite [od_up_at, if_neg (by omega)])); rfl) ?_
  refine r_iast dX3_readOrder_20 (by assumption) (by omega) ?_
  refine r_aload_n dX3_readOrder_21 rfl ?_
  refine r_iconst dX3_readOrder_22 li_0 ?_
  refine r_callV1p dX3_readOrder_23 cvX3_82 (by assumption) (c_X3_sum8 hr0 (hT.upt (rd := rd) (t := t) (a := t + 3) (c := c) (x := g t 7) hor (by omega)) (hR.upt hor.2 (by omega)) ⟨by rw [od_upn (by omega)]; omega, by rw [od_upn (by omega)]; omega, hz.2.2⟩ (lw := false) (by rw [od_upn (by omega)]; exact hl)) (by decide) (Nat.le_of_ble_eq_true rfl) od_le.rf (fun r23 g23 h23 => ?_)
  obtain ⟨rfl, hq23⟩ := h23
  show od_Rq _ _ _ _ _ _ _ [] _ _
  have hA := OA.mk hor.2 hz.2.1 hq23
  have b23 := hq23.2.2.1
  rw [od_upn (by omega)] at b23
  have hTA := hT.xc hor hA.1
  have hlA : cTPut g23 t 0 0 rd 2 = lwI false := (hA.1 rd 2 (fun z => by unfold XC XP at z; omega)).trans hl
  refine r_aload_n dX3_readOrder_26 rfl ?_
  refine r_getR dX3_readOrder_27 fkX3_14 gf3_0 (by assumption) (by assumption) ?_
  refine r_iconst dX3_readOrder_30 li_0 ?_
  refine r_iconst dX3_readOrder_31 li_0 ?_
  refine r_callV2i dX3_readOrder_32 cvX3_86 (by assumption) (c_X9_put htx0 _ _ (by omega)) (by decide) (Nat.le_of_ble_eq_true rfl) od_le.rf ?_
  refine r_pop dX3_readOrder_35 (by first | exact od_ne2 | exact od_ne0) ?_
  refine r_iload_n dX3_readOrder_36 rfl ?_
  refine r_if_eq (tgt := 45) dX3_readOrder_37 rfl (fun h => absurd h (by omega)) (fun _ => ?_)
  refine r_iload_n dX3_readOrder_40 rfl ?_
  refine r_iconst dX3_readOrder_41 li_1 ?_
  refine r_icmp_ne (tgt := 98) dX3_readOrder_42 rfl (fun _ => ?_) (fun h => absurd h (by omega))
  exact sg_X3_ti hr0 hT hR hz hl c 2 hc h2 (u := (pOb (tC B n) (tV B n) (tpl B n) 2 s)) (OQ.one hA h2.2.2) (hA.2.2.1.2.1.trans h2.1)
set_option maxRecDepth 10000 in
theorem c_X3_readOrder3 {E : od_E} {g : od_G} {rd tp t : Int} (hr : ReAt E rd tp t) {B : Int → Int} {n : Int} (hT : TpOk g tp B n) {s : pS} (hR : RSt g rd B n s) (hz : 0 ≤ g t 7 ∧ g t 7 + 1 ≤ s.1 ∧ s.1 ≤ 400) (hl : g rd 2 = lwI false) (c : Int) (hc : 0 ≤ c ∧ c < 12) (h2 : g (t + 2) c = 1 ∧ g (t + 3) c = -1 ∧ g (t + 4) c = -1) : od_Cq (35) mX3_readOrder [(2, rd), (0, c), (0, 3)] E g (E, fun v g' => v = none ∧ OQ g g' rd t B n c s ((pTi (tC B n) (tV B n) (tpl B n) (pOb (tC B n) (tV B n) (tpl B n) 3 s).1).1, (pOb (tC B n) (tV B n) (tpl B n) 3 s).2) ∧ ((pTi (tC B n) (tV B n) (tpl B n) (pOb (tC B n) (tV B n) (tpl B n) 3 s).1).1.2.2 = -1 → g' (t + 2) c = (pTi (tC B n) (tV B n) (tpl B n) (pOb (tC B n) (tV B n) (tpl B n) 3 s).1).2)) := by
  have hr0 := hr
  obtain ⟨hkr, e0, e1, hta, htx, hor⟩ := hr
  have htx0 := htx
  have hk9 := htx.1
  obtain ⟨_, x0, x1, x2, x3, x4, x5, y1, y2, y3, y4, y5, y6, _, _⟩ := htx
  have h40 := hT.2.2.1
  refine od_cqI pnX3 rfl (Nat.le_of_ble_eq_true rfl) od_le.rf ?_
  show od_Rq (35) mX3_readOrder od_Z0 E (E, fun v g' => v = none ∧ OQ g g' rd t B n c s ((pTi (tC B n) (tV B n) (tpl B n) (pOb (tC B n) (tV B n) (tpl B n) 3 s).1).1, (pOb (tC B n) (tV B n) (tpl B n) 3 s).2) ∧ ((pTi (tC B n) (tV B n) (tpl B n) (pOb (tC B n) (tV B n) (tpl B n) 3 s).1).1.2.2 = -1 → g' (t + 2) c = (pTi (tC B n) (tV B n) (tpl B n) (pOb (tC B n) (tV B n) (tpl B n) 3 s).1).2)) 0 [some (2, rd), some (0, c), some (0, 3)] [] E g
  refine r_iload_n dX3_readOrder_0 rfl ?_
  refine r_iconst dX3_readOrder_1 li_3 ?_
  refine r_icmp_eq (tgt := 36) dX3_readOrder_2 rfl (fun _ => ?_) (fun h => absurd h (by omega))
  refine r_iload_n dX3_readOrder_36 rfl ?_
  refine r_if_eq (tgt := 45) dX3_readOrder_37 rfl (fun h => absurd h (by omega)) (fun _ => ?_)
  refine r_iload_n dX3_readOrder_40 rfl ?_
  refine r_iconst dX3_readOrder_41 li_1 ?_
  refine r_icmp_ne (tgt := 98) dX3_readOrder_42 rfl (fun _ => ?_) (fun h => absurd h (by omega))
  refine sg_X3_ti hr0 hT hR hz hl c 3 hc h2 (u := (pOb (tC B n) (tV B n) (tpl B n) 3 s)) ?_ h2.1
  exact ⟨od_fr.rf, rfl, ⟨rfl, rfl⟩, hR, ⟨Int.le_refl _, by show g t 7 ≤ s.1 + 1; omega, Int.le_refl _, hz.2.2, fun _ => by show g t 7 ≤ s.1; omega⟩, fun _ => ⟨by rw [h2.2.1]; exact EvOk.none _ _ _, by rw [h2.2.2]; exact EvOk.none _ _ _⟩⟩
