/-! Reader: a clause, a text -/
def ClOk (lw : Bool) (g : od_G) (t c z : Int) (k : pC) : Prop := g (t + 1) c = k.1 ∧ g (t + 2) c = k.2.1 ∧ EvOk lw (g (t + 6)) (g (t + 3) c) z k.2.2.1 ∧ EvOk lw (g (t + 6)) (g (t + 4) c) z k.2.2.2.1 ∧ EvOk lw (g (t + 6)) (g (t + 5) c) z k.2.2.2.2
def CQ (lw : Bool) (g g' : od_G) (rd t : Int) (B : Int → Int) (n : Int) (s : pS) (R : pS × pC) : Prop := od_fr (XC rd t (g t 7) (g t 6)) g g' ∧ RSt g' rd B n R.1 ∧ (g t 7 ≤ g' t 7 ∧ g' t 7 ≤ R.1.1 + 1 ∧ s.1 ≤ R.1.1 ∧ R.1.1 ≤ 400) ∧ (R.1.2.2 = -1 → g' t 7 ≤ R.1.1 ∧ g' t 6 = g t 6 + 1 ∧ ClOk lw g' t (g t 6) (g' t 7) R.2)
/-- a clause up to its test -/
def CB (lw : Bool) (g gv : od_G) (rd t : Int) (B : Int → Int) (n : Int) (s s2 : pS) (kd tm : Int) (d1 d2 : pD) : Prop := od_fr (XC rd t (g t 7) (g t 6)) g gv ∧ gv t 6 = g t 6 + 1 ∧ gv (t + 5) (g t 6) = -1 ∧ RSt gv rd B n s2 ∧ (g t 7 ≤ gv t 7 ∧ gv t 7 ≤ s2.1 + 1 ∧ s.1 ≤ s2.1 ∧ s2.1 ≤ 400 ∧ (s2.2.2 = -1 → gv t 7 ≤ s2.1)) ∧ (s2.2.2 = -1 → gv (t + 1) (g t 6) = kd ∧ gv (t + 2) (g t 6) = tm ∧ EvOk lw (gv (t + 6)) (gv (t + 3) (g t 6)) (gv t 7) d1 ∧ EvOk lw (gv (t + 6)) (gv (t + 4) (g t 6)) (gv t 7) d2)
theorem tA_0 {B : Int → Int} {n : Int} {s : pS} (hb : s.2.2 = -1) : (tA B n 0 s = -1 ∧ tC B n s.1 ≠ 1 ∧ tC B n s.1 ≠ 2 ∧ tC B n s.1 ≠ 3) ∨ (tA B n 0 s = 0 ∧ tC B n s.1 = 1) ∨ (tA B n 0 s = 1 ∧ tC B n s.1 = 2) ∨ (tA B n 0 s = 2 ∧ tC B n s.1 = 3) := by
  unfold tA
  rw [if_pos hb]
  generalize tC B n s.1 = k
  show (tWI [1, 2, 3] k 0 = -1 ∧ _) ∨ (tWI [1, 2, 3] k 0 = 0 ∧ _) ∨ (tWI [1, 2, 3] k 0 = 1 ∧ _) ∨ (tWI [1, 2, 3] k 0 = 2 ∧ _)
  simp only [tWI]
  repeat' split
  all_goals omega
theorem tA_1 {B : Int → Int} {n : Int} {s : pS} (hb : s.2.2 = -1) : (tA B n 1 s = -1 ∧ tC B n s.1 ≠ 20 ∧ tC B n s.1 ≠ 21 ∧ tC B n s.1 ≠ 23 ∧ tC B n s.1 ≠ 24) ∨ (tA B n 1 s = 0 ∧ tC B n s.1 = 20) ∨ (tA B n 1 s = 1 ∧ tC B n s.1 = 21) ∨ (tA B n 1 s = 2 ∧ tC B n s.1 = 23) ∨ (tA B n 1 s = 3 ∧ tC B n s.1 = 24) := by
  unfold tA
  rw [if_pos hb]
  generalize tC B n s.1 = k
  show (tWI [20, 21, 23, 24] k 0 = -1 ∧ _) ∨ (tWI [20, 21, 23, 24] k 0 = 0 ∧ _) ∨ (tWI [20, 21, 23, 24] k 0 = 1 ∧ _) ∨ (tWI [20, 21, 23, 24] k 0 = 2 ∧ _) ∨ (tWI [20, 21, 23, 24] k 0 = 3 ∧ _)
  simp only [tWI]
  repeat' split
  all_goals omega
set_option maxRecDepth 10000 in
theorem sg_X3_if {E : od_E} {g : od_G} {rd tp t : Int} (hr : ReAt E rd tp t) {B : Int → Int} {n : Int} (hT : TpOk g tp B n) {s : pS} (hR : RSt g rd B n s) (hz : 0 ≤ g t 7 ∧ g t 7 ≤ s.1 ∧ s.1 ≤ 400) {lw : Bool} (hl : g rd 2 = lwI lw) (h6 : 0 ≤ g t 6 ∧ g t 6 < 12) {R : pS × pC} {gv : od_G} {s2 : pS} {kd tm k1 : Int} {d1 d2 : pD} (hq : CB lw g gv rd t B n s s2 kd tm d1 d2) (hRe : R = ((pIf (tC B n) (tV B n) (tpl B n) lw s2).1, kd, tm, d1, d2, (pIf (tC B n) (tV B n) (tpl B n) lw s2).2)) : od_Rq 38 mX3_readClause od_Z0 E (E, fun v g' => v = none ∧ CQ lw g g' rd t B n s R) 102 [some (2, rd), some (0, k1), some (0, g t 6)] [] E gv := by
  have hr0 := hr
  obtain ⟨hkr, e0, e1, hta, htx, hor⟩ := hr
  have htx0 := htx
  have hk9 := htx.1
  obtain ⟨_, x0, x1, x2, x3, x4, x5, y1, y2, y3, y4, y5, y6, _, _⟩ := htx
  have h40 := hT.2.2.1
  have hTv := hT.xc (rd := rd) (t := t) hor hq.1
  have hqz := hq.2.2.2.2.1
  have hlv : gv rd 2 = lwI lw := (hq.1 rd 2 (fun z => by unfold XC XP at z; omega)).trans hl
  refine r_aload_n dX3_readClause_102 rfl ?_
  refine r_ldcs (i := 7) rfl (by decide) rfl dX3_readClause_103 ?_
  refine r_callV1p dX3_readClause_105 cvX3_95 (by assumption) (c_X3_takeWord hr0 hTv hq.2.2.2.1 (by decide) (k := 4) (by decide) rfl) (by decide) (Nat.le_of_ble_eq_true rfl) od_le.rf (fun r105 g105 h105 => ?_)
  rcases h105 with ⟨rfl, h105⟩ | ⟨rfl, h105⟩
  · show od_Rq _ _ _ _ _ _ _ ((0, 1) :: _) _ _
    skip
    refine r_if_eq (tgt := 142) dX3_readClause_108 rfl (fun h => absurd h (by decide)) (fun _ => ?_)
    have hT1 := hTv.xp (t := t) (z := g t 7) hor (fr_rd h105.2.1 (by omega))
    have e105 : g105 t 7 = gv t 7 := h105.2.1 t 7 (by omega)
    have hl1 : g105 rd 2 = lwI lw := (h105.2.1 rd 2 (by omega)).trans hlv
    have i105 := h105.2.2.i4 h105.1.1 h40
    have hqy := hqz.2.2.2.2 h105.1.1
    refine r_aload_n dX3_readClause_111 rfl ?_
    refine r_getR dX3_readClause_112 fkX3_14 gf3_0 (by assumption) (by assumption) ?_
    refine r_getR dX3_readClause_115 fkX3_99 gf9_4 (by assumption) (by assumption) ?_
    refine r_iload_n dX3_readClause_118 rfl ?_
    refine r_aload_n dX3_readClause_119 rfl ?_
    refine r_getR dX3_readClause_120 fkX3_14 gf3_0 (by assumption) (by assumption) ?_
    refine r_getIj (j := 7) rfl dX3_readClause_123 fkX3_79 gf9_7 (by assumption) (by (repeat (first | rewrite [od_upn (by omega)] | rewrite [od_up_at, if_pos (by omega)] | rewrite [od_up_at, if_neg (by omega)])); rfl) ?_
    refine r_iast dX3_readClause_126 (by assumption) (by omega) ?_
    refine r_aload_n dX3_readClause_127 rfl ?_
    refine r_iconst dX3_readClause_128 li_0 ?_
    refine r_callV1p dX3_readClause_129 cvX3_102 (by assumption) (c_X3_test8 hr0 (hT1.upt (rd := rd) (t := t) hor (by omega)) (h105.2.2.upt hor.2 (by omega)) ⟨by rw [od_upn (by omega)]; omega, by rw [od_upn (by omega)]; show _ ≤ s2.1 + 1; omega, i105⟩ (lw := lw) (by rw [od_upn (by omega)]; exact hl1)) (by decide) (Nat.le_of_ble_eq_true rfl) od_le.rf (fun r129 g129 h129 => ?_)
    obtain ⟨rfl, hq129⟩ := h129
    show od_Rq _ _ _ _ _ _ _ [] _ _
    have b129 := hq129.2.2.1
    rw [od_upn (by omega)] at b129
    refine r_aload_n dX3_readClause_132 rfl ?_
    refine r_getR dX3_readClause_133 fkX3_14 gf3_0 (by assumption) (by assumption) ?_
    refine r_iconst dX3_readClause_136 li_0 ?_
    refine r_iconst dX3_readClause_137 li_0 ?_
    refine r_callV2i dX3_readClause_138 cvX3_86 (by assumption) (c_X9_put htx0 _ _ (by have : (pNx s2).1 = s2.1 + 1 := rfl; omega)) (by decide) (Nat.le_of_ble_eq_true rfl) od_le.rf ?_
    refine r_pop dX3_readClause_141 (by first | exact od_ne2 | exact od_ne0) ?_
    refine r_vretq dX3_readClause_142 rfl rfl ⟨rfl, ?_⟩
    rw [hRe]
    first
    | (-- no test
       have eI : pIf (tC B n) (tV B n) (tpl B n) lw s2 = (s2, pOne) := if_neg h105.1
       rw [eI, h105.2]
       refine ⟨hq.1, hq.2.2.2.1, ⟨hqz.1, hqz.2.1, hqz.2.2.1, hqz.2.2.2.1⟩, fun z => ⟨hqz.2.2.2.2 z, hq.2.1, ?_⟩⟩
       obtain ⟨a1, a2, a3, a4⟩ := hq.2.2.2.2.2 z
       exact ⟨a1, a2, a3, a4, by show EvOk _ _ (gv (t + 5) (g t 6)) _ _; rw [hq.2.2.1]; exact EvOk.none _ _ _⟩)
    | (have eI : pIf (tC B n) (tV B n) (tpl B n) lw s2 = pTestL (tC B n) (tV B n) (tpl B n) lw 8 (pNx s2) := if_pos h105.1
       rw [eI]
       generalize pTestL (tC B n) (tV B n) (tpl B n) lw 8 (pNx s2) = rT at hq129 ⊢
       have hb2 := h105.1.1
       have e7 : od_up g105 (t + 5) (g t 6) (g105 t 7) t 7 = gv t 7 := by rw [od_upn (by omega), h105.2.1 t 7 (by omega)]
       have b1 := hq129.1
       have b3 := hq129.2.2.1
       rw [e7] at b1 b3
       have bx : (pNx s2).1 = s2.1 + 1 := rfl
       have z7 := hqz.2.2.2.2 hb2
       have es : ∀ x y : Int, x ≠ rd → x ≠ t → x ≠ t + 6 → x ≠ t + 5 → cTPut g129 t 0 0 x y = gv x y := fun x y h1 h2 h3 h4 => by
         rw [cTPut_rd ⟨h2, h3⟩, b1 x y (fun z => by unfold XP at z; omega), od_upn h4, h105.2.1 x y (by omega)]
       refine ⟨?_, hq129.2.1.put hor.2, ⟨by rw [cTPut_7]; omega, by rw [cTPut_7]; show _ ≤ rT.1.1 + 1; omega, by show _ ≤ rT.1.1; omega, b3.2.2.2⟩, fun z => ⟨by rw [cTPut_7]; show _ ≤ rT.1.1; omega, ?_, ?_⟩⟩
       · refine hq.1.tr (((fr_rd h105.2.1 (by omega)).mo (XC.xp (Int.le_refl _))).tr ?_)
         exact (od_fr.rf.up (Or.inr (Or.inr ⟨by omega, by omega, rfl⟩))).tr ((b1.mo (XC.xp (by omega))).tr ((cTPut_fr (z := g t 7) (by omega)).mo (XC.xp (Int.le_refl _))))
       · unfold cTPut
         rw [od_up_at, if_neg (by omega), od_upn (by omega), b1 t 6 (fun z => by unfold XP at z; omega), od_upn (by omega), h105.2.1 t 6 (by omega)]
         exact hq.2.1
       · obtain ⟨a1, a2, a3, a4⟩ := hq.2.2.2.2.2 hb2
         have er : ∀ j : Int, 0 ≤ j → j < gv t 7 → cTPut g129 t 0 0 (t + 6) j = gv (t + 6) j := fun j j0 j1 => by
           rw [cTPut_r, if_neg (by omega), b1 (t + 6) j (fun z => by unfold XP at z; omega), od_upn (by omega), h105.2.1 (t + 6) j (by omega)]
         refine ⟨?_, ?_, ?_, ?_, ?_⟩
         · rw [es _ _ (by omega) (by omega) (by omega) (by omega)]; exact a1
         · rw [es _ _ (by omega) (by omega) (by omega) (by omega)]; exact a2
         · rw [es _ _ (by omega) (by omega) (by omega) (by omega), cTPut_7]; exact a3.mo (by omega) er
         · rw [es _ _ (by omega) (by omega) (by omega) (by omega), cTPut_7]; exact a4.mo (by omega) er
         · have e := EvOk.sum hq129 pBt_i (by omega) z
           rw [e7] at e
           have e5 : cTPut g129 t 0 0 (t + 5) (g t 6) = gv t 7 := by
             rw [cTPut_rd (by omega), b1 (t + 5) _ (fun z => by unfold XP at z; omega), od_up_at, if_pos rfl, h105.2.1 t 7 (by omega)]
           rw [e5, cTPut_7]
           exact e)
  · show od_Rq _ _ _ _ _ _ _ ((0, 0) :: _) _ _
    skip
    refine r_if_eq (tgt := 142) dX3_readClause_108 rfl (fun _ => ?_) (fun h => absurd h (by decide))
    refine r_vretq dX3_readClause_142 rfl rfl ⟨rfl, ?_⟩
    rw [hRe]
    first
    | (-- no test
       have eI : pIf (tC B n) (tV B n) (tpl B n) lw s2 = (s2, pOne) := if_neg h105.1
       rw [eI, h105.2]
       refine ⟨hq.1, hq.2.2.2.1, ⟨hqz.1, hqz.2.1, hqz.2.2.1, hqz.2.2.2.1⟩, fun z => ⟨hqz.2.2.2.2 z, hq.2.1, ?_⟩⟩
       obtain ⟨a1, a2, a3, a4⟩ := hq.2.2.2.2.2 z
       exact ⟨a1, a2, a3, a4, by show EvOk _ _ (gv (t + 5) (g t 6)) _ _; rw [hq.2.2.1]; exact EvOk.none _ _ _⟩)
    | (have eI : pIf (tC B n) (tV B n) (tpl B n) lw s2 = pTestL (tC B n) (tV B n) (tpl B n) lw 8 (pNx s2) := if_pos h105.1
       rw [eI]
       generalize pTestL (tC B n) (tV B n) (tpl B n) lw 8 (pNx s2) = rT at hq129 ⊢
       have hb2 := h105.1.1
       have e7 : od_up g105 (t + 5) (g t 6) (g105 t 7) t 7 = gv t 7 := by rw [od_upn (by omega), h105.2.1 t 7 (by omega)]
       have b1 := hq129.1
       have b3 := hq129.2.2.1
       rw [e7] at b1 b3
       have bx : (pNx s2).1 = s2.1 + 1 := rfl
       have z7 := hqz.2.2.2.2 hb2
       have es : ∀ x y : Int, x ≠ rd → x ≠ t → x ≠ t + 6 → x ≠ t + 5 → cTPut g129 t 0 0 x y = gv x y := fun x y h1 h2 h3 h4 => by
         rw [cTPut_rd ⟨h2, h3⟩, b1 x y (fun z => by unfold XP at z; omega), od_upn h4, h105.2.1 x y (by omega)]
       refine ⟨?_, hq129.2.1.put hor.2, ⟨by rw [cTPut_7]; omega, by rw [cTPut_7]; show _ ≤ rT.1.1 + 1; omega, by show _ ≤ rT.1.1; omega, b3.2.2.2⟩, fun z => ⟨by rw [cTPut_7]; show _ ≤ rT.1.1; omega, ?_, ?_⟩⟩
       · refine hq.1.tr (((fr_rd h105.2.1 (by omega)).mo (XC.xp (Int.le_refl _))).tr ?_)
         exact (od_fr.rf.up (Or.inr (Or.inr ⟨by omega, by omega, rfl⟩))).tr ((b1.mo (XC.xp (by omega))).tr ((cTPut_fr (z := g t 7) (by omega)).mo (XC.xp (Int.le_refl _))))
       · unfold cTPut
         rw [od_up_at, if_neg (by omega), od_upn (by omega), b1 t 6 (fun z => by unfold XP at z; omega), od_upn (by omega), h105.2.1 t 6 (by omega)]
         exact hq.2.1
       · obtain ⟨a1, a2, a3, a4⟩ := hq.2.2.2.2.2 hb2
         have er : ∀ j : Int, 0 ≤ j → j < gv t 7 → cTPut g129 t 0 0 (t + 6) j = gv (t + 6) j := fun j j0 j1 => by
           rw [cTPut_r, if_neg (by omega), b1 (t + 6) j (fun z => by unfold XP at z; omega), od_upn (by omega), h105.2.1 (t + 6) j (by omega)]
         refine ⟨?_, ?_, ?_, ?_, ?_⟩
         · rw [es _ _ (by omega) (by omega) (by omega) (by omega)]; exact a1
         · rw [es _ _ (by omega) (by omega) (by omega) (by omega)]; exact a2
         · rw [es _ _ (by omega) (by omega) (by omega) (by omega), cTPut_7]; exact a3.mo (by omega) er
         · rw [es _ _ (by omega) (by omega) (by omega) (by omega), cTPut_7]; exact a4.mo (by omega) er
         · have e := EvOk.sum hq129 pBt_i (by omega) z
           rw [e7] at e
           have e5 : cTPut g129 t 0 0 (t + 5) (g t 6) = gv t 7 := by
             rw [cTPut_rd (by omega), b1 (t + 5) _ (fun z => by unfold XP at z; omega), od_up_at, if_pos rfl, h105.2.1 t 7 (by omega)]
           rw [e5, cTPut_7]
           exact e)
theorem cTOpen_fr {g : od_G} {rd t z kd : Int} : od_fr (XC rd t z (g t 6)) g (cTOpen g t kd) := by
  unfold cTOpen
  refine (((((od_fr.rf.up ?_).up ?_).up ?_).up ?_).up ?_).up ?_
  · exact Or.inr (Or.inr ⟨by omega, by omega, rfl⟩)
  · exact Or.inr (Or.inr ⟨by omega, by omega, rfl⟩)
  · exact Or.inr (Or.inr ⟨by omega, by omega, rfl⟩)
  · exact Or.inr (Or.inr ⟨by omega, by omega, rfl⟩)
  · exact Or.inr (Or.inr ⟨by omega, by omega, rfl⟩)
  · exact Or.inr (Or.inl ⟨rfl, rfl⟩)
theorem cTOpen_v {g : od_G} {t kd : Int} : cTOpen g t kd t 6 = g t 6 + 1 ∧ cTOpen g t kd t 7 = g t 7 ∧ cTOpen g t kd (t + 1) (g t 6) = kd ∧ cTOpen g t kd (t + 2) (g t 6) = 1 ∧ cTOpen g t kd (t + 3) (g t 6) = -1 ∧ cTOpen g t kd (t + 4) (g t 6) = -1 ∧ cTOpen g t kd (t + 5) (g t 6) = -1 := by
  unfold cTOpen od_up
  refine ⟨?_, ?_, ?_, ?_, ?_, ?_, ?_⟩ <;> (repeat (first | rw [if_pos (by omega)] | rw [if_neg (by omega)]))
set_option maxRecDepth 10000 in
theorem sg_X3_rcln {E : od_E} {g : od_G} {rd tp t : Int} (hr : ReAt E rd tp t) {B : Int → Int} {n : Int} (hT : TpOk g tp B n) {s : pS} (hR : RSt g rd B n s) (hz : 0 ≤ g t 7 ∧ g t 7 ≤ s.1 ∧ s.1 ≤ 400) (hl : g rd 2 = lwI true) (h6 : 0 ≤ g t 6 ∧ g t 6 < 12) (hb : s.2.2 = -1) (hc : tC B n s.1 ≠ 1 ∧ tC B n s.1 ≠ 2 ∧ tC B n s.1 ≠ 3) : od_Rq 38 mX3_readClause od_Z0 E (E, fun v g' => v = none ∧ CQ true g g' rd t B n s (pCl (tC B n) (tV B n) (tpl B n) true s)) 18 [some (2, rd), none, none] [(0, -1)] E g := by
  have hr0 := hr
  obtain ⟨hkr, e0, e1, hta, htx, hor⟩ := hr
  have htx0 := htx
  have hk9 := htx.1
  obtain ⟨_, x0, x1, x2, x3, x4, x5, y1, y2, y3, y4, y5, y6, _, _⟩ := htx
  have h40 := hT.2.2.1
  refine r_istore_n dX3_readClause_18 (by decide) rfl ?_
  refine r_iload_n dX3_readClause_19 rfl ?_
  refine r_iconst dX3_readClause_20 li_m1 ?_
  refine r_icmp_ne (tgt := 28) dX3_readClause_21 rfl (fun h => absurd h (by omega)) (fun _ => ?_)
  refine r_iconst dX3_readClause_24 li_m1 ?_
  refine r_goto (tgt := 36) dX3_readClause_25 rfl ?_
  refine r_istore_n dX3_readClause_36 (by decide) rfl ?_
  refine r_iload_n dX3_readClause_37 rfl ?_
  refine r_iconst dX3_readClause_38 li_m1 ?_
  refine r_icmp_ne (tgt := 47) dX3_readClause_39 rfl (fun h => absurd h (by omega)) (fun _ => ?_)
  refine r_aload_n dX3_readClause_42 rfl ?_
  refine r_callV0v dX3_readClause_43 cvX3_60 (by assumption) (c_X3_setFault hr0) (by decide) (Nat.le_of_ble_eq_true rfl) od_le.rf ?_
  refine r_vretq dX3_readClause_46 rfl rfl ⟨rfl, ?_⟩
  have eR : ∃ k : pC, (pCl (tC B n) (tV B n) (tpl B n) true s) = (pF (tpl B n) s, k) := by
    unfold pCl
    rw [if_pos rfl]
    have eH : (pHdL (tC B n) (tV B n) (tpl B n) s).1 = pF (tpl B n) s := by
      unfold pHdL
      rw [if_neg (by omega), if_neg (by omega)]
      exact pMu_f (fun z => by omega)
    have nb : (pF (tpl B n) s).2.2 ≠ -1 := pF_nb (by have := tpl_b (B := B) h40.1 s.1; omega)
    have eI : pIf (tC B n) (tV B n) (tpl B n) true (pF (tpl B n) s) = (pF (tpl B n) s, pOne) := if_neg (fun z => nb z.1)
    rw [eH, eI]
    exact ⟨_, rfl⟩
  obtain ⟨k, eR⟩ := eR
  rw [eR]
  have nb : (pF (tpl B n) s).2.2 ≠ -1 := pF_nb (by have := tpl_b (B := B) h40.1 s.1; omega)
  have es := cSF_fr g rd
  refine ⟨(fr_rd es (by omega)).mo (XC.xp (Int.le_refl _)), cSF_st h40.1 hR, ?_, fun z => absurd z nb⟩
  rw [es t 7 (by omega)]
  show g t 7 ≤ g t 7 ∧ g t 7 ≤ (pF (tpl B n) s).1 + 1 ∧ s.1 ≤ (pF (tpl B n) s).1 ∧ (pF (tpl B n) s).1 ≤ 400
  rw [pF_1]
  omega
set_option maxRecDepth 10000 in
theorem sg_X3_rcl0 {E : od_E} {g : od_G} {rd tp t : Int} (hr : ReAt E rd tp t) {B : Int → Int} {n : Int} (hT : TpOk g tp B n) {s : pS} (hR : RSt g rd B n s) (hz : 0 ≤ g t 7 ∧ g t 7 ≤ s.1 ∧ s.1 ≤ 400) (hl : g rd 2 = lwI true) (h6 : 0 ≤ g t 6 ∧ g t 6 < 12) (hb : s.2.2 = -1) (hc : tC B n s.1 = 1) : od_Rq 38 mX3_readClause od_Z0 E (E, fun v g' => v = none ∧ CQ true g g' rd t B n s (pCl (tC B n) (tV B n) (tpl B n) true s)) 18 [some (2, rd), none, none] [(0, 0)] E g := by
  have hr0 := hr
  obtain ⟨hkr, e0, e1, hta, htx, hor⟩ := hr
  have htx0 := htx
  have hk9 := htx.1
  obtain ⟨_, x0, x1, x2, x3, x4, x5, y1, y2, y3, y4, y5, y6, _, _⟩ := htx
  have h40 := hT.2.2.1
  have ov := cTOpen_v (g := g) (t := t) (kd := 0)
  have hT1 : TpOk (cTOpen g t 0) tp B n := hT.xc (rd := rd) (t := t) (z := g t 7) hor cTOpen_fr
  have hR1 : RSt (cTOpen g t 0) rd B n s := hR.e (fun y _ _ => by unfold cTOpen; rw [od_upn (by omega), od_upn (by omega), od_upn (by omega), od_upn (by omega), od_upn (by omega), od_upn (by omega)])
  refine r_istore_n dX3_readClause_18 (by decide) rfl ?_
  refine r_iload_n dX3_readClause_19 rfl ?_
  refine r_iconst dX3_readClause_20 li_m1 ?_
  refine r_icmp_ne (tgt := 28) dX3_readClause_21 rfl (fun _ => ?_) (fun h => absurd h (by omega))
  refine r_aload_n dX3_readClause_28 rfl ?_
  refine r_getR dX3_readClause_29 fkX3_14 gf3_0 (by assumption) (by assumption) ?_
  refine r_iload_n dX3_readClause_32 rfl ?_
  refine r_callV1i dX3_readClause_33 cvX3_71 (by assumption) (c_X9_open htx0 _ (by omega)) (by decide) (Nat.le_of_ble_eq_true rfl) od_le.rf ?_
  refine r_istore_n dX3_readClause_36 (by decide) rfl ?_
  refine r_iload_n dX3_readClause_37 rfl ?_
  refine r_iconst dX3_readClause_38 li_m1 ?_
  refine r_icmp_ne (tgt := 47) dX3_readClause_39 rfl (fun c39 => ?_) (fun c39 => ?_)
  · refine r_aload_n dX3_readClause_47 rfl ?_
    refine r_callV0p dX3_readClause_48 cvX3_50 (by assumption) (c_X3_goOn hr0 hT1.1 hT1.2.1 hT1.2.2.1.2 hT1.2.2.2 (hR1.g5 hT1.2.2.1.1 hb)) (by decide) (Nat.le_of_ble_eq_true rfl) od_le.rf (fun r48 g48 h48 => ?_)
    obtain ⟨rfl, f48, w448, w548, w648, w348⟩ := h48
    show od_Rq _ _ _ _ _ _ _ [] _ _
    have S48 := RSt.go hR1 hb (by omega) f48 w448 w548 w648 w348
    have i48 := S48.i4 hb h40
    have bx : (pNx s).1 = s.1 + 1 := rfl
    have es : ∀ x y : Int, x ≠ rd → g48 x y = (cTOpen g t 0) x y := fun x y h => f48 x y (by omega)
    have hT48 := hT1.xp (t := t) (z := g t 7) hor (fr_rd f48 (by omega))
    have f48x : od_fr (XC rd t (g t 7) (g t 6)) g g48 := cTOpen_fr.tr ((fr_rd f48 (by omega)).mo (XC.xp (Int.le_refl _)))
    have hl48 : g48 rd 2 = lwI true := (f48x rd 2 (fun z => by unfold XC XP at z; omega)).trans hl
    have v48 : g48 t 6 = g t 6 + 1 ∧ g48 t 7 = g t 7 ∧ g48 (t + 1) (g t 6) = 0 ∧ g48 (t + 2) (g t 6) = 1 ∧ g48 (t + 3) (g t 6) = -1 ∧ g48 (t + 4) (g t 6) = -1 ∧ g48 (t + 5) (g t 6) = -1 := by
      rw [es t 6 (by omega), es t 7 (by omega), es (t + 1) _ (by omega), es (t + 2) _ (by omega), es (t + 3) _ (by omega), es (t + 4) _ (by omega), es (t + 5) _ (by omega)]
      exact ov
    refine r_aload_n dX3_readClause_51 rfl ?_
    refine r_getIj (j := 2) rfl dX3_readClause_52 fkX3_20 gf3_2 (by assumption) (by (repeat (first | rewrite [od_upn (by omega)] | rewrite [od_up_at, if_pos (by omega)] | rewrite [od_up_at, if_neg (by omega)])); rfl) ?_
    show od_Rq _ _ _ _ _ _ _ ((0, g48 rd 2) :: _) _ _
    rw [hl48]
    show od_Rq _ _ _ _ _ _ _ ((0, 1) :: _) _ _
    refine r_if_eq (tgt := 96) dX3_readClause_55 rfl (fun h => absurd h (by decide)) (fun _ => ?_)
    refine r_iload_n dX3_readClause_58 rfl ?_
    refine r_if_ne (tgt := 102) dX3_readClause_59 rfl (fun h => absurd h (by decide)) (fun _ => ?_)
    refine r_aload_n dX3_readClause_62 rfl ?_
    refine r_getR dX3_readClause_63 fkX3_14 gf3_0 (by assumption) (by assumption) ?_
    refine r_getR dX3_readClause_66 fkX3_75 gf9_2 (by assumption) (by assumption) ?_
    refine r_iload_n dX3_readClause_69 rfl ?_
    refine r_aload_n dX3_readClause_70 rfl ?_
    refine r_getR dX3_readClause_71 fkX3_14 gf3_0 (by assumption) (by assumption) ?_
    refine r_getIj (j := 7) rfl dX3_readClause_74 fkX3_79 gf9_7 (by assumption) (by (repeat (first | rewrite [od_upn (by omega)] | rewrite [od_up_at, if_pos (by omega)] | rewrite [od_up_at, if_neg (by omega)])); rfl) ?_
    refine r_iast dX3_readClause_77 (by assumption) (by omega) ?_
    refine r_aload_n dX3_readClause_78 rfl ?_
    refine r_iconst dX3_readClause_79 li_0 ?_
    refine r_callV1p dX3_readClause_80 cvX3_82 (by assumption) (c_X3_sum8 hr0 (hT48.upt (rd := rd) (t := t) hor (by omega)) (S48.upt hor.2 (by omega)) ⟨by rw [od_upn (by omega)]; omega, by rw [od_upn (by omega)]; omega, i48⟩ (lw := true) (by rw [od_upn (by omega)]; exact hl48)) (by decide) (Nat.le_of_ble_eq_true rfl) od_le.rf (fun r80 g80 h80 => ?_)
    obtain ⟨rfl, hq80⟩ := h80
    show od_Rq _ _ _ _ _ _ _ [] _ _
    have hA := OA.mk hor.2 (by omega) hq80
    have b80 := hq80.2.2.1
    rw [od_upn (by omega)] at b80
    refine r_aload_n dX3_readClause_83 rfl ?_
    refine r_getR dX3_readClause_84 fkX3_14 gf3_0 (by assumption) (by assumption) ?_
    refine r_iconst dX3_readClause_87 li_0 ?_
    refine r_iconst dX3_readClause_88 li_0 ?_
    refine r_callV2i dX3_readClause_89 cvX3_86 (by assumption) (c_X9_put htx0 _ _ (by omega)) (by decide) (Nat.le_of_ble_eq_true rfl) od_le.rf ?_
    refine r_pop dX3_readClause_92 (by first | exact od_ne2 | exact od_ne0) ?_
    refine r_goto (tgt := 102) dX3_readClause_93 rfl ?_
    have eH : pHdL (tC B n) (tV B n) (tpl B n) s = ((pSumL (tC B n) (tV B n) (tpl B n) true 8 (pNx s)).1, 0, (pSumL (tC B n) (tV B n) (tpl B n) true 8 (pNx s)).2) := if_pos ⟨hb, hc⟩
    refine sg_X3_if hr0 hT hR hz hl h6 (kd := 0) (tm := 1) (d1 := (pSumL (tC B n) (tV B n) (tpl B n) true 8 (pNx s)).2) (d2 := pOne) (s2 := (pSumL (tC B n) (tV B n) (tpl B n) true 8 (pNx s)).1) ?_ (by unfold pCl; rw [if_pos rfl, eH])
    have hA4 := hA.2.2.2.2.1
    rw [v48.2.1] at hA4
    have hA1 := hA.1
    rw [v48.2.1] at hA1
    refine ⟨f48x.tr hA1, hA.2.1.trans v48.1, hA.2.2.1.2.2.2.trans v48.2.2.2.2.2.2, hA.2.2.2.1, ⟨hA4.1, by omega, by omega, hA4.2.2.2, fun _ => hA4.2.1⟩, fun z => ⟨hA.2.2.1.1.trans v48.2.2.1, hA.2.2.1.2.1.trans v48.2.2.2.1, hA.2.2.2.2.2 z, ?_⟩⟩
    rw [hA.2.2.1.2.2.1, v48.2.2.2.2.2.1]
    exact EvOk.none _ _ _
  · refine r_aload_n dX3_readClause_42 rfl ?_
    refine r_callV0v dX3_readClause_43 cvX3_60 (by assumption) (c_X3_setFault hr0) (by decide) (Nat.le_of_ble_eq_true rfl) od_le.rf ?_
    exfalso; omega
set_option maxRecDepth 10000 in
theorem sg_X3_rcl1 {E : od_E} {g : od_G} {rd tp t : Int} (hr : ReAt E rd tp t) {B : Int → Int} {n : Int} (hT : TpOk g tp B n) {s : pS} (hR : RSt g rd B n s) (hz : 0 ≤ g t 7 ∧ g t 7 ≤ s.1 ∧ s.1 ≤ 400) (hl : g rd 2 = lwI true) (h6 : 0 ≤ g t 6 ∧ g t 6 < 12) (hb : s.2.2 = -1) (hc : tC B n s.1 = 2) : od_Rq 38 mX3_readClause od_Z0 E (E, fun v g' => v = none ∧ CQ true g g' rd t B n s (pCl (tC B n) (tV B n) (tpl B n) true s)) 18 [some (2, rd), none, none] [(0, 1)] E g := by
  have hr0 := hr
  obtain ⟨hkr, e0, e1, hta, htx, hor⟩ := hr
  have htx0 := htx
  have hk9 := htx.1
  obtain ⟨_, x0, x1, x2, x3, x4, x5, y1, y2, y3, y4, y5, y6, _, _⟩ := htx
  have h40 := hT.2.2.1
  have ov := cTOpen_v (g := g) (t := t) (kd := 1)
  have hT1 : TpOk (cTOpen g t 1) tp B n := hT.xc (rd := rd) (t := t) (z := g t 7) hor cTOpen_fr
  have hR1 : RSt (cTOpen g t 1) rd B n s := hR.e (fun y _ _ => by unfold cTOpen; rw [od_upn (by omega), od_upn (by omega), od_upn (by omega), od_upn (by omega), od_upn (by omega), od_upn (by omega)])
  refine r_istore_n dX3_readClause_18 (by decide) rfl ?_
  refine r_iload_n dX3_readClause_19 rfl ?_
  refine r_iconst dX3_readClause_20 li_m1 ?_
  refine r_icmp_ne (tgt := 28) dX3_readClause_21 rfl (fun _ => ?_) (fun h => absurd h (by omega))
  refine r_aload_n dX3_readClause_28 rfl ?_
  refine r_getR dX3_readClause_29 fkX3_14 gf3_0 (by assumption) (by assumption) ?_
  refine r_iload_n dX3_readClause_32 rfl ?_
  refine r_callV1i dX3_readClause_33 cvX3_71 (by assumption) (c_X9_open htx0 _ (by omega)) (by decide) (Nat.le_of_ble_eq_true rfl) od_le.rf ?_
  refine r_istore_n dX3_readClause_36 (by decide) rfl ?_
  refine r_iload_n dX3_readClause_37 rfl ?_
  refine r_iconst dX3_readClause_38 li_m1 ?_
  refine r_icmp_ne (tgt := 47) dX3_readClause_39 rfl (fun c39 => ?_) (fun c39 => ?_)
  · refine r_aload_n dX3_readClause_47 rfl ?_
    refine r_callV0p dX3_readClause_48 cvX3_50 (by assumption) (c_X3_goOn hr0 hT1.1 hT1.2.1 hT1.2.2.1.2 hT1.2.2.2 (hR1.g5 hT1.2.2.1.1 hb)) (by decide) (Nat.le_of_ble_eq_true rfl) od_le.rf (fun r48 g48 h48 => ?_)
    obtain ⟨rfl, f48, w448, w548, w648, w348⟩ := h48
    show od_Rq _ _ _ _ _ _ _ [] _ _
    have S48 := RSt.go hR1 hb (by omega) f48 w448 w548 w648 w348
    have i48 := S48.i4 hb h40
    have bx : (pNx s).1 = s.1 + 1 := rfl
    have es : ∀ x y : Int, x ≠ rd → g48 x y = (cTOpen g t 1) x y := fun x y h => f48 x y (by omega)
    have hT48 := hT1.xp (t := t) (z := g t 7) hor (fr_rd f48 (by omega))
    have f48x : od_fr (XC rd t (g t 7) (g t 6)) g g48 := cTOpen_fr.tr ((fr_rd f48 (by omega)).mo (XC.xp (Int.le_refl _)))
    have hl48 : g48 rd 2 = lwI true := (f48x rd 2 (fun z => by unfold XC XP at z; omega)).trans hl
    have v48 : g48 t 6 = g t 6 + 1 ∧ g48 t 7 = g t 7 ∧ g48 (t + 1) (g t 6) = 1 ∧ g48 (t + 2) (g t 6) = 1 ∧ g48 (t + 3) (g t 6) = -1 ∧ g48 (t + 4) (g t 6) = -1 ∧ g48 (t + 5) (g t 6) = -1 := by
      rw [es t 6 (by omega), es t 7 (by omega), es (t + 1) _ (by omega), es (t + 2) _ (by omega), es (t + 3) _ (by omega), es (t + 4) _ (by omega), es (t + 5) _ (by omega)]
      exact ov
    refine r_aload_n dX3_readClause_51 rfl ?_
    refine r_getIj (j := 2) rfl dX3_readClause_52 fkX3_20 gf3_2 (by assumption) (by (repeat (first | rewrite [od_upn (by omega)] | rewrite [od_up_at, if_pos (by omega)] | rewrite [od_up_at, if_neg (by omega)])); rfl) ?_
    show od_Rq _ _ _ _ _ _ _ ((0, g48 rd 2) :: _) _ _
    rw [hl48]
    show od_Rq _ _ _ _ _ _ _ ((0, 1) :: _) _ _
    refine r_if_eq (tgt := 96) dX3_readClause_55 rfl (fun h => absurd h (by decide)) (fun _ => ?_)
    refine r_iload_n dX3_readClause_58 rfl ?_
    refine r_if_ne (tgt := 102) dX3_readClause_59 rfl (fun _ => ?_) (fun h => absurd h (by decide))
    have eH : pHdL (tC B n) (tV B n) (tpl B n) s = (pNx s, 1, pOne) := (if_neg (fun z => by omega)).trans (if_pos ⟨hb, hc⟩)
    refine sg_X3_if hr0 hT hR hz hl h6 (kd := 1) (tm := 1) (d1 := pOne) (d2 := pOne) (s2 := pNx s) ?_ (by unfold pCl; rw [if_pos rfl, eH])
    refine ⟨f48x, v48.1, v48.2.2.2.2.2.2, S48, ⟨by omega, by omega, by omega, i48, fun _ => by omega⟩, fun z => ⟨v48.2.2.1, v48.2.2.2.1, ?_, ?_⟩⟩
    · rw [v48.2.2.2.2.1]; exact EvOk.none _ _ _
    · rw [v48.2.2.2.2.2.1]; exact EvOk.none _ _ _
  · refine r_aload_n dX3_readClause_42 rfl ?_
    refine r_callV0v dX3_readClause_43 cvX3_60 (by assumption) (c_X3_setFault hr0) (by decide) (Nat.le_of_ble_eq_true rfl) od_le.rf ?_
    exfalso; omega
set_option maxRecDepth 10000 in
theorem sg_X3_rcl2 {E : od_E} {g : od_G} {rd tp t : Int} (hr : ReAt E rd tp t) {B : Int → Int} {n : Int} (hT : TpOk g tp B n) {s : pS} (hR : RSt g rd B n s) (hz : 0 ≤ g t 7 ∧ g t 7 ≤ s.1 ∧ s.1 ≤ 400) (hl : g rd 2 = lwI true) (h6 : 0 ≤ g t 6 ∧ g t 6 < 12) (hb : s.2.2 = -1) (hc : tC B n s.1 = 3) : od_Rq 38 mX3_readClause od_Z0 E (E, fun v g' => v = none ∧ CQ true g g' rd t B n s (pCl (tC B n) (tV B n) (tpl B n) true s)) 18 [some (2, rd), none, none] [(0, 2)] E g := by
  have hr0 := hr
  obtain ⟨hkr, e0, e1, hta, htx, hor⟩ := hr
  have htx0 := htx
  have hk9 := htx.1
  obtain ⟨_, x0, x1, x2, x3, x4, x5, y1, y2, y3, y4, y5, y6, _, _⟩ := htx
  have h40 := hT.2.2.1
  have ov := cTOpen_v (g := g) (t := t) (kd := 2)
  have hT1 : TpOk (cTOpen g t 2) tp B n := hT.xc (rd := rd) (t := t) (z := g t 7) hor cTOpen_fr
  have hR1 : RSt (cTOpen g t 2) rd B n s := hR.e (fun y _ _ => by unfold cTOpen; rw [od_upn (by omega), od_upn (by omega), od_upn (by omega), od_upn (by omega), od_upn (by omega), od_upn (by omega)])
  refine r_istore_n dX3_readClause_18 (by decide) rfl ?_
  refine r_iload_n dX3_readClause_19 rfl ?_
  refine r_iconst dX3_readClause_20 li_m1 ?_
  refine r_icmp_ne (tgt := 28) dX3_readClause_21 rfl (fun _ => ?_) (fun h => absurd h (by omega))
  refine r_aload_n dX3_readClause_28 rfl ?_
  refine r_getR dX3_readClause_29 fkX3_14 gf3_0 (by assumption) (by assumption) ?_
  refine r_iload_n dX3_readClause_32 rfl ?_
  refine r_callV1i dX3_readClause_33 cvX3_71 (by assumption) (c_X9_open htx0 _ (by omega)) (by decide) (Nat.le_of_ble_eq_true rfl) od_le.rf ?_
  refine r_istore_n dX3_readClause_36 (by decide) rfl ?_
  refine r_iload_n dX3_readClause_37 rfl ?_
  refine r_iconst dX3_readClause_38 li_m1 ?_
  refine r_icmp_ne (tgt := 47) dX3_readClause_39 rfl (fun c39 => ?_) (fun c39 => ?_)
  · refine r_aload_n dX3_readClause_47 rfl ?_
    refine r_callV0p dX3_readClause_48 cvX3_50 (by assumption) (c_X3_goOn hr0 hT1.1 hT1.2.1 hT1.2.2.1.2 hT1.2.2.2 (hR1.g5 hT1.2.2.1.1 hb)) (by decide) (Nat.le_of_ble_eq_true rfl) od_le.rf (fun r48 g48 h48 => ?_)
    obtain ⟨rfl, f48, w448, w548, w648, w348⟩ := h48
    show od_Rq _ _ _ _ _ _ _ [] _ _
    have S48 := RSt.go hR1 hb (by omega) f48 w448 w548 w648 w348
    have i48 := S48.i4 hb h40
    have bx : (pNx s).1 = s.1 + 1 := rfl
    have es : ∀ x y : Int, x ≠ rd → g48 x y = (cTOpen g t 2) x y := fun x y h => f48 x y (by omega)
    have hT48 := hT1.xp (t := t) (z := g t 7) hor (fr_rd f48 (by omega))
    have f48x : od_fr (XC rd t (g t 7) (g t 6)) g g48 := cTOpen_fr.tr ((fr_rd f48 (by omega)).mo (XC.xp (Int.le_refl _)))
    have hl48 : g48 rd 2 = lwI true := (f48x rd 2 (fun z => by unfold XC XP at z; omega)).trans hl
    have v48 : g48 t 6 = g t 6 + 1 ∧ g48 t 7 = g t 7 ∧ g48 (t + 1) (g t 6) = 2 ∧ g48 (t + 2) (g t 6) = 1 ∧ g48 (t + 3) (g t 6) = -1 ∧ g48 (t + 4) (g t 6) = -1 ∧ g48 (t + 5) (g t 6) = -1 := by
      rw [es t 6 (by omega), es t 7 (by omega), es (t + 1) _ (by omega), es (t + 2) _ (by omega), es (t + 3) _ (by omega), es (t + 4) _ (by omega), es (t + 5) _ (by omega)]
      exact ov
    refine r_aload_n dX3_readClause_51 rfl ?_
    refine r_getIj (j := 2) rfl dX3_readClause_52 fkX3_20 gf3_2 (by assumption) (by (repeat (first | rewrite [od_upn (by omega)] | rewrite [od_up_at, if_pos (by omega)] | rewrite [od_up_at, if_neg (by omega)])); rfl) ?_
    show od_Rq _ _ _ _ _ _ _ ((0, g48 rd 2) :: _) _ _
    rw [hl48]
    show od_Rq _ _ _ _ _ _ _ ((0, 1) :: _) _ _
    refine r_if_eq (tgt := 96) dX3_readClause_55 rfl (fun h => absurd h (by decide)) (fun _ => ?_)
    refine r_iload_n dX3_readClause_58 rfl ?_
    refine r_if_ne (tgt := 102) dX3_readClause_59 rfl (fun _ => ?_) (fun h => absurd h (by decide))
    have eH : pHdL (tC B n) (tV B n) (tpl B n) s = (pNx s, 2, pOne) := (if_neg (fun z => by omega)).trans ((if_neg (fun z => by omega)).trans (by rw [pMu_t ⟨hb, hc⟩]))
    refine sg_X3_if hr0 hT hR hz hl h6 (kd := 2) (tm := 1) (d1 := pOne) (d2 := pOne) (s2 := pNx s) ?_ (by unfold pCl; rw [if_pos rfl, eH])
    refine ⟨f48x, v48.1, v48.2.2.2.2.2.2, S48, ⟨by omega, by omega, by omega, i48, fun _ => by omega⟩, fun z => ⟨v48.2.2.1, v48.2.2.2.1, ?_, ?_⟩⟩
    · rw [v48.2.2.2.2.1]; exact EvOk.none _ _ _
    · rw [v48.2.2.2.2.2.1]; exact EvOk.none _ _ _
  · refine r_aload_n dX3_readClause_42 rfl ?_
    refine r_callV0v dX3_readClause_43 cvX3_60 (by assumption) (c_X3_setFault hr0) (by decide) (Nat.le_of_ble_eq_true rfl) od_le.rf ?_
    exfalso; omega
set_option maxRecDepth 10000 in
theorem sg_X3_rcon {E : od_E} {g : od_G} {rd tp t : Int} (hr : ReAt E rd tp t) {B : Int → Int} {n : Int} (hT : TpOk g tp B n) {s : pS} (hR : RSt g rd B n s) (hz : 0 ≤ g t 7 ∧ g t 7 ≤ s.1 ∧ s.1 ≤ 400) (hl : g rd 2 = lwI false) (h6 : 0 ≤ g t 6 ∧ g t 6 < 12) (hb : s.2.2 = -1) (hc : tC B n s.1 ≠ 20 ∧ tC B n s.1 ≠ 21 ∧ tC B n s.1 ≠ 23 ∧ tC B n s.1 ≠ 24) : od_Rq 38 mX3_readClause od_Z0 E (E, fun v g' => v = none ∧ CQ false g g' rd t B n s (pCl (tC B n) (tV B n) (tpl B n) false s)) 18 [some (2, rd), none, none] [(0, -1)] E g := by
  have hr0 := hr
  obtain ⟨hkr, e0, e1, hta, htx, hor⟩ := hr
  have htx0 := htx
  have hk9 := htx.1
  obtain ⟨_, x0, x1, x2, x3, x4, x5, y1, y2, y3, y4, y5, y6, _, _⟩ := htx
  have h40 := hT.2.2.1
  refine r_istore_n dX3_readClause_18 (by decide) rfl ?_
  refine r_iload_n dX3_readClause_19 rfl ?_
  refine r_iconst dX3_readClause_20 li_m1 ?_
  refine r_icmp_ne (tgt := 28) dX3_readClause_21 rfl (fun h => absurd h (by omega)) (fun _ => ?_)
  refine r_iconst dX3_readClause_24 li_m1 ?_
  refine r_goto (tgt := 36) dX3_readClause_25 rfl ?_
  refine r_istore_n dX3_readClause_36 (by decide) rfl ?_
  refine r_iload_n dX3_readClause_37 rfl ?_
  refine r_iconst dX3_readClause_38 li_m1 ?_
  refine r_icmp_ne (tgt := 47) dX3_readClause_39 rfl (fun h => absurd h (by omega)) (fun _ => ?_)
  refine r_aload_n dX3_readClause_42 rfl ?_
  refine r_callV0v dX3_readClause_43 cvX3_60 (by assumption) (c_X3_setFault hr0) (by decide) (Nat.le_of_ble_eq_true rfl) od_le.rf ?_
  refine r_vretq dX3_readClause_46 rfl rfl ⟨rfl, ?_⟩
  have eR : ∃ k : pC, (pCl (tC B n) (tV B n) (tpl B n) false s) = (pF (tpl B n) s, k) := by
    unfold pCl
    rw [if_neg (by decide)]
    have eH : (pHdO (tC B n) (tV B n) (tpl B n) s).1 = pF (tpl B n) s := by
      unfold pHdO
      rw [if_neg (by omega), if_neg (by omega), if_neg (by omega)]
      exact pMu_f (fun z => by omega)
    have nb : (pF (tpl B n) s).2.2 ≠ -1 := pF_nb (by have := tpl_b (B := B) h40.1 s.1; omega)
    have eI : pIf (tC B n) (tV B n) (tpl B n) false (pF (tpl B n) s) = (pF (tpl B n) s, pOne) := if_neg (fun z => nb z.1)
    have eT : pTi (tC B n) (tV B n) (tpl B n) (pF (tpl B n) s) = (pF (tpl B n) s, 1) := if_neg (fun z => nb z.1)
    rw [eH, eT, eI]
    exact ⟨_, rfl⟩
  obtain ⟨k, eR⟩ := eR
  rw [eR]
  have nb : (pF (tpl B n) s).2.2 ≠ -1 := pF_nb (by have := tpl_b (B := B) h40.1 s.1; omega)
  have es := cSF_fr g rd
  refine ⟨(fr_rd es (by omega)).mo (XC.xp (Int.le_refl _)), cSF_st h40.1 hR, ?_, fun z => absurd z nb⟩
  rw [es t 7 (by omega)]
  show g t 7 ≤ g t 7 ∧ g t 7 ≤ (pF (tpl B n) s).1 + 1 ∧ s.1 ≤ (pF (tpl B n) s).1 ∧ (pF (tpl B n) s).1 ≤ 400
  rw [pF_1]
  omega
set_option maxRecDepth 10000 in
theorem sg_X3_rco0 {E : od_E} {g : od_G} {rd tp t : Int} (hr : ReAt E rd tp t) {B : Int → Int} {n : Int} (hT : TpOk g tp B n) {s : pS} (hR : RSt g rd B n s) (hz : 0 ≤ g t 7 ∧ g t 7 ≤ s.1 ∧ s.1 ≤ 400) (hl : g rd 2 = lwI false) (h6 : 0 ≤ g t 6 ∧ g t 6 < 12) (hb : s.2.2 = -1) (hc : tC B n s.1 = 20) : od_Rq 38 mX3_readClause od_Z0 E (E, fun v g' => v = none ∧ CQ false g g' rd t B n s (pCl (tC B n) (tV B n) (tpl B n) false s)) 18 [some (2, rd), none, none] [(0, 0)] E g := by
  have hr0 := hr
  obtain ⟨hkr, e0, e1, hta, htx, hor⟩ := hr
  have htx0 := htx
  have hk9 := htx.1
  obtain ⟨_, x0, x1, x2, x3, x4, x5, y1, y2, y3, y4, y5, y6, _, _⟩ := htx
  have h40 := hT.2.2.1
  have ov := cTOpen_v (g := g) (t := t) (kd := 0)
  have hT1 : TpOk (cTOpen g t 0) tp B n := hT.xc (rd := rd) (t := t) (z := g t 7) hor cTOpen_fr
  have hR1 : RSt (cTOpen g t 0) rd B n s := hR.e (fun y _ _ => by unfold cTOpen; rw [od_upn (by omega), od_upn (by omega), od_upn (by omega), od_upn (by omega), od_upn (by omega), od_upn (by omega)])
  refine r_istore_n dX3_readClause_18 (by decide) rfl ?_
  refine r_iload_n dX3_readClause_19 rfl ?_
  refine r_iconst dX3_readClause_20 li_m1 ?_
  refine r_icmp_ne (tgt := 28) dX3_readClause_21 rfl (fun _ => ?_) (fun h => absurd h (by omega))
  refine r_aload_n dX3_readClause_28 rfl ?_
  refine r_getR dX3_readClause_29 fkX3_14 gf3_0 (by assumption) (by assumption) ?_
  refine r_iload_n dX3_readClause_32 rfl ?_
  refine r_callV1i dX3_readClause_33 cvX3_71 (by assumption) (c_X9_open htx0 _ (by omega)) (by decide) (Nat.le_of_ble_eq_true rfl) od_le.rf ?_
  refine r_istore_n dX3_readClause_36 (by decide) rfl ?_
  refine r_iload_n dX3_readClause_37 rfl ?_
  refine r_iconst dX3_readClause_38 li_m1 ?_
  refine r_icmp_ne (tgt := 47) dX3_readClause_39 rfl (fun c39 => ?_) (fun c39 => ?_)
  · refine r_aload_n dX3_readClause_47 rfl ?_
    refine r_callV0p dX3_readClause_48 cvX3_50 (by assumption) (c_X3_goOn hr0 hT1.1 hT1.2.1 hT1.2.2.1.2 hT1.2.2.2 (hR1.g5 hT1.2.2.1.1 hb)) (by decide) (Nat.le_of_ble_eq_true rfl) od_le.rf (fun r48 g48 h48 => ?_)
    obtain ⟨rfl, f48, w448, w548, w648, w348⟩ := h48
    show od_Rq _ _ _ _ _ _ _ [] _ _
    have S48 := RSt.go hR1 hb (by omega) f48 w448 w548 w648 w348
    have i48 := S48.i4 hb h40
    have bx : (pNx s).1 = s.1 + 1 := rfl
    have es : ∀ x y : Int, x ≠ rd → g48 x y = (cTOpen g t 0) x y := fun x y h => f48 x y (by omega)
    have hT48 := hT1.xp (t := t) (z := g t 7) hor (fr_rd f48 (by omega))
    have f48x : od_fr (XC rd t (g t 7) (g t 6)) g g48 := cTOpen_fr.tr ((fr_rd f48 (by omega)).mo (XC.xp (Int.le_refl _)))
    have hl48 : g48 rd 2 = lwI false := (f48x rd 2 (fun z => by unfold XC XP at z; omega)).trans hl
    have v48 : g48 t 6 = g t 6 + 1 ∧ g48 t 7 = g t 7 ∧ g48 (t + 1) (g t 6) = 0 ∧ g48 (t + 2) (g t 6) = 1 ∧ g48 (t + 3) (g t 6) = -1 ∧ g48 (t + 4) (g t 6) = -1 ∧ g48 (t + 5) (g t 6) = -1 := by
      rw [es t 6 (by omega), es t 7 (by omega), es (t + 1) _ (by omega), es (t + 2) _ (by omega), es (t + 3) _ (by omega), es (t + 4) _ (by omega), es (t + 5) _ (by omega)]
      exact ov
    refine r_aload_n dX3_readClause_51 rfl ?_
    refine r_getIj (j := 2) rfl dX3_readClause_52 fkX3_20 gf3_2 (by assumption) (by (repeat (first | rewrite [od_upn (by omega)] | rewrite [od_up_at, if_pos (by omega)] | rewrite [od_up_at, if_neg (by omega)])); rfl) ?_
    show od_Rq _ _ _ _ _ _ _ ((0, g48 rd 2) :: _) _ _
    rw [hl48]
    show od_Rq _ _ _ _ _ _ _ ((0, 0) :: _) _ _
    refine r_if_eq (tgt := 96) dX3_readClause_55 rfl (fun _ => ?_) (fun h => absurd h (by decide))
    refine r_aload_n dX3_readClause_96 rfl ?_
    refine r_iload_n dX3_readClause_97 rfl ?_
    refine r_iload_n dX3_readClause_98 rfl ?_
    refine r_callV2p dX3_readClause_99 cvX3_90 (by assumption) (c_X3_readOrder0 hr0 hT48 S48 ⟨by omega, by omega, i48⟩ hl48 _ (by omega) ⟨v48.2.2.2.1, v48.2.2.2.2.1, v48.2.2.2.2.2.1⟩) (by decide) (Nat.le_of_ble_eq_true rfl) od_le.rf (fun r99 g99 h99 => ?_)
    obtain ⟨rfl, hO, hO2⟩ := h99
    show od_Rq _ _ _ _ _ _ _ [] _ _
    have eH : pHdO (tC B n) (tV B n) (tpl B n) s = (((pOb (tC B n) (tV B n) (tpl B n) 0 (pNx s))).1, 0, ((pOb (tC B n) (tV B n) (tpl B n) 0 (pNx s))).2) := if_pos ⟨hb, hc⟩
    refine sg_X3_if hr0 hT hR hz hl h6 (kd := 0) (tm := (pTi (tC B n) (tV B n) (tpl B n) (pOb (tC B n) (tV B n) (tpl B n) 0 (pNx s)).1).2) (d1 := (pOb (tC B n) (tV B n) (tpl B n) 0 (pNx s)).2.1) (d2 := (pOb (tC B n) (tV B n) (tpl B n) 0 (pNx s)).2.2) (s2 := (pTi (tC B n) (tV B n) (tpl B n) (pOb (tC B n) (tV B n) (tpl B n) 0 (pNx s)).1).1) ?_ (by unfold pCl; rw [if_neg (by decide), eH])
    have hA1 := hO.1
    have hA4 := hO.2.2.2.2.1
    rw [v48.2.1] at hA1 hA4
    refine ⟨f48x.tr hA1, hO.2.1.trans v48.1, hO.2.2.1.2.trans v48.2.2.2.2.2.2, hO.2.2.2.1, ⟨hA4.1, hA4.2.1, Int.le_trans (by omega) hA4.2.2.1, hA4.2.2.2.1, hA4.2.2.2.2⟩, fun z => ⟨hO.2.2.1.1.trans v48.2.2.1, hO2 z, hO.2.2.2.2.2 z⟩⟩
  · refine r_aload_n dX3_readClause_42 rfl ?_
    refine r_callV0v dX3_readClause_43 cvX3_60 (by assumption) (c_X3_setFault hr0) (by decide) (Nat.le_of_ble_eq_true rfl) od_le.rf ?_
    exfalso; omega
set_option maxRecDepth 10000 in
theorem sg_X3_rco1 {E : od_E} {g : od_G} {rd tp t : Int} (hr : ReAt E rd tp t) {B : Int → Int} {n : Int} (hT : TpOk g tp B n) {s : pS} (hR : RSt g rd B n s) (hz : 0 ≤ g t 7 ∧ g t 7 ≤ s.1 ∧ s.1 ≤ 400) (hl : g rd 2 = lwI false) (h6 : 0 ≤ g t 6 ∧ g t 6 < 12) (hb : s.2.2 = -1) (hc : tC B n s.1 = 21) : od_Rq 38 mX3_readClause od_Z0 E (E, fun v g' => v = none ∧ CQ false g g' rd t B n s (pCl (tC B n) (tV B n) (tpl B n) false s)) 18 [some (2, rd), none, none] [(0, 1)] E g := by
  have hr0 := hr
  obtain ⟨hkr, e0, e1, hta, htx, hor⟩ := hr
  have htx0 := htx
  have hk9 := htx.1
  obtain ⟨_, x0, x1, x2, x3, x4, x5, y1, y2, y3, y4, y5, y6, _, _⟩ := htx
  have h40 := hT.2.2.1
  have ov := cTOpen_v (g := g) (t := t) (kd := 1)
  have hT1 : TpOk (cTOpen g t 1) tp B n := hT.xc (rd := rd) (t := t) (z := g t 7) hor cTOpen_fr
  have hR1 : RSt (cTOpen g t 1) rd B n s := hR.e (fun y _ _ => by unfold cTOpen; rw [od_upn (by omega), od_upn (by omega), od_upn (by omega), od_upn (by omega), od_upn (by omega), od_upn (by omega)])
  refine r_istore_n dX3_readClause_18 (by decide) rfl ?_
  refine r_iload_n dX3_readClause_19 rfl ?_
  refine r_iconst dX3_readClause_20 li_m1 ?_
  refine r_icmp_ne (tgt := 28) dX3_readClause_21 rfl (fun _ => ?_) (fun h => absurd h (by omega))
  refine r_aload_n dX3_readClause_28 rfl ?_
  refine r_getR dX3_readClause_29 fkX3_14 gf3_0 (by assumption) (by assumption) ?_
  refine r_iload_n dX3_readClause_32 rfl ?_
  refine r_callV1i dX3_readClause_33 cvX3_71 (by assumption) (c_X9_open htx0 _ (by omega)) (by decide) (Nat.le_of_ble_eq_true rfl) od_le.rf ?_
  refine r_istore_n dX3_readClause_36 (by decide) rfl ?_
  refine r_iload_n dX3_readClause_37 rfl ?_
  refine r_iconst dX3_readClause_38 li_m1 ?_
  refine r_icmp_ne (tgt := 47) dX3_readClause_39 rfl (fun c39 => ?_) (fun c39 => ?_)
  · refine r_aload_n dX3_readClause_47 rfl ?_
    refine r_callV0p dX3_readClause_48 cvX3_50 (by assumption) (c_X3_goOn hr0 hT1.1 hT1.2.1 hT1.2.2.1.2 hT1.2.2.2 (hR1.g5 hT1.2.2.1.1 hb)) (by decide) (Nat.le_of_ble_eq_true rfl) od_le.rf (fun r48 g48 h48 => ?_)
    obtain ⟨rfl, f48, w448, w548, w648, w348⟩ := h48
    show od_Rq _ _ _ _ _ _ _ [] _ _
    have S48 := RSt.go hR1 hb (by omega) f48 w448 w548 w648 w348
    have i48 := S48.i4 hb h40
    have bx : (pNx s).1 = s.1 + 1 := rfl
    have es : ∀ x y : Int, x ≠ rd → g48 x y = (cTOpen g t 1) x y := fun x y h => f48 x y (by omega)
    have hT48 := hT1.xp (t := t) (z := g t 7) hor (fr_rd f48 (by omega))
    have f48x : od_fr (XC rd t (g t 7) (g t 6)) g g48 := cTOpen_fr.tr ((fr_rd f48 (by omega)).mo (XC.xp (Int.le_refl _)))
    have hl48 : g48 rd 2 = lwI false := (f48x rd 2 (fun z => by unfold XC XP at z; omega)).trans hl
    have v48 : g48 t 6 = g t 6 + 1 ∧ g48 t 7 = g t 7 ∧ g48 (t + 1) (g t 6) = 1 ∧ g48 (t + 2) (g t 6) = 1 ∧ g48 (t + 3) (g t 6) = -1 ∧ g48 (t + 4) (g t 6) = -1 ∧ g48 (t + 5) (g t 6) = -1 := by
      rw [es t 6 (by omega), es t 7 (by omega), es (t + 1) _ (by omega), es (t + 2) _ (by omega), es (t + 3) _ (by omega), es (t + 4) _ (by omega), es (t + 5) _ (by omega)]
      exact ov
    refine r_aload_n dX3_readClause_51 rfl ?_
    refine r_getIj (j := 2) rfl dX3_readClause_52 fkX3_20 gf3_2 (by assumption) (by (repeat (first | rewrite [od_upn (by omega)] | rewrite [od_up_at, if_pos (by omega)] | rewrite [od_up_at, if_neg (by omega)])); rfl) ?_
    show od_Rq _ _ _ _ _ _ _ ((0, g48 rd 2) :: _) _ _
    rw [hl48]
    show od_Rq _ _ _ _ _ _ _ ((0, 0) :: _) _ _
    refine r_if_eq (tgt := 96) dX3_readClause_55 rfl (fun _ => ?_) (fun h => absurd h (by decide))
    refine r_aload_n dX3_readClause_96 rfl ?_
    refine r_iload_n dX3_readClause_97 rfl ?_
    refine r_iload_n dX3_readClause_98 rfl ?_
    refine r_callV2p dX3_readClause_99 cvX3_90 (by assumption) (c_X3_readOrder1 hr0 hT48 S48 ⟨by omega, by omega, i48⟩ hl48 _ (by omega) ⟨v48.2.2.2.1, v48.2.2.2.2.1, v48.2.2.2.2.2.1⟩) (by decide) (Nat.le_of_ble_eq_true rfl) od_le.rf (fun r99 g99 h99 => ?_)
    obtain ⟨rfl, hO, hO2⟩ := h99
    show od_Rq _ _ _ _ _ _ _ [] _ _
    have eH : pHdO (tC B n) (tV B n) (tpl B n) s = (((pOb (tC B n) (tV B n) (tpl B n) 1 (pNx s))).1, 1, ((pOb (tC B n) (tV B n) (tpl B n) 1 (pNx s))).2) := (if_neg (fun z => by omega)).trans (if_pos ⟨hb, hc⟩)
    refine sg_X3_if hr0 hT hR hz hl h6 (kd := 1) (tm := (pTi (tC B n) (tV B n) (tpl B n) (pOb (tC B n) (tV B n) (tpl B n) 1 (pNx s)).1).2) (d1 := (pOb (tC B n) (tV B n) (tpl B n) 1 (pNx s)).2.1) (d2 := (pOb (tC B n) (tV B n) (tpl B n) 1 (pNx s)).2.2) (s2 := (pTi (tC B n) (tV B n) (tpl B n) (pOb (tC B n) (tV B n) (tpl B n) 1 (pNx s)).1).1) ?_ (by unfold pCl; rw [if_neg (by decide), eH])
    have hA1 := hO.1
    have hA4 := hO.2.2.2.2.1
    rw [v48.2.1] at hA1 hA4
    refine ⟨f48x.tr hA1, hO.2.1.trans v48.1, hO.2.2.1.2.trans v48.2.2.2.2.2.2, hO.2.2.2.1, ⟨hA4.1, hA4.2.1, Int.le_trans (by omega) hA4.2.2.1, hA4.2.2.2.1, hA4.2.2.2.2⟩, fun z => ⟨hO.2.2.1.1.trans v48.2.2.1, hO2 z, hO.2.2.2.2.2 z⟩⟩
  · refine r_aload_n dX3_readClause_42 rfl ?_
    refine r_callV0v dX3_readClause_43 cvX3_60 (by assumption) (c_X3_setFault hr0) (by decide) (Nat.le_of_ble_eq_true rfl) od_le.rf ?_
    exfalso; omega
set_option maxRecDepth 10000 in
theorem sg_X3_rco2 {E : od_E} {g : od_G} {rd tp t : Int} (hr : ReAt E rd tp t) {B : Int → Int} {n : Int} (hT : TpOk g tp B n) {s : pS} (hR : RSt g rd B n s) (hz : 0 ≤ g t 7 ∧ g t 7 ≤ s.1 ∧ s.1 ≤ 400) (hl : g rd 2 = lwI false) (h6 : 0 ≤ g t 6 ∧ g t 6 < 12) (hb : s.2.2 = -1) (hc : tC B n s.1 = 23) : od_Rq 38 mX3_readClause od_Z0 E (E, fun v g' => v = none ∧ CQ false g g' rd t B n s (pCl (tC B n) (tV B n) (tpl B n) false s)) 18 [some (2, rd), none, none] [(0, 2)] E g := by
  have hr0 := hr
  obtain ⟨hkr, e0, e1, hta, htx, hor⟩ := hr
  have htx0 := htx
  have hk9 := htx.1
  obtain ⟨_, x0, x1, x2, x3, x4, x5, y1, y2, y3, y4, y5, y6, _, _⟩ := htx
  have h40 := hT.2.2.1
  have ov := cTOpen_v (g := g) (t := t) (kd := 2)
  have hT1 : TpOk (cTOpen g t 2) tp B n := hT.xc (rd := rd) (t := t) (z := g t 7) hor cTOpen_fr
  have hR1 : RSt (cTOpen g t 2) rd B n s := hR.e (fun y _ _ => by unfold cTOpen; rw [od_upn (by omega), od_upn (by omega), od_upn (by omega), od_upn (by omega), od_upn (by omega), od_upn (by omega)])
  refine r_istore_n dX3_readClause_18 (by decide) rfl ?_
  refine r_iload_n dX3_readClause_19 rfl ?_
  refine r_iconst dX3_readClause_20 li_m1 ?_
  refine r_icmp_ne (tgt := 28) dX3_readClause_21 rfl (fun _ => ?_) (fun h => absurd h (by omega))
  refine r_aload_n dX3_readClause_28 rfl ?_
  refine r_getR dX3_readClause_29 fkX3_14 gf3_0 (by assumption) (by assumption) ?_
  refine r_iload_n dX3_readClause_32 rfl ?_
  refine r_callV1i dX3_readClause_33 cvX3_71 (by assumption) (c_X9_open htx0 _ (by omega)) (by decide) (Nat.le_of_ble_eq_true rfl) od_le.rf ?_
  refine r_istore_n dX3_readClause_36 (by decide) rfl ?_
  refine r_iload_n dX3_readClause_37 rfl ?_
  refine r_iconst dX3_readClause_38 li_m1 ?_
  refine r_icmp_ne (tgt := 47) dX3_readClause_39 rfl (fun c39 => ?_) (fun c39 => ?_)
  · refine r_aload_n dX3_readClause_47 rfl ?_
    refine r_callV0p dX3_readClause_48 cvX3_50 (by assumption) (c_X3_goOn hr0 hT1.1 hT1.2.1 hT1.2.2.1.2 hT1.2.2.2 (hR1.g5 hT1.2.2.1.1 hb)) (by decide) (Nat.le_of_ble_eq_true rfl) od_le.rf (fun r48 g48 h48 => ?_)
    obtain ⟨rfl, f48, w448, w548, w648, w348⟩ := h48
    show od_Rq _ _ _ _ _ _ _ [] _ _
    have S48 := RSt.go hR1 hb (by omega) f48 w448 w548 w648 w348
    have i48 := S48.i4 hb h40
    have bx : (pNx s).1 = s.1 + 1 := rfl
    have es : ∀ x y : Int, x ≠ rd → g48 x y = (cTOpen g t 2) x y := fun x y h => f48 x y (by omega)
    have hT48 := hT1.xp (t := t) (z := g t 7) hor (fr_rd f48 (by omega))
    have f48x : od_fr (XC rd t (g t 7) (g t 6)) g g48 := cTOpen_fr.tr ((fr_rd f48 (by omega)).mo (XC.xp (Int.le_refl _)))
    have hl48 : g48 rd 2 = lwI false := (f48x rd 2 (fun z => by unfold XC XP at z; omega)).trans hl
    have v48 : g48 t 6 = g t 6 + 1 ∧ g48 t 7 = g t 7 ∧ g48 (t + 1) (g t 6) = 2 ∧ g48 (t + 2) (g t 6) = 1 ∧ g48 (t + 3) (g t 6) = -1 ∧ g48 (t + 4) (g t 6) = -1 ∧ g48 (t + 5) (g t 6) = -1 := by
      rw [es t 6 (by omega), es t 7 (by omega), es (t + 1) _ (by omega), es (t + 2) _ (by omega), es (t + 3) _ (by omega), es (t + 4) _ (by omega), es (t + 5) _ (by omega)]
      exact ov
    refine r_aload_n dX3_readClause_51 rfl ?_
    refine r_getIj (j := 2) rfl dX3_readClause_52 fkX3_20 gf3_2 (by assumption) (by (repeat (first | rewrite [od_upn (by omega)] | rewrite [od_up_at, if_pos (by omega)] | rewrite [od_up_at, if_neg (by omega)])); rfl) ?_
    show od_Rq _ _ _ _ _ _ _ ((0, g48 rd 2) :: _) _ _
    rw [hl48]
    show od_Rq _ _ _ _ _ _ _ ((0, 0) :: _) _ _
    refine r_if_eq (tgt := 96) dX3_readClause_55 rfl (fun _ => ?_) (fun h => absurd h (by decide))
    refine r_aload_n dX3_readClause_96 rfl ?_
    refine r_iload_n dX3_readClause_97 rfl ?_
    refine r_iload_n dX3_readClause_98 rfl ?_
    refine r_callV2p dX3_readClause_99 cvX3_90 (by assumption) (c_X3_readOrder2 hr0 hT48 S48 ⟨by omega, by omega, i48⟩ hl48 _ (by omega) ⟨v48.2.2.2.1, v48.2.2.2.2.1, v48.2.2.2.2.2.1⟩) (by decide) (Nat.le_of_ble_eq_true rfl) od_le.rf (fun r99 g99 h99 => ?_)
    obtain ⟨rfl, hO, hO2⟩ := h99
    show od_Rq _ _ _ _ _ _ _ [] _ _
    have eH : pHdO (tC B n) (tV B n) (tpl B n) s = (((pOb (tC B n) (tV B n) (tpl B n) 2 (pNx s))).1, 2, ((pOb (tC B n) (tV B n) (tpl B n) 2 (pNx s))).2) := (if_neg (fun z => by omega)).trans ((if_neg (fun z => by omega)).trans (if_pos ⟨hb, hc⟩))
    refine sg_X3_if hr0 hT hR hz hl h6 (kd := 2) (tm := (pTi (tC B n) (tV B n) (tpl B n) (pOb (tC B n) (tV B n) (tpl B n) 2 (pNx s)).1).2) (d1 := (pOb (tC B n) (tV B n) (tpl B n) 2 (pNx s)).2.1) (d2 := (pOb (tC B n) (tV B n) (tpl B n) 2 (pNx s)).2.2) (s2 := (pTi (tC B n) (tV B n) (tpl B n) (pOb (tC B n) (tV B n) (tpl B n) 2 (pNx s)).1).1) ?_ (by unfold pCl; rw [if_neg (by decide), eH])
    have hA1 := hO.1
    have hA4 := hO.2.2.2.2.1
    rw [v48.2.1] at hA1 hA4
    refine ⟨f48x.tr hA1, hO.2.1.trans v48.1, hO.2.2.1.2.trans v48.2.2.2.2.2.2, hO.2.2.2.1, ⟨hA4.1, hA4.2.1, Int.le_trans (by omega) hA4.2.2.1, hA4.2.2.2.1, hA4.2.2.2.2⟩, fun z => ⟨hO.2.2.1.1.trans v48.2.2.1, hO2 z, hO.2.2.2.2.2 z⟩⟩
  · refine r_aload_n dX3_readClause_42 rfl ?_
    refine r_callV0v dX3_readClause_43 cvX3_60 (by assumption) (c_X3_setFault hr0) (by decide) (Nat.le_of_ble_eq_true rfl) od_le.rf ?_
    exfalso; omega
set_option maxRecDepth 10000 in
theorem sg_X3_rco3 {E : od_E} {g : od_G} {rd tp t : Int} (hr : ReAt E rd tp t) {B : Int → Int} {n : Int} (hT : TpOk g tp B n) {s : pS} (hR : RSt g rd B n s) (hz : 0 ≤ g t 7 ∧ g t 7 ≤ s.1 ∧ s.1 ≤ 400) (hl : g rd 2 = lwI false) (h6 : 0 ≤ g t 6 ∧ g t 6 < 12) (hb : s.2.2 = -1) (hc : tC B n s.1 = 24) : od_Rq 38 mX3_readClause od_Z0 E (E, fun v g' => v = none ∧ CQ false g g' rd t B n s (pCl (tC B n) (tV B n) (tpl B n) false s)) 18 [some (2, rd), none, none] [(0, 3)] E g := by
  have hr0 := hr
  obtain ⟨hkr, e0, e1, hta, htx, hor⟩ := hr
  have htx0 := htx
  have hk9 := htx.1
  obtain ⟨_, x0, x1, x2, x3, x4, x5, y1, y2, y3, y4, y5, y6, _, _⟩ := htx
  have h40 := hT.2.2.1
  have ov := cTOpen_v (g := g) (t := t) (kd := 3)
  have hT1 : TpOk (cTOpen g t 3) tp B n := hT.xc (rd := rd) (t := t) (z := g t 7) hor cTOpen_fr
  have hR1 : RSt (cTOpen g t 3) rd B n s := hR.e (fun y _ _ => by unfold cTOpen; rw [od_upn (by omega), od_upn (by omega), od_upn (by omega), od_upn (by omega), od_upn (by omega), od_upn (by omega)])
  refine r_istore_n dX3_readClause_18 (by decide) rfl ?_
  refine r_iload_n dX3_readClause_19 rfl ?_
  refine r_iconst dX3_readClause_20 li_m1 ?_
  refine r_icmp_ne (tgt := 28) dX3_readClause_21 rfl (fun _ => ?_) (fun h => absurd h (by omega))
  refine r_aload_n dX3_readClause_28 rfl ?_
  refine r_getR dX3_readClause_29 fkX3_14 gf3_0 (by assumption) (by assumption) ?_
  refine r_iload_n dX3_readClause_32 rfl ?_
  refine r_callV1i dX3_readClause_33 cvX3_71 (by assumption) (c_X9_open htx0 _ (by omega)) (by decide) (Nat.le_of_ble_eq_true rfl) od_le.rf ?_
  refine r_istore_n dX3_readClause_36 (by decide) rfl ?_
  refine r_iload_n dX3_readClause_37 rfl ?_
  refine r_iconst dX3_readClause_38 li_m1 ?_
  refine r_icmp_ne (tgt := 47) dX3_readClause_39 rfl (fun c39 => ?_) (fun c39 => ?_)
  · refine r_aload_n dX3_readClause_47 rfl ?_
    refine r_callV0p dX3_readClause_48 cvX3_50 (by assumption) (c_X3_goOn hr0 hT1.1 hT1.2.1 hT1.2.2.1.2 hT1.2.2.2 (hR1.g5 hT1.2.2.1.1 hb)) (by decide) (Nat.le_of_ble_eq_true rfl) od_le.rf (fun r48 g48 h48 => ?_)
    obtain ⟨rfl, f48, w448, w548, w648, w348⟩ := h48
    show od_Rq _ _ _ _ _ _ _ [] _ _
    have S48 := RSt.go hR1 hb (by omega) f48 w448 w548 w648 w348
    have i48 := S48.i4 hb h40
    have bx : (pNx s).1 = s.1 + 1 := rfl
    have es : ∀ x y : Int, x ≠ rd → g48 x y = (cTOpen g t 3) x y := fun x y h => f48 x y (by omega)
    have hT48 := hT1.xp (t := t) (z := g t 7) hor (fr_rd f48 (by omega))
    have f48x : od_fr (XC rd t (g t 7) (g t 6)) g g48 := cTOpen_fr.tr ((fr_rd f48 (by omega)).mo (XC.xp (Int.le_refl _)))
    have hl48 : g48 rd 2 = lwI false := (f48x rd 2 (fun z => by unfold XC XP at z; omega)).trans hl
    have v48 : g48 t 6 = g t 6 + 1 ∧ g48 t 7 = g t 7 ∧ g48 (t + 1) (g t 6) = 3 ∧ g48 (t + 2) (g t 6) = 1 ∧ g48 (t + 3) (g t 6) = -1 ∧ g48 (t + 4) (g t 6) = -1 ∧ g48 (t + 5) (g t 6) = -1 := by
      rw [es t 6 (by omega), es t 7 (by omega), es (t + 1) _ (by omega), es (t + 2) _ (by omega), es (t + 3) _ (by omega), es (t + 4) _ (by omega), es (t + 5) _ (by omega)]
      exact ov
    refine r_aload_n dX3_readClause_51 rfl ?_
    refine r_getIj (j := 2) rfl dX3_readClause_52 fkX3_20 gf3_2 (by assumption) (by (repeat (first | rewrite [od_upn (by omega)] | rewrite [od_up_at, if_pos (by omega)] | rewrite [od_up_at, if_neg (by omega)])); rfl) ?_
    show od_Rq _ _ _ _ _ _ _ ((0, g48 rd 2) :: _) _ _
    rw [hl48]
    show od_Rq _ _ _ _ _ _ _ ((0, 0) :: _) _ _
    refine r_if_eq (tgt := 96) dX3_readClause_55 rfl (fun _ => ?_) (fun h => absurd h (by decide))
    refine r_aload_n dX3_readClause_96 rfl ?_
    refine r_iload_n dX3_readClause_97 rfl ?_
    refine r_iload_n dX3_readClause_98 rfl ?_
    refine r_callV2p dX3_readClause_99 cvX3_90 (by assumption) (c_X3_readOrder3 hr0 hT48 S48 ⟨by omega, by omega, i48⟩ hl48 _ (by omega) ⟨v48.2.2.2.1, v48.2.2.2.2.1, v48.2.2.2.2.2.1⟩) (by decide) (Nat.le_of_ble_eq_true rfl) od_le.rf (fun r99 g99 h99 => ?_)
    obtain ⟨rfl, hO, hO2⟩ := h99
    show od_Rq _ _ _ _ _ _ _ [] _ _
    have eH : pHdO (tC B n) (tV B n) (tpl B n) s = (((pOb (tC B n) (tV B n) (tpl B n) 3 (pNx s))).1, 3, ((pOb (tC B n) (tV B n) (tpl B n) 3 (pNx s))).2) := (if_neg (fun z => by omega)).trans ((if_neg (fun z => by omega)).trans ((if_neg (fun z => by omega)).trans (by rw [pMu_t ⟨hb, hc⟩]; rfl)))
    refine sg_X3_if hr0 hT hR hz hl h6 (kd := 3) (tm := (pTi (tC B n) (tV B n) (tpl B n) (pOb (tC B n) (tV B n) (tpl B n) 3 (pNx s)).1).2) (d1 := (pOb (tC B n) (tV B n) (tpl B n) 3 (pNx s)).2.1) (d2 := (pOb (tC B n) (tV B n) (tpl B n) 3 (pNx s)).2.2) (s2 := (pTi (tC B n) (tV B n) (tpl B n) (pOb (tC B n) (tV B n) (tpl B n) 3 (pNx s)).1).1) ?_ (by unfold pCl; rw [if_neg (by decide), eH])
    have hA1 := hO.1
    have hA4 := hO.2.2.2.2.1
    rw [v48.2.1] at hA1 hA4
    refine ⟨f48x.tr hA1, hO.2.1.trans v48.1, hO.2.2.1.2.trans v48.2.2.2.2.2.2, hO.2.2.2.1, ⟨hA4.1, hA4.2.1, Int.le_trans (by omega) hA4.2.2.1, hA4.2.2.2.1, hA4.2.2.2.2⟩, fun z => ⟨hO.2.2.1.1.trans v48.2.2.1, hO2 z, hO.2.2.2.2.2 z⟩⟩
  · refine r_aload_n dX3_readClause_42 rfl ?_
    refine r_callV0v dX3_readClause_43 cvX3_60 (by assumption) (c_X3_setFault hr0) (by decide) (Nat.le_of_ble_eq_true rfl) od_le.rf ?_
    exfalso; omega
