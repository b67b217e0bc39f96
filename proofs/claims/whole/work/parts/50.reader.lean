/-! Reader: tests -/
theorem pPart_bad {c v pl : Int → Int} {lw : Bool} {S : Option (pS → pR)} {s : pS} (h : s.2.2 ≠ -1) : pPart c v pl lw S s = (s, pNo) := if_pos h
theorem pTerm_bad {c v pl : Int → Int} {lw : Bool} {S : Option (pS → pR)} {s : pS} (h : s.2.2 ≠ -1) : pTerm c v pl lw S s = (s, pNo) := by
  unfold pTerm
  rw [pPart_bad h, pLoop_e (fun z => h z.1)]
theorem pSumL_bad {c v pl : Int → Int} {lw : Bool} {L : Nat} {s : pS} (h : s.2.2 ≠ -1) : pSumL c v pl lw L s = (s, pNo) := by
  rw [pSumL_eq]
  unfold pSum
  rw [pTerm_bad h, pLoop_e (fun z => h z.1)]
theorem RQ.base {Bd : Int → Prop} {m wl : Int} {rd t : Int} {B : Int → Int} {n : Int} {g gw g' : od_G} {s s1 : pS} {r : pR} (hrt : rd + 1 ≤ t) (f : od_fr (fun x y => x = rd ∧ 3 ≤ y ∧ y ≤ 6) g gw) (h : RQ Bd m wl gw g' rd t B n s1 r) (hs : s.1 ≤ s1.1) : RQ Bd m wl g g' rd t B n s r := by
  obtain ⟨a1, a2, a3, a4⟩ := h
  have e7 : gw t 7 = g t 7 := f t 7 (by omega)
  rw [e7] at a1 a3 a4
  exact ⟨(fr_rd f (by omega)).tr a1, a2, by omega, a4⟩
theorem RQ.not {m wl : Int} {rd t : Int} {B : Int → Int} {n : Int} {g gv : od_G} {s s1 : pS} {r : pR} (hrt : rd + 1 ≤ t) (h : RQ pBt m wl g gv rd t B n s1 r) (hs : s.1 + 1 ≤ s1.1) (hm : 1 ≤ m) : RQ pBt m wl g (cTPut gv t 3 0) rd t B n s (r.1, pNot true r.2) := by
  obtain ⟨a1, a2, a3, a4⟩ := h
  refine ⟨a1.tr (cTPut_fr (by omega)), a2.put hrt, ⟨?_, ?_, ?_, a3.2.2.2⟩, fun z => ?_⟩
  · rw [cTPut_7]; omega
  · rw [cTPut_7]; show gv t 7 + 1 - g t 7 ≤ r.1.1 - s.1; omega
  · show s.1 ≤ r.1.1; omega
  · rw [cTPut_7]
    refine RT_not ((a4 z).row (fun j j0 j1 => by rw [cTPut_r, if_neg (by omega)])) hm ?_
    rw [cTPut_r, if_pos rfl]
theorem RQ.brk {Bd : Int → Prop} {m m1 wl : Int} {rd t : Int} {B : Int → Int} {n : Int} {g g1 g2 g3 : od_G} {s : pS} {q : pR} (hrt : rd + 1 ≤ t) (hn : 0 ≤ n ∧ n ≤ 400) (f : od_fr (fun x y => x = rd ∧ 3 ≤ y ∧ y ≤ 6) g g1) (h : RQ Bd m1 wl g1 g2 rd t B n (pNx s) q) (hm : m1 ≤ m) (hb : q.1.2.2 = -1) (f3 : od_fr (fun x y => x = rd ∧ 3 ≤ y ∧ y ≤ 6) g2 g3) (h3 : RSt g3 rd B n (pNx q.1)) : RQ Bd m wl g g3 rd t B n s (pNx q.1, q.2) := by
  obtain ⟨a1, a2, a3, a4⟩ := h
  have e7 : g1 t 7 = g t 7 := f t 7 (by omega)
  have e73 : g3 t 7 = g2 t 7 := f3 t 7 (by omega)
  have e63 : g3 (t + 6) = g2 (t + 6) := f3.row (fun y z => by omega)
  have i4 := h3.i4 hb hn
  have bx : (pNx s).1 = s.1 + 1 := rfl
  rw [e7] at a1 a3 a4
  refine ⟨((fr_rd f (by omega)).tr a1).tr (fr_rd f3 (by omega)), h3, ⟨by omega, ?_, ?_, i4⟩, fun z => ?_⟩
  · show g3 t 7 - g t 7 ≤ q.1.1 + 1 - s.1; omega
  · show s.1 ≤ q.1.1 + 1; omega
  · rw [e63, e73]; exact (a4 hb).mo hm
theorem RQ.brf {Bd : Int → Prop} {m m1 wl : Int} {rd t : Int} {B : Int → Int} {n : Int} {g g1 g2 : od_G} {s : pS} {q : pR} {d : pD} (hrt : rd + 1 ≤ t) (hn : 0 ≤ n) (f : od_fr (fun x y => x = rd ∧ 3 ≤ y ∧ y ≤ 6) g g1) (h : RQ Bd m1 wl g1 g2 rd t B n (pNx s) q) : RQ Bd m wl g (cSF g2 rd) rd t B n s (pF (tpl B n) q.1, d) := by
  obtain ⟨a1, a2, a3, a4⟩ := h
  have e7 : g1 t 7 = g t 7 := f t 7 (by omega)
  have bx : (pNx s).1 = s.1 + 1 := rfl
  rw [e7] at a1 a3
  exact RQ.flt hn ((fr_rd f (by omega)).tr a1) a2 (by omega) hrt
theorem RQ.sc {m wl : Int} {rd t : Int} {B : Int → Int} {n : Int} {g gw g1 g2 : od_G} {s : pS} {r q : pR} {st : Int} (hrt : rd + 1 ≤ t) (h1 : RQ pBt m wl g gw rd t B n s r) (hz : 0 ≤ g t 7 ∧ g t 7 ≤ s.1) (hb : r.1.2.2 = -1) (f : od_fr (fun x y => x = rd ∧ 3 ≤ y ∧ y ≤ 6) gw g1) (hs : st = 4 ∨ st = 5) (hm : 1 ≤ m) (h2 : RQ pBt m wl (cTPut g1 t st 0) g2 rd t B n (pNx r.1) q) : RQ pBt m wl g (cTLand g2 t (g1 t 7) 512) rd t B n s (q.1, pSc (if st = 4 then 1 else 0) r.2 q.2) := by
  obtain ⟨a1, a2, a3, a4⟩ := h1
  obtain ⟨b1, b2, b3, b4⟩ := h2
  have e7 : g1 t 7 = gw t 7 := f t 7 (by omega)
  have e6 : g1 (t + 6) = gw (t + 6) := f.row (fun y z => by omega)
  have bx : (pNx r.1).1 = r.1.1 + 1 := rfl
  rw [cTPut_7, e7] at b1 b3 b4
  have ew : g2 (t + 6) (gw t 7) = od_stp st 0 := by
    rw [b1 (t + 6) (gw t 7) (fun z => by unfold XP at z; omega), cTPut_r, e7, if_pos rfl]
  have eL : cTLand g2 t (g1 t 7) 512 = od_up g2 (t + 6) (gw t 7) (od_stp st (g2 t 7)) := by
    unfold cTLand
    rw [e7, if_pos (by omega), ew, (od_stp_d (st := st) (nu := 0) (by omega) (by omega)).1]
    rfl
  rw [eL]
  have e72 : od_up g2 (t + 6) (gw t 7) (od_stp st (g2 t 7)) t 7 = g2 t 7 := od_upn (by omega)
  refine ⟨?_, b2.e (fun y _ _ => od_upn (by omega)), ⟨by omega, ?_, ?_, b3.2.2.2⟩, fun z => ?_⟩
  · refine ((a1.tr (fr_rd f (by omega))).tr (cTPut_fr (st := st) (nu := 0) (by omega))).tr ?_
    exact (b1.mo (XP.mo (by omega))).up (by unfold XP; omega)
  · rw [e72]; show g2 t 7 - g t 7 ≤ q.1.1 - s.1; omega
  · show s.1 ≤ q.1.1; omega
  · rw [e72]
    have r1 : RT pBt m wl (od_up g2 (t + 6) (gw t 7) (od_stp st (g2 t 7)) (t + 6)) (g t 7) (gw t 7) r.2 := (a4 hb).row (fun j j0 j1 => by
      rw [od_up_at, if_neg (by omega), b1 (t + 6) j (fun z => by unfold XP at z; omega), cTPut_r, e7, if_neg (by omega), e6])
    have r2 : RT pBt m wl (od_up g2 (t + 6) (gw t 7) (od_stp st (g2 t 7)) (t + 6)) (gw t 7 + 1) (g2 t 7) q.2 := (b4 z).row (fun j j0 j1 => by
      rw [od_up_at, if_neg (by omega)])
    exact RT_sc r1 r2 hm hs (by omega) (by rw [od_up_at, if_pos rfl])
theorem pOc_b {k : Int} (h : pOc k ≠ -1) : (11 ≤ pOc k ∧ pOc k ≤ 13) ∧ k ≠ 0 := by
  unfold pOc at h ⊢
  repeat' split
  all_goals simp_all
theorem pNots_s {c : Int → Int} {f : Nat} {s : pS} {b : Bool} (h : s.2.2 = -1 ∧ c s.1 = 7) : pNots c (f + 1) s b = pNots c f (pNx s) (!b) := if_pos h
theorem pNots_e {c : Int → Int} {f : Nat} {s : pS} {b : Bool} (h : ¬ (s.2.2 = -1 ∧ c s.1 = 7)) : pNots c f s b = (s, b) := by
  cases f with
  | zero => rfl
  | succ f => exact if_neg h
theorem pAO_s {c : Int → Int} {k st : Int} {P : pS → pR} {f : Nat} {r : pR} (h : r.1.2.2 = -1 ∧ c r.1.1 = k) : pAO c k st P (f + 1) r = pAO c k st P f ((P (pNx r.1)).1, pSc st r.2 (P (pNx r.1)).2) := if_pos h
theorem pAO_e {c : Int → Int} {k st : Int} {P : pS → pR} {f : Nat} {r : pR} (h : ¬ (r.1.2.2 = -1 ∧ c r.1.1 = k)) : pAO c k st P f r = r := by
  cases f with
  | zero => rfl
  | succ f => exact if_neg h
def CPln (E : od_E) (rd tp t : Int) (B : Int → Int) (n : Int) (lw : Bool) (L : Nat) : Prop := ∀ (g : od_G) (s : pS), TpOk g tp B n → RSt g rd B n s → RPre g t s → g rd 2 = lwI lw → od_Cq (11 + 3 * L) mX3_readPlain [(2, rd), (0, 8 - (L : Int))] E g (E, fun v g' => v = none ∧ RQ pBt (2 * L + 4) (wlI lw) g g' rd t B n s (pPlain (tC B n) (tpl B n) (pSumL (tC B n) (tV B n) (tpl B n) lw L) (pTub (tC B n) (tV B n) (tpl B n) lw L) s))
def CBth (E : od_E) (rd tp t : Int) (B : Int → Int) (n : Int) (lw : Bool) (L : Nat) : Prop := ∀ (g : od_G) (s : pS), TpOk g tp B n → RSt g rd B n s → RPre g t s → g rd 2 = lwI lw → od_Cq (12 + 3 * L) mX3_readBoth [(2, rd), (0, 8 - (L : Int))] E g (E, fun v g' => v = none ∧ RQ pBt (2 * L + 4) (wlI lw) g g' rd t B n s (pBoth (tC B n) (tpl B n) (pSumL (tC B n) (tV B n) (tpl B n) lw L) (pTub (tC B n) (tV B n) (tpl B n) lw L) s))
def CTst (E : od_E) (rd tp t : Int) (B : Int → Int) (n : Int) (lw : Bool) (L : Nat) : Prop := ∀ (g : od_G) (s : pS), TpOk g tp B n → RSt g rd B n s → RPre g t s → g rd 2 = lwI lw → od_Cq (13 + 3 * L) mX3_readTest [(2, rd), (0, 8 - (L : Int))] E g (E, fun v g' => v = none ∧ RQ pBt (2 * L + 4) (wlI lw) g g' rd t B n s (pTestL (tC B n) (tV B n) (tpl B n) lw L s))
set_option maxRecDepth 10000 in
theorem sg_X3_pn {E : od_E} {g : od_G} {rd tp t : Int} (hr : ReAt E rd tp t) {B : Int → Int} {n : Int} (hT : TpOk g tp B n) {s : pS} (hR : RSt g rd B n s) (hz : RPre g t s) {lw : Bool} (hl : g rd 2 = lwI lw) {L : Nat} (hL : L ≤ 8) {s1 : pS} {b : Bool} {gw gv : od_G} {q : pS} {d : pD} (tu : Int) (htu : tu = if b = true then 1 else 0) (hfw : od_fr (fun x y => x = rd ∧ 3 ≤ y ∧ y ≤ 6) g gw) (hs1 : s.1 ≤ s1.1 ∧ (b = true → s.1 + 1 ≤ s1.1)) (hq : RQ pBt (2 * L + 4) (wlI lw) gw gv rd t B n s1 (q, d)) (hF : pPlain (tC B n) (tpl B n) (pSumL (tC B n) (tV B n) (tpl B n) lw L) (pTub (tC B n) (tV B n) (tpl B n) lw L) s = (q, pNot b d)) (x : Option od_V) : od_Rq (11 + 3 * L) mX3_readPlain od_Z0 E (E, fun v g' => v = none ∧ RQ pBt (2 * L + 4) (wlI lw) g g' rd t B n s (pPlain (tC B n) (tpl B n) (pSumL (tC B n) (tV B n) (tpl B n) lw L) (pTub (tC B n) (tV B n) (tpl B n) lw L) s)) 134 [some (2, rd), some (0, 8 - (L : Int)), some (0, tu), x] [] E gv := by
  have hr0 := hr
  obtain ⟨hkr, e0, e1, hta, htx, hor⟩ := hr
  have hta0 := hta
  have hk9 := htx.1
  have h40 := hT.2.2.1
  have hz0 := hz
  unfold RPre at hz
  have hq3 := hq.2.2.1
  have e7w : gw t 7 = g t 7 := hfw t 7 (by omega)
  have hq4 : q.1 ≤ 400 := hq3.2.2.2
  have hq5 : gv t 7 - gw t 7 ≤ q.1 - s1.1 := hq3.2.1
  refine r_iload_n dX3_readPlain_134 rfl ?_
  refine r_if_eq (tgt := 148) dX3_readPlain_135 rfl (fun c135 => ?_) (fun c135 => ?_)
  · refine r_vretq dX3_readPlain_148 rfl rfl ⟨rfl, ?_⟩
    rw [hF]
    cases b with
    | true =>
      first
      | exact absurd htu (by rw [if_pos rfl]; omega)
      | exact RQ.base (s1 := s) hor.2 hfw (RQ.not hor.2 hq (hs1.2 rfl) (by omega)) (Int.le_refl _)
    | false =>
      first
      | exact absurd htu (by rw [if_neg (by decide)]; omega)
      | exact RQ.base hor.2 hfw hq hs1.1
  · refine r_aload_n dX3_readPlain_138 rfl ?_
    refine r_getR dX3_readPlain_139 fkX3_14 gf3_0 (by assumption) (by assumption) ?_
    refine r_iconst dX3_readPlain_142 li_3 ?_
    refine r_iconst dX3_readPlain_143 li_0 ?_
    refine r_callV2i dX3_readPlain_144 cvX3_86 (by assumption) (c_X9_put htx _ _ (by omega)) (by omega) (Nat.le_of_ble_eq_true rfl) od_le.rf ?_
    refine r_pop dX3_readPlain_147 (by first | exact od_ne2 | exact od_ne0) ?_
    refine r_vretq dX3_readPlain_148 rfl rfl ⟨rfl, ?_⟩
    rw [hF]
    cases b with
    | true =>
      first
      | exact absurd htu (by rw [if_pos rfl]; omega)
      | exact RQ.base (s1 := s) hor.2 hfw (RQ.not hor.2 hq (hs1.2 rfl) (by omega)) (Int.le_refl _)
    | false =>
      first
      | exact absurd htu (by rw [if_neg (by decide)]; omega)
      | exact RQ.base hor.2 hfw hq hs1.1
set_option maxRecDepth 10000 in
theorem sg_X3_pl {E : od_E} {g : od_G} {rd tp t : Int} (hr : ReAt E rd tp t) {B : Int → Int} {n : Int} (hT : TpOk g tp B n) {s : pS} (hR : RSt g rd B n s) (hz : RPre g t s) {lw : Bool} (hl : g rd 2 = lwI lw) {L : Nat} (hL : L ≤ 8) (hS : CSum E rd tp t B n lw L) (hTs : ∀ L1 : Nat, L = L1 + 1 → CTst E rd tp t B n lw L1) {s1 : pS} {b : Bool} {gw : od_G} (tu : Int) (htu : tu = if b = true then 1 else 0) (hfw : od_fr (fun x y => x = rd ∧ 3 ≤ y ∧ y ≤ 6) g gw) (hs1 : s.1 ≤ s1.1 ∧ (b = true → s.1 + 1 ≤ s1.1)) (h14 : s1.1 ≤ 400) (hR1 : RSt gw rd B n s1) (hF : pNots (tC B n) 400 s false = (s1, b)) (x : Int) : od_Rq (11 + 3 * L) mX3_readPlain od_Z0 E (E, fun v g' => v = none ∧ RQ pBt (2 * L + 4) (wlI lw) g g' rd t B n s (pPlain (tC B n) (tpl B n) (pSumL (tC B n) (tV B n) (tpl B n) lw L) (pTub (tC B n) (tV B n) (tpl B n) lw L) s)) 36 [some (2, rd), some (0, 8 - (L : Int)), some (0, tu), some (0, x)] [] E gw := by
  have hr0 := hr
  obtain ⟨hkr, e0, e1, hta, htx, hor⟩ := hr
  have hta0 := hta
  have hk9 := htx.1
  have h40 := hT.2.2.1
  have hz0 := hz
  unfold RPre at hz
  have hTw := hT.xp (t := t) (z := g t 7) hor (fr_rd hfw (by omega))
  have e7w : gw t 7 = g t 7 := hfw t 7 (by omega)
  have hlw : gw rd 2 = lwI lw := (hfw rd 2 (by omega)).trans hl
  have hFx : pPlain (tC B n) (tpl B n) (pSumL (tC B n) (tV B n) (tpl B n) lw L) (pTub (tC B n) (tV B n) (tpl B n) lw L) s = pPos (tC B n) (tpl B n) (pSumL (tC B n) (tV B n) (tpl B n) lw L) (pTub (tC B n) (tV B n) (tpl B n) lw L) b s1 := by unfold pPlain; rw [hF]
  refine r_aload_n dX3_readPlain_36 rfl ?_
  refine r_bipush dX3_readPlain_37 lb_40 ?_
  refine r_callV1b dX3_readPlain_39 cvX3_131 (by assumption) (c_X3_isSignS hr0 hTw hR1 _ (by omega)) (by omega) (Nat.le_of_ble_eq_true rfl) od_le.rf (fun q39 => ?_) (fun q39 => ?_)
  · refine r_if_eq (tgt := 83) dX3_readPlain_42 rfl (fun h => absurd h (by decide)) (fun _ => ?_)
    refine r_iload_n dX3_readPlain_45 rfl ?_
    refine r_bipush dX3_readPlain_46 lb_8 ?_
    refine r_icmp_lt (tgt := 56) dX3_readPlain_48 rfl (fun c48 => ?_) (fun c48 => ?_)
    · obtain ⟨L1, hL1⟩ : ∃ L1 : Nat, L = L1 + 1 := ⟨L - 1, by omega⟩
      subst hL1
      have hb := q39.1
      refine r_aload_n dX3_readPlain_56 rfl ?_
      refine r_callV0p dX3_readPlain_57 cvX3_50 (by assumption) (c_X3_goOn hr0 hTw.1 hTw.2.1 hTw.2.2.1.2 hTw.2.2.2 (hR1.g5 hTw.2.2.1.1 hb)) (by omega) (Nat.le_of_ble_eq_true rfl) od_le.rf (fun r57 g57 h57 => ?_)
      obtain ⟨rfl, f57, w457, w557, w657, w357⟩ := h57
      show od_Rq _ _ _ _ _ _ _ [] _ _
      have S57 := RSt.go hR1 hb (by have := q39.2; omega) f57 w457 w557 w657 w357
      have hT57 := hTw.xp (t := t) (z := g t 7) hor (fr_rd f57 (by omega))
      have e757 : g57 t 7 = gw t 7 := f57 t 7 (by omega)
      have hl57 : g57 rd 2 = lwI lw := (f57 rd 2 (by omega)).trans hlw
      have i57 := S57.i4 hb h40
      refine r_aload_n dX3_readPlain_60 rfl ?_
      refine r_iload_n dX3_readPlain_61 rfl ?_
      refine r_iconst dX3_readPlain_62 li_1 ?_
      refine r_iaddE dX3_readPlain_63 (by first | exact od_w0 (by omega) (by omega) | exact od_wI (by omega) (by omega) | rfl) ?_
      rw [show (8 - ((L1 + 1 : Nat) : Int)) + 1 = 8 - (L1 : Int) by omega]
      refine r_callV1p dX3_readPlain_64 cvX3_102 (by assumption) (hTs L1 rfl g57 (pNx s1) hT57 S57 ⟨by omega, by show _ ≤ s1.1 + 1; omega, i57⟩ hl57) (by omega) (Nat.le_of_ble_eq_true rfl) od_le.rf (fun r64 g64 h64 => ?_)
      obtain ⟨rfl, hq64⟩ := h64
      show od_Rq _ _ _ _ _ _ _ [] _ _
      have hT64 := hT57.xp hor hq64.1
      refine r_aload_n dX3_readPlain_67 rfl ?_
      refine r_bipush dX3_readPlain_68 lb_41 ?_
      refine r_callV1p dX3_readPlain_70 cvX3_56 (by assumption) (c_X3_takeSign hr0 hT64 hq64.2.1 _ (by omega)) (by omega) (Nat.le_of_ble_eq_true rfl) od_le.rf (fun r70 g70 h70 => ?_)
      rcases h70 with ⟨rfl, h70⟩ | ⟨rfl, h70⟩
      · show od_Rq _ _ _ _ _ _ _ ((0, 1) :: _) _ _
        skip
        refine r_if_ne (tgt := 134) dX3_readPlain_73 rfl (fun _ => ?_) (fun h => absurd h (by decide))
        first
        | (refine sg_X3_pn (s1 := s1) (b := b) (gw := gw) hr0 hT hR hz0 hl hL tu htu hfw hs1 (RQ.bin hor.2 hq85 hb f116 hq121 (m := 2 * (L : Int) + 4) (by omega) (by omega) (by omega) (fun x y _ => cJoin_t hkb.1)) ?_ _
           rw [hFx]
           unfold pPos
           rw [if_neg (by omega), if_neg (fun z => q39 ⟨hb1, by omega⟩), if_neg (by omega), if_neg hk.2])
        | (refine sg_X3_pn (s1 := s1) (b := b) (gw := gw) hr0 hT hR hz0 hl hL tu htu hfw hs1 (RQ.brk hor.2 h40 f57 hq64 (m := 2 * ((L1 + 1 : Nat) : Int) + 4) (by omega) h70.1.1 h70.2.1 h70.2.2) ?_ _
           rw [hFx]
           unfold pPos
           rw [if_neg (by omega), if_pos (by have := q39.2; omega)]
           show (pMu (tC B n) (tpl B n) 141 (pTestL (tC B n) (tV B n) (tpl B n) lw L1 (pNx s1)).1, _) = _
           rw [pMu_t ⟨h70.1.1, by have := h70.1.2; omega⟩])
        | (obtain ⟨h70a, rfl⟩ := h70
           refine sg_X3_pn (s1 := s1) (b := b) (gw := gw) hr0 hT hR hz0 hl hL tu htu hfw hs1 (RQ.brf (m := 2 * ((L1 + 1 : Nat) : Int) + 4) (d := (pTestL (tC B n) (tV B n) (tpl B n) lw L1 (pNx s1)).2) hor.2 h40.1 f57 hq64) ?_ _
           rw [hFx]
           unfold pPos
           rw [if_neg (by omega), if_pos (by have := q39.2; omega)]
           show (pMu (tC B n) (tpl B n) 141 (pTestL (tC B n) (tV B n) (tpl B n) lw L1 (pNx s1)).1, _) = _
           rw [pMu_f (fun z => h70a ⟨z.1, by have := z.2; omega⟩)])
      · show od_Rq _ _ _ _ _ _ _ ((0, 0) :: _) _ _
        skip
        refine r_if_ne (tgt := 134) dX3_readPlain_73 rfl (fun h => absurd h (by decide)) (fun _ => ?_)
        refine r_aload_n dX3_readPlain_76 rfl ?_
        refine r_callV0v dX3_readPlain_77 cvX3_60 (by assumption) (c_X3_setFault hr0) (by omega) (Nat.le_of_ble_eq_true rfl) od_le.rf ?_
        refine r_goto (tgt := 134) dX3_readPlain_80 rfl ?_
        first
        | (refine sg_X3_pn (s1 := s1) (b := b) (gw := gw) hr0 hT hR hz0 hl hL tu htu hfw hs1 (RQ.bin hor.2 hq85 hb f116 hq121 (m := 2 * (L : Int) + 4) (by omega) (by omega) (by omega) (fun x y _ => cJoin_t hkb.1)) ?_ _
           rw [hFx]
           unfold pPos
           rw [if_neg (by omega), if_neg (fun z => q39 ⟨hb1, by omega⟩), if_neg (by omega), if_neg hk.2])
        | (refine sg_X3_pn (s1 := s1) (b := b) (gw := gw) hr0 hT hR hz0 hl hL tu htu hfw hs1 (RQ.brk hor.2 h40 f57 hq64 (m := 2 * ((L1 + 1 : Nat) : Int) + 4) (by omega) h70.1.1 h70.2.1 h70.2.2) ?_ _
           rw [hFx]
           unfold pPos
           rw [if_neg (by omega), if_pos (by have := q39.2; omega)]
           show (pMu (tC B n) (tpl B n) 141 (pTestL (tC B n) (tV B n) (tpl B n) lw L1 (pNx s1)).1, _) = _
           rw [pMu_t ⟨h70.1.1, by have := h70.1.2; omega⟩])
        | (obtain ⟨h70a, rfl⟩ := h70
           refine sg_X3_pn (s1 := s1) (b := b) (gw := gw) hr0 hT hR hz0 hl hL tu htu hfw hs1 (RQ.brf (m := 2 * ((L1 + 1 : Nat) : Int) + 4) (d := (pTestL (tC B n) (tV B n) (tpl B n) lw L1 (pNx s1)).2) hor.2 h40.1 f57 hq64) ?_ _
           rw [hFx]
           unfold pPos
           rw [if_neg (by omega), if_pos (by have := q39.2; omega)]
           show (pMu (tC B n) (tpl B n) 141 (pTestL (tC B n) (tV B n) (tpl B n) lw L1 (pNx s1)).1, _) = _
           rw [pMu_f (fun z => h70a ⟨z.1, by have := z.2; omega⟩)])
    · refine r_aload_n dX3_readPlain_51 rfl ?_
      refine r_callV0v dX3_readPlain_52 cvX3_60 (by assumption) (c_X3_setFault hr0) (by omega) (Nat.le_of_ble_eq_true rfl) od_le.rf ?_
      have hL0 : L = 0 := by omega
      subst hL0
      refine r_vretq dX3_readPlain_55 rfl rfl ⟨rfl, ?_⟩
      rw [hFx]
      unfold pPos
      rw [if_neg (by have := q39.1; omega), if_pos (by have := q39.2; omega)]
      exact RQ.base hor.2 hfw (RQ.flt h40.1 od_fr.rf hR1 (by omega) hor.2) hs1.1
  · refine r_if_eq (tgt := 83) dX3_readPlain_42 rfl (fun _ => ?_) (fun h => absurd h (by decide))
    refine r_aload_n dX3_readPlain_83 rfl ?_
    refine r_iload_n dX3_readPlain_84 rfl ?_
    refine r_callV1p dX3_readPlain_85 cvX3_82 (by assumption) (hS gw s1 hTw hR1 ⟨by omega, by omega, h14⟩ hlw) (by omega) (Nat.le_of_ble_eq_true rfl) od_le.rf (fun r85 g85 h85 => ?_)
    obtain ⟨rfl, hq85⟩ := h85
    show od_Rq _ _ _ _ _ _ _ [] _ _
    have hT85 := hTw.xp hor hq85.1
    have b85 := hq85.2.2.1
    have hl85 : g85 rd 2 = lwI lw := (hq85.1 rd 2 (fun z => by unfold XP at z; omega)).trans hlw
    refine r_aload_n dX3_readPlain_88 rfl ?_
    refine r_bipush dX3_readPlain_89 lb_60 ?_
    refine r_bipush dX3_readPlain_91 lb_11 ?_
    refine r_bipush dX3_readPlain_93 lb_62 ?_
    refine r_bipush dX3_readPlain_95 lb_12 ?_
    refine r_bipush dX3_readPlain_97 lb_61 ?_
    refine r_bipush dX3_readPlain_99 lb_13 ?_
    refine r_callV6i dX3_readPlain_101 cvX3_134 (by assumption) (c_X3_stepOf hr0 hT85 hq85.2.1 _ _ _ _ _ _ (by omega) (by omega) (by omega)) (by omega) (Nat.le_of_ble_eq_true rfl) od_le.rf ?_
    rw [tSt_c]
    refine r_istore_n dX3_readPlain_104 (by decide) rfl ?_
    refine r_iload_n dX3_readPlain_105 rfl ?_
    refine r_iconst dX3_readPlain_106 li_m1 ?_
    refine r_icmp_ne (tgt := 115) dX3_readPlain_107 rfl (fun c107 => ?_) (fun c107 => ?_)
    · have hk : (pSumL (tC B n) (tV B n) (tpl B n) lw L s1).1.2.2 = -1 ∧ pOc (tC B n (pSumL (tC B n) (tV B n) (tpl B n) lw L s1).1.1) ≠ -1 := by
        by_cases h : (pSumL (tC B n) (tV B n) (tpl B n) lw L s1).1.2.2 = -1
        · rw [if_pos h] at c107; exact ⟨h, c107⟩
        · rw [if_neg h] at c107; omega
      rw [if_pos hk.1]
      have hkb := pOc_b hk.2
      have hb := hk.1
      have hb1 : s1.2.2 = -1 := by
        by_cases h : s1.2.2 = -1
        · exact h
        · have e := pSumL_bad (c := tC B n) (v := tV B n) (pl := tpl B n) (lw := lw) (L := L) h
          rw [e] at hb
          exact absurd hb h
      refine r_aload_n dX3_readPlain_115 rfl ?_
      refine r_callV0p dX3_readPlain_116 cvX3_50 (by assumption) (c_X3_goOn hr0 hT85.1 hT85.2.1 hT85.2.2.1.2 hT85.2.2.2 (hq85.2.1.g5 hT85.2.2.1.1 hb)) (by omega) (Nat.le_of_ble_eq_true rfl) od_le.rf (fun r116 g116 h116 => ?_)
      obtain ⟨rfl, f116, w4116, w5116, w6116, w3116⟩ := h116
      show od_Rq _ _ _ _ _ _ _ [] _ _
      have S116 := RSt.go hq85.2.1 hb hkb.2 f116 w4116 w5116 w6116 w3116
      have hT116 := hT85.xp (t := t) (z := g t 7) hor (fr_rd f116 (by omega))
      have e7116 : g116 t 7 = g85 t 7 := f116 t 7 (by omega)
      have hl116 : g116 rd 2 = lwI lw := (f116 rd 2 (by omega)).trans hl85
      have i116 := S116.i4 hb h40
      have bx : (pNx (pSumL (tC B n) (tV B n) (tpl B n) lw L s1).1).1 = (pSumL (tC B n) (tV B n) (tpl B n) lw L s1).1.1 + 1 := rfl
      refine r_aload_n dX3_readPlain_119 rfl ?_
      refine r_iload_n dX3_readPlain_120 rfl ?_
      refine r_callV1p dX3_readPlain_121 cvX3_82 (by assumption) (hS g116 (pNx (pSumL (tC B n) (tV B n) (tpl B n) lw L s1).1) hT116 S116 ⟨by omega, by rw [bx]; omega, i116⟩ hl116) (by omega) (Nat.le_of_ble_eq_true rfl) od_le.rf (fun r121 g121 h121 => ?_)
      obtain ⟨rfl, hq121⟩ := h121
      show od_Rq _ _ _ _ _ _ _ [] _ _
      have b121 := hq121.2.2.1
      refine r_aload_n dX3_readPlain_124 rfl ?_
      refine r_getR dX3_readPlain_125 fkX3_14 gf3_0 (by assumption) (by assumption) ?_
      refine r_iload_n dX3_readPlain_128 rfl ?_
      refine r_iconst dX3_readPlain_129 li_0 ?_
      refine r_callV2i dX3_readPlain_130 cvX3_86 (by assumption) (c_X9_put htx _ _ (by omega)) (by omega) (Nat.le_of_ble_eq_true rfl) od_le.rf ?_
      refine r_pop dX3_readPlain_133 (by first | exact od_ne2 | exact od_ne0) ?_
      first
      | (refine sg_X3_pn (s1 := s1) (b := b) (gw := gw) hr0 hT hR hz0 hl hL tu htu hfw hs1 (RQ.bin hor.2 hq85 hb f116 hq121 (m := 2 * (L : Int) + 4) (by omega) (by omega) (by omega) (fun x y _ => cJoin_t hkb.1)) ?_ _
         rw [hFx]
         unfold pPos
         rw [if_neg (by omega), if_neg (fun z => q39 ⟨hb1, by omega⟩), if_neg (by omega), if_neg hk.2])
      | (refine sg_X3_pn (s1 := s1) (b := b) (gw := gw) hr0 hT hR hz0 hl hL tu htu hfw hs1 (RQ.brk hor.2 h40 f57 hq64 (m := 2 * ((L1 + 1 : Nat) : Int) + 4) (by omega) h70.1.1 h70.2.1 h70.2.2) ?_ _
         rw [hFx]
         unfold pPos
         rw [if_neg (by omega), if_pos (by have := q39.2; omega)]
         show (pMu (tC B n) (tpl B n) 141 (pTestL (tC B n) (tV B n) (tpl B n) lw L1 (pNx s1)).1, _) = _
         rw [pMu_t ⟨h70.1.1, by have := h70.1.2; omega⟩])
      | (obtain ⟨h70a, rfl⟩ := h70
         refine sg_X3_pn (s1 := s1) (b := b) (gw := gw) hr0 hT hR hz0 hl hL tu htu hfw hs1 (RQ.brf (m := 2 * ((L1 + 1 : Nat) : Int) + 4) (d := (pTestL (tC B n) (tV B n) (tpl B n) lw L1 (pNx s1)).2) hor.2 h40.1 f57 hq64) ?_ _
         rw [hFx]
         unfold pPos
         rw [if_neg (by omega), if_pos (by have := q39.2; omega)]
         show (pMu (tC B n) (tpl B n) 141 (pTestL (tC B n) (tV B n) (tpl B n) lw L1 (pNx s1)).1, _) = _
         rw [pMu_f (fun z => h70a ⟨z.1, by have := z.2; omega⟩)])
    · refine r_aload_n dX3_readPlain_110 rfl ?_
      refine r_callV0v dX3_readPlain_111 cvX3_60 (by assumption) (c_X3_setFault hr0) (by omega) (Nat.le_of_ble_eq_true rfl) od_le.rf ?_
      refine r_vretq dX3_readPlain_114 rfl rfl ⟨rfl, ?_⟩
      rw [hFx]
      by_cases hb1 : s1.2.2 = -1
      · unfold pPos
        rw [if_neg (by omega), if_neg (fun z => q39 ⟨hb1, by omega⟩)]
        by_cases hb2 : (pSumL (tC B n) (tV B n) (tpl B n) lw L s1).1.2.2 = -1
        · rw [if_pos hb2] at c107
          rw [if_neg (by omega), if_pos c107]
          exact RQ.base hor.2 hfw (RQ.flt h40.1 hq85.1 hq85.2.1 hq85.2.2.1 hor.2) hs1.1
        · rw [if_pos hb2, ← pF_bad (pl := tpl B n) hb2]
          exact RQ.base hor.2 hfw (RQ.flt h40.1 hq85.1 hq85.2.1 hq85.2.2.1 hor.2) hs1.1
      · unfold pPos
        rw [if_pos hb1]
        have e := pSumL_bad (c := tC B n) (v := tV B n) (pl := tpl B n) (lw := lw) (L := L) hb1
        rw [e] at hq85
        have e2 : (s1, pNo) = (pF (tpl B n) s1, pNo) := by rw [pF_bad hb1]
        rw [e2]
        exact RQ.base hor.2 hfw (RQ.flt h40.1 hq85.1 hq85.2.1 hq85.2.2.1 hor.2) hs1.1
set_option maxRecDepth 10000 in
theorem lp_X3_not {E : od_E} {g : od_G} {rd tp t : Int} (hr : ReAt E rd tp t) {B : Int → Int} {n : Int} (hT : TpOk g tp B n) {s : pS} (hR : RSt g rd B n s) (hz : RPre g t s) {lw : Bool} (hl : g rd 2 = lwI lw) {L : Nat} (hL : L ≤ 8) (hS : CSum E rd tp t B n lw L) (hTs : ∀ L1 : Nat, L = L1 + 1 → CTst E rd tp t B n lw L1) : ∀ (m : Nat) (i tu : Int) (s1 : pS) (b : Bool) (gw : od_G), (0 ≤ i ∧ i ≤ 400 ∧ od_fr (fun x y => x = rd ∧ 3 ≤ y ∧ y ≤ 6) g gw ∧ RSt gw rd B n s1 ∧ (s.1 ≤ s1.1 ∧ (b = true → s.1 + 1 ≤ s1.1)) ∧ s1.1 ≤ 400 ∧ tu = (if b = true then 1 else 0) ∧ (0 < i → s.1 + 1 ≤ s1.1) ∧ pNots (tC B n) (400 - i).toNat s1 b = pNots (tC B n) 400 s false) → ((400 - i).toNat) < m → od_Rq (11 + 3 * L) mX3_readPlain od_Z0 E (E, fun v g' => v = none ∧ RQ pBt (2 * L + 4) (wlI lw) g g' rd t B n s (pPlain (tC B n) (tpl B n) (pSumL (tC B n) (tV B n) (tpl B n) lw L) (pTub (tC B n) (tV B n) (tpl B n) lw L) s)) 4 [some (2, rd), some (0, 8 - (L : Int)), some (0, tu), some (0, i)] [] E gw := by
  have hr0 := hr
  obtain ⟨hkr, e0, e1, hta, htx, hor⟩ := hr
  have hta0 := hta
  have hk9 := htx.1
  have h40 := hT.2.2.1
  have hz0 := hz
  unfold RPre at hz
  intro m
  induction m with
  | zero => intro i tu s1 b gw hi hM; exact absurd hM (Nat.not_lt_zero _)
  | succ m ih =>
    intro i tu s1 b gw hi hM
    obtain ⟨hi0, hi1, hfw, hR1, hs1, h14, htu, hip, hN⟩ := hi
    have hTw := hT.xp (t := t) (z := g t 7) hor (fr_rd hfw (by omega))
    have fl : i < 400 → (400 - i).toNat = (400 - (i + 1)).toNat + 1 := fun _ => by omega
    refine r_iload_n dX3_readPlain_4 rfl ?_
    refine r_sipush dX3_readPlain_5 ls_400 ?_
    refine r_icmp_ge (tgt := 36) dX3_readPlain_8 rfl (fun c8 => ?_) (fun c8 => ?_)
    · refine sg_X3_pl (s1 := s1) (b := b) hr0 hT hR hz0 hl hL hS hTs tu htu ?_ hs1 h14 ?_ ?_ _
      · first
        | (obtain ⟨_, rfl⟩ := hh14; exact hfw)
        | exact hfw
      · first
        | (obtain ⟨_, rfl⟩ := hh14; exact hR1)
        | exact hR1
      · rw [← hN]
        first
        | (rw [show (400 - i).toNat = 0 by omega]; rfl)
        | exact pNots_e hh14.1
    · refine r_aload_n dX3_readPlain_11 rfl ?_
      refine r_ldcs (i := 8) rfl (by decide) rfl dX3_readPlain_12 ?_
      refine r_callV1p dX3_readPlain_14 cvX3_95 (by assumption) (c_X3_takeWord hr0 hTw hR1 (by decide) (k := 7) (by decide) rfl) (by omega) (Nat.le_of_ble_eq_true rfl) od_le.rf (fun r14 g14 hh14 => ?_)
      rcases hh14 with ⟨rfl, hh14⟩ | ⟨rfl, hh14⟩
      · show od_Rq _ _ _ _ _ _ _ ((0, 1) :: _) _ _
        skip
        refine r_if_eq (tgt := 36) dX3_readPlain_17 rfl (fun h => absurd h (by decide)) (fun _ => ?_)
        refine r_iload_n dX3_readPlain_20 rfl ?_
        refine r_if_ne (tgt := 28) dX3_readPlain_21 rfl (fun c21 => ?_) (fun c21 => ?_)
        · refine r_iconst dX3_readPlain_28 li_0 ?_
          refine r_istore_n dX3_readPlain_29 (by decide) rfl ?_
          refine r_iincE dX3_readPlain_30 rfl (by decide) (by first | exact od_w0 (by omega) (by omega) | exact od_wI (by omega) (by omega) | rfl) rfl ?_
          refine r_goto (tgt := 4) dX3_readPlain_33 rfl ?_
          rw [fl (by omega), pNots_s hh14.1] at hN
          have i4 := hh14.2.2.i4 hh14.1.1 h40
          have bx : (pNx s1).1 = s1.1 + 1 := rfl
          refine ih _ _ _ (!b) _ ⟨by omega, by omega, hfw.tr hh14.2.1, hh14.2.2, ⟨by omega, fun _ => by omega⟩, i4, ?_, fun _ => by omega, hN⟩ (by omega)
          cases b with
          | true => first | rfl | (rw [if_pos rfl] at htu; omega)
          | false => first | rfl | (rw [if_neg (by decide)] at htu; omega)
        · refine r_iconst dX3_readPlain_24 li_1 ?_
          refine r_goto (tgt := 29) dX3_readPlain_25 rfl ?_
          refine r_istore_n dX3_readPlain_29 (by decide) rfl ?_
          refine r_iincE dX3_readPlain_30 rfl (by decide) (by first | exact od_w0 (by omega) (by omega) | exact od_wI (by omega) (by omega) | rfl) rfl ?_
          refine r_goto (tgt := 4) dX3_readPlain_33 rfl ?_
          rw [fl (by omega), pNots_s hh14.1] at hN
          have i4 := hh14.2.2.i4 hh14.1.1 h40
          have bx : (pNx s1).1 = s1.1 + 1 := rfl
          refine ih _ _ _ (!b) _ ⟨by omega, by omega, hfw.tr hh14.2.1, hh14.2.2, ⟨by omega, fun _ => by omega⟩, i4, ?_, fun _ => by omega, hN⟩ (by omega)
          cases b with
          | true => first | rfl | (rw [if_pos rfl] at htu; omega)
          | false => first | rfl | (rw [if_neg (by decide)] at htu; omega)
      · show od_Rq _ _ _ _ _ _ _ ((0, 0) :: _) _ _
        skip
        refine r_if_eq (tgt := 36) dX3_readPlain_17 rfl (fun _ => ?_) (fun h => absurd h (by decide))
        refine sg_X3_pl (s1 := s1) (b := b) hr0 hT hR hz0 hl hL hS hTs tu htu ?_ hs1 h14 ?_ ?_ _
        · first
          | (obtain ⟨_, rfl⟩ := hh14; exact hfw)
          | exact hfw
        · first
          | (obtain ⟨_, rfl⟩ := hh14; exact hR1)
          | exact hR1
        · rw [← hN]
          first
          | (rw [show (400 - i).toNat = 0 by omega]; rfl)
          | exact pNots_e hh14.1
set_option maxRecDepth 10000 in
theorem c_X3_readPlain {E : od_E} {g : od_G} {rd tp t : Int} (hr : ReAt E rd tp t) {B : Int → Int} {n : Int} (hT : TpOk g tp B n) {s : pS} (hR : RSt g rd B n s) (hz : RPre g t s) {lw : Bool} (hl : g rd 2 = lwI lw) {L : Nat} (hL : L ≤ 8) (hS : CSum E rd tp t B n lw L) (hTs : ∀ L1 : Nat, L = L1 + 1 → CTst E rd tp t B n lw L1) : od_Cq (11 + 3 * L) mX3_readPlain [(2, rd), (0, 8 - (L : Int))] E g (E, fun v g' => v = none ∧ RQ pBt (2 * L + 4) (wlI lw) g g' rd t B n s (pPlain (tC B n) (tpl B n) (pSumL (tC B n) (tV B n) (tpl B n) lw L) (pTub (tC B n) (tV B n) (tpl B n) lw L) s)) := by
  have hr0 := hr
  obtain ⟨hkr, e0, e1, hta, htx, hor⟩ := hr
  have hta0 := hta
  have hk9 := htx.1
  have h40 := hT.2.2.1
  have hz0 := hz
  unfold RPre at hz
  refine od_cqI pnX3 rfl (Nat.le_of_ble_eq_true rfl) od_le.rf ?_
  show od_Rq (11 + 3 * L) mX3_readPlain od_Z0 E (E, fun v g' => v = none ∧ RQ pBt (2 * L + 4) (wlI lw) g g' rd t B n s (pPlain (tC B n) (tpl B n) (pSumL (tC B n) (tV B n) (tpl B n) lw L) (pTub (tC B n) (tV B n) (tpl B n) lw L) s)) 0 [some (2, rd), some (0, 8 - (L : Int)), none, none] [] E g
  refine r_iconst dX3_readPlain_0 li_0 ?_
  refine r_istore_n dX3_readPlain_1 (by decide) rfl ?_
  refine r_iconst dX3_readPlain_2 li_0 ?_
  refine r_istore_n dX3_readPlain_3 (by decide) rfl ?_
  exact lp_X3_not hr0 hT hR hz0 hl hL hS hTs _ _ _ _ false _ ⟨by omega, by omega, od_fr.rf, hR, ⟨Int.le_refl _, fun z => absurd z (by decide)⟩, hz.2.2, rfl, fun z => by omega, rfl⟩ (Nat.lt_succ_self _)
set_option maxRecDepth 10000 in
theorem lp_X3_readBoth {E : od_E} {g : od_G} {rd tp t : Int} (hr : ReAt E rd tp t) {B : Int → Int} {n : Int} (hT : TpOk g tp B n) {s : pS} (hR : RSt g rd B n s) (hz : RPre g t s) {lw : Bool} (hl : g rd 2 = lwI lw) {L : Nat} (hL : L ≤ 8) (hI : CPln E rd tp t B n lw L) : ∀ (m : Nat) (i : Int) (r : pR) (gw : od_G) (L3 : Option od_V), (0 ≤ i ∧ i ≤ 400 ∧ RQ pBt (2 * L + 4) (wlI lw) g gw rd t B n s r ∧ TpOk gw tp B n ∧ gw rd 2 = lwI lw ∧ pAO (tC B n) 6 0 (pPlain (tC B n) (tpl B n) (pSumL (tC B n) (tV B n) (tpl B n) lw L) (pTub (tC B n) (tV B n) (tpl B n) lw L)) (400 - i).toNat r = pBoth (tC B n) (tpl B n) (pSumL (tC B n) (tV B n) (tpl B n) lw L) (pTub (tC B n) (tV B n) (tpl B n) lw L) s) → ((400 - i).toNat) < m → od_Rq (12 + 3 * L) mX3_readBoth od_Z0 E (E, fun v g' => v = none ∧ RQ pBt (2 * L + 4) (wlI lw) g g' rd t B n s (pBoth (tC B n) (tpl B n) (pSumL (tC B n) (tV B n) (tpl B n) lw L) (pTub (tC B n) (tV B n) (tpl B n) lw L) s)) 7 [some (2, rd), some (0, 8 - (L : Int)), some (0, i), L3] [] E gw := by
  have hr0 := hr
  obtain ⟨hkr, e0, e1, hta, htx, hor⟩ := hr
  have hta0 := hta
  have hk9 := htx.1
  have h40 := hT.2.2.1
  have hz0 := hz
  unfold RPre at hz
  intro m
  induction m with
  | zero => intro i r gw L3 hi hM; exact absurd hM (Nat.not_lt_zero _)
  | succ m ih =>
    intro i r gw L3 hi hM
    obtain ⟨hi0, hi1, hq, hTw, hlw, hF⟩ := hi
    have hq3 := hq.2.2.1
    have fl : i < 400 → (400 - i).toNat = (400 - (i + 1)).toNat + 1 := fun _ => by omega
    refine r_iload_n dX3_readBoth_7 rfl ?_
    refine r_sipush dX3_readBoth_8 ls_400 ?_
    refine r_icmp_ge (tgt := 52) dX3_readBoth_11 rfl (fun c11 => ?_) (fun c11 => ?_)
    · refine r_vretq dX3_readBoth_52 rfl rfl ⟨rfl, ?_⟩
      first
      | (have e : pAO (tC B n) 6 0 (pPlain (tC B n) (tpl B n) (pSumL (tC B n) (tV B n) (tpl B n) lw L) (pTub (tC B n) (tV B n) (tpl B n) lw L)) (400 - i).toNat r = r := by
           rw [show (400 - i).toNat = 0 by omega]; rfl
         rw [← hF, e]
         exact hq)
      | (obtain ⟨h17a, rfl⟩ := h17
         rw [← hF, pAO_e h17a]
         exact hq)
    · refine r_aload_n dX3_readBoth_14 rfl ?_
      refine r_ldcs (i := 9) rfl (by decide) rfl dX3_readBoth_15 ?_
      refine r_callV1p dX3_readBoth_17 cvX3_95 (by assumption) (c_X3_takeWord hr0 hTw hq.2.1 (by decide) (k := 6) (by decide) rfl) (by omega) (Nat.le_of_ble_eq_true rfl) od_le.rf (fun r17 g17 h17 => ?_)
      rcases h17 with ⟨rfl, h17⟩ | ⟨rfl, h17⟩
      · show od_Rq _ _ _ _ _ _ _ ((0, 1) :: _) _ _
        skip
        refine r_if_eq (tgt := 52) dX3_readBoth_20 rfl (fun h => absurd h (by decide)) (fun _ => ?_)
        have hb := h17.1.1
        have hT17 := hTw.xp (t := t) (z := g t 7) hor (fr_rd h17.2.1 (by omega))
        have e717 : g17 t 7 = gw t 7 := h17.2.1 t 7 (by omega)
        have hl17 : g17 rd 2 = lwI lw := (h17.2.1 rd 2 (by omega)).trans hlw
        have i17 := h17.2.2.i4 hb h40
        have bx : (pNx r.1).1 = r.1.1 + 1 := rfl
        refine r_aload_n dX3_readBoth_23 rfl ?_
        refine r_getR dX3_readBoth_24 fkX3_14 gf3_0 (by assumption) (by assumption) ?_
        refine r_iconst dX3_readBoth_27 li_5 ?_
        refine r_iconst dX3_readBoth_28 li_0 ?_
        refine r_callV2i dX3_readBoth_29 cvX3_86 (by assumption) (c_X9_put htx _ _ (by omega)) (by omega) (Nat.le_of_ble_eq_true rfl) od_le.rf ?_
        refine r_istore_n dX3_readBoth_32 (by decide) rfl ?_
        refine r_aload_n dX3_readBoth_33 rfl ?_
        refine r_iload_n dX3_readBoth_34 rfl ?_
        refine r_callV1p dX3_readBoth_35 cvX3_124 (by assumption) (hI (cTPut g17 t 5 0) (pNx r.1) (hT17.put hor) (h17.2.2.put hor.2) ⟨by rw [cTPut_7]; omega, by rw [cTPut_7, bx]; omega, i17⟩ (by rw [cTPut_rd (by omega)]; exact hl17)) (by omega) (Nat.le_of_ble_eq_true rfl) od_le.rf (fun r35 g35 h35 => ?_)
        obtain ⟨rfl, hq35⟩ := h35
        show od_Rq _ _ _ _ _ _ _ [] _ _
        have hT35 := (hT17.put hor).xp hor hq35.1
        have hl35 : g35 rd 2 = lwI lw := (hq35.1 rd 2 (fun z => by unfold XP at z; omega)).trans (by rw [cTPut_rd (by omega)]; exact hl17)
        have hsc := RQ.sc (st := 5) hor.2 hq ⟨hz.1, hz.2.1⟩ hb h17.2.1 (by omega) (by omega) hq35
        refine r_aload_n dX3_readBoth_38 rfl ?_
        refine r_getR dX3_readBoth_39 fkX3_14 gf3_0 (by assumption) (by assumption) ?_
        refine r_iload_n dX3_readBoth_42 rfl ?_
        refine r_callV1v dX3_readBoth_43 cvX3_121 (by assumption) (c_X9_land htx _) (by omega) (Nat.le_of_ble_eq_true rfl) od_le.rf ?_
        refine r_iincE dX3_readBoth_46 rfl (by decide) (by first | exact od_w0 (by omega) (by omega) | exact od_wI (by omega) (by omega) | rfl) rfl ?_
        refine r_goto (tgt := 7) dX3_readBoth_49 rfl ?_
        rw [fl (by omega), pAO_s h17.1] at hF
        have hfL := hsc.1
        refine ih _ _ _ _ ⟨by omega, by omega, hsc, hT.xp hor hfL, (hfL rd 2 (fun z => by unfold XP at z; omega)).trans hl, ?_⟩ (by omega)
        exact hF
      · show od_Rq _ _ _ _ _ _ _ ((0, 0) :: _) _ _
        skip
        refine r_if_eq (tgt := 52) dX3_readBoth_20 rfl (fun _ => ?_) (fun h => absurd h (by decide))
        refine r_vretq dX3_readBoth_52 rfl rfl ⟨rfl, ?_⟩
        first
        | (have e : pAO (tC B n) 6 0 (pPlain (tC B n) (tpl B n) (pSumL (tC B n) (tV B n) (tpl B n) lw L) (pTub (tC B n) (tV B n) (tpl B n) lw L)) (400 - i).toNat r = r := by
             rw [show (400 - i).toNat = 0 by omega]; rfl
           rw [← hF, e]
           exact hq)
        | (obtain ⟨h17a, rfl⟩ := h17
           rw [← hF, pAO_e h17a]
           exact hq)
set_option maxRecDepth 10000 in
theorem c_X3_readBoth {E : od_E} {g : od_G} {rd tp t : Int} (hr : ReAt E rd tp t) {B : Int → Int} {n : Int} (hT : TpOk g tp B n) {s : pS} (hR : RSt g rd B n s) (hz : RPre g t s) {lw : Bool} (hl : g rd 2 = lwI lw) {L : Nat} (hL : L ≤ 8) (hI : CPln E rd tp t B n lw L) : od_Cq (12 + 3 * L) mX3_readBoth [(2, rd), (0, 8 - (L : Int))] E g (E, fun v g' => v = none ∧ RQ pBt (2 * L + 4) (wlI lw) g g' rd t B n s (pBoth (tC B n) (tpl B n) (pSumL (tC B n) (tV B n) (tpl B n) lw L) (pTub (tC B n) (tV B n) (tpl B n) lw L) s)) := by
  have hr0 := hr
  obtain ⟨hkr, e0, e1, hta, htx, hor⟩ := hr
  have hta0 := hta
  have hk9 := htx.1
  have h40 := hT.2.2.1
  have hz0 := hz
  unfold RPre at hz
  refine od_cqI pnX3 rfl (Nat.le_of_ble_eq_true rfl) od_le.rf ?_
  show od_Rq (12 + 3 * L) mX3_readBoth od_Z0 E (E, fun v g' => v = none ∧ RQ pBt (2 * L + 4) (wlI lw) g g' rd t B n s (pBoth (tC B n) (tpl B n) (pSumL (tC B n) (tV B n) (tpl B n) lw L) (pTub (tC B n) (tV B n) (tpl B n) lw L) s)) 0 [some (2, rd), some (0, 8 - (L : Int)), none, none] [] E g
  refine r_aload_n dX3_readBoth_0 rfl ?_
  refine r_iload_n dX3_readBoth_1 rfl ?_
  refine r_callV1p dX3_readBoth_2 cvX3_124 (by assumption) (hI g s hT hR hz0 hl) (by omega) (Nat.le_of_ble_eq_true rfl) od_le.rf (fun r2 g2 h2 => ?_)
  obtain ⟨rfl, hq2⟩ := h2
  show od_Rq _ _ _ _ _ _ _ [] _ _
  have hT2 := hT.xp hor hq2.1
  have hl2 : g2 rd 2 = lwI lw := (hq2.1 rd 2 (fun z => by unfold XP at z; omega)).trans hl
  refine r_iconst dX3_readBoth_5 li_0 ?_
  refine r_istore_n dX3_readBoth_6 (by decide) rfl ?_
  exact lp_X3_readBoth hr0 hT hR hz0 hl hL hI _ _ _ _ _ ⟨by omega, by omega, hq2, hT2, hl2, rfl⟩ (Nat.lt_succ_self _)
set_option maxRecDepth 10000 in
theorem lp_X3_readTest {E : od_E} {g : od_G} {rd tp t : Int} (hr : ReAt E rd tp t) {B : Int → Int} {n : Int} (hT : TpOk g tp B n) {s : pS} (hR : RSt g rd B n s) (hz : RPre g t s) {lw : Bool} (hl : g rd 2 = lwI lw) {L : Nat} (hL : L ≤ 8) (hI : CBth E rd tp t B n lw L) : ∀ (m : Nat) (i : Int) (r : pR) (gw : od_G) (L3 : Option od_V), (0 ≤ i ∧ i ≤ 400 ∧ RQ pBt (2 * L + 4) (wlI lw) g gw rd t B n s r ∧ TpOk gw tp B n ∧ gw rd 2 = lwI lw ∧ pAO (tC B n) 5 1 (pBoth (tC B n) (tpl B n) (pSumL (tC B n) (tV B n) (tpl B n) lw L) (pTub (tC B n) (tV B n) (tpl B n) lw L)) (400 - i).toNat r = pTest (tC B n) (tpl B n) (pSumL (tC B n) (tV B n) (tpl B n) lw L) (pTub (tC B n) (tV B n) (tpl B n) lw L) s) → ((400 - i).toNat) < m → od_Rq (13 + 3 * L) mX3_readTest od_Z0 E (E, fun v g' => v = none ∧ RQ pBt (2 * L + 4) (wlI lw) g g' rd t B n s (pTest (tC B n) (tpl B n) (pSumL (tC B n) (tV B n) (tpl B n) lw L) (pTub (tC B n) (tV B n) (tpl B n) lw L) s)) 7 [some (2, rd), some (0, 8 - (L : Int)), some (0, i), L3] [] E gw := by
  have hr0 := hr
  obtain ⟨hkr, e0, e1, hta, htx, hor⟩ := hr
  have hta0 := hta
  have hk9 := htx.1
  have h40 := hT.2.2.1
  have hz0 := hz
  unfold RPre at hz
  intro m
  induction m with
  | zero => intro i r gw L3 hi hM; exact absurd hM (Nat.not_lt_zero _)
  | succ m ih =>
    intro i r gw L3 hi hM
    obtain ⟨hi0, hi1, hq, hTw, hlw, hF⟩ := hi
    have hq3 := hq.2.2.1
    have fl : i < 400 → (400 - i).toNat = (400 - (i + 1)).toNat + 1 := fun _ => by omega
    refine r_iload_n dX3_readTest_7 rfl ?_
    refine r_sipush dX3_readTest_8 ls_400 ?_
    refine r_icmp_ge (tgt := 52) dX3_readTest_11 rfl (fun c11 => ?_) (fun c11 => ?_)
    · refine r_vretq dX3_readTest_52 rfl rfl ⟨rfl, ?_⟩
      first
      | (have e : pAO (tC B n) 5 1 (pBoth (tC B n) (tpl B n) (pSumL (tC B n) (tV B n) (tpl B n) lw L) (pTub (tC B n) (tV B n) (tpl B n) lw L)) (400 - i).toNat r = r := by
           rw [show (400 - i).toNat = 0 by omega]; rfl
         rw [← hF, e]
         exact hq)
      | (obtain ⟨h17a, rfl⟩ := h17
         rw [← hF, pAO_e h17a]
         exact hq)
    · refine r_aload_n dX3_readTest_14 rfl ?_
      refine r_ldcs (i := 10) rfl (by decide) rfl dX3_readTest_15 ?_
      refine r_callV1p dX3_readTest_17 cvX3_95 (by assumption) (c_X3_takeWord hr0 hTw hq.2.1 (by decide) (k := 5) (by decide) rfl) (by omega) (Nat.le_of_ble_eq_true rfl) od_le.rf (fun r17 g17 h17 => ?_)
      rcases h17 with ⟨rfl, h17⟩ | ⟨rfl, h17⟩
      · show od_Rq _ _ _ _ _ _ _ ((0, 1) :: _) _ _
        skip
        refine r_if_eq (tgt := 52) dX3_readTest_20 rfl (fun h => absurd h (by decide)) (fun _ => ?_)
        have hb := h17.1.1
        have hT17 := hTw.xp (t := t) (z := g t 7) hor (fr_rd h17.2.1 (by omega))
        have e717 : g17 t 7 = gw t 7 := h17.2.1 t 7 (by omega)
        have hl17 : g17 rd 2 = lwI lw := (h17.2.1 rd 2 (by omega)).trans hlw
        have i17 := h17.2.2.i4 hb h40
        have bx : (pNx r.1).1 = r.1.1 + 1 := rfl
        refine r_aload_n dX3_readTest_23 rfl ?_
        refine r_getR dX3_readTest_24 fkX3_14 gf3_0 (by assumption) (by assumption) ?_
        refine r_iconst dX3_readTest_27 li_4 ?_
        refine r_iconst dX3_readTest_28 li_0 ?_
        refine r_callV2i dX3_readTest_29 cvX3_86 (by assumption) (c_X9_put htx _ _ (by omega)) (by omega) (Nat.le_of_ble_eq_true rfl) od_le.rf ?_
        refine r_istore_n dX3_readTest_32 (by decide) rfl ?_
        refine r_aload_n dX3_readTest_33 rfl ?_
        refine r_iload_n dX3_readTest_34 rfl ?_
        refine r_callV1p dX3_readTest_35 cvX3_116 (by assumption) (hI (cTPut g17 t 4 0) (pNx r.1) (hT17.put hor) (h17.2.2.put hor.2) ⟨by rw [cTPut_7]; omega, by rw [cTPut_7, bx]; omega, i17⟩ (by rw [cTPut_rd (by omega)]; exact hl17)) (by omega) (Nat.le_of_ble_eq_true rfl) od_le.rf (fun r35 g35 h35 => ?_)
        obtain ⟨rfl, hq35⟩ := h35
        show od_Rq _ _ _ _ _ _ _ [] _ _
        have hT35 := (hT17.put hor).xp hor hq35.1
        have hl35 : g35 rd 2 = lwI lw := (hq35.1 rd 2 (fun z => by unfold XP at z; omega)).trans (by rw [cTPut_rd (by omega)]; exact hl17)
        have hsc := RQ.sc (st := 4) hor.2 hq ⟨hz.1, hz.2.1⟩ hb h17.2.1 (by omega) (by omega) hq35
        refine r_aload_n dX3_readTest_38 rfl ?_
        refine r_getR dX3_readTest_39 fkX3_14 gf3_0 (by assumption) (by assumption) ?_
        refine r_iload_n dX3_readTest_42 rfl ?_
        refine r_callV1v dX3_readTest_43 cvX3_121 (by assumption) (c_X9_land htx _) (by omega) (Nat.le_of_ble_eq_true rfl) od_le.rf ?_
        refine r_iincE dX3_readTest_46 rfl (by decide) (by first | exact od_w0 (by omega) (by omega) | exact od_wI (by omega) (by omega) | rfl) rfl ?_
        refine r_goto (tgt := 7) dX3_readTest_49 rfl ?_
        rw [fl (by omega), pAO_s h17.1] at hF
        have hfL := hsc.1
        refine ih _ _ _ _ ⟨by omega, by omega, hsc, hT.xp hor hfL, (hfL rd 2 (fun z => by unfold XP at z; omega)).trans hl, ?_⟩ (by omega)
        exact hF
      · show od_Rq _ _ _ _ _ _ _ ((0, 0) :: _) _ _
        skip
        refine r_if_eq (tgt := 52) dX3_readTest_20 rfl (fun _ => ?_) (fun h => absurd h (by decide))
        refine r_vretq dX3_readTest_52 rfl rfl ⟨rfl, ?_⟩
        first
        | (have e : pAO (tC B n) 5 1 (pBoth (tC B n) (tpl B n) (pSumL (tC B n) (tV B n) (tpl B n) lw L) (pTub (tC B n) (tV B n) (tpl B n) lw L)) (400 - i).toNat r = r := by
             rw [show (400 - i).toNat = 0 by omega]; rfl
           rw [← hF, e]
           exact hq)
        | (obtain ⟨h17a, rfl⟩ := h17
           rw [← hF, pAO_e h17a]
           exact hq)
set_option maxRecDepth 10000 in
theorem c_X3_readTest {E : od_E} {g : od_G} {rd tp t : Int} (hr : ReAt E rd tp t) {B : Int → Int} {n : Int} (hT : TpOk g tp B n) {s : pS} (hR : RSt g rd B n s) (hz : RPre g t s) {lw : Bool} (hl : g rd 2 = lwI lw) {L : Nat} (hL : L ≤ 8) (hI : CBth E rd tp t B n lw L) : od_Cq (13 + 3 * L) mX3_readTest [(2, rd), (0, 8 - (L : Int))] E g (E, fun v g' => v = none ∧ RQ pBt (2 * L + 4) (wlI lw) g g' rd t B n s (pTest (tC B n) (tpl B n) (pSumL (tC B n) (tV B n) (tpl B n) lw L) (pTub (tC B n) (tV B n) (tpl B n) lw L) s)) := by
  have hr0 := hr
  obtain ⟨hkr, e0, e1, hta, htx, hor⟩ := hr
  have hta0 := hta
  have hk9 := htx.1
  have h40 := hT.2.2.1
  have hz0 := hz
  unfold RPre at hz
  refine od_cqI pnX3 rfl (Nat.le_of_ble_eq_true rfl) od_le.rf ?_
  show od_Rq (13 + 3 * L) mX3_readTest od_Z0 E (E, fun v g' => v = none ∧ RQ pBt (2 * L + 4) (wlI lw) g g' rd t B n s (pTest (tC B n) (tpl B n) (pSumL (tC B n) (tV B n) (tpl B n) lw L) (pTub (tC B n) (tV B n) (tpl B n) lw L) s)) 0 [some (2, rd), some (0, 8 - (L : Int)), none, none] [] E g
  refine r_aload_n dX3_readTest_0 rfl ?_
  refine r_iload_n dX3_readTest_1 rfl ?_
  refine r_callV1p dX3_readTest_2 cvX3_116 (by assumption) (hI g s hT hR hz0 hl) (by omega) (Nat.le_of_ble_eq_true rfl) od_le.rf (fun r2 g2 h2 => ?_)
  obtain ⟨rfl, hq2⟩ := h2
  show od_Rq _ _ _ _ _ _ _ [] _ _
  have hT2 := hT.xp hor hq2.1
  have hl2 : g2 rd 2 = lwI lw := (hq2.1 rd 2 (fun z => by unfold XP at z; omega)).trans hl
  refine r_iconst dX3_readTest_5 li_0 ?_
  refine r_istore_n dX3_readTest_6 (by decide) rfl ?_
  exact lp_X3_readTest hr0 hT hR hz0 hl hL hI _ _ _ _ _ ⟨by omega, by omega, hq2, hT2, hl2, rfl⟩ (Nat.lt_succ_self _)
theorem cTestL {E : od_E} {rd tp t : Int} (hr : ReAt E rd tp t) (B : Int → Int) (n : Int) (lw : Bool) : ∀ L : Nat, L ≤ 8 → CTst E rd tp t B n lw L := by
  intro L
  induction L with
  | zero =>
    intro hL g s hT hR hz hl
    rw [show pTestL (tC B n) (tV B n) (tpl B n) lw 0 s = pTest (tC B n) (tpl B n) (pSumL (tC B n) (tV B n) (tpl B n) lw 0) (pTub (tC B n) (tV B n) (tpl B n) lw 0) s from pTestL_eq _ _ _ _ _ _]
    exact c_X3_readTest hr hT hR hz hl hL (fun g s hT hR hz hl => c_X3_readBoth hr hT hR hz hl hL (fun g s hT hR hz hl => c_X3_readPlain hr hT hR hz hl hL (cSumL hr B n lw 0 hL) (fun L1 e => absurd e (by omega))))
  | succ L ih =>
    intro hL g s hT hR hz hl
    rw [pTestL_eq]
    exact c_X3_readTest hr hT hR hz hl hL (fun g s hT hR hz hl => c_X3_readBoth hr hT hR hz hl hL (fun g s hT hR hz hl => c_X3_readPlain hr hT hR hz hl hL (cSumL hr B n lw (L + 1) hL) (fun L1 e => by
      have e2 : L1 = L := by omega
      subst e2
      exact ih (by omega))))
