theorem RQ.mo {Bd : Int → Prop} {m m' wl : Int} {g g' : od_G} {rd t : Int} {B : Int → Int} {n : Int} {s : pS} {r : pR} (h : RQ Bd m wl g g' rd t B n s r) (hm : m ≤ m') : RQ Bd m' wl g g' rd t B n s r := ⟨h.1, h.2.1, h.2.2.1, fun z => (h.2.2.2 z).mo hm⟩
theorem RQ.bin {Bd Bd1 Bd2 : Int → Prop} {m m1 m2 wl : Int} {g gw g1 g2 : od_G} {rd t : Int} {B : Int → Int} {n : Int} {s : pS} {r q : pR} {o : Int} (hrt : rd + 1 ≤ t) (h1 : RQ Bd1 m1 wl g gw rd t B n s r) (hb : r.1.2.2 = -1) (f : od_fr (fun x y => x = rd ∧ 3 ≤ y ∧ y ≤ 6) gw g1) (h2 : RQ Bd2 m2 wl g1 g2 rd t B n (pNx r.1) q) (hm1 : m1 ≤ m) (hm2 : m2 + 1 ≤ m) (ho : 6 ≤ o ∧ o ≤ 13) (hB : ∀ x y : Int, ¬ (1000000000 < cJoin o x y ∨ cJoin o x y < -1000000000) → Bd (cJoin o x y)) : RQ Bd m wl g (cTPut g2 t o 0) rd t B n s (q.1, pBin o r.2 q.2) := by
  obtain ⟨a1, a2, a3, a4⟩ := h1
  obtain ⟨b1, b2, b3, b4⟩ := h2
  have e7 : g1 t 7 = gw t 7 := f t 7 (by omega)
  have e6 : g1 (t + 6) = gw (t + 6) := f.row (fun y z => by omega)
  have bx : (pNx r.1).1 = r.1.1 + 1 := rfl
  rw [e7] at b1 b3 b4
  refine ⟨((a1.tr (fr_rd f (by omega))).tr (b1.mo (XP.mo (by omega)))).tr (cTPut_fr (by omega)), b2.put hrt, ⟨?_, ?_, ?_, b3.2.2.2⟩, fun z => ?_⟩
  · rw [cTPut_7]; omega
  · rw [cTPut_7]; show g2 t 7 + 1 - g t 7 ≤ q.1.1 - s.1; omega
  · show s.1 ≤ q.1.1; omega
  · rw [cTPut_7]
    have r1 : RT Bd1 m1 wl (cTPut g2 t o 0 (t + 6)) (g t 7) (gw t 7) r.2 := (a4 hb).row (fun j j0 j1 => by
      rw [cTPut_r, if_neg (by omega), b1 (t + 6) j (fun y => by unfold XP at y; omega), e6])
    have r2 : RT Bd2 m2 wl (cTPut g2 t o 0 (t + 6)) (gw t 7) (g2 t 7) q.2 := (b4 z).row (fun j j0 j1 => by
      rw [cTPut_r, if_neg (by omega)])
    exact RT_bin r1 r2 hm1 hm2 ho (by rw [cTPut_r, if_pos rfl]) hB
theorem pOt_b {k : Int} (h : pOt k ≠ -1) : (6 ≤ pOt k ∧ pOt k ≤ 10) ∧ k ≠ 0 := by
  unfold pOt at h ⊢
  repeat' split
  all_goals simp_all
theorem pOs_b {k : Int} (h : pOs k ≠ -1) : (6 ≤ pOs k ∧ pOs k ≤ 10) ∧ k ≠ 0 := by
  unfold pOs at h ⊢
  repeat' split
  all_goals simp_all
theorem pLoop_s {c op : Int → Int} {P : pS → pR} {f : Nat} {r : pR} (h : r.1.2.2 = -1 ∧ op (c r.1.1) ≠ -1) : pLoop c op P (f + 1) r = pLoop c op P f ((P (pNx r.1)).1, pBin (op (c r.1.1)) r.2 (P (pNx r.1)).2) := if_pos h
theorem pLoop_e {c op : Int → Int} {P : pS → pR} {f : Nat} {r : pR} (h : ¬ (r.1.2.2 = -1 ∧ op (c r.1.1) ≠ -1)) : pLoop c op P f r = r := by
  cases f with
  | zero => rfl
  | succ f => exact if_neg h
set_option maxRecDepth 10000 in
theorem lp_X3_readTerm {E : od_E} {g : od_G} {rd tp t : Int} (hr : ReAt E rd tp t) {B : Int → Int} {n : Int} (hT : TpOk g tp B n) {s : pS} (hR : RSt g rd B n s) (hz : RPre g t s) {lw : Bool} (hl : g rd 2 = lwI lw) {L : Nat} (hL : L ≤ 8) (hI : CPrt E rd tp t B n lw L) : ∀ (m : Nat) (i st : Int) (r : pR) (gw : od_G), (0 ≤ i ∧ i ≤ 400 ∧ RQ pBs (2 * L + 2) (wlI lw) g gw rd t B n s r ∧ st = (if r.1.2.2 = -1 then pOt (tC B n r.1.1) else -1) ∧ TpOk gw tp B n ∧ gw rd 2 = lwI lw ∧ pLoop (tC B n) pOt (pPart (tC B n) (tV B n) (tpl B n) lw (pSub (tC B n) (tV B n) (tpl B n) lw L)) (400 - i).toNat r = pTerm (tC B n) (tV B n) (tpl B n) lw (pSub (tC B n) (tV B n) (tpl B n) lw L) s) → ((400 - i).toNat) < m → od_Rq (9 + 3 * L) mX3_readTerm od_Z0 E (E, fun v g' => v = none ∧ RQ pBs (2 * L + 2) (wlI lw) g g' rd t B n s (pTerm (tC B n) (tV B n) (tpl B n) lw (pSub (tC B n) (tV B n) (tpl B n) lw L) s)) 24 [some (2, rd), some (0, 8 - (L : Int)), some (0, st), some (0, i)] [] E gw := by
  have hr0 := hr
  obtain ⟨hkr, e0, e1, hta, htx, hor⟩ := hr
  have hta0 := hta
  have hk9 := htx.1
  have h40 := hT.2.2.1
  have hz0 := hz
  unfold RPre at hz
  intro m
  induction m with
  | zero => intro i st r gw hi hM; exact absurd hM (Nat.not_lt_zero _)
  | succ m ih =>
    intro i st r gw hi hM
    obtain ⟨hi0, hi1, hq, hst, hTw, hlw, hF⟩ := hi
    have hq3 := hq.2.2.1
    refine r_iload_n dX3_readTerm_24 rfl ?_
    refine r_sipush dX3_readTerm_25 ls_400 ?_
    refine r_icmp_ge (tgt := 78) dX3_readTerm_28 rfl (fun c28 => ?_) (fun c28 => ?_)
    · refine r_vretq dX3_readTerm_78 rfl rfl ⟨rfl, ?_⟩
      have e : pLoop (tC B n) pOt (pPart (tC B n) (tV B n) (tpl B n) lw (pSub (tC B n) (tV B n) (tpl B n) lw L)) (400 - i).toNat r = r := by
        first
        | (rw [show (400 - i).toNat = 0 by omega]; rfl)
        | (refine pLoop_e (fun z => ?_)
           rw [if_pos z.1] at hst
           exact z.2 (by omega))
      rw [← hF, e]
      exact hq
    · refine r_iload_n dX3_readTerm_31 rfl ?_
      refine r_iconst dX3_readTerm_32 li_m1 ?_
      refine r_icmp_eq (tgt := 78) dX3_readTerm_33 rfl (fun c33 => ?_) (fun c33 => ?_)
      · refine r_vretq dX3_readTerm_78 rfl rfl ⟨rfl, ?_⟩
        have e : pLoop (tC B n) pOt (pPart (tC B n) (tV B n) (tpl B n) lw (pSub (tC B n) (tV B n) (tpl B n) lw L)) (400 - i).toNat r = r := by
          first
          | (rw [show (400 - i).toNat = 0 by omega]; rfl)
          | (refine pLoop_e (fun z => ?_)
             rw [if_pos z.1] at hst
             exact z.2 (by omega))
        rw [← hF, e]
        exact hq
      · have hk : r.1.2.2 = -1 ∧ pOt (tC B n r.1.1) ≠ -1 := by
          by_cases h : r.1.2.2 = -1
          · rw [if_pos h] at hst; exact ⟨h, by omega⟩
          · rw [if_neg h] at hst; omega
        have hst2 : st = pOt (tC B n r.1.1) := by rw [if_pos hk.1] at hst; exact hst
        have hkb := pOt_b hk.2
        have hb := hk.1
        have hR1 := hq.2.1
        refine r_aload_n dX3_readTerm_36 rfl ?_
        refine r_callV0p dX3_readTerm_37 cvX3_50 (by assumption) (c_X3_goOn hr0 hTw.1 hTw.2.1 hTw.2.2.1.2 hTw.2.2.2 (hR1.g5 hTw.2.2.1.1 hb)) (by omega) (Nat.le_of_ble_eq_true rfl) od_le.rf (fun r37 g37 h37 => ?_)
        obtain ⟨rfl, f37, w437, w537, w637, w337⟩ := h37
        show od_Rq _ _ _ _ _ _ _ [] _ _
        have S37 := RSt.go hR1 hb hkb.2 f37 w437 w537 w637 w337
        have hT37 := hTw.xp (t := t) (z := g t 7) hor (fr_rd f37 (by omega))
        have e737 : g37 t 7 = gw t 7 := f37 t 7 (by omega)
        have hl37 : g37 rd 2 = lwI lw := (f37 rd 2 (by omega)).trans hlw
        have i37 := S37.i4 hb h40
        have bx : (pNx r.1).1 = r.1.1 + 1 := rfl
        refine r_aload_n dX3_readTerm_40 rfl ?_
        refine r_iload_n dX3_readTerm_41 rfl ?_
        refine r_callV1p dX3_readTerm_42 cvX3_141 (by assumption) (hI g37 (pNx r.1) hT37 S37 ⟨by omega, by rw [bx]; omega, i37⟩ hl37) (by omega) (Nat.le_of_ble_eq_true rfl) od_le.rf (fun r42 g42 h42 => ?_)
        obtain ⟨rfl, hq42⟩ := h42
        show od_Rq _ _ _ _ _ _ _ [] _ _
        have hT42 := hT37.xp hor hq42.1
        have b42 := hq42.2.2.1
        have hl42 : g42 rd 2 = lwI lw := (hq42.1 rd 2 (fun z => by unfold XP at z; omega)).trans hl37
        refine r_aload_n dX3_readTerm_45 rfl ?_
        refine r_getR dX3_readTerm_46 fkX3_14 gf3_0 (by assumption) (by assumption) ?_
        refine r_iload_n dX3_readTerm_49 rfl ?_
        refine r_iconst dX3_readTerm_50 li_0 ?_
        refine r_callV2i dX3_readTerm_51 cvX3_86 (by assumption) (c_X9_put htx _ _ (by omega)) (by omega) (Nat.le_of_ble_eq_true rfl) od_le.rf ?_
        refine r_pop dX3_readTerm_54 (by first | exact od_ne2 | exact od_ne0) ?_
        refine r_aload_n dX3_readTerm_55 rfl ?_
        refine r_bipush dX3_readTerm_56 lb_42 ?_
        refine r_bipush dX3_readTerm_58 lb_8 ?_
        refine r_bipush dX3_readTerm_60 lb_47 ?_
        refine r_bipush dX3_readTerm_62 lb_9 ?_
        refine r_bipush dX3_readTerm_64 lb_37 ?_
        refine r_bipush dX3_readTerm_66 lb_10 ?_
        refine r_callV6i dX3_readTerm_68 cvX3_134 (by assumption) (c_X3_stepOf hr0 (hT42.put hor) (hq42.2.1.put hor.2) _ _ _ _ _ _ (by omega) (by omega) (by omega)) (by omega) (Nat.le_of_ble_eq_true rfl) od_le.rf ?_
        rw [tSt_t]
        refine r_istore_n dX3_readTerm_71 (by decide) rfl ?_
        refine r_iincE dX3_readTerm_72 rfl (by decide) (by first | exact od_w0 (by omega) (by omega) | exact od_wI (by omega) (by omega) | rfl) rfl ?_
        refine r_goto (tgt := 24) dX3_readTerm_75 rfl ?_
        have fl : (400 - i).toNat = (400 - (i + 1)).toNat + 1 := by omega
        rw [fl, pLoop_s hk, ← hst2] at hF
        exact ih _ _ _ _ ⟨by omega, by omega, RQ.bin hor.2 hq hb f37 hq42 (by omega) (by omega) (by omega) (fun x y z => by unfold pBs; omega), rfl, hT42.put hor, by rw [cTPut_rd (by omega)]; exact hl42, hF⟩ (by omega)
set_option maxRecDepth 10000 in
theorem c_X3_readTerm {E : od_E} {g : od_G} {rd tp t : Int} (hr : ReAt E rd tp t) {B : Int → Int} {n : Int} (hT : TpOk g tp B n) {s : pS} (hR : RSt g rd B n s) (hz : RPre g t s) {lw : Bool} (hl : g rd 2 = lwI lw) {L : Nat} (hL : L ≤ 8) (hI : CPrt E rd tp t B n lw L) : od_Cq (9 + 3 * L) mX3_readTerm [(2, rd), (0, 8 - (L : Int))] E g (E, fun v g' => v = none ∧ RQ pBs (2 * L + 2) (wlI lw) g g' rd t B n s (pTerm (tC B n) (tV B n) (tpl B n) lw (pSub (tC B n) (tV B n) (tpl B n) lw L) s)) := by
  have hr0 := hr
  obtain ⟨hkr, e0, e1, hta, htx, hor⟩ := hr
  have hta0 := hta
  have hk9 := htx.1
  have h40 := hT.2.2.1
  have hz0 := hz
  unfold RPre at hz
  refine od_cqI pnX3 rfl (Nat.le_of_ble_eq_true rfl) od_le.rf ?_
  show od_Rq (9 + 3 * L) mX3_readTerm od_Z0 E (E, fun v g' => v = none ∧ RQ pBs (2 * L + 2) (wlI lw) g g' rd t B n s (pTerm (tC B n) (tV B n) (tpl B n) lw (pSub (tC B n) (tV B n) (tpl B n) lw L) s)) 0 [some (2, rd), some (0, 8 - (L : Int)), none, none] [] E g
  refine r_aload_n dX3_readTerm_0 rfl ?_
  refine r_iload_n dX3_readTerm_1 rfl ?_
  refine r_callV1p dX3_readTerm_2 cvX3_141 (by assumption) (hI g s hT hR hz0 hl) (by omega) (Nat.le_of_ble_eq_true rfl) od_le.rf (fun r2 g2 h2 => ?_)
  obtain ⟨rfl, hq2⟩ := h2
  show od_Rq _ _ _ _ _ _ _ [] _ _
  have hT2 := hT.xp hor hq2.1
  have hl2 : g2 rd 2 = lwI lw := (hq2.1 rd 2 (fun z => by unfold XP at z; omega)).trans hl
  refine r_aload_n dX3_readTerm_5 rfl ?_
  refine r_bipush dX3_readTerm_6 lb_42 ?_
  refine r_bipush dX3_readTerm_8 lb_8 ?_
  refine r_bipush dX3_readTerm_10 lb_47 ?_
  refine r_bipush dX3_readTerm_12 lb_9 ?_
  refine r_bipush dX3_readTerm_14 lb_37 ?_
  refine r_bipush dX3_readTerm_16 lb_10 ?_
  refine r_callV6i dX3_readTerm_18 cvX3_134 (by assumption) (c_X3_stepOf hr0 hT2 hq2.2.1 _ _ _ _ _ _ (by omega) (by omega) (by omega)) (by omega) (Nat.le_of_ble_eq_true rfl) od_le.rf ?_
  rw [tSt_t]
  refine r_istore_n dX3_readTerm_21 (by decide) rfl ?_
  refine r_iconst dX3_readTerm_22 li_0 ?_
  refine r_istore_n dX3_readTerm_23 (by decide) rfl ?_
  exact lp_X3_readTerm hr0 hT hR hz0 hl hL hI _ _ _ _ _ ⟨by omega, by omega, hq2.mo (by omega), rfl, hT2, hl2, rfl⟩ (Nat.lt_succ_self _)
set_option maxRecDepth 10000 in
theorem lp_X3_readSum {E : od_E} {g : od_G} {rd tp t : Int} (hr : ReAt E rd tp t) {B : Int → Int} {n : Int} (hT : TpOk g tp B n) {s : pS} (hR : RSt g rd B n s) (hz : RPre g t s) {lw : Bool} (hl : g rd 2 = lwI lw) {L : Nat} (hL : L ≤ 8) (hI : CTrm E rd tp t B n lw L) : ∀ (m : Nat) (i st : Int) (r : pR) (gw : od_G), (0 ≤ i ∧ i ≤ 400 ∧ RQ pBs (2 * L + 3) (wlI lw) g gw rd t B n s r ∧ st = (if r.1.2.2 = -1 then pOs (tC B n r.1.1) else -1) ∧ TpOk gw tp B n ∧ gw rd 2 = lwI lw ∧ pLoop (tC B n) pOs (pTerm (tC B n) (tV B n) (tpl B n) lw (pSub (tC B n) (tV B n) (tpl B n) lw L)) (400 - i).toNat r = pSum (tC B n) (tV B n) (tpl B n) lw (pSub (tC B n) (tV B n) (tpl B n) lw L) s) → ((400 - i).toNat) < m → od_Rq (10 + 3 * L) mX3_readSum od_Z0 E (E, fun v g' => v = none ∧ RQ pBs (2 * L + 3) (wlI lw) g g' rd t B n s (pSum (tC B n) (tV B n) (tpl B n) lw (pSub (tC B n) (tV B n) (tpl B n) lw L) s)) 24 [some (2, rd), some (0, 8 - (L : Int)), some (0, st), some (0, i)] [] E gw := by
  have hr0 := hr
  obtain ⟨hkr, e0, e1, hta, htx, hor⟩ := hr
  have hta0 := hta
  have hk9 := htx.1
  have h40 := hT.2.2.1
  have hz0 := hz
  unfold RPre at hz
  intro m
  induction m with
  | zero => intro i st r gw hi hM; exact absurd hM (Nat.not_lt_zero _)
  | succ m ih =>
    intro i st r gw hi hM
    obtain ⟨hi0, hi1, hq, hst, hTw, hlw, hF⟩ := hi
    have hq3 := hq.2.2.1
    refine r_iload_n dX3_readSum_24 rfl ?_
    refine r_sipush dX3_readSum_25 ls_400 ?_
    refine r_icmp_ge (tgt := 78) dX3_readSum_28 rfl (fun c28 => ?_) (fun c28 => ?_)
    · refine r_vretq dX3_readSum_78 rfl rfl ⟨rfl, ?_⟩
      have e : pLoop (tC B n) pOs (pTerm (tC B n) (tV B n) (tpl B n) lw (pSub (tC B n) (tV B n) (tpl B n) lw L)) (400 - i).toNat r = r := by
        first
        | (rw [show (400 - i).toNat = 0 by omega]; rfl)
        | (refine pLoop_e (fun z => ?_)
           rw [if_pos z.1] at hst
           exact z.2 (by omega))
      rw [← hF, e]
      exact hq
    · refine r_iload_n dX3_readSum_31 rfl ?_
      refine r_iconst dX3_readSum_32 li_m1 ?_
      refine r_icmp_eq (tgt := 78) dX3_readSum_33 rfl (fun c33 => ?_) (fun c33 => ?_)
      · refine r_vretq dX3_readSum_78 rfl rfl ⟨rfl, ?_⟩
        have e : pLoop (tC B n) pOs (pTerm (tC B n) (tV B n) (tpl B n) lw (pSub (tC B n) (tV B n) (tpl B n) lw L)) (400 - i).toNat r = r := by
          first
          | (rw [show (400 - i).toNat = 0 by omega]; rfl)
          | (refine pLoop_e (fun z => ?_)
             rw [if_pos z.1] at hst
             exact z.2 (by omega))
        rw [← hF, e]
        exact hq
      · have hk : r.1.2.2 = -1 ∧ pOs (tC B n r.1.1) ≠ -1 := by
          by_cases h : r.1.2.2 = -1
          · rw [if_pos h] at hst; exact ⟨h, by omega⟩
          · rw [if_neg h] at hst; omega
        have hst2 : st = pOs (tC B n r.1.1) := by rw [if_pos hk.1] at hst; exact hst
        have hkb := pOs_b hk.2
        have hb := hk.1
        have hR1 := hq.2.1
        refine r_aload_n dX3_readSum_36 rfl ?_
        refine r_callV0p dX3_readSum_37 cvX3_50 (by assumption) (c_X3_goOn hr0 hTw.1 hTw.2.1 hTw.2.2.1.2 hTw.2.2.2 (hR1.g5 hTw.2.2.1.1 hb)) (by omega) (Nat.le_of_ble_eq_true rfl) od_le.rf (fun r37 g37 h37 => ?_)
        obtain ⟨rfl, f37, w437, w537, w637, w337⟩ := h37
        show od_Rq _ _ _ _ _ _ _ [] _ _
        have S37 := RSt.go hR1 hb hkb.2 f37 w437 w537 w637 w337
        have hT37 := hTw.xp (t := t) (z := g t 7) hor (fr_rd f37 (by omega))
        have e737 : g37 t 7 = gw t 7 := f37 t 7 (by omega)
        have hl37 : g37 rd 2 = lwI lw := (f37 rd 2 (by omega)).trans hlw
        have i37 := S37.i4 hb h40
        have bx : (pNx r.1).1 = r.1.1 + 1 := rfl
        refine r_aload_n dX3_readSum_40 rfl ?_
        refine r_iload_n dX3_readSum_41 rfl ?_
        refine r_callV1p dX3_readSum_42 cvX3_138 (by assumption) (hI g37 (pNx r.1) hT37 S37 ⟨by omega, by rw [bx]; omega, i37⟩ hl37) (by omega) (Nat.le_of_ble_eq_true rfl) od_le.rf (fun r42 g42 h42 => ?_)
        obtain ⟨rfl, hq42⟩ := h42
        show od_Rq _ _ _ _ _ _ _ [] _ _
        have hT42 := hT37.xp hor hq42.1
        have b42 := hq42.2.2.1
        have hl42 : g42 rd 2 = lwI lw := (hq42.1 rd 2 (fun z => by unfold XP at z; omega)).trans hl37
        refine r_aload_n dX3_readSum_45 rfl ?_
        refine r_getR dX3_readSum_46 fkX3_14 gf3_0 (by assumption) (by assumption) ?_
        refine r_iload_n dX3_readSum_49 rfl ?_
        refine r_iconst dX3_readSum_50 li_0 ?_
        refine r_callV2i dX3_readSum_51 cvX3_86 (by assumption) (c_X9_put htx _ _ (by omega)) (by omega) (Nat.le_of_ble_eq_true rfl) od_le.rf ?_
        refine r_pop dX3_readSum_54 (by first | exact od_ne2 | exact od_ne0) ?_
        refine r_aload_n dX3_readSum_55 rfl ?_
        refine r_bipush dX3_readSum_56 lb_43 ?_
        refine r_bipush dX3_readSum_58 lb_6 ?_
        refine r_bipush dX3_readSum_60 lb_45 ?_
        refine r_bipush dX3_readSum_62 lb_7 ?_
        refine r_bipush dX3_readSum_64 lb_45 ?_
        refine r_bipush dX3_readSum_66 lb_7 ?_
        refine r_callV6i dX3_readSum_68 cvX3_134 (by assumption) (c_X3_stepOf hr0 (hT42.put hor) (hq42.2.1.put hor.2) _ _ _ _ _ _ (by omega) (by omega) (by omega)) (by omega) (Nat.le_of_ble_eq_true rfl) od_le.rf ?_
        rw [tSt_s]
        refine r_istore_n dX3_readSum_71 (by decide) rfl ?_
        refine r_iincE dX3_readSum_72 rfl (by decide) (by first | exact od_w0 (by omega) (by omega) | exact od_wI (by omega) (by omega) | rfl) rfl ?_
        refine r_goto (tgt := 24) dX3_readSum_75 rfl ?_
        have fl : (400 - i).toNat = (400 - (i + 1)).toNat + 1 := by omega
        rw [fl, pLoop_s hk, ← hst2] at hF
        exact ih _ _ _ _ ⟨by omega, by omega, RQ.bin hor.2 hq hb f37 hq42 (by omega) (by omega) (by omega) (fun x y z => by unfold pBs; omega), rfl, hT42.put hor, by rw [cTPut_rd (by omega)]; exact hl42, hF⟩ (by omega)
set_option maxRecDepth 10000 in
theorem c_X3_readSum {E : od_E} {g : od_G} {rd tp t : Int} (hr : ReAt E rd tp t) {B : Int → Int} {n : Int} (hT : TpOk g tp B n) {s : pS} (hR : RSt g rd B n s) (hz : RPre g t s) {lw : Bool} (hl : g rd 2 = lwI lw) {L : Nat} (hL : L ≤ 8) (hI : CTrm E rd tp t B n lw L) : od_Cq (10 + 3 * L) mX3_readSum [(2, rd), (0, 8 - (L : Int))] E g (E, fun v g' => v = none ∧ RQ pBs (2 * L + 3) (wlI lw) g g' rd t B n s (pSum (tC B n) (tV B n) (tpl B n) lw (pSub (tC B n) (tV B n) (tpl B n) lw L) s)) := by
  have hr0 := hr
  obtain ⟨hkr, e0, e1, hta, htx, hor⟩ := hr
  have hta0 := hta
  have hk9 := htx.1
  have h40 := hT.2.2.1
  have hz0 := hz
  unfold RPre at hz
  refine od_cqI pnX3 rfl (Nat.le_of_ble_eq_true rfl) od_le.rf ?_
  show od_Rq (10 + 3 * L) mX3_readSum od_Z0 E (E, fun v g' => v = none ∧ RQ pBs (2 * L + 3) (wlI lw) g g' rd t B n s (pSum (tC B n) (tV B n) (tpl B n) lw (pSub (tC B n) (tV B n) (tpl B n) lw L) s)) 0 [some (2, rd), some (0, 8 - (L : Int)), none, none] [] E g
  refine r_aload_n dX3_readSum_0 rfl ?_
  refine r_iload_n dX3_readSum_1 rfl ?_
  refine r_callV1p dX3_readSum_2 cvX3_138 (by assumption) (hI g s hT hR hz0 hl) (by omega) (Nat.le_of_ble_eq_true rfl) od_le.rf (fun r2 g2 h2 => ?_)
  obtain ⟨rfl, hq2⟩ := h2
  show od_Rq _ _ _ _ _ _ _ [] _ _
  have hT2 := hT.xp hor hq2.1
  have hl2 : g2 rd 2 = lwI lw := (hq2.1 rd 2 (fun z => by unfold XP at z; omega)).trans hl
  refine r_aload_n dX3_readSum_5 rfl ?_
  refine r_bipush dX3_readSum_6 lb_43 ?_
  refine r_bipush dX3_readSum_8 lb_6 ?_
  refine r_bipush dX3_readSum_10 lb_45 ?_
  refine r_bipush dX3_readSum_12 lb_7 ?_
  refine r_bipush dX3_readSum_14 lb_45 ?_
  refine r_bipush dX3_readSum_16 lb_7 ?_
  refine r_callV6i dX3_readSum_18 cvX3_134 (by assumption) (c_X3_stepOf hr0 hT2 hq2.2.1 _ _ _ _ _ _ (by omega) (by omega) (by omega)) (by omega) (Nat.le_of_ble_eq_true rfl) od_le.rf ?_
  rw [tSt_s]
  refine r_istore_n dX3_readSum_21 (by decide) rfl ?_
  refine r_iconst dX3_readSum_22 li_0 ?_
  refine r_istore_n dX3_readSum_23 (by decide) rfl ?_
  exact lp_X3_readSum hr0 hT hR hz0 hl hL hI _ _ _ _ _ ⟨by omega, by omega, hq2.mo (by omega), rfl, hT2, hl2, rfl⟩ (Nat.lt_succ_self _)
theorem cSumL {E : od_E} {rd tp t : Int} (hr : ReAt E rd tp t) (B : Int → Int) (n : Int) (lw : Bool) : ∀ L : Nat, L ≤ 8 → CSum E rd tp t B n lw L := by
  intro L
  induction L with
  | zero =>
    intro hL g s hT hR hz hl
    rw [show pSumL (tC B n) (tV B n) (tpl B n) lw 0 s = pSum (tC B n) (tV B n) (tpl B n) lw (pSub (tC B n) (tV B n) (tpl B n) lw 0) s from pSumL_eq _ _ _ _ _ _]
    exact c_X3_readSum hr hT hR hz hl hL (fun g s hT hR hz hl => c_X3_readTerm hr hT hR hz hl hL (fun g s hT hR hz hl => c_X3_readPart hr hT hR hz hl hL (fun L1 e => absurd e (by omega))))
  | succ L ih =>
    intro hL g s hT hR hz hl
    rw [pSumL_eq]
    exact c_X3_readSum hr hT hR hz hl hL (fun g s hT hR hz hl => c_X3_readTerm hr hT hR hz hl hL (fun g s hT hR hz hl => c_X3_readPart hr hT hR hz hl hL (fun L1 e => by
      have e2 : L1 = L := by omega
      subst e2
      exact ih (by omega))))
