/-! Reader: clauses -/
def wlN (lw : Bool) : Nat := if lw = true then 7 else 17
theorem wlN_I (lw : Bool) : ((wlN lw : Nat) : Int) = wlI lw := by cases lw <;> rfl
/-- the steps from f on, up to z at most, come to what d means -/
def EvOk (lw : Bool) (row : Int → Int) (f z : Int) (d : pD) : Prop := ∀ (row' : Int → Int) (n : Nat) (w : Int → Int), (∀ j : Int, 0 ≤ j → j < z → row' j = row j) → z ≤ n → (∀ i : Int, pBs (w i)) → cVal row' n w (wlN lw) f = pEv (d w)
theorem EvOk.none (lw : Bool) (row : Int → Int) (z : Int) : EvOk lw row (-1) z pOne := fun _ _ _ _ _ _ => by
  unfold cVal cValue
  rw [if_pos rfl]
  rfl
theorem EvOk.of {Bd : Int → Prop} {m : Int} {lw : Bool} {row : Int → Int} {z z1 : Int} {d : pD} (h : RT Bd m (wlI lw) row z z1 d) (hB : ∀ x, Bd x → pBs x) (hm : m ≤ 64) (hr : row z1 = od_stp 0 0) : EvOk lw row z (z1 + 1) d := fun row' n w e hn hw => by
  rw [← wlN_I] at h
  exact RT_val h hB hm hr (fun j j0 j1 => e j (by have := h.1; omega) j1) (by omega) hw
theorem EvOk.mo {lw : Bool} {row row1 : Int → Int} {f z z1 : Int} {d : pD} (h : EvOk lw row f z d) (hz : z ≤ z1) (e : ∀ j : Int, 0 ≤ j → j < z → row1 j = row j) : EvOk lw row1 f z1 d := fun row' n w e1 hn hw => h row' n w (fun j j0 j1 => (e1 j j0 (by omega)).trans (e j j0 j1)) (by omega) hw
theorem pBs_i : ∀ x : Int, pBs x → pBs x := fun _ h => h
theorem pBt_i : ∀ x : Int, pBt x → pBs x := fun x h => by unfold pBt at h; unfold pBs; omega
/-- what a clause's reading may change -/
def XC (rd t z c : Int) : Int → Int → Prop := fun x y => XP rd t z x y ∨ (x = t ∧ y = 6) ∨ (t + 1 ≤ x ∧ x ≤ t + 5 ∧ y = c)
theorem XC.xp {rd t z z' c : Int} (h : z ≤ z') : ∀ x y, XP rd t z' x y → XC rd t z c x y := fun x y q => Or.inl (XP.mo h x y q)
theorem TpOk.xc {g g' : od_G} {rd tp t z c : Int} {B : Int → Int} {n : Int} (h : TpOk g tp B n) (ho : tp + 2 ≤ rd ∧ rd + 1 ≤ t) (f : od_fr (XC rd t z c) g g') : TpOk g' tp B n := h.fr f (fun y q => by unfold XC XP at q; omega) (fun q => by unfold XC XP at q; omega)
theorem c_X3_sum8 {E : od_E} {g : od_G} {rd tp t : Int} (hr : ReAt E rd tp t) {B : Int → Int} {n : Int} (hT : TpOk g tp B n) {s : pS} (hR : RSt g rd B n s) (hz : RPre g t s) {lw : Bool} (hl : g rd 2 = lwI lw) : od_Cq 34 mX3_readSum [(2, rd), (0, 0)] E g (E, fun v g' => v = none ∧ RQ pBs 19 (wlI lw) g g' rd t B n s (pSumL (tC B n) (tV B n) (tpl B n) lw 8 s)) := cSumL hr B n lw 8 (by omega) g s hT hR hz hl
theorem c_X3_test8 {E : od_E} {g : od_G} {rd tp t : Int} (hr : ReAt E rd tp t) {B : Int → Int} {n : Int} (hT : TpOk g tp B n) {s : pS} (hR : RSt g rd B n s) (hz : RPre g t s) {lw : Bool} (hl : g rd 2 = lwI lw) : od_Cq 37 mX3_readTest [(2, rd), (0, 0)] E g (E, fun v g' => v = none ∧ RQ pBt 20 (wlI lw) g g' rd t B n s (pTestL (tC B n) (tV B n) (tpl B n) lw 8 s)) := cTestL hr B n lw 8 (by omega) g s hT hR hz hl
/-- a sum and its end -/
theorem EvOk.sum {Bd : Int → Prop} {m : Int} {lw : Bool} {g g1 : od_G} {rd t : Int} {B : Int → Int} {n : Int} {s : pS} {r : pR} (h : RQ Bd m (wlI lw) g g1 rd t B n s r) (hB : ∀ x, Bd x → pBs x) (hm : m ≤ 64) (hb : r.1.2.2 = -1) : EvOk lw (cTPut g1 t 0 0 (t + 6)) (g t 7) (g1 t 7 + 1) r.2 :=
  EvOk.of ((h.2.2.2 hb).row (fun j j0 j1 => by rw [cTPut_r, if_neg (by omega)])) hB hm (by rw [cTPut_r, if_pos rfl])
def pOb (c v pl : Int → Int) (kd : Int) (s : pS) : pS × pD × pD := if kd = 0 then pTwo c v pl 19 s else if kd = 1 then pTwo c v pl 22 s else if kd = 2 then ((pSumL c v pl false 8 s).1, (pSumL c v pl false 8 s).2, pOne) else (s, pOne, pOne)
/-- behind the reading of an order's sums -/
def OQ (g g' : od_G) (rd t : Int) (B : Int → Int) (n c : Int) (s : pS) (r : pS × pD × pD) : Prop := od_fr (XC rd t (g t 7) c) g g' ∧ g' t 6 = g t 6 ∧ (g' (t + 1) c = g (t + 1) c ∧ g' (t + 5) c = g (t + 5) c) ∧ RSt g' rd B n r.1 ∧ (g t 7 ≤ g' t 7 ∧ g' t 7 ≤ r.1.1 + 1 ∧ s.1 ≤ r.1.1 ∧ r.1.1 ≤ 400 ∧ (r.1.2.2 = -1 → g' t 7 ≤ r.1.1)) ∧ (r.1.2.2 = -1 → EvOk false (g' (t + 6)) (g' (t + 3) c) (g' t 7) r.2.1 ∧ EvOk false (g' (t + 6)) (g' (t + 4) c) (g' t 7) r.2.2)
set_option maxRecDepth 10000 in
theorem sg_X3_ti {E : od_E} {g : od_G} {rd tp t : Int} (hr : ReAt E rd tp t) {B : Int → Int} {n : Int} (hT : TpOk g tp B n) {s : pS} (hR : RSt g rd B n s) (hz : 0 ≤ g t 7 ∧ g t 7 + 1 ≤ s.1 ∧ s.1 ≤ 400) (hl : g rd 2 = lwI false) (c kd : Int) (hc : 0 ≤ c ∧ c < 12) (h2 : g (t + 2) c = 1 ∧ g (t + 3) c = -1 ∧ g (t + 4) c = -1) {u : pS × pD × pD} {gv : od_G} (hq : OQ g gv rd t B n c s u) (ht2 : gv (t + 2) c = 1) : od_Rq 35 mX3_readOrder od_Z0 E (E, fun v g' => v = none ∧ OQ g g' rd t B n c s ((pTi (tC B n) (tV B n) (tpl B n) u.1).1, u.2) ∧ ((pTi (tC B n) (tV B n) (tpl B n) u.1).1.2.2 = -1 → g' (t + 2) c = (pTi (tC B n) (tV B n) (tpl B n) u.1).2)) 98 [some (2, rd), some (0, c), some (0, kd)] [] E gv := by
  have hr0 := hr
  obtain ⟨hkr, e0, e1, hta, htx, hor⟩ := hr
  have htx0 := htx
  have hk9 := htx.1
  obtain ⟨_, x0, x1, x2, x3, x4, x5, y1, y2, y3, y4, y5, y6, _, _⟩ := htx
  have h40 := hT.2.2.1
  have hTv := hT.xc (rd := rd) (t := t) hor hq.1
  have hqz := hq.2.2.2.2.1
  have bxu : (pNx u.1).1 = u.1.1 + 1 := rfl
  refine r_aload_n dX3_readOrder_98 rfl ?_
  refine r_ldcs (i := 6) rfl (by decide) rfl dX3_readOrder_99 ?_
  refine r_callV1p dX3_readOrder_101 cvX3_95 (by assumption) (c_X3_takeWord hr0 hTv hq.2.2.2.1 (by decide) (k := 25) (by decide) rfl) (by decide) (Nat.le_of_ble_eq_true rfl) od_le.rf (fun r101 g101 h101 => ?_)
  rcases h101 with ⟨rfl, h101⟩ | ⟨rfl, h101⟩
  · show od_Rq _ _ _ _ _ _ _ ((0, 1) :: _) _ _
    skip
    refine r_if_eq (tgt := 154) dX3_readOrder_104 rfl (fun h => absurd h (by decide)) (fun _ => ?_)
    have hb := h101.1.1
    have hT1 := hTv.xp (t := t) (z := g t 7) hor (fr_rd h101.2.1 (by omega))
    refine r_aload_n dX3_readOrder_107 rfl ?_
    refine r_getIj (j := 3) rfl dX3_readOrder_108 fkX3_24 gf3_3 (by assumption) (by (repeat (first | rewrite [od_upn (by omega)] | rewrite [od_up_at, if_pos (by omega)] | rewrite [od_up_at, if_neg (by omega)])); rfl) ?_
    refine r_iconst dX3_readOrder_111 li_2 ?_
    refine r_icmp_ne (tgt := 132) dX3_readOrder_112 rfl (fun c112 => ?_) (fun c112 => ?_)
    · refine r_aload_n dX3_readOrder_132 rfl ?_
      refine r_callV0v dX3_readOrder_133 cvX3_60 (by assumption) (c_X3_setFault hr0) (by decide) (Nat.le_of_ble_eq_true rfl) od_le.rf ?_
      have hn20 : ¬ (tC B n (u.1.1 + 1) = 50 ∧ 1 ≤ tV B n (u.1.1 + 1) ∧ tV B n (u.1.1 + 1) ≤ 20) := fun z => by
        have z0 := z
        rw [← bxu] at z0
        have z1 := tV_b h101.2.2 hTv.2.2.2 h101.1.1 z0.1
        have z2 := (h101.2.2.num hTv.2.2.2).mpr ⟨h101.1.1, z0.1⟩
        rw [bxu] at z1
        omega
      have eT : (pTi (tC B n) (tV B n) (tpl B n) u.1) = (pF (tpl B n) (pNx u.1), tV B n (u.1.1 + 1)) := by
        unfold pTi
        rw [if_pos h101.1]
        show (pMn _ _ _ _ _ _, _) = _
        unfold pMn
        rw [if_neg (fun z => hn20 z.2)]
      have nb : (pF (tpl B n) (pNx u.1)).2.2 ≠ -1 := pF_nb (by have := tpl_b (B := B) h40.1 (pNx u.1).1; omega)
      refine r_vretq dX3_readOrder_136 rfl rfl ⟨rfl, ?_, fun z => absurd z (by rw [eT]; exact nb)⟩
      rw [eT]
      have es : ∀ x y : Int, x ≠ rd → cSF g101 rd x y = gv x y := fun x y h => by
        rw [cSF_fr g101 rd x y (by omega), h101.2.1 x y (by omega)]
      have i4 := h101.2.2.i4 h101.1.1 h40
      have bx : (pNx u.1).1 = u.1.1 + 1 := rfl
      refine ⟨hq.1.tr ((fr_rd h101.2.1 (by omega)).mo (XC.xp (Int.le_refl _))|>.tr ((fr_rd (cSF_fr g101 rd) (by omega)).mo (XC.xp (Int.le_refl _)))), ?_, ?_, cSF_st h40.1 h101.2.2, ?_, fun z => absurd z nb⟩
      · rw [es _ _ (by omega)]; exact hq.2.1
      · rw [es _ _ (by omega), es _ _ (by omega)]; exact hq.2.2.1
      · rw [es _ _ (by omega)]
        show g t 7 ≤ gv t 7 ∧ gv t 7 ≤ (pF (tpl B n) (pNx u.1)).1 + 1 ∧ s.1 ≤ (pF (tpl B n) (pNx u.1)).1 ∧ (pF (tpl B n) (pNx u.1)).1 ≤ 400 ∧ ((pF (tpl B n) (pNx u.1)).2.2 = -1 → _)
        rw [pF_1]
        exact ⟨by omega, by omega, by omega, by omega, fun z => absurd z nb⟩
    · refine r_aload_n dX3_readOrder_115 rfl ?_
      refine r_getIj (j := 6) rfl dX3_readOrder_116 fkX3_34 gf3_6 (by assumption) (by (repeat (first | rewrite [od_upn (by omega)] | rewrite [od_up_at, if_pos (by omega)] | rewrite [od_up_at, if_neg (by omega)])); rfl) ?_
      refine r_iconst dX3_readOrder_119 li_1 ?_
      refine r_icmp_lt (tgt := 132) dX3_readOrder_120 rfl (fun c120 => ?_) (fun c120 => ?_)
      · refine r_aload_n dX3_readOrder_132 rfl ?_
        refine r_callV0v dX3_readOrder_133 cvX3_60 (by assumption) (c_X3_setFault hr0) (by decide) (Nat.le_of_ble_eq_true rfl) od_le.rf ?_
        have hn20 : ¬ (tC B n (u.1.1 + 1) = 50 ∧ 1 ≤ tV B n (u.1.1 + 1) ∧ tV B n (u.1.1 + 1) ≤ 20) := fun z => by
          have z0 := z
          rw [← bxu] at z0
          have z1 := tV_b h101.2.2 hTv.2.2.2 h101.1.1 z0.1
          have z2 := (h101.2.2.num hTv.2.2.2).mpr ⟨h101.1.1, z0.1⟩
          rw [bxu] at z1
          omega
        have eT : (pTi (tC B n) (tV B n) (tpl B n) u.1) = (pF (tpl B n) (pNx u.1), tV B n (u.1.1 + 1)) := by
          unfold pTi
          rw [if_pos h101.1]
          show (pMn _ _ _ _ _ _, _) = _
          unfold pMn
          rw [if_neg (fun z => hn20 z.2)]
        have nb : (pF (tpl B n) (pNx u.1)).2.2 ≠ -1 := pF_nb (by have := tpl_b (B := B) h40.1 (pNx u.1).1; omega)
        refine r_vretq dX3_readOrder_136 rfl rfl ⟨rfl, ?_, fun z => absurd z (by rw [eT]; exact nb)⟩
        rw [eT]
        have es : ∀ x y : Int, x ≠ rd → cSF g101 rd x y = gv x y := fun x y h => by
          rw [cSF_fr g101 rd x y (by omega), h101.2.1 x y (by omega)]
        have i4 := h101.2.2.i4 h101.1.1 h40
        have bx : (pNx u.1).1 = u.1.1 + 1 := rfl
        refine ⟨hq.1.tr ((fr_rd h101.2.1 (by omega)).mo (XC.xp (Int.le_refl _))|>.tr ((fr_rd (cSF_fr g101 rd) (by omega)).mo (XC.xp (Int.le_refl _)))), ?_, ?_, cSF_st h40.1 h101.2.2, ?_, fun z => absurd z nb⟩
        · rw [es _ _ (by omega)]; exact hq.2.1
        · rw [es _ _ (by omega), es _ _ (by omega)]; exact hq.2.2.1
        · rw [es _ _ (by omega)]
          show g t 7 ≤ gv t 7 ∧ gv t 7 ≤ (pF (tpl B n) (pNx u.1)).1 + 1 ∧ s.1 ≤ (pF (tpl B n) (pNx u.1)).1 ∧ (pF (tpl B n) (pNx u.1)).1 ≤ 400 ∧ ((pF (tpl B n) (pNx u.1)).2.2 = -1 → _)
          rw [pF_1]
          exact ⟨by omega, by omega, by omega, by omega, fun z => absurd z nb⟩
      · refine r_aload_n dX3_readOrder_123 rfl ?_
        refine r_getIj (j := 6) rfl dX3_readOrder_124 fkX3_34 gf3_6 (by assumption) (by (repeat (first | rewrite [od_upn (by omega)] | rewrite [od_up_at, if_pos (by omega)] | rewrite [od_up_at, if_neg (by omega)])); rfl) ?_
        refine r_bipush dX3_readOrder_127 lb_20 ?_
        refine r_icmp_le (tgt := 137) dX3_readOrder_129 rfl (fun c129 => ?_) (fun c129 => ?_)
        · have c50m := ((h101.2.2.num hTv.2.2.2).mp (by assumption)).2
          have z1 := tV_b h101.2.2 hTv.2.2.2 h101.1.1 c50m
          have c50n := c50m
          rw [bxu] at z1 c50n
          refine r_aload_n dX3_readOrder_137 rfl ?_
          refine r_getR dX3_readOrder_138 fkX3_14 gf3_0 (by assumption) (by assumption) ?_
          refine r_getR dX3_readOrder_141 fkX3_114 gf9_1 (by assumption) (by assumption) ?_
          refine r_iload_n dX3_readOrder_144 rfl ?_
          refine r_aload_n dX3_readOrder_145 rfl ?_
          refine r_getIj (j := 6) rfl dX3_readOrder_146 fkX3_34 gf3_6 (by assumption) (by (repeat (first | rewrite [od_upn (by omega)] | rewrite [od_up_at, if_pos (by omega)] | rewrite [od_up_at, if_neg (by omega)])); rfl) ?_
          rw [show g101 rd 6 = tV B n (u.1.1 + 1) by omega]
          refine r_iast dX3_readOrder_149 (by assumption) (by omega) ?_
          have hTu : TpOk (od_up g101 (t + 2) c (tV B n (u.1.1 + 1))) tp B n := hT1.fr (X := fun x y => x = t + 2 ∧ y = c) (od_fr.rf.up ⟨rfl, rfl⟩) (fun y z => by omega) (by omega)
          have hRu : RSt (od_up g101 (t + 2) c (tV B n (u.1.1 + 1))) rd B n (pNx u.1) := h101.2.2.e (fun y _ _ => od_upn (by omega))
          refine r_aload_n dX3_readOrder_150 rfl ?_
          refine r_callV0p dX3_readOrder_151 cvX3_50 (by assumption) (c_X3_goOn hr0 hTu.1 hTu.2.1 hTu.2.2.1.2 hTu.2.2.2 (hRu.g5 hTu.2.2.1.1 hb)) (by decide) (Nat.le_of_ble_eq_true rfl) od_le.rf (fun r151 g151 h151 => ?_)
          obtain ⟨rfl, f151, w4151, w5151, w6151, w3151⟩ := h151
          show od_Rq _ _ _ _ _ _ _ [] _ _
          have S151 := RSt.go hRu hb (by omega) f151 w4151 w5151 w6151 w3151
          first
          | (-- no times
             obtain ⟨h101a, rfl⟩ := h101
             have eT : (pTi (tC B n) (tV B n) (tpl B n) u.1) = (u.1, 1) := by
               unfold pTi
               rw [if_neg h101a]
             refine r_vretq dX3_readOrder_154 rfl rfl ⟨rfl, ?_, fun _ => by rw [eT]; exact ht2⟩
             rw [eT]
             exact hq)
          | (have eT : (pTi (tC B n) (tV B n) (tpl B n) u.1) = (pNx (pNx u.1), tV B n (u.1.1 + 1)) := by
               unfold pTi
               rw [if_pos h101.1]
               show (pMn _ _ _ _ _ _, _) = _
               unfold pMn
               rw [if_pos ⟨h101.1.1, c50m, by rw [bxu]; omega, by rw [bxu]; omega⟩]
             have es : ∀ x y : Int, x ≠ rd → ¬ (x = t + 2 ∧ y = c) → g151 x y = gv x y := fun x y h h' => by
               rw [f151 x y (by omega), od_up, if_neg h', h101.2.1 x y (by omega)]
             have i4 := S151.i4 h101.1.1 h40
             have bx : (pNx (pNx u.1)).1 = u.1.1 + 1 + 1 := rfl
             have hq4 := hq.2.2.2.2.1
             refine r_vretq dX3_readOrder_154 rfl rfl ⟨rfl, ?_, fun _ => ?_⟩
             · rw [eT]
               refine ⟨?_, ?_, ?_, S151, ?_, fun z => ?_⟩
               · refine hq.1.tr (((fr_rd h101.2.1 (by omega)).mo (XC.xp (Int.le_refl _))).tr ?_)
                 exact (od_fr.rf.up (Or.inr (Or.inr ⟨by omega, by omega, rfl⟩))).tr ((fr_rd f151 (by omega)).mo (XC.xp (Int.le_refl _)))
               · rw [es _ _ (by omega) (by omega)]; exact hq.2.1
               · rw [es _ _ (by omega) (by omega), es _ _ (by omega) (by omega)]; exact hq.2.2.1
               · rw [es _ _ (by omega) (by omega)]
                 have := hq4.2.2.2.2 h101.1.1
                 exact ⟨hq4.1, by show _ ≤ (pNx (pNx u.1)).1 + 1; omega, by show _ ≤ (pNx (pNx u.1)).1; omega, i4, fun _ => by show _ ≤ (pNx (pNx u.1)).1; omega⟩
               · have e6 : g151 (t + 6) = gv (t + 6) := funext fun y => es _ _ (by omega) (by omega)
                 rw [e6, es _ _ (by omega) (by omega), es _ _ (by omega) (by omega), es _ _ (by omega) (by omega)]
                 exact hq.2.2.2.2.2 h101.1.1
             · rw [eT, f151 (t + 2) c (by omega), od_up_at, if_pos rfl])
        · refine r_aload_n dX3_readOrder_132 rfl ?_
          refine r_callV0v dX3_readOrder_133 cvX3_60 (by assumption) (c_X3_setFault hr0) (by decide) (Nat.le_of_ble_eq_true rfl) od_le.rf ?_
          have hn20 : ¬ (tC B n (u.1.1 + 1) = 50 ∧ 1 ≤ tV B n (u.1.1 + 1) ∧ tV B n (u.1.1 + 1) ≤ 20) := fun z => by
            have z0 := z
            rw [← bxu] at z0
            have z1 := tV_b h101.2.2 hTv.2.2.2 h101.1.1 z0.1
            have z2 := (h101.2.2.num hTv.2.2.2).mpr ⟨h101.1.1, z0.1⟩
            rw [bxu] at z1
            omega
          have eT : (pTi (tC B n) (tV B n) (tpl B n) u.1) = (pF (tpl B n) (pNx u.1), tV B n (u.1.1 + 1)) := by
            unfold pTi
            rw [if_pos h101.1]
            show (pMn _ _ _ _ _ _, _) = _
            unfold pMn
            rw [if_neg (fun z => hn20 z.2)]
          have nb : (pF (tpl B n) (pNx u.1)).2.2 ≠ -1 := pF_nb (by have := tpl_b (B := B) h40.1 (pNx u.1).1; omega)
          refine r_vretq dX3_readOrder_136 rfl rfl ⟨rfl, ?_, fun z => absurd z (by rw [eT]; exact nb)⟩
          rw [eT]
          have es : ∀ x y : Int, x ≠ rd → cSF g101 rd x y = gv x y := fun x y h => by
            rw [cSF_fr g101 rd x y (by omega), h101.2.1 x y (by omega)]
          have i4 := h101.2.2.i4 h101.1.1 h40
          have bx : (pNx u.1).1 = u.1.1 + 1 := rfl
          refine ⟨hq.1.tr ((fr_rd h101.2.1 (by omega)).mo (XC.xp (Int.le_refl _))|>.tr ((fr_rd (cSF_fr g101 rd) (by omega)).mo (XC.xp (Int.le_refl _)))), ?_, ?_, cSF_st h40.1 h101.2.2, ?_, fun z => absurd z nb⟩
          · rw [es _ _ (by omega)]; exact hq.2.1
          · rw [es _ _ (by omega), es _ _ (by omega)]; exact hq.2.2.1
          · rw [es _ _ (by omega)]
            show g t 7 ≤ gv t 7 ∧ gv t 7 ≤ (pF (tpl B n) (pNx u.1)).1 + 1 ∧ s.1 ≤ (pF (tpl B n) (pNx u.1)).1 ∧ (pF (tpl B n) (pNx u.1)).1 ≤ 400 ∧ ((pF (tpl B n) (pNx u.1)).2.2 = -1 → _)
            rw [pF_1]
            exact ⟨by omega, by omega, by omega, by omega, fun z => absurd z nb⟩
  · show od_Rq _ _ _ _ _ _ _ ((0, 0) :: _) _ _
    skip
    refine r_if_eq (tgt := 154) dX3_readOrder_104 rfl (fun _ => ?_) (fun h => absurd h (by decide))
    first
    | (-- no times
       obtain ⟨h101a, rfl⟩ := h101
       have eT : (pTi (tC B n) (tV B n) (tpl B n) u.1) = (u.1, 1) := by
         unfold pTi
         rw [if_neg h101a]
       refine r_vretq dX3_readOrder_154 rfl rfl ⟨rfl, ?_, fun _ => by rw [eT]; exact ht2⟩
       rw [eT]
       exact hq)
    | (have eT : (pTi (tC B n) (tV B n) (tpl B n) u.1) = (pNx (pNx u.1), tV B n (u.1.1 + 1)) := by
         unfold pTi
         rw [if_pos h101.1]
         show (pMn _ _ _ _ _ _, _) = _
         unfold pMn
         rw [if_pos ⟨h101.1.1, c50m, by rw [bxu]; omega, by rw [bxu]; omega⟩]
       have es : ∀ x y : Int, x ≠ rd → ¬ (x = t + 2 ∧ y = c) → g151 x y = gv x y := fun x y h h' => by
         rw [f151 x y (by omega), od_up, if_neg h', h101.2.1 x y (by omega)]
       have i4 := S151.i4 h101.1.1 h40
       have bx : (pNx (pNx u.1)).1 = u.1.1 + 1 + 1 := rfl
       have hq4 := hq.2.2.2.2.1
       refine r_vretq dX3_readOrder_154 rfl rfl ⟨rfl, ?_, fun _ => ?_⟩
       · rw [eT]
         refine ⟨?_, ?_, ?_, S151, ?_, fun z => ?_⟩
         · refine hq.1.tr (((fr_rd h101.2.1 (by omega)).mo (XC.xp (Int.le_refl _))).tr ?_)
           exact (od_fr.rf.up (Or.inr (Or.inr ⟨by omega, by omega, rfl⟩))).tr ((fr_rd f151 (by omega)).mo (XC.xp (Int.le_refl _)))
         · rw [es _ _ (by omega) (by omega)]; exact hq.2.1
         · rw [es _ _ (by omega) (by omega), es _ _ (by omega) (by omega)]; exact hq.2.2.1
         · rw [es _ _ (by omega) (by omega)]
           have := hq4.2.2.2.2 h101.1.1
           exact ⟨hq4.1, by show _ ≤ (pNx (pNx u.1)).1 + 1; omega, by show _ ≤ (pNx (pNx u.1)).1; omega, i4, fun _ => by show _ ≤ (pNx (pNx u.1)).1; omega⟩
         · have e6 : g151 (t + 6) = gv (t + 6) := funext fun y => es _ _ (by omega) (by omega)
           rw [e6, es _ _ (by omega) (by omega), es _ _ (by omega) (by omega), es _ _ (by omega) (by omega)]
           exact hq.2.2.2.2.2 h101.1.1
       · rw [eT, f151 (t + 2) c (by omega), od_up_at, if_pos rfl])
