/-! OrganDrums: the turning round -/
noncomputable def cC (g : od_G) (k t : Int) (sn : Nat) (ws : Int) : Int → Int := fun h => od_sum (fun e => cF g k t sn ws e h) (g k 8).toNat
theorem RdQ.C {g g' : od_G} {q k t : Int} {sn : Nat} {ws : Int} (h : RdQ g g' q k t sn ws) (hI : CI g k) : RdC g' q (cRound g k 0 6) (cC g k t sn ws) := by
  have z := hI.1
  refine ⟨h.1, hI.r1 (by omega), h.2.1, h.2.2.1, h.2.2.2, fun x _ => ?_⟩
  have b := od_sum_b (f := fun e => cF g k t sn ws e x) (m := 700) (g k 8).toNat (fun i i0 i1 => cF_b g k t sn ws x (by omega))
  unfold cC
  omega
def TX (o : Int) : Int → Int → Prop := fun x _ => x = o + 70 + 2 ∨ x = o + 70 + 3 ∨ (o + 77 ≤ x ∧ x ≤ o + 77 + 6)
theorem TX_st {o : Int} {g g' : od_G} (h : od_fr (TX o) g g') : StEq g g' (o + 1) := by
  unfold StEq
  refine ⟨?_, ?_, ?_, ?_, ?_, ?_, ?_, ?_, ?_⟩ <;> exact h.row (fun y => by unfold TX; omega)
noncomputable def cWhenM (g : od_G) (k st : Int) : Int := od_ite (cHasAll g k st) (od_fst (fun h => od_and (cBt (cC g k (-1) 0 0) h) st = st) (cRound g k 0 6).toNat 0) (-1)
noncomputable def cOftenM (g : od_G) (k st : Int) : Int := od_ite (cHasAll g k st) (od_sum (fun h => od_b (od_and (cBt (cC g k (-1) 0 0) h) st = st)) (cRound g k 0 6).toNat) (-1)
noncomputable def cAloneM (g : od_G) (k d : Int) : Int := od_ite (cHas g k d) (od_sum (fun h => od_b (od_and (cBt (cC g k (-1) 0 0) h) 63 = od_shl 1 d)) (cRound g k 0 6).toNat) (-1)
noncomputable def cLoudestM (g : od_G) (k : Int) (sn : Nat) (w : Int) : Int := od_ite (0 ≤ w ∧ w ≤ 2) (cLdA (od_ld (cLn (cC g k (cLawOf g k (g k 11)) sn 1)) 0 (cRound g k 0 6).toNat) w) (-1)
noncomputable def cQuietM (g : od_G) (k w : Int) : Int := od_ite (0 ≤ w ∧ w ≤ 1) (cQuiet (fun h => cBt (cC g k (-1) 0 0) h = 0) (cRound g k 0 6) w) (-1)
noncomputable def cTuneM (g : od_G) (k : Int) (sn : Nat) : Int := cT2 (cC g k (cLawOf g k (g k 11)) sn 1) 5 0 (cRound g k 0 6)
noncomputable def cCmpM (g : od_G) (k : Int) (sn : Nat) (n : Int) : Int := od_ite (n = -1 ∨ cLawOf g k n ≠ -1) (od_sum (cLn (cC g k (cLawOf g k n) sn 1)) (cRound g k 0 6).toNat) (-1)
set_option maxRecDepth 10000 in
theorem c_X10_when {E : od_E} {g : od_G} {o : Int} (ho : OdAt E o) (hI : CI g (o + 1)) (st : Int) : od_Cf 9 mX10_when [(2, o), (0, st)] E g (some (0, cWhenM g (o + 1) st)) (TX o) := by
  have hs1 := oS1 ho
  obtain ⟨hk, r0, r1, r2, r3, r4, r5, r6, r7, a1, a2, a3, a4, a5, a6, a7, a8⟩ := oS1 ho
  have ha1 := oAs ho
  have hka := ha1.1
  have hq1 := oRo ho
  have hkq := hq1.1
  refine od_cqI pnX10 rfl (Nat.le_of_ble_eq_true rfl) od_le.rf ?_
  show od_Rf 9 mX10_when od_Z0 E (some (0, cWhenM g (o + 1) st)) (TX o) g 0 [some (2, o), some (0, st)] [] E g
  refine r_aload_n dX10_when_0 rfl ?_
  refine r_getR dX10_when_1 fkX10_12 gf10_0 (oO ho) (oR0 ho) ?_
  refine r_iload_n dX10_when_4 rfl ?_
  refine r_callV1b dX10_when_5 cvX10_244 (by assumption) (c_X6_hasAll (by assumption) _) (by decide) (Nat.le_of_ble_eq_true rfl) od_le.rf (fun q5 => ?_) (fun q5 => ?_)
  · refine r_if_ne (tgt := 13) dX10_when_8 rfl (fun _ => ?_) (fun h => absurd h (by decide))
    refine r_aload_n dX10_when_13 rfl ?_
    refine r_getR dX10_when_14 fkX10_84 gf10_12 (oO ho) (oR12 ho) ?_
    refine r_aload_n dX10_when_17 rfl ?_
    refine r_getR dX10_when_18 fkX10_12 gf10_0 (oO ho) (oR0 ho) ?_
    refine r_callV1p dX10_when_21 cvX10_247 (by assumption) (c_X4_layStrikes ha1 hq1 hs1 (by omega) (by omega) hI) (by decide) (Nat.le_of_ble_eq_true rfl) od_le.rf (fun r21 g21 h21 => ?_)
    obtain ⟨rfl, f21, k21⟩ := h21
    show od_Rq _ _ _ _ _ _ _ [] _ _
    have hC := k21.C hI
    have fx : od_fr (TX o) g g21 := f21.mo (fun x y z => by unfold TX; omega)
    refine r_aload_n dX10_when_24 rfl ?_
    refine r_getR dX10_when_25 fkX10_84 gf10_12 (oO ho) (oR12 ho) ?_
    refine r_iload_n dX10_when_28 rfl ?_
    refine r_callV1i dX10_when_29 cvX10_250 (by assumption) (c_X4_firstOf hq1 hC _) (by decide) (Nat.le_of_ble_eq_true rfl) od_le.rf ?_
    exact r_iretq dX10_when_32 rfl rfl ⟨by unfold cWhenM; rw [od_ite_t (by first | assumption | omega)], fx⟩
  · refine r_if_ne (tgt := 13) dX10_when_8 rfl (fun h => absurd h (by decide)) (fun _ => ?_)
    refine r_iconst dX10_when_11 li_m1 ?_
    exact r_iretq dX10_when_12 rfl rfl ⟨by unfold cWhenM; rw [od_ite_f (by first | assumption | omega)], od_fr.rf⟩
set_option maxRecDepth 10000 in
theorem c_X10_often {E : od_E} {g : od_G} {o : Int} (ho : OdAt E o) (hI : CI g (o + 1)) (st : Int) : od_Cf 9 mX10_often [(2, o), (0, st)] E g (some (0, cOftenM g (o + 1) st)) (TX o) := by
  have hs1 := oS1 ho
  obtain ⟨hk, r0, r1, r2, r3, r4, r5, r6, r7, a1, a2, a3, a4, a5, a6, a7, a8⟩ := oS1 ho
  have ha1 := oAs ho
  have hka := ha1.1
  have hq1 := oRo ho
  have hkq := hq1.1
  refine od_cqI pnX10 rfl (Nat.le_of_ble_eq_true rfl) od_le.rf ?_
  show od_Rf 9 mX10_often od_Z0 E (some (0, cOftenM g (o + 1) st)) (TX o) g 0 [some (2, o), some (0, st)] [] E g
  refine r_aload_n dX10_often_0 rfl ?_
  refine r_getR dX10_often_1 fkX10_12 gf10_0 (oO ho) (oR0 ho) ?_
  refine r_iload_n dX10_often_4 rfl ?_
  refine r_callV1b dX10_often_5 cvX10_244 (by assumption) (c_X6_hasAll (by assumption) _) (by decide) (Nat.le_of_ble_eq_true rfl) od_le.rf (fun q5 => ?_) (fun q5 => ?_)
  · refine r_if_ne (tgt := 13) dX10_often_8 rfl (fun _ => ?_) (fun h => absurd h (by decide))
    refine r_aload_n dX10_often_13 rfl ?_
    refine r_getR dX10_often_14 fkX10_84 gf10_12 (oO ho) (oR12 ho) ?_
    refine r_aload_n dX10_often_17 rfl ?_
    refine r_getR dX10_often_18 fkX10_12 gf10_0 (oO ho) (oR0 ho) ?_
    refine r_callV1p dX10_often_21 cvX10_247 (by assumption) (c_X4_layStrikes ha1 hq1 hs1 (by omega) (by omega) hI) (by decide) (Nat.le_of_ble_eq_true rfl) od_le.rf (fun r21 g21 h21 => ?_)
    obtain ⟨rfl, f21, k21⟩ := h21
    show od_Rq _ _ _ _ _ _ _ [] _ _
    have hC := k21.C hI
    have fx : od_fr (TX o) g g21 := f21.mo (fun x y z => by unfold TX; omega)
    refine r_aload_n dX10_often_24 rfl ?_
    refine r_getR dX10_often_25 fkX10_84 gf10_12 (oO ho) (oR12 ho) ?_
    refine r_iload_n dX10_often_28 rfl ?_
    refine r_iload_n dX10_often_29 rfl ?_
    refine r_callV2i dX10_often_30 cvX10_253 (by assumption) (c_X4_timesOf hq1 hC _ _) (by decide) (Nat.le_of_ble_eq_true rfl) od_le.rf ?_
    exact r_iretq dX10_often_33 rfl rfl ⟨by unfold cOftenM; rw [od_ite_t (by first | assumption | omega)], fx⟩
  · refine r_if_ne (tgt := 13) dX10_often_8 rfl (fun h => absurd h (by decide)) (fun _ => ?_)
    refine r_iconst dX10_often_11 li_m1 ?_
    exact r_iretq dX10_often_12 rfl rfl ⟨by unfold cOftenM; rw [od_ite_f (by first | assumption | omega)], od_fr.rf⟩
set_option maxRecDepth 10000 in
theorem c_X10_alone {E : od_E} {g : od_G} {o : Int} (ho : OdAt E o) (hI : CI g (o + 1)) (d : Int) : od_Cf 9 mX10_alone [(2, o), (0, d)] E g (some (0, cAloneM g (o + 1) d)) (TX o) := by
  have hs1 := oS1 ho
  obtain ⟨hk, r0, r1, r2, r3, r4, r5, r6, r7, a1, a2, a3, a4, a5, a6, a7, a8⟩ := oS1 ho
  have ha1 := oAs ho
  have hka := ha1.1
  have hq1 := oRo ho
  have hkq := hq1.1
  refine od_cqI pnX10 rfl (Nat.le_of_ble_eq_true rfl) od_le.rf ?_
  show od_Rf 9 mX10_alone od_Z0 E (some (0, cAloneM g (o + 1) d)) (TX o) g 0 [some (2, o), some (0, d)] [] E g
  refine r_aload_n dX10_alone_0 rfl ?_
  refine r_getR dX10_alone_1 fkX10_12 gf10_0 (oO ho) (oR0 ho) ?_
  refine r_iload_n dX10_alone_4 rfl ?_
  refine r_callV1b dX10_alone_5 cvX10_130 (by assumption) (c_X6_has (by assumption) _) (by decide) (Nat.le_of_ble_eq_true rfl) od_le.rf (fun q5 => ?_) (fun q5 => ?_)
  · refine r_if_ne (tgt := 13) dX10_alone_8 rfl (fun _ => ?_) (fun h => absurd h (by decide))
    refine r_aload_n dX10_alone_13 rfl ?_
    refine r_getR dX10_alone_14 fkX10_84 gf10_12 (oO ho) (oR12 ho) ?_
    refine r_aload_n dX10_alone_17 rfl ?_
    refine r_getR dX10_alone_18 fkX10_12 gf10_0 (oO ho) (oR0 ho) ?_
    refine r_callV1p dX10_alone_21 cvX10_247 (by assumption) (c_X4_layStrikes ha1 hq1 hs1 (by omega) (by omega) hI) (by decide) (Nat.le_of_ble_eq_true rfl) od_le.rf (fun r21 g21 h21 => ?_)
    obtain ⟨rfl, f21, k21⟩ := h21
    show od_Rq _ _ _ _ _ _ _ [] _ _
    have hC := k21.C hI
    have fx : od_fr (TX o) g g21 := f21.mo (fun x y z => by unfold TX; omega)
    refine r_aload_n dX10_alone_24 rfl ?_
    refine r_getR dX10_alone_25 fkX10_84 gf10_12 (oO ho) (oR12 ho) ?_
    refine r_bipush dX10_alone_28 lb_63 ?_
    refine r_iconst dX10_alone_30 li_1 ?_
    refine r_iload_n dX10_alone_31 rfl ?_
    refine r_ishl dX10_alone_32 ?_
    refine r_callV2i dX10_alone_33 cvX10_253 (by assumption) (c_X4_timesOf hq1 hC _ _) (by decide) (Nat.le_of_ble_eq_true rfl) od_le.rf ?_
    exact r_iretq dX10_alone_36 rfl rfl ⟨by unfold cAloneM; rw [od_ite_t (by first | assumption | omega)], fx⟩
  · refine r_if_ne (tgt := 13) dX10_alone_8 rfl (fun h => absurd h (by decide)) (fun _ => ?_)
    refine r_iconst dX10_alone_11 li_m1 ?_
    exact r_iretq dX10_alone_12 rfl rfl ⟨by unfold cAloneM; rw [od_ite_f (by first | assumption | omega)], od_fr.rf⟩
set_option maxRecDepth 10000 in
theorem c_X10_loudest {E : od_E} {g : od_G} {o : Int} (ho : OdAt E o) {cn sn : Nat} (hlaw : LawOk E g (o + 70) (cLawOf g (o + 1) (g (o + 1) 11)) cn sn) (hqt : (cLawOf g (o + 1) (g (o + 1) 11)) ≠ -1 → o + 77 + 7 ≤ (cLawOf g (o + 1) (g (o + 1) 11))) (hI : CI g (o + 1)) (w : Int) : od_Cf 9 mX10_loudest [(2, o), (0, w)] E g (some (0, cLoudestM g (o + 1) sn w)) (TX o) := by
  have hs1 := oS1 ho
  obtain ⟨hk, r0, r1, r2, r3, r4, r5, r6, r7, a1, a2, a3, a4, a5, a6, a7, a8⟩ := oS1 ho
  have ha1 := oAs ho
  have hka := ha1.1
  have hq1 := oRo ho
  have hkq := hq1.1
  refine od_cqI pnX10 rfl (Nat.le_of_ble_eq_true rfl) od_le.rf ?_
  show od_Rf 9 mX10_loudest od_Z0 E (some (0, cLoudestM g (o + 1) sn w)) (TX o) g 0 [some (2, o), some (0, w)] [] E g
  refine r_iload_n dX10_loudest_0 rfl ?_
  refine r_if_lt (tgt := 9) dX10_loudest_1 rfl (fun c1 => ?_) (fun c1 => ?_)
  · refine r_iconst dX10_loudest_9 li_m1 ?_
    exact r_iretq dX10_loudest_10 rfl rfl ⟨by unfold cLoudestM; rw [od_ite_f (by first | assumption | omega)], od_fr.rf⟩
  · refine r_iload_n dX10_loudest_4 rfl ?_
    refine r_iconst dX10_loudest_5 li_2 ?_
    refine r_icmp_le (tgt := 11) dX10_loudest_6 rfl (fun c6 => ?_) (fun c6 => ?_)
    · refine r_aload_n dX10_loudest_11 rfl ?_
      refine r_getR dX10_loudest_12 fkX10_84 gf10_12 (oO ho) (oR12 ho) ?_
      refine r_aload_n dX10_loudest_15 rfl ?_
      refine r_getR dX10_loudest_16 fkX10_12 gf10_0 (oO ho) (oR0 ho) ?_
      refine r_aload_n dX10_loudest_19 rfl ?_
      refine r_getR dX10_loudest_20 fkX10_12 gf10_0 (oO ho) (oR0 ho) ?_
      refine r_aload_n dX10_loudest_23 rfl ?_
      refine r_getR dX10_loudest_24 fkX10_12 gf10_0 (oO ho) (oR0 ho) ?_
      refine r_getIj (j := 11) rfl dX10_loudest_27 fkX10_156 gf6_11 (by assumption) rfl ?_
      refine r_callV1i dX10_loudest_30 cvX10_159 (by assumption) (c_X6_lawOf (by assumption) _) (by decide) (Nat.le_of_ble_eq_true rfl) od_le.rf ?_
      refine r_callV2p dX10_loudest_33 cvX10_256 (by assumption) (c_X4_laySounds ha1 hq1 hs1 (by omega) (by omega) hI hlaw hqt) (by decide) (Nat.le_of_ble_eq_true rfl) od_le.rf (fun r33 g33 h33 => ?_)
      obtain ⟨rfl, f33, k33⟩ := h33
      show od_Rq _ _ _ _ _ _ _ [] _ _
      have hC := k33.C hI
      have fx : od_fr (TX o) g g33 := f33.mo (fun x y z => by unfold TX; omega)
      refine r_aload_n dX10_loudest_36 rfl ?_
      refine r_getR dX10_loudest_37 fkX10_84 gf10_12 (oO ho) (oR12 ho) ?_
      refine r_iload_n dX10_loudest_40 rfl ?_
      refine r_callV1i dX10_loudest_41 cvX10_260 (by assumption) (c_X4_loudestHour hq1 hC _) (by decide) (Nat.le_of_ble_eq_true rfl) od_le.rf ?_
      exact r_iretq dX10_loudest_44 rfl rfl ⟨by unfold cLoudestM; rw [od_ite_t (by first | assumption | omega)], fx⟩
    · refine r_iconst dX10_loudest_9 li_m1 ?_
      exact r_iretq dX10_loudest_10 rfl rfl ⟨by unfold cLoudestM; rw [od_ite_f (by first | assumption | omega)], od_fr.rf⟩
set_option maxRecDepth 10000 in
theorem c_X10_quiet {E : od_E} {g : od_G} {o : Int} (ho : OdAt E o) (hI : CI g (o + 1)) (w : Int) : od_Cf 9 mX10_quiet [(2, o), (0, w)] E g (some (0, cQuietM g (o + 1) w)) (TX o) := by
  have hs1 := oS1 ho
  obtain ⟨hk, r0, r1, r2, r3, r4, r5, r6, r7, a1, a2, a3, a4, a5, a6, a7, a8⟩ := oS1 ho
  have ha1 := oAs ho
  have hka := ha1.1
  have hq1 := oRo ho
  have hkq := hq1.1
  refine od_cqI pnX10 rfl (Nat.le_of_ble_eq_true rfl) od_le.rf ?_
  show od_Rf 9 mX10_quiet od_Z0 E (some (0, cQuietM g (o + 1) w)) (TX o) g 0 [some (2, o), some (0, w)] [] E g
  refine r_iload_n dX10_quiet_0 rfl ?_
  refine r_if_lt (tgt := 9) dX10_quiet_1 rfl (fun c1 => ?_) (fun c1 => ?_)
  · refine r_iconst dX10_quiet_9 li_m1 ?_
    exact r_iretq dX10_quiet_10 rfl rfl ⟨by unfold cQuietM; rw [od_ite_f (by first | assumption | omega)], od_fr.rf⟩
  · refine r_iload_n dX10_quiet_4 rfl ?_
    refine r_iconst dX10_quiet_5 li_1 ?_
    refine r_icmp_le (tgt := 11) dX10_quiet_6 rfl (fun c6 => ?_) (fun c6 => ?_)
    · refine r_aload_n dX10_quiet_11 rfl ?_
      refine r_getR dX10_quiet_12 fkX10_84 gf10_12 (oO ho) (oR12 ho) ?_
      refine r_aload_n dX10_quiet_15 rfl ?_
      refine r_getR dX10_quiet_16 fkX10_12 gf10_0 (oO ho) (oR0 ho) ?_
      refine r_callV1p dX10_quiet_19 cvX10_247 (by assumption) (c_X4_layStrikes ha1 hq1 hs1 (by omega) (by omega) hI) (by decide) (Nat.le_of_ble_eq_true rfl) od_le.rf (fun r19 g19 h19 => ?_)
      obtain ⟨rfl, f19, k19⟩ := h19
      show od_Rq _ _ _ _ _ _ _ [] _ _
      have hC := k19.C hI
      have fx : od_fr (TX o) g g19 := f19.mo (fun x y z => by unfold TX; omega)
      refine r_aload_n dX10_quiet_22 rfl ?_
      refine r_getR dX10_quiet_23 fkX10_84 gf10_12 (oO ho) (oR12 ho) ?_
      refine r_iload_n dX10_quiet_26 rfl ?_
      refine r_callV1i dX10_quiet_27 cvX10_263 (by assumption) (c_X4_longestQuiet hq1 hC _) (by decide) (Nat.le_of_ble_eq_true rfl) od_le.rf ?_
      exact r_iretq dX10_quiet_30 rfl rfl ⟨by unfold cQuietM; rw [od_ite_t (by first | assumption | omega)], fx⟩
    · refine r_iconst dX10_quiet_9 li_m1 ?_
      exact r_iretq dX10_quiet_10 rfl rfl ⟨by unfold cQuietM; rw [od_ite_f (by first | assumption | omega)], od_fr.rf⟩
set_option maxRecDepth 10000 in
theorem c_X10_tune {E : od_E} {g : od_G} {o : Int} (ho : OdAt E o) {cn sn : Nat} (hlaw : LawOk E g (o + 70) (cLawOf g (o + 1) (g (o + 1) 11)) cn sn) (hqt : (cLawOf g (o + 1) (g (o + 1) 11)) ≠ -1 → o + 77 + 7 ≤ (cLawOf g (o + 1) (g (o + 1) 11))) (hI : CI g (o + 1)) : od_Cf 9 mX10_tune [(2, o)] E g (some (0, cTuneM g (o + 1) sn)) (TX o) := by
  have hs1 := oS1 ho
  obtain ⟨hk, r0, r1, r2, r3, r4, r5, r6, r7, a1, a2, a3, a4, a5, a6, a7, a8⟩ := oS1 ho
  have ha1 := oAs ho
  have hka := ha1.1
  have hq1 := oRo ho
  have hkq := hq1.1
  refine od_cqI pnX10 rfl (Nat.le_of_ble_eq_true rfl) od_le.rf ?_
  show od_Rf 9 mX10_tune od_Z0 E (some (0, cTuneM g (o + 1) sn)) (TX o) g 0 [some (2, o)] [] E g
  refine r_aload_n dX10_tune_0 rfl ?_
  refine r_getR dX10_tune_1 fkX10_84 gf10_12 (oO ho) (oR12 ho) ?_
  refine r_aload_n dX10_tune_4 rfl ?_
  refine r_getR dX10_tune_5 fkX10_12 gf10_0 (oO ho) (oR0 ho) ?_
  refine r_aload_n dX10_tune_8 rfl ?_
  refine r_getR dX10_tune_9 fkX10_12 gf10_0 (oO ho) (oR0 ho) ?_
  refine r_aload_n dX10_tune_12 rfl ?_
  refine r_getR dX10_tune_13 fkX10_12 gf10_0 (oO ho) (oR0 ho) ?_
  refine r_getIj (j := 11) rfl dX10_tune_16 fkX10_156 gf6_11 (by assumption) rfl ?_
  refine r_callV1i dX10_tune_19 cvX10_159 (by assumption) (c_X6_lawOf (by assumption) _) (by decide) (Nat.le_of_ble_eq_true rfl) od_le.rf ?_
  refine r_callV2p dX10_tune_22 cvX10_256 (by assumption) (c_X4_laySounds ha1 hq1 hs1 (by omega) (by omega) hI hlaw hqt) (by decide) (Nat.le_of_ble_eq_true rfl) od_le.rf (fun r22 g22 h22 => ?_)
  obtain ⟨rfl, f22, k22⟩ := h22
  show od_Rq _ _ _ _ _ _ _ [] _ _
  have hC := k22.C hI
  have fx : od_fr (TX o) g g22 := f22.mo (fun x y z => by unfold TX; omega)
  refine r_aload_n dX10_tune_25 rfl ?_
  refine r_getR dX10_tune_26 fkX10_84 gf10_12 (oO ho) (oR12 ho) ?_
  refine r_callV0i dX10_tune_29 cvX10_285 (by assumption) (c_X4_tuneHours hq1 hC) (by decide) (Nat.le_of_ble_eq_true rfl) od_le.rf ?_
  exact r_iretq dX10_tune_32 rfl rfl ⟨rfl, fx⟩
set_option maxRecDepth 10000 in
theorem c_X10_compare {E : od_E} {g : od_G} {o : Int} (ho : OdAt E o) (n : Int) {cn sn : Nat} (hlaw : LawOk E g (o + 70) (cLawOf g (o + 1) n) cn sn) (hqt : (cLawOf g (o + 1) n) ≠ -1 → o + 77 + 7 ≤ (cLawOf g (o + 1) n)) (hI : CI g (o + 1)) : od_Cf 9 mX10_compare [(2, o), (0, n)] E g (some (0, cCmpM g (o + 1) sn n)) (TX o) := by
  have hs1 := oS1 ho
  obtain ⟨hk, r0, r1, r2, r3, r4, r5, r6, r7, a1, a2, a3, a4, a5, a6, a7, a8⟩ := oS1 ho
  have ha1 := oAs ho
  have hka := ha1.1
  have hq1 := oRo ho
  have hkq := hq1.1
  refine od_cqI pnX10 rfl (Nat.le_of_ble_eq_true rfl) od_le.rf ?_
  show od_Rf 9 mX10_compare od_Z0 E (some (0, cCmpM g (o + 1) sn n)) (TX o) g 0 [some (2, o), some (0, n)] [] E g
  refine r_iload_n dX10_compare_0 rfl ?_
  refine r_iconst dX10_compare_1 li_m1 ?_
  refine r_icmp_eq (tgt := 18) dX10_compare_2 rfl (fun c2 => ?_) (fun c2 => ?_)
  · refine r_aload_n dX10_compare_18 rfl ?_
    refine r_getR dX10_compare_19 fkX10_84 gf10_12 (oO ho) (oR12 ho) ?_
    refine r_aload_n dX10_compare_22 rfl ?_
    refine r_getR dX10_compare_23 fkX10_12 gf10_0 (oO ho) (oR0 ho) ?_
    refine r_aload_n dX10_compare_26 rfl ?_
    refine r_getR dX10_compare_27 fkX10_12 gf10_0 (oO ho) (oR0 ho) ?_
    refine r_iload_n dX10_compare_30 rfl ?_
    refine r_callV1i dX10_compare_31 cvX10_159 (by assumption) (c_X6_lawOf (by assumption) _) (by decide) (Nat.le_of_ble_eq_true rfl) od_le.rf ?_
    refine r_callV2p dX10_compare_34 cvX10_256 (by assumption) (c_X4_laySounds ha1 hq1 hs1 (by omega) (by omega) hI hlaw hqt) (by decide) (Nat.le_of_ble_eq_true rfl) od_le.rf (fun r34 g34 h34 => ?_)
    obtain ⟨rfl, f34, k34⟩ := h34
    show od_Rq _ _ _ _ _ _ _ [] _ _
    have hC := k34.C hI
    have fx : od_fr (TX o) g g34 := f34.mo (fun x y z => by unfold TX; omega)
    refine r_aload_n dX10_compare_37 rfl ?_
    refine r_getR dX10_compare_38 fkX10_84 gf10_12 (oO ho) (oR12 ho) ?_
    refine r_callV0i dX10_compare_41 cvX10_311 (by assumption) (c_X4_loudTogether hq1 hC) (by decide) (Nat.le_of_ble_eq_true rfl) od_le.rf ?_
    exact r_iretq dX10_compare_44 rfl rfl ⟨by unfold cCmpM; rw [od_ite_t (by first | assumption | omega)], fx⟩
  · refine r_aload_n dX10_compare_5 rfl ?_
    refine r_getR dX10_compare_6 fkX10_12 gf10_0 (oO ho) (oR0 ho) ?_
    refine r_iload_n dX10_compare_9 rfl ?_
    refine r_callV1i dX10_compare_10 cvX10_159 (by assumption) (c_X6_lawOf (by assumption) _) (by decide) (Nat.le_of_ble_eq_true rfl) od_le.rf ?_
    refine r_ifnonnull (tgt := 18) dX10_compare_13 rfl (fun c13 => ?_) (fun c13 => ?_)
    · refine r_aload_n dX10_compare_18 rfl ?_
      refine r_getR dX10_compare_19 fkX10_84 gf10_12 (oO ho) (oR12 ho) ?_
      refine r_aload_n dX10_compare_22 rfl ?_
      refine r_getR dX10_compare_23 fkX10_12 gf10_0 (oO ho) (oR0 ho) ?_
      refine r_aload_n dX10_compare_26 rfl ?_
      refine r_getR dX10_compare_27 fkX10_12 gf10_0 (oO ho) (oR0 ho) ?_
      refine r_iload_n dX10_compare_30 rfl ?_
      refine r_callV1i dX10_compare_31 cvX10_159 (by assumption) (c_X6_lawOf (by assumption) _) (by decide) (Nat.le_of_ble_eq_true rfl) od_le.rf ?_
      refine r_callV2p dX10_compare_34 cvX10_256 (by assumption) (c_X4_laySounds ha1 hq1 hs1 (by omega) (by omega) hI hlaw hqt) (by decide) (Nat.le_of_ble_eq_true rfl) od_le.rf (fun r34 g34 h34 => ?_)
      obtain ⟨rfl, f34, k34⟩ := h34
      show od_Rq _ _ _ _ _ _ _ [] _ _
      have hC := k34.C hI
      have fx : od_fr (TX o) g g34 := f34.mo (fun x y z => by unfold TX; omega)
      refine r_aload_n dX10_compare_37 rfl ?_
      refine r_getR dX10_compare_38 fkX10_84 gf10_12 (oO ho) (oR12 ho) ?_
      refine r_callV0i dX10_compare_41 cvX10_311 (by assumption) (c_X4_loudTogether hq1 hC) (by decide) (Nat.le_of_ble_eq_true rfl) od_le.rf ?_
      exact r_iretq dX10_compare_44 rfl rfl ⟨by unfold cCmpM; rw [od_ite_t (by first | assumption | omega)], fx⟩
    · refine r_iconst dX10_compare_16 li_m1 ?_
      exact r_iretq dX10_compare_17 rfl rfl ⟨by unfold cCmpM; rw [od_ite_f (by first | assumption | omega)], od_fr.rf⟩
theorem cTm_e {g g' : od_G} {k : Int} (h : StEq g g' k) (d : Int) (Mt : Int → Int) (L : Int) : cTm g' k d Mt L = cTm g k d Mt L := by
  funext sh
  unfold cTm
  congr 1
  funext b
  rw [show (¬ cStop g' k d ∧ cHasPin g' k d ((b + sh).tmod L)) = (¬ cStop g k d ∧ cHasPin g k d ((b + sh).tmod L)) from propext (by rw [cStop_e h, cHasPin_e h])]
noncomputable def cBsM (g : od_G) (k d wm w : Int) : Int := od_ite (cHas g k d ∧ 0 ≤ w ∧ w ≤ 1) (if w = 0 then (cBs wm (cTm g k d (cMt (cC g k (-1) 0 0) (cRound g k 0 6) (g (k + 3) d) (g (k + 1) d) (od_w (63 - od_shl 1 d))) (g (k + 1) d)) (g (k + 1) d).toNat).1 else (cBs wm (cTm g k d (cMt (cC g k (-1) 0 0) (cRound g k 0 6) (g (k + 3) d) (g (k + 1) d) (od_w (63 - od_shl 1 d))) (g (k + 1) d)) (g (k + 1) d).toNat).2) (-1)
noncomputable def cNeverM (g : od_G) (k w : Int) : Int := od_ite (0 ≤ w ∧ w ≤ 1) (if cNv (cTg (cC g k (-1) 0 0) (cRound g k 0 6)) (od_shl 1 (g k 8) - 1).toNat = 0 then -1 else if w = 0 then od_bc (cNv (cTg (cC g k (-1) 0 0) (cRound g k 0 6)) (od_shl 1 (g k 8) - 1).toNat) else cNv (cTg (cC g k (-1) 0 0) (cRound g k 0 6)) (od_shl 1 (g k 8) - 1).toNat) (-1)
noncomputable def cAddM (g : od_G) (k : Int) (sn : Nat) (st w : Int) : Int := od_ite (st ≠ 0 ∧ cHasAll g k st ∧ od_and st (g k 9) = 0 ∧ 0 ≤ w ∧ w ≤ 1) (cFA (cFn (cOk g k (cLawOf g k (g k 11)) sn (cC g k (-1) 0 0) st) (fun h => od_bc (cMs (cC g k (-1) 0 0) st h)) (cRound g k 0 6).toNat) w) (-1)
theorem cOk_e {g g' : od_G} {k t : Int} (h : StEq g g' k) (ht : t ≠ -1 → TxEq g g' t) (sn : Nat) (C : Int → Int) (st : Int) : cOk g' k t sn C st = cOk g k t sn C st := by
  funext x
  unfold cOk cBar
  refine propext ⟨fun q d d0 d1 hb z => ?_, fun q d d0 d1 hb z => ?_⟩
  · refine q d d0 d1 hb ⟨z.1, ?_, ?_⟩
    · rw [cHasBeat_e h, cBeatIn_e h]; exact z.2.1
    · rw [cHolds_e h ht, cBeatIn_e h]; exact z.2.2
  · refine q d d0 d1 hb ⟨z.1, ?_, ?_⟩
    · have y := z.2.1; rw [cHasBeat_e h, cBeatIn_e h] at y; exact y
    · have y := z.2.2; rw [cHolds_e h ht, cBeatIn_e h] at y; exact y
set_option maxRecDepth 10000 in
theorem c_X10_most {E : od_E} {g : od_G} {o : Int} (ho : OdAt E o) (hI : CI g (o + 1)) (d w : Int) : od_Cf 9 mX10_most [(2, o), (0, d), (0, w)] E g (some (0, cBsM g (o + 1) d 1 w)) (TX o) := by
  have hs1 := oS1 ho
  obtain ⟨hk, r0, r1, r2, r3, r4, r5, r6, r7, a1, a2, a3, a4, a5, a6, a7, a8⟩ := oS1 ho
  have ha1 := oAs ho
  have hka := ha1.1
  have hq1 := oRo ho
  have hkq := hq1.1
  refine od_cqI pnX10 rfl (Nat.le_of_ble_eq_true rfl) od_le.rf ?_
  show od_Rf 9 mX10_most od_Z0 E (some (0, cBsM g (o + 1) d 1 w)) (TX o) g 0 [some (2, o), some (0, d), some (0, w)] [] E g
  refine r_aload_n dX10_most_0 rfl ?_
  refine r_getR dX10_most_1 fkX10_12 gf10_0 (oO ho) (oR0 ho) ?_
  refine r_iload_n dX10_most_4 rfl ?_
  refine r_callV1b dX10_most_5 cvX10_130 (by assumption) (c_X6_has (by assumption) _) (by decide) (Nat.le_of_ble_eq_true rfl) od_le.rf (fun q5 => ?_) (fun q5 => ?_)
  · refine r_if_eq (tgt := 20) dX10_most_8 rfl (fun h => absurd h (by decide)) (fun _ => ?_)
    refine r_iload_n dX10_most_11 rfl ?_
    refine r_if_lt (tgt := 20) dX10_most_12 rfl (fun c12 => ?_) (fun c12 => ?_)
    · refine r_iconst dX10_most_20 li_m1 ?_
      exact r_iretq dX10_most_21 rfl rfl ⟨by unfold cBsM; rw [od_ite_f (fun z => by first | exact absurd z.1 (by assumption) | omega)], od_fr.rf⟩
    · refine r_iload_n dX10_most_15 rfl ?_
      refine r_iconst dX10_most_16 li_1 ?_
      refine r_icmp_le (tgt := 22) dX10_most_17 rfl (fun c17 => ?_) (fun c17 => ?_)
      · refine r_aload_n dX10_most_22 rfl ?_
        refine r_getR dX10_most_23 fkX10_84 gf10_12 (oO ho) (oR12 ho) ?_
        refine r_aload_n dX10_most_26 rfl ?_
        refine r_getR dX10_most_27 fkX10_12 gf10_0 (oO ho) (oR0 ho) ?_
        refine r_callV1p dX10_most_30 cvX10_247 (by assumption) (c_X4_layStrikes ha1 hq1 hs1 (by omega) (by omega) hI) (by decide) (Nat.le_of_ble_eq_true rfl) od_le.rf (fun r30 g30 h30 => ?_)
        obtain ⟨rfl, f30, k30⟩ := h30
        show od_Rq _ _ _ _ _ _ _ [] _ _
        have hC := k30.C hI
        have fx : od_fr (TX o) g g30 := f30.mo (fun x y z => by unfold TX; omega)
        have hs30 := TX_st fx
        refine r_aload_n dX10_most_33 rfl ?_
        refine r_getR dX10_most_34 fkX10_84 gf10_12 (oO ho) (oR12 ho) ?_
        refine r_aload_n dX10_most_37 rfl ?_
        refine r_getR dX10_most_38 fkX10_12 gf10_0 (oO ho) (oR0 ho) ?_
        refine r_iload_n dX10_most_41 rfl ?_
        refine r_iconst dX10_most_42 li_1 ?_
        refine r_iload_n dX10_most_43 rfl ?_
        refine r_callV4p dX10_most_44 cvX10_266 (by assumption) (c_X4_bestShift hq1 hC hs1 (by omega) (hI.e hs30) _ _ _ ((cHas_e hs30 _).mpr (by assumption))) (by decide) (Nat.le_of_ble_eq_true rfl) od_le.rf (fun r44 g44 h44 => ?_)
        obtain ⟨rfl, f44⟩ := h44
        show od_Rq _ _ _ _ _ _ _ ((0, _) :: _) _ _
        refine r_iretq dX10_most_47 rfl rfl ⟨?_, fx.tr (f44.mo (fun x y z => by unfold TX; omega))⟩
        unfold cBsM
        rw [od_ite_t ⟨by assumption, by omega, by omega⟩]
        rw [hs30.2.1, hs30.2.2.2.1, cTm_e hs30]
      · refine r_iconst dX10_most_20 li_m1 ?_
        exact r_iretq dX10_most_21 rfl rfl ⟨by unfold cBsM; rw [od_ite_f (fun z => by first | exact absurd z.1 (by assumption) | omega)], od_fr.rf⟩
  · refine r_if_eq (tgt := 20) dX10_most_8 rfl (fun _ => ?_) (fun h => absurd h (by decide))
    refine r_iconst dX10_most_20 li_m1 ?_
    exact r_iretq dX10_most_21 rfl rfl ⟨by unfold cBsM; rw [od_ite_f (fun z => by first | exact absurd z.1 (by assumption) | omega)], od_fr.rf⟩
set_option maxRecDepth 10000 in
theorem c_X10_least {E : od_E} {g : od_G} {o : Int} (ho : OdAt E o) (hI : CI g (o + 1)) (d w : Int) : od_Cf 9 mX10_least [(2, o), (0, d), (0, w)] E g (some (0, cBsM g (o + 1) d 0 w)) (TX o) := by
  have hs1 := oS1 ho
  obtain ⟨hk, r0, r1, r2, r3, r4, r5, r6, r7, a1, a2, a3, a4, a5, a6, a7, a8⟩ := oS1 ho
  have ha1 := oAs ho
  have hka := ha1.1
  have hq1 := oRo ho
  have hkq := hq1.1
  refine od_cqI pnX10 rfl (Nat.le_of_ble_eq_true rfl) od_le.rf ?_
  show od_Rf 9 mX10_least od_Z0 E (some (0, cBsM g (o + 1) d 0 w)) (TX o) g 0 [some (2, o), some (0, d), some (0, w)] [] E g
  refine r_aload_n dX10_least_0 rfl ?_
  refine r_getR dX10_least_1 fkX10_12 gf10_0 (oO ho) (oR0 ho) ?_
  refine r_iload_n dX10_least_4 rfl ?_
  refine r_callV1b dX10_least_5 cvX10_130 (by assumption) (c_X6_has (by assumption) _) (by decide) (Nat.le_of_ble_eq_true rfl) od_le.rf (fun q5 => ?_) (fun q5 => ?_)
  · refine r_if_eq (tgt := 20) dX10_least_8 rfl (fun h => absurd h (by decide)) (fun _ => ?_)
    refine r_iload_n dX10_least_11 rfl ?_
    refine r_if_lt (tgt := 20) dX10_least_12 rfl (fun c12 => ?_) (fun c12 => ?_)
    · refine r_iconst dX10_least_20 li_m1 ?_
      exact r_iretq dX10_least_21 rfl rfl ⟨by unfold cBsM; rw [od_ite_f (fun z => by first | exact absurd z.1 (by assumption) | omega)], od_fr.rf⟩
    · refine r_iload_n dX10_least_15 rfl ?_
      refine r_iconst dX10_least_16 li_1 ?_
      refine r_icmp_le (tgt := 22) dX10_least_17 rfl (fun c17 => ?_) (fun c17 => ?_)
      · refine r_aload_n dX10_least_22 rfl ?_
        refine r_getR dX10_least_23 fkX10_84 gf10_12 (oO ho) (oR12 ho) ?_
        refine r_aload_n dX10_least_26 rfl ?_
        refine r_getR dX10_least_27 fkX10_12 gf10_0 (oO ho) (oR0 ho) ?_
        refine r_callV1p dX10_least_30 cvX10_247 (by assumption) (c_X4_layStrikes ha1 hq1 hs1 (by omega) (by omega) hI) (by decide) (Nat.le_of_ble_eq_true rfl) od_le.rf (fun r30 g30 h30 => ?_)
        obtain ⟨rfl, f30, k30⟩ := h30
        show od_Rq _ _ _ _ _ _ _ [] _ _
        have hC := k30.C hI
        have fx : od_fr (TX o) g g30 := f30.mo (fun x y z => by unfold TX; omega)
        have hs30 := TX_st fx
        refine r_aload_n dX10_least_33 rfl ?_
        refine r_getR dX10_least_34 fkX10_84 gf10_12 (oO ho) (oR12 ho) ?_
        refine r_aload_n dX10_least_37 rfl ?_
        refine r_getR dX10_least_38 fkX10_12 gf10_0 (oO ho) (oR0 ho) ?_
        refine r_iload_n dX10_least_41 rfl ?_
        refine r_iconst dX10_least_42 li_0 ?_
        refine r_iload_n dX10_least_43 rfl ?_
        refine r_callV4p dX10_least_44 cvX10_266 (by assumption) (c_X4_bestShift hq1 hC hs1 (by omega) (hI.e hs30) _ _ _ ((cHas_e hs30 _).mpr (by assumption))) (by decide) (Nat.le_of_ble_eq_true rfl) od_le.rf (fun r44 g44 h44 => ?_)
        obtain ⟨rfl, f44⟩ := h44
        show od_Rq _ _ _ _ _ _ _ ((0, _) :: _) _ _
        refine r_iretq dX10_least_47 rfl rfl ⟨?_, fx.tr (f44.mo (fun x y z => by unfold TX; omega))⟩
        unfold cBsM
        rw [od_ite_t ⟨by assumption, by omega, by omega⟩]
        rw [hs30.2.1, hs30.2.2.2.1, cTm_e hs30]
      · refine r_iconst dX10_least_20 li_m1 ?_
        exact r_iretq dX10_least_21 rfl rfl ⟨by unfold cBsM; rw [od_ite_f (fun z => by first | exact absurd z.1 (by assumption) | omega)], od_fr.rf⟩
  · refine r_if_eq (tgt := 20) dX10_least_8 rfl (fun _ => ?_) (fun h => absurd h (by decide))
    refine r_iconst dX10_least_20 li_m1 ?_
    exact r_iretq dX10_least_21 rfl rfl ⟨by unfold cBsM; rw [od_ite_f (fun z => by first | exact absurd z.1 (by assumption) | omega)], od_fr.rf⟩
set_option maxRecDepth 10000 in
theorem c_X10_never {E : od_E} {g : od_G} {o : Int} (ho : OdAt E o) (hI : CI g (o + 1)) (w : Int) : od_Cf 9 mX10_never [(2, o), (0, w)] E g (some (0, cNeverM g (o + 1) w)) (TX o) := by
  have hs1 := oS1 ho
  obtain ⟨hk, r0, r1, r2, r3, r4, r5, r6, r7, a1, a2, a3, a4, a5, a6, a7, a8⟩ := oS1 ho
  have ha1 := oAs ho
  have hka := ha1.1
  have hq1 := oRo ho
  have hkq := hq1.1
  refine od_cqI pnX10 rfl (Nat.le_of_ble_eq_true rfl) od_le.rf ?_
  show od_Rf 9 mX10_never od_Z0 E (some (0, cNeverM g (o + 1) w)) (TX o) g 0 [some (2, o), some (0, w), none] [] E g
  refine r_iload_n dX10_never_0 rfl ?_
  refine r_if_lt (tgt := 9) dX10_never_1 rfl (fun c1 => ?_) (fun c1 => ?_)
  · refine r_iconst dX10_never_9 li_m1 ?_
    exact r_iretq dX10_never_10 rfl rfl ⟨by unfold cNeverM; rw [od_ite_f (by omega)], od_fr.rf⟩
  · refine r_iload_n dX10_never_4 rfl ?_
    refine r_iconst dX10_never_5 li_1 ?_
    refine r_icmp_le (tgt := 11) dX10_never_6 rfl (fun c6 => ?_) (fun c6 => ?_)
    · refine r_aload_n dX10_never_11 rfl ?_
      refine r_getR dX10_never_12 fkX10_84 gf10_12 (oO ho) (oR12 ho) ?_
      refine r_aload_n dX10_never_15 rfl ?_
      refine r_getR dX10_never_16 fkX10_12 gf10_0 (oO ho) (oR0 ho) ?_
      refine r_callV1p dX10_never_19 cvX10_247 (by assumption) (c_X4_layStrikes ha1 hq1 hs1 (by omega) (by omega) hI) (by decide) (Nat.le_of_ble_eq_true rfl) od_le.rf (fun r19 g19 h19 => ?_)
      obtain ⟨rfl, f19, k19⟩ := h19
      show od_Rq _ _ _ _ _ _ _ [] _ _
      have hC := k19.C hI
      have fx : od_fr (TX o) g g19 := f19.mo (fun x y z => by unfold TX; omega)
      have e8 : g19 (o + 1) 8 = g (o + 1) 8 := by rw [(TX_st fx).1]
      refine r_aload_n dX10_never_22 rfl ?_
      refine r_getR dX10_never_23 fkX10_84 gf10_12 (oO ho) (oR12 ho) ?_
      refine r_aload_n dX10_never_26 rfl ?_
      refine r_getR dX10_never_27 fkX10_12 gf10_0 (oO ho) (oR0 ho) ?_
      refine r_getIj (j := 8) rfl dX10_never_30 fkX10_117 gf6_8 (by assumption) (by first | exact e8 | rfl) ?_
      refine r_callV1p dX10_never_33 cvX10_270 (by assumption) (c_X4_neverTogether hq1 hC _ hI.1) (by decide) (Nat.le_of_ble_eq_true rfl) od_le.rf (fun r33 g33 h33 => ?_)
      obtain ⟨rfl, f33⟩ := h33
      show od_Rq _ _ _ _ _ _ _ ((0, _) :: _) _ _
      refine r_istore_n dX10_never_36 (by decide) rfl ?_
      refine r_iload_n dX10_never_37 rfl ?_
      refine r_if_ne (tgt := 43) dX10_never_38 rfl (fun c38 => ?_) (fun c38 => ?_)
      · refine r_iload_n dX10_never_43 rfl ?_
        refine r_if_ne (tgt := 54) dX10_never_44 rfl (fun c44 => ?_) (fun c44 => ?_)
        · refine r_iload_n dX10_never_54 rfl ?_
          exact r_iretq dX10_never_55 rfl rfl ⟨by unfold cNeverM; rw [od_ite_t (by omega), if_neg (by assumption)]; first | rw [if_pos (by omega)] | rw [if_neg (by omega)], fx.tr (f33.mo (fun x y z => by unfold TX; omega))⟩
        · refine r_iload_n dX10_never_47 rfl ?_
          refine r_callS1i dX10_never_48 csX10_273 (c_J6_bitCount_0f7a4 _) (by decide) (Nat.le_of_ble_eq_true rfl) od_le.rf ?_
          refine r_goto (tgt := 55) dX10_never_51 rfl ?_
          exact r_iretq dX10_never_55 rfl rfl ⟨by unfold cNeverM; rw [od_ite_t (by omega), if_neg (by assumption)]; first | rw [if_pos (by omega)] | rw [if_neg (by omega)], fx.tr (f33.mo (fun x y z => by unfold TX; omega))⟩
      · refine r_iconst dX10_never_41 li_m1 ?_
        exact r_iretq dX10_never_42 rfl rfl ⟨by unfold cNeverM; rw [od_ite_t (by omega), if_pos (by assumption)], fx.tr (f33.mo (fun x y z => by unfold TX; omega))⟩
    · refine r_iconst dX10_never_9 li_m1 ?_
      exact r_iretq dX10_never_10 rfl rfl ⟨by unfold cNeverM; rw [od_ite_f (by omega)], od_fr.rf⟩
set_option maxRecDepth 10000 in
theorem c_X10_add {E : od_E} {g : od_G} {o : Int} (ho : OdAt E o) {cn sn : Nat} (hlaw : LawOk E g (o + 70) (cLawOf g (o + 1) (g (o + 1) 11)) cn sn) (hqt : (cLawOf g (o + 1) (g (o + 1) 11)) ≠ -1 → o + 77 + 7 ≤ (cLawOf g (o + 1) (g (o + 1) 11))) (hI : CI g (o + 1)) (st w : Int) : od_Cf 9 mX10_add [(2, o), (0, st), (0, w)] E g (some (0, cAddM g (o + 1) sn st w)) (TX o) := by
  have hs1 := oS1 ho
  obtain ⟨hk, r0, r1, r2, r3, r4, r5, r6, r7, a1, a2, a3, a4, a5, a6, a7, a8⟩ := oS1 ho
  have ha1 := oAs ho
  have hka := ha1.1
  have hq1 := oRo ho
  have hkq := hq1.1
  refine od_cqI pnX10 rfl (Nat.le_of_ble_eq_true rfl) od_le.rf ?_
  show od_Rf 9 mX10_add od_Z0 E (some (0, cAddM g (o + 1) sn st w)) (TX o) g 0 [some (2, o), some (0, st), some (0, w)] [] E g
  refine r_iload_n dX10_add_0 rfl ?_
  refine r_if_eq (tgt := 36) dX10_add_1 rfl (fun c1 => ?_) (fun c1 => ?_)
  · refine r_iconst dX10_add_36 li_m1 ?_
    exact r_iretq dX10_add_37 rfl rfl ⟨by unfold cAddM; rw [od_ite_f (fun z => by first | exact absurd z.2.1 (by assumption) | exact absurd z.2.2.1 (by assumption) | exact absurd (by assumption) z.1 | omega)], od_fr.rf⟩
  · refine r_aload_n dX10_add_4 rfl ?_
    refine r_getR dX10_add_5 fkX10_12 gf10_0 (oO ho) (oR0 ho) ?_
    refine r_iload_n dX10_add_8 rfl ?_
    refine r_callV1b dX10_add_9 cvX10_244 (by assumption) (c_X6_hasAll (by assumption) _) (by decide) (Nat.le_of_ble_eq_true rfl) od_le.rf (fun q9 => ?_) (fun q9 => ?_)
    · refine r_if_eq (tgt := 36) dX10_add_12 rfl (fun h => absurd h (by decide)) (fun _ => ?_)
      refine r_iload_n dX10_add_15 rfl ?_
      refine r_aload_n dX10_add_16 rfl ?_
      refine r_getR dX10_add_17 fkX10_12 gf10_0 (oO ho) (oR0 ho) ?_
      refine r_getIj (j := 9) rfl dX10_add_20 fkX10_278 gf6_9 (by assumption) rfl ?_
      refine r_iand dX10_add_23 ?_
      refine r_if_ne (tgt := 36) dX10_add_24 rfl (fun c24 => ?_) (fun c24 => ?_)
      · refine r_iconst dX10_add_36 li_m1 ?_
        exact r_iretq dX10_add_37 rfl rfl ⟨by unfold cAddM; rw [od_ite_f (fun z => by first | exact absurd z.2.1 (by assumption) | exact absurd z.2.2.1 (by assumption) | exact absurd (by assumption) z.1 | omega)], od_fr.rf⟩
      · refine r_iload_n dX10_add_27 rfl ?_
        refine r_if_lt (tgt := 36) dX10_add_28 rfl (fun c28 => ?_) (fun c28 => ?_)
        · refine r_iconst dX10_add_36 li_m1 ?_
          exact r_iretq dX10_add_37 rfl rfl ⟨by unfold cAddM; rw [od_ite_f (fun z => by first | exact absurd z.2.1 (by assumption) | exact absurd z.2.2.1 (by assumption) | exact absurd (by assumption) z.1 | omega)], od_fr.rf⟩
        · refine r_iload_n dX10_add_31 rfl ?_
          refine r_iconst dX10_add_32 li_1 ?_
          refine r_icmp_le (tgt := 38) dX10_add_33 rfl (fun c33 => ?_) (fun c33 => ?_)
          · refine r_aload_n dX10_add_38 rfl ?_
            refine r_getR dX10_add_39 fkX10_84 gf10_12 (oO ho) (oR12 ho) ?_
            refine r_aload_n dX10_add_42 rfl ?_
            refine r_getR dX10_add_43 fkX10_12 gf10_0 (oO ho) (oR0 ho) ?_
            refine r_callV1p dX10_add_46 cvX10_247 (by assumption) (c_X4_layStrikes ha1 hq1 hs1 (by omega) (by omega) hI) (by decide) (Nat.le_of_ble_eq_true rfl) od_le.rf (fun r46 g46 h46 => ?_)
            obtain ⟨rfl, f46, k46⟩ := h46
            show od_Rq _ _ _ _ _ _ _ [] _ _
            have hC := k46.C hI
            have fx : od_fr (TX o) g g46 := f46.mo (fun x y z => by unfold TX; omega)
            have hs46 := TX_st fx
            have ht46 : cLawOf g (o + 1) (g (o + 1) 11) ≠ -1 → TxEq g g46 (cLawOf g (o + 1) (g (o + 1) 11)) := fun z => TxEq.of fx (fun x y q => by have := hqt z; unfold TX at q; omega)
            refine r_aload_n dX10_add_49 rfl ?_
            refine r_getR dX10_add_50 fkX10_84 gf10_12 (oO ho) (oR12 ho) ?_
            refine r_aload_n dX10_add_53 rfl ?_
            refine r_getR dX10_add_54 fkX10_12 gf10_0 (oO ho) (oR0 ho) ?_
            refine r_iload_n dX10_add_57 rfl ?_
            refine r_iload_n dX10_add_58 rfl ?_
            refine r_callV3p dX10_add_59 cvX10_281 (by assumption) (c_X4_fewestPins ha1 hq1 hC hs1 (by omega) (by omega) (hI.e hs46) (by rw [cLawOf_e hs46, hs46.1]; exact hlaw.e ht46) (by rw [cLawOf_e hs46, hs46.1]; exact hqt) _ _) (by decide) (Nat.le_of_ble_eq_true rfl) od_le.rf (fun r59 g59 h59 => ?_)
            obtain ⟨rfl, f59⟩ := h59
            show od_Rq _ _ _ _ _ _ _ ((0, _) :: _) _ _
            refine r_iretq dX10_add_62 rfl rfl ⟨?_, fx.tr (f59.mo (fun x y z => by unfold TX; omega))⟩
            unfold cAddM
            rw [od_ite_t ⟨by assumption, by assumption, by assumption, by omega, by omega⟩, cLawOf_e hs46, hs46.1, cOk_e hs46 ht46]
          · refine r_iconst dX10_add_36 li_m1 ?_
            exact r_iretq dX10_add_37 rfl rfl ⟨by unfold cAddM; rw [od_ite_f (fun z => by first | exact absurd z.2.1 (by assumption) | exact absurd z.2.2.1 (by assumption) | exact absurd (by assumption) z.1 | omega)], od_fr.rf⟩
    · refine r_if_eq (tgt := 36) dX10_add_12 rfl (fun _ => ?_) (fun h => absurd h (by decide))
      refine r_iconst dX10_add_36 li_m1 ?_
      exact r_iretq dX10_add_37 rfl rfl ⟨by unfold cAddM; rw [od_ite_f (fun z => by first | exact absurd z.2.1 (by assumption) | exact absurd z.2.2.1 (by assumption) | exact absurd (by assumption) z.1 | omega)], od_fr.rf⟩
