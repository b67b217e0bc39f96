/-! OrganDrums: what is small -/
def cAcc (g : od_G) (o : Int) : od_G := od_up g o 15 0
def cRef (g : od_G) (o w : Int) : od_G := od_up (od_up g o 15 w) (o + 85) (-w) (od_w (g (o + 85) (-w) + 1))
noncomputable def cSet (g : od_G) (o v : Int) : od_G := if v < 0 then cRef g o v else cAcc g o
set_option maxRecDepth 10000 in
theorem c_X10_accept {E : od_E} {g : od_G} {o : Int} (ho : OdAt E o) (v : Int) : od_Ct 1 mX10_accept [(2, o), (0, v)] E g (some (0, v), E, cAcc g o) := by
  refine od_ctI pnX10 rfl (Nat.le_of_ble_eq_true rfl) od_le.rf ?_
  show od_R _ _ _ _ _ 0 [some (2, o), some (0, v)] [] E g
  refine r_aload_n dX10_accept_0 rfl ?_
  refine r_iconst dX10_accept_1 li_0 ?_
  refine r_putIj (j := 15) rfl dX10_accept_2 fkX10_96 gf10_15 pf10_15 (oO ho) ?_
  refine r_iload_n dX10_accept_5 rfl ?_
  exact r_iret dX10_accept_6 rfl (by rfl)
set_option maxRecDepth 10000 in
theorem c_X10_refuse {E : od_E} {g : od_G} {o : Int} (ho : OdAt E o) (w : Int) (hw : -6 ≤ w ∧ w ≤ -1) : od_Ct 1 mX10_refuse [(2, o), (0, w)] E g (some (0, w), E, cRef g o w) := by
  have hrf := oRf ho
  refine od_ctI pnX10 rfl (Nat.le_of_ble_eq_true rfl) od_le.rf ?_
  show od_R _ _ _ _ _ 0 [some (2, o), some (0, w)] [] E g
  refine r_aload_n dX10_refuse_0 rfl ?_
  refine r_iload_n dX10_refuse_1 rfl ?_
  refine r_putIj (j := 15) rfl dX10_refuse_2 fkX10_96 gf10_15 pf10_15 (oO ho) ?_
  refine r_iload_n dX10_refuse_5 rfl ?_
  refine r_inegE dX10_refuse_6 (by first | exact od_wI (by omega) (by omega) | rfl) ?_
  refine r_if_lt (tgt := 31) dX10_refuse_7 rfl (fun c7 => ?_) (fun c7 => ?_)
  · refine r_iload_n dX10_refuse_31 rfl ?_
    first | (exfalso; omega) | exact r_iret dX10_refuse_32 rfl rfl
  · refine r_iload_n dX10_refuse_10 rfl ?_
    refine r_inegE dX10_refuse_11 (by first | exact od_wI (by omega) (by omega) | rfl) ?_
    refine r_aload_n dX10_refuse_12 rfl ?_
    refine r_getR dX10_refuse_13 fkX10_92 gf10_14 (oO ho) (oR14 ho) ?_
    first | refine r_len_i dX10_refuse_16 (by assumption) (by first | decide | omega) ?_ | refine r_len_b dX10_refuse_16 (by assumption) (by first | decide | omega) ?_ | refine r_len_z dX10_refuse_16 (by assumption) (by first | decide | omega) ?_ | refine r_len_l dX10_refuse_16 (by assumption) (by first | decide | omega) ?_
    refine r_icmp_ge (tgt := 31) dX10_refuse_17 rfl (fun c17 => ?_) (fun c17 => ?_)
    · refine r_iload_n dX10_refuse_31 rfl ?_
      first | (exfalso; omega) | exact r_iret dX10_refuse_32 rfl rfl
    · refine r_aload_n dX10_refuse_20 rfl ?_
      refine r_getR dX10_refuse_21 fkX10_92 gf10_14 (oO ho) (oR14 ho) ?_
      refine r_iload_n dX10_refuse_24 rfl ?_
      refine r_inegE dX10_refuse_25 (by first | exact od_wI (by omega) (by omega) | rfl) ?_
      refine r_dup2 dX10_refuse_26 (by first | exact od_ne2 | exact od_ne0) (by first | exact od_ne2 | exact od_ne0) ?_
      refine r_iald dX10_refuse_27 (by assumption) (by omega) (by first | exact od_upn (by omega) | rfl) ?_
      refine r_iconst dX10_refuse_28 li_1 ?_
      refine r_iaddE dX10_refuse_29 (by first | exact od_wI (by omega) (by omega) | rfl) ?_
      refine r_iast dX10_refuse_30 (by assumption) (by omega) ?_
      refine r_iload_n dX10_refuse_31 rfl ?_
      first | (exfalso; omega) | exact r_iret dX10_refuse_32 rfl rfl
set_option maxRecDepth 10000 in
theorem c_X10_settle {E : od_E} {g : od_G} {o : Int} (ho : OdAt E o) (v : Int) (hv : -6 ≤ v) : od_Ct 2 mX10_settle [(2, o), (0, v)] E g (some (0, v), E, cSet g o v) := by
  refine od_ctI pnX10 rfl (Nat.le_of_ble_eq_true rfl) od_le.rf ?_
  show od_R _ _ _ _ _ 0 [some (2, o), some (0, v)] [] E g
  refine r_iload_n dX10_settle_0 rfl ?_
  refine r_if_ge (tgt := 12) dX10_settle_1 rfl (fun c1 => ?_) (fun c1 => ?_)
  · refine r_aload_n dX10_settle_12 rfl ?_
    refine r_iload_n dX10_settle_13 rfl ?_
    refine r_callV1i dX10_settle_14 cvX10_127 (oO ho) (c_X10_accept ho _) (by decide) (Nat.le_of_ble_eq_true rfl) od_le.rf ?_
    exact r_iret dX10_settle_17 rfl (by unfold cSet; first | rw [if_pos (by omega)] | rw [if_neg (by omega)])
  · refine r_aload_n dX10_settle_4 rfl ?_
    refine r_iload_n dX10_settle_5 rfl ?_
    refine r_callV1i dX10_settle_6 cvX10_113 (oO ho) (c_X10_refuse ho _ (by omega)) (by decide) (Nat.le_of_ble_eq_true rfl) od_le.rf ?_
    refine r_goto (tgt := 17) dX10_settle_9 rfl ?_
    exact r_iret dX10_settle_17 rfl (by unfold cSet; first | rw [if_pos (by omega)] | rw [if_neg (by omega)])
set_option maxRecDepth 10000 in
theorem c_X10_fault {E : od_E} {g : od_G} {o : Int} (ho : OdAt E o) : od_Ct 1 mX10_fault [(2, o)] E g (some (0, g o 16), E, g) := by
  refine od_ctI pnX10 rfl (Nat.le_of_ble_eq_true rfl) od_le.rf ?_
  show od_R _ _ _ _ _ 0 [some (2, o)] [] E g
  refine r_aload_n dX10_fault_0 rfl ?_
  refine r_getIj (j := 16) rfl dX10_fault_1 fkX10_100 gf10_16 (oO ho) (by (repeat (first | rewrite [od_upn (by omega)] | rewrite [od_up_at, if_pos (by omega)] | rewrite [od_up_at, if_neg (by omega)])); rfl) ?_
  exact r_iret dX10_fault_4 rfl (by rfl)
set_option maxRecDepth 10000 in
theorem c_X10_stopped {E : od_E} {g : od_G} {o : Int} (ho : OdAt E o) : od_Ct 1 mX10_stopped [(2, o)] E g (some (0, g o 17), E, g) := by
  refine od_ctI pnX10 rfl (Nat.le_of_ble_eq_true rfl) od_le.rf ?_
  show od_R _ _ _ _ _ 0 [some (2, o)] [] E g
  refine r_aload_n dX10_stopped_0 rfl ?_
  refine r_getIj (j := 17) rfl dX10_stopped_1 fkX10_103 gf10_17 (oO ho) (by (repeat (first | rewrite [od_upn (by omega)] | rewrite [od_up_at, if_pos (by omega)] | rewrite [od_up_at, if_neg (by omega)])); rfl) ?_
  exact r_iret dX10_stopped_4 rfl (by rfl)
set_option maxRecDepth 10000 in
theorem c_X10_sleeves {E : od_E} {g : od_G} {o : Int} (ho : OdAt E o) : od_Ct 1 mX10_sleeves [(2, o)] E g (some (0, g o 18), E, g) := by
  refine od_ctI pnX10 rfl (Nat.le_of_ble_eq_true rfl) od_le.rf ?_
  show od_R _ _ _ _ _ 0 [some (2, o)] [] E g
  refine r_aload_n dX10_sleeves_0 rfl ?_
  refine r_getIj (j := 18) rfl dX10_sleeves_1 fkX10_106 gf10_18 (oO ho) (by (repeat (first | rewrite [od_upn (by omega)] | rewrite [od_up_at, if_pos (by omega)] | rewrite [od_up_at, if_neg (by omega)])); rfl) ?_
  exact r_iret dX10_sleeves_4 rfl (by rfl)
set_option maxRecDepth 10000 in
theorem c_X10_status {E : od_E} {g : od_G} {o : Int} (ho : OdAt E o) : od_Ct 1 mX10_status [(2, o)] E g (some (0, g o 15), E, g) := by
  refine od_ctI pnX10 rfl (Nat.le_of_ble_eq_true rfl) od_le.rf ?_
  show od_R _ _ _ _ _ 0 [some (2, o)] [] E g
  refine r_aload_n dX10_status_0 rfl ?_
  refine r_getIj (j := 15) rfl dX10_status_1 fkX10_96 gf10_15 (oO ho) (by (repeat (first | rewrite [od_upn (by omega)] | rewrite [od_up_at, if_pos (by omega)] | rewrite [od_up_at, if_neg (by omega)])); rfl) ?_
  exact r_iret dX10_status_4 rfl (by rfl)
noncomputable def cEndM (g : od_G) (o n : Int) : Int × od_G := od_ip (0 ≤ n ∧ n ≤ g (o + 60) 1) (n, od_up g (o + 60) 1 n) (-1, g)
set_option maxRecDepth 10000 in
theorem c_X10_end {E : od_E} {g : od_G} {o : Int} (ho : OdAt E o) (n : Int) : od_Ct 1 mX10_end [(2, o), (0, n)] E g (some (0, (cEndM g o n).1), E, (cEndM g o n).2) := by
  have ht1 := oTp ho
  obtain ⟨hkt, t0, t1⟩ := oTp ho
  refine od_ctI pnX10 rfl (Nat.le_of_ble_eq_true rfl) od_le.rf ?_
  show od_R _ _ _ _ _ 0 [some (2, o), some (0, n)] [] E g
  refine r_iload_n dX10_end_0 rfl ?_
  refine r_if_lt (tgt := 15) dX10_end_1 rfl (fun c1 => ?_) (fun c1 => ?_)
  · refine r_iconst dX10_end_15 li_m1 ?_
    exact r_iret dX10_end_16 rfl (by unfold cEndM; repeat (first | rw [od_ip_t (by first | assumption | omega)] | rw [od_ip_f (by first | assumption | omega)] | rw [od_ite_t (by first | assumption | omega)] | rw [od_ite_f (by first | assumption | omega)]))
  · refine r_iload_n dX10_end_4 rfl ?_
    refine r_aload_n dX10_end_5 rfl ?_
    refine r_getR dX10_end_6 fkX10_43 gf10_7 (oO ho) (oR7 ho) ?_
    refine r_getIj (j := 1) rfl dX10_end_9 fkX10_177 gf8_1 (by assumption) (by (repeat (first | rewrite [od_upn (by omega)] | rewrite [od_up_at, if_pos (by omega)] | rewrite [od_up_at, if_neg (by omega)])); rfl) ?_
    refine r_icmp_le (tgt := 17) dX10_end_12 rfl (fun c12 => ?_) (fun c12 => ?_)
    · refine r_aload_n dX10_end_17 rfl ?_
      refine r_getR dX10_end_18 fkX10_43 gf10_7 (oO ho) (oR7 ho) ?_
      refine r_iload_n dX10_end_21 rfl ?_
      refine r_putIj (j := 1) rfl dX10_end_22 fkX10_177 gf8_1 pf8_1 (by assumption) ?_
      refine r_iload_n dX10_end_25 rfl ?_
      exact r_iret dX10_end_26 rfl (by unfold cEndM; repeat (first | rw [od_ip_t (by first | assumption | omega)] | rw [od_ip_f (by first | assumption | omega)] | rw [od_ite_t (by first | assumption | omega)] | rw [od_ite_f (by first | assumption | omega)]))
    · refine r_iconst dX10_end_15 li_m1 ?_
      exact r_iret dX10_end_16 rfl (by unfold cEndM; repeat (first | rw [od_ip_t (by first | assumption | omega)] | rw [od_ip_f (by first | assumption | omega)] | rw [od_ite_t (by first | assumption | omega)] | rw [od_ite_f (by first | assumption | omega)]))
noncomputable def cDrumM (g : od_G) (o l kd a p : Int) : Int × od_G := od_ip (cCanHold l kd a p) (od_ip (g (o + 1) 8 < 6) (g (o + 1) 8, cAcc (cClear (cTake1 g (o + 1) l kd a p) (o + 48)) o) (-5, cRef g o (-5))) (-1, cRef g o (-1))
set_option maxRecDepth 10000 in
theorem c_X10_drum {E : od_E} {g : od_G} {o : Int} (ho : OdAt E o) (h8 : 0 ≤ g (o + 1) 8 ∧ g (o + 1) 8 ≤ 6) (l kd a p : Int) : od_Ct 2 mX10_drum [(2, o), (0, l), (0, kd), (0, a), (0, p)] E g (some (0, (cDrumM g o l kd a p).1), E, (cDrumM g o l kd a p).2) := by
  have hs1 := oS1 ho
  obtain ⟨hk, r0, r1, r2, r3, r4, r5, r6, r7, a1, a2, a3, a4, a5, a6, a7, a8⟩ := oS1 ho
  have hp1 := oP1 ho
  obtain ⟨hkp, p0, p1, p2, p3, p4, d1, d2, d3, d4, d5⟩ := oP1 ho
  refine od_ctI pnX10 rfl (Nat.le_of_ble_eq_true rfl) od_le.rf ?_
  show od_R _ _ _ _ _ 0 [some (2, o), some (0, l), some (0, kd), some (0, a), some (0, p)] [] E g
  refine r_iload_n dX10_drum_0 rfl ?_
  refine r_iload_n dX10_drum_1 rfl ?_
  refine r_iload_n dX10_drum_2 rfl ?_
  refine r_iload dX10_drum_3 rfl ?_
  refine r_callS4b dX10_drum_5 csX10_109 (c_X6_canHold _ _ _ _) (by decide) (Nat.le_of_ble_eq_true rfl) od_le.rf (fun q5 => ?_) (fun q5 => ?_)
  · refine r_if_ne (tgt := 17) dX10_drum_8 rfl (fun _ => ?_) (fun h => absurd h (by decide))
    refine r_aload_n dX10_drum_17 rfl ?_
    refine r_getR dX10_drum_18 fkX10_12 gf10_0 (oO ho) (oR0 ho) ?_
    refine r_getIj (j := 8) rfl dX10_drum_21 fkX10_117 gf6_8 (by assumption) (by first | exact eT | rfl) ?_
    refine r_bipush dX10_drum_24 lb_6 ?_
    refine r_icmp_lt (tgt := 36) dX10_drum_26 rfl (fun c26 => ?_) (fun c26 => ?_)
    · refine r_aload_n dX10_drum_36 rfl ?_
      refine r_getR dX10_drum_37 fkX10_12 gf10_0 (oO ho) (oR0 ho) ?_
      refine r_iload_n dX10_drum_40 rfl ?_
      refine r_iload_n dX10_drum_41 rfl ?_
      refine r_iload_n dX10_drum_42 rfl ?_
      refine r_iload dX10_drum_43 rfl ?_
      refine r_callV4v dX10_drum_45 cvX10_120 (by assumption) (c_X6_take (by assumption) _ _ _ _ (by omega) (by omega)) (by decide) (Nat.le_of_ble_eq_true rfl) od_le.rf ?_
      refine r_aload_n dX10_drum_48 rfl ?_
      refine r_getR dX10_drum_49 fkX10_33 gf10_5 (oO ho) (oR5 ho) ?_
      refine r_callV0v dX10_drum_52 cvX10_124 (by assumption) (c_X2_clear (by assumption)) (by decide) (Nat.le_of_ble_eq_true rfl) od_le.rf ?_
      have eT : cClear (cTake1 g (o + 1) l kd a p) (o + 48) (o + 1) 8 = g (o + 1) 8 + 1 := by
        unfold cClear cTake1
        rw [od_upn (by omega), od_upn (by omega), od_up_i]
      refine r_aload_n dX10_drum_55 rfl ?_
      refine r_aload_n dX10_drum_56 rfl ?_
      refine r_getR dX10_drum_57 fkX10_12 gf10_0 (oO ho) (oR0 ho) ?_
      refine r_getIj (j := 8) rfl dX10_drum_60 fkX10_117 gf6_8 (by assumption) (by first | exact eT | rfl) ?_
      refine r_iconst dX10_drum_63 li_1 ?_
      refine r_isubE dX10_drum_64 (by first | exact od_wI (by omega) (by omega) | rfl) ?_
      refine r_callV1i dX10_drum_65 cvX10_127 (oO ho) (c_X10_accept ho _) (by decide) (Nat.le_of_ble_eq_true rfl) od_le.rf ?_
      exact r_iret dX10_drum_68 rfl (by unfold cDrumM; rw [od_ip_t (by assumption), od_ip_t (by omega), Int.add_sub_cancel])
    · refine r_aload_n dX10_drum_29 rfl ?_
      refine r_bipush dX10_drum_30 lb_m5 ?_
      refine r_callV1i dX10_drum_32 cvX10_113 (oO ho) (c_X10_refuse ho _ (by omega)) (by decide) (Nat.le_of_ble_eq_true rfl) od_le.rf ?_
      exact r_iret dX10_drum_35 rfl (by unfold cDrumM; rw [od_ip_t (by assumption), od_ip_f (by omega)])
  · refine r_if_ne (tgt := 17) dX10_drum_8 rfl (fun h => absurd h (by decide)) (fun _ => ?_)
    refine r_aload_n dX10_drum_11 rfl ?_
    refine r_iconst dX10_drum_12 li_m1 ?_
    refine r_callV1i dX10_drum_13 cvX10_113 (oO ho) (c_X10_refuse ho _ (by omega)) (by decide) (Nat.le_of_ble_eq_true rfl) od_le.rf ?_
    exact r_iret dX10_drum_16 rfl (by unfold cDrumM; rw [od_ip_f (by assumption)])
def cTm0 (w : Int) : Int := if w = 0 then 999 else if w = 1 then 10 else 9
noncomputable def cTermsM (g : od_G) (o w v : Int) : Int × od_G := od_ip ((0 ≤ w ∧ w < 3) ∧ 0 ≤ v ∧ v ≤ cTm0 w) (g (o + 1 + 5) w, cAcc (cClear (od_up g (o + 1 + 5) w v) (o + 48)) o) (-1, cRef g o (-1))
theorem cTm0_e {w : Int} (h : 0 ≤ w ∧ w < 3) : (od_tm w.toNat).toInt = cTm0 w := by
  rcases (show w = 0 ∨ w = 1 ∨ w = 2 by omega) with rfl | rfl | rfl <;> rfl
set_option maxRecDepth 10000 in
theorem c_X10_terms {E : od_E} {g : od_G} {o : Int} (ho : OdAt E o) (w v : Int) : od_Ct 2 mX10_terms [(2, o), (0, w), (0, v)] E g (some (0, (cTermsM g o w v).1), E, (cTermsM g o w v).2) := by
  have hs1 := oS1 ho
  obtain ⟨hk, r0, r1, r2, r3, r4, r5, r6, r7, a1, a2, a3, a4, a5, a6, a7, a8⟩ := oS1 ho
  have hp1 := oP1 ho
  obtain ⟨hkp, p0, p1, p2, p3, p4, d1, d2, d3, d4, d5⟩ := oP1 ho
  refine od_ctI pnX10 rfl (Nat.le_of_ble_eq_true rfl) od_le.rf ?_
  show od_R _ _ _ _ _ 0 [some (2, o), some (0, w), some (0, v), none] [] E g
  refine r_iload_n dX10_terms_0 rfl ?_
  refine r_if_lt (tgt := 25) dX10_terms_1 rfl (fun c1 => ?_) (fun c1 => ?_)
  · refine r_aload_n dX10_terms_25 rfl ?_
    refine r_iconst dX10_terms_26 li_m1 ?_
    refine r_callV1i dX10_terms_27 cvX10_113 (oO ho) (c_X10_refuse ho _ (by omega)) (by decide) (Nat.le_of_ble_eq_true rfl) od_le.rf ?_
    exact r_iret dX10_terms_30 rfl (by unfold cTermsM; first | rw [od_ip_t (by omega)] | rw [od_ip_f (by omega)])
  · refine r_iload_n dX10_terms_4 rfl ?_
    refine r_gs_tm rfl dX10_terms_5 ?_
    refine r_ln_tm dX10_terms_8 ?_
    refine r_icmp_ge (tgt := 25) dX10_terms_9 rfl (fun c9 => ?_) (fun c9 => ?_)
    · refine r_aload_n dX10_terms_25 rfl ?_
      refine r_iconst dX10_terms_26 li_m1 ?_
      refine r_callV1i dX10_terms_27 cvX10_113 (oO ho) (c_X10_refuse ho _ (by omega)) (by decide) (Nat.le_of_ble_eq_true rfl) od_le.rf ?_
      exact r_iret dX10_terms_30 rfl (by unfold cTermsM; first | rw [od_ip_t (by omega)] | rw [od_ip_f (by omega)])
    · refine r_iload_n dX10_terms_12 rfl ?_
      refine r_if_lt (tgt := 25) dX10_terms_13 rfl (fun c13 => ?_) (fun c13 => ?_)
      · refine r_aload_n dX10_terms_25 rfl ?_
        refine r_iconst dX10_terms_26 li_m1 ?_
        refine r_callV1i dX10_terms_27 cvX10_113 (oO ho) (c_X10_refuse ho _ (by omega)) (by decide) (Nat.le_of_ble_eq_true rfl) od_le.rf ?_
        exact r_iret dX10_terms_30 rfl (by unfold cTermsM; first | rw [od_ip_t (by omega)] | rw [od_ip_f (by omega)])
      · refine r_iload_n dX10_terms_16 rfl ?_
        refine r_gs_tm rfl dX10_terms_17 ?_
        refine r_iload_n dX10_terms_20 rfl ?_
        refine r_il_tm dX10_terms_21 (by omega) rfl ?_
        rw [cTm0_e (by omega)]
        refine r_icmp_le (tgt := 31) dX10_terms_22 rfl (fun c22 => ?_) (fun c22 => ?_)
        · refine r_aload_n dX10_terms_31 rfl ?_
          refine r_getR dX10_terms_32 fkX10_12 gf10_0 (oO ho) (oR0 ho) ?_
          refine r_getR dX10_terms_35 fkX10_174 gf6_4 (by assumption) (by assumption) ?_
          refine r_iload_n dX10_terms_38 rfl ?_
          refine r_iald dX10_terms_39 (by assumption) (by omega) rfl ?_
          refine r_istore_n dX10_terms_40 (by decide) rfl ?_
          refine r_aload_n dX10_terms_41 rfl ?_
          refine r_getR dX10_terms_42 fkX10_12 gf10_0 (oO ho) (oR0 ho) ?_
          refine r_getR dX10_terms_45 fkX10_174 gf6_4 (by assumption) (by assumption) ?_
          refine r_iload_n dX10_terms_48 rfl ?_
          refine r_iload_n dX10_terms_49 rfl ?_
          refine r_iast dX10_terms_50 (by assumption) (by omega) ?_
          refine r_aload_n dX10_terms_51 rfl ?_
          refine r_getR dX10_terms_52 fkX10_33 gf10_5 (oO ho) (oR5 ho) ?_
          refine r_callV0v dX10_terms_55 cvX10_124 (by assumption) (c_X2_clear (by assumption)) (by decide) (Nat.le_of_ble_eq_true rfl) od_le.rf ?_
          refine r_aload_n dX10_terms_58 rfl ?_
          refine r_iload_n dX10_terms_59 rfl ?_
          refine r_callV1i dX10_terms_60 cvX10_127 (oO ho) (c_X10_accept ho _) (by decide) (Nat.le_of_ble_eq_true rfl) od_le.rf ?_
          exact r_iret dX10_terms_63 rfl (by unfold cTermsM; first | rw [od_ip_t (by omega)] | rw [od_ip_f (by omega)])
        · refine r_aload_n dX10_terms_25 rfl ?_
          refine r_iconst dX10_terms_26 li_m1 ?_
          refine r_callV1i dX10_terms_27 cvX10_113 (oO ho) (c_X10_refuse ho _ (by omega)) (by decide) (Nat.le_of_ble_eq_true rfl) od_le.rf ?_
          exact r_iret dX10_terms_30 rfl (by unfold cTermsM; first | rw [od_ip_t (by omega)] | rw [od_ip_f (by omega)])
noncomputable def cForceM (g : od_G) (o n : Int) : Int × od_G := od_ip (n = -1 ∨ cLawOf g (o + 1) n ≠ -1) (g (o + 1) 11, cAcc (od_up g (o + 1) 11 n) o) (-2, cRef g o (-2))
set_option maxRecDepth 10000 in
theorem c_X10_force {E : od_E} {g : od_G} {o : Int} (ho : OdAt E o) (n : Int) : od_Ct 2 mX10_force [(2, o), (0, n)] E g (some (0, (cForceM g o n).1), E, (cForceM g o n).2) := by
  have hs1 := oS1 ho
  obtain ⟨hk, r0, r1, r2, r3, r4, r5, r6, r7, a1, a2, a3, a4, a5, a6, a7, a8⟩ := oS1 ho
  refine od_ctI pnX10 rfl (Nat.le_of_ble_eq_true rfl) od_le.rf ?_
  show od_R _ _ _ _ _ 0 [some (2, o), some (0, n), none] [] E g
  refine r_iload_n dX10_force_0 rfl ?_
  refine r_iconst dX10_force_1 li_m1 ?_
  refine r_icmp_eq (tgt := 23) dX10_force_2 rfl (fun c2 => ?_) (fun c2 => ?_)
  · refine r_aload_n dX10_force_23 rfl ?_
    refine r_getR dX10_force_24 fkX10_12 gf10_0 (oO ho) (oR0 ho) ?_
    refine r_getIj (j := 11) rfl dX10_force_27 fkX10_156 gf6_11 (by assumption) rfl ?_
    refine r_istore_n dX10_force_30 (by decide) rfl ?_
    refine r_aload_n dX10_force_31 rfl ?_
    refine r_getR dX10_force_32 fkX10_12 gf10_0 (oO ho) (oR0 ho) ?_
    refine r_iload_n dX10_force_35 rfl ?_
    refine r_putIj (j := 11) rfl dX10_force_36 fkX10_156 gf6_11 pf6_11 (by assumption) ?_
    refine r_aload_n dX10_force_39 rfl ?_
    refine r_iload_n dX10_force_40 rfl ?_
    refine r_callV1i dX10_force_41 cvX10_127 (oO ho) (c_X10_accept ho _) (by decide) (Nat.le_of_ble_eq_true rfl) od_le.rf ?_
    exact r_iret dX10_force_44 rfl (by unfold cForceM; repeat (first | rw [od_ip_t (by first | assumption | omega)] | rw [od_ip_f (by first | assumption | omega)] | rw [od_ite_t (by first | assumption | omega)] | rw [od_ite_f (by first | assumption | omega)]))
  · refine r_aload_n dX10_force_5 rfl ?_
    refine r_getR dX10_force_6 fkX10_12 gf10_0 (oO ho) (oR0 ho) ?_
    refine r_iload_n dX10_force_9 rfl ?_
    refine r_callV1i dX10_force_10 cvX10_159 (by assumption) (c_X6_lawOf (by assumption) _) (by decide) (Nat.le_of_ble_eq_true rfl) od_le.rf ?_
    refine r_ifnonnull (tgt := 23) dX10_force_13 rfl (fun c13 => ?_) (fun c13 => ?_)
    · refine r_aload_n dX10_force_23 rfl ?_
      refine r_getR dX10_force_24 fkX10_12 gf10_0 (oO ho) (oR0 ho) ?_
      refine r_getIj (j := 11) rfl dX10_force_27 fkX10_156 gf6_11 (by assumption) rfl ?_
      refine r_istore_n dX10_force_30 (by decide) rfl ?_
      refine r_aload_n dX10_force_31 rfl ?_
      refine r_getR dX10_force_32 fkX10_12 gf10_0 (oO ho) (oR0 ho) ?_
      refine r_iload_n dX10_force_35 rfl ?_
      refine r_putIj (j := 11) rfl dX10_force_36 fkX10_156 gf6_11 pf6_11 (by assumption) ?_
      refine r_aload_n dX10_force_39 rfl ?_
      refine r_iload_n dX10_force_40 rfl ?_
      refine r_callV1i dX10_force_41 cvX10_127 (oO ho) (c_X10_accept ho _) (by decide) (Nat.le_of_ble_eq_true rfl) od_le.rf ?_
      exact r_iret dX10_force_44 rfl (by unfold cForceM; repeat (first | rw [od_ip_t (by first | assumption | omega)] | rw [od_ip_f (by first | assumption | omega)] | rw [od_ite_t (by first | assumption | omega)] | rw [od_ite_f (by first | assumption | omega)]))
    · refine r_aload_n dX10_force_16 rfl ?_
      refine r_bipush dX10_force_17 lb_m2 ?_
      refine r_callV1i dX10_force_19 cvX10_113 (oO ho) (c_X10_refuse ho _ (by omega)) (by decide) (Nat.le_of_ble_eq_true rfl) od_le.rf ?_
      exact r_iret dX10_force_22 rfl (by unfold cForceM; repeat (first | rw [od_ip_t (by first | assumption | omega)] | rw [od_ip_f (by first | assumption | omega)] | rw [od_ite_t (by first | assumption | omega)] | rw [od_ite_f (by first | assumption | omega)]))
noncomputable def cHeardM (g : od_G) (o h w : Int) : Int × od_G := od_ip ((0 ≤ h ∧ h < 100) ∧ 0 ≤ w ∧ w ≤ 1) (od_ip (g (o + 1) 12 < 6) (g (o + 1) 12 + 1, cAcc (od_up (od_up (od_up g (o + 1 + 7) (g (o + 1) 12) h) (o + 1 + 8) (g (o + 1) 12) w) (o + 1) 12 (g (o + 1) 12 + 1)) o) (-5, cRef g o (-5))) (-1, cRef g o (-1))
set_option maxRecDepth 10000 in
theorem c_X10_heard {E : od_E} {g : od_G} {o : Int} (ho : OdAt E o) (h12 : 0 ≤ g (o + 1) 12 ∧ g (o + 1) 12 ≤ 6) (h w : Int) : od_Ct 2 mX10_heard [(2, o), (0, h), (0, w)] E g (some (0, (cHeardM g o h w).1), E, (cHeardM g o h w).2) := by
  have hs1 := oS1 ho
  obtain ⟨hk, r0, r1, r2, r3, r4, r5, r6, r7, a1, a2, a3, a4, a5, a6, a7, a8⟩ := oS1 ho
  refine od_ctI pnX10 rfl (Nat.le_of_ble_eq_true rfl) od_le.rf ?_
  show od_R _ _ _ _ _ 0 [some (2, o), some (0, h), some (0, w), none] [] E g
  refine r_iload_n dX10_heard_0 rfl ?_
  refine r_if_lt (tgt := 19) dX10_heard_1 rfl (fun c1 => ?_) (fun c1 => ?_)
  · refine r_aload_n dX10_heard_19 rfl ?_
    refine r_iconst dX10_heard_20 li_m1 ?_
    refine r_callV1i dX10_heard_21 cvX10_113 (oO ho) (c_X10_refuse ho _ (by omega)) (by decide) (Nat.le_of_ble_eq_true rfl) od_le.rf ?_
    exact r_iret dX10_heard_24 rfl (by unfold cHeardM; rw [od_ip_f (by omega)])
  · refine r_iload_n dX10_heard_4 rfl ?_
    refine r_bipush dX10_heard_5 lb_100 ?_
    refine r_icmp_ge (tgt := 19) dX10_heard_7 rfl (fun c7 => ?_) (fun c7 => ?_)
    · refine r_aload_n dX10_heard_19 rfl ?_
      refine r_iconst dX10_heard_20 li_m1 ?_
      refine r_callV1i dX10_heard_21 cvX10_113 (oO ho) (c_X10_refuse ho _ (by omega)) (by decide) (Nat.le_of_ble_eq_true rfl) od_le.rf ?_
      exact r_iret dX10_heard_24 rfl (by unfold cHeardM; rw [od_ip_f (by omega)])
    · refine r_iload_n dX10_heard_10 rfl ?_
      refine r_if_lt (tgt := 19) dX10_heard_11 rfl (fun c11 => ?_) (fun c11 => ?_)
      · refine r_aload_n dX10_heard_19 rfl ?_
        refine r_iconst dX10_heard_20 li_m1 ?_
        refine r_callV1i dX10_heard_21 cvX10_113 (oO ho) (c_X10_refuse ho _ (by omega)) (by decide) (Nat.le_of_ble_eq_true rfl) od_le.rf ?_
        exact r_iret dX10_heard_24 rfl (by unfold cHeardM; rw [od_ip_f (by omega)])
      · refine r_iload_n dX10_heard_14 rfl ?_
        refine r_iconst dX10_heard_15 li_1 ?_
        refine r_icmp_le (tgt := 25) dX10_heard_16 rfl (fun c16 => ?_) (fun c16 => ?_)
        · refine r_aload_n dX10_heard_25 rfl ?_
          refine r_getR dX10_heard_26 fkX10_12 gf10_0 (oO ho) (oR0 ho) ?_
          refine r_getIj (j := 12) rfl dX10_heard_29 fkX10_289 gf6_12 (by assumption) rfl ?_
          refine r_istore_n dX10_heard_32 (by decide) rfl ?_
          refine r_iload_n dX10_heard_33 rfl ?_
          refine r_bipush dX10_heard_34 lb_6 ?_
          refine r_icmp_lt (tgt := 46) dX10_heard_36 rfl (fun c36 => ?_) (fun c36 => ?_)
          · refine r_aload_n dX10_heard_46 rfl ?_
            refine r_getR dX10_heard_47 fkX10_12 gf10_0 (oO ho) (oR0 ho) ?_
            refine r_getR dX10_heard_50 fkX10_292 gf6_6 (by assumption) (by assumption) ?_
            refine r_iload_n dX10_heard_53 rfl ?_
            refine r_iload_n dX10_heard_54 rfl ?_
            refine r_iast dX10_heard_55 (by assumption) (by omega) ?_
            refine r_aload_n dX10_heard_56 rfl ?_
            refine r_getR dX10_heard_57 fkX10_12 gf10_0 (oO ho) (oR0 ho) ?_
            refine r_getR dX10_heard_60 fkX10_295 gf6_7 (by assumption) (by assumption) ?_
            refine r_iload_n dX10_heard_63 rfl ?_
            refine r_iload_n dX10_heard_64 rfl ?_
            refine r_iconst dX10_heard_65 li_1 ?_
            refine r_icmp_ne (tgt := 73) dX10_heard_66 rfl (fun c66 => ?_) (fun c66 => ?_)
            · refine r_iconst dX10_heard_73 li_0 ?_
              refine r_zast dX10_heard_74 (by first | exact Or.inl rfl | exact Or.inr rfl | omega | assumption) (by assumption) (by omega) ?_
              refine r_aload_n dX10_heard_75 rfl ?_
              refine r_getR dX10_heard_76 fkX10_12 gf10_0 (oO ho) (oR0 ho) ?_
              refine r_iload_n dX10_heard_79 rfl ?_
              refine r_iconst dX10_heard_80 li_1 ?_
              refine r_iaddE dX10_heard_81 (by first | exact od_w0 (by omega) (by omega) | exact od_wI (by omega) (by omega) | rfl) ?_
              refine r_putIj (j := 12) rfl dX10_heard_82 fkX10_289 gf6_12 pf6_12 (by assumption) ?_
              refine r_aload_n dX10_heard_85 rfl ?_
              refine r_iload_n dX10_heard_86 rfl ?_
              refine r_iconst dX10_heard_87 li_1 ?_
              refine r_iaddE dX10_heard_88 (by first | exact od_w0 (by omega) (by omega) | exact od_wI (by omega) (by omega) | rfl) ?_
              refine r_callV1i dX10_heard_89 cvX10_127 (oO ho) (c_X10_accept ho _) (by decide) (Nat.le_of_ble_eq_true rfl) od_le.rf ?_
              exact r_iret dX10_heard_92 rfl (by unfold cHeardM; rw [od_ip_t (by omega), od_ip_t (by omega)]; first | (rw [show w = 1 by omega]; done) | (rw [show w = 1 by omega]) | rw [show w = 0 by omega])
            · refine r_iconst dX10_heard_69 li_1 ?_
              refine r_goto (tgt := 74) dX10_heard_70 rfl ?_
              refine r_zast dX10_heard_74 (by first | exact Or.inl rfl | exact Or.inr rfl | omega | assumption) (by assumption) (by omega) ?_
              refine r_aload_n dX10_heard_75 rfl ?_
              refine r_getR dX10_heard_76 fkX10_12 gf10_0 (oO ho) (oR0 ho) ?_
              refine r_iload_n dX10_heard_79 rfl ?_
              refine r_iconst dX10_heard_80 li_1 ?_
              refine r_iaddE dX10_heard_81 (by first | exact od_w0 (by omega) (by omega) | exact od_wI (by omega) (by omega) | rfl) ?_
              refine r_putIj (j := 12) rfl dX10_heard_82 fkX10_289 gf6_12 pf6_12 (by assumption) ?_
              refine r_aload_n dX10_heard_85 rfl ?_
              refine r_iload_n dX10_heard_86 rfl ?_
              refine r_iconst dX10_heard_87 li_1 ?_
              refine r_iaddE dX10_heard_88 (by first | exact od_w0 (by omega) (by omega) | exact od_wI (by omega) (by omega) | rfl) ?_
              refine r_callV1i dX10_heard_89 cvX10_127 (oO ho) (c_X10_accept ho _) (by decide) (Nat.le_of_ble_eq_true rfl) od_le.rf ?_
              exact r_iret dX10_heard_92 rfl (by unfold cHeardM; rw [od_ip_t (by omega), od_ip_t (by omega)]; first | (rw [show w = 1 by omega]; done) | (rw [show w = 1 by omega]) | rw [show w = 0 by omega])
          · refine r_aload_n dX10_heard_39 rfl ?_
            refine r_bipush dX10_heard_40 lb_m5 ?_
            refine r_callV1i dX10_heard_42 cvX10_113 (oO ho) (c_X10_refuse ho _ (by omega)) (by decide) (Nat.le_of_ble_eq_true rfl) od_le.rf ?_
            exact r_iret dX10_heard_45 rfl (by unfold cHeardM; rw [od_ip_t (by omega), od_ip_f (by omega)])
        · refine r_aload_n dX10_heard_19 rfl ?_
          refine r_iconst dX10_heard_20 li_m1 ?_
          refine r_callV1i dX10_heard_21 cvX10_113 (oO ho) (c_X10_refuse ho _ (by omega)) (by decide) (Nat.le_of_ble_eq_true rfl) od_le.rf ?_
          exact r_iret dX10_heard_24 rfl (by unfold cHeardM; rw [od_ip_f (by omega)])
set_option maxRecDepth 10000 in
theorem c_X10_forget {E : od_E} {g : od_G} {o : Int} (ho : OdAt E o) : od_Ct 1 mX10_forget [(2, o)] E g (some (0, g (o + 1) 12), E, od_up g (o + 1) 12 0) := by
  have hs1 := oS1 ho
  obtain ⟨hk, r0, r1, r2, r3, r4, r5, r6, r7, a1, a2, a3, a4, a5, a6, a7, a8⟩ := oS1 ho
  refine od_ctI pnX10 rfl (Nat.le_of_ble_eq_true rfl) od_le.rf ?_
  show od_R _ _ _ _ _ 0 [some (2, o), none] [] E g
  refine r_aload_n dX10_forget_0 rfl ?_
  refine r_getR dX10_forget_1 fkX10_12 gf10_0 (oO ho) (oR0 ho) ?_
  refine r_getIj (j := 12) rfl dX10_forget_4 fkX10_289 gf6_12 (by assumption) (by (repeat (first | rewrite [od_upn (by omega)] | rewrite [od_up_at, if_pos (by omega)] | rewrite [od_up_at, if_neg (by omega)])); rfl) ?_
  refine r_istore_n dX10_forget_7 (by decide) rfl ?_
  refine r_aload_n dX10_forget_8 rfl ?_
  refine r_getR dX10_forget_9 fkX10_12 gf10_0 (oO ho) (oR0 ho) ?_
  refine r_iconst dX10_forget_12 li_0 ?_
  refine r_putIj (j := 12) rfl dX10_forget_13 fkX10_289 gf6_12 pf6_12 (by assumption) ?_
  refine r_iload_n dX10_forget_16 rfl ?_
  exact r_iret dX10_forget_17 rfl (by rfl)
noncomputable def cFeedM (g : od_G) (o a b c d e : Int) : Int × od_G := od_ip (g (o + 60) 1 + 20 ≤ 400) (cPut (cPut (cPut (cPut (cPut g (o + 60) a) (o + 60) b) (o + 60) c) (o + 60) d) (o + 60) e (o + 60) 1, cPut (cPut (cPut (cPut (cPut g (o + 60) a) (o + 60) b) (o + 60) c) (o + 60) d) (o + 60) e) (-1, g)
theorem cPut_n (g : od_G) (t n : Int) : cPut g t n t 1 = g t 1 + 4 := by
  unfold cPut cPut1
  simp only [od_up_i, od_upn (show t ≠ t + 1 by omega)]
  omega
set_option maxRecDepth 10000 in
theorem c_X10_feed {E : od_E} {g : od_G} {o : Int} (ho : OdAt E o) (hl : 0 ≤ g (o + 60) 1 ∧ g (o + 60) 1 ≤ 400) (a b c d e : Int) : od_Ct 2 mX10_feed [(2, o), (0, a), (0, b), (0, c), (0, d), (0, e)] E g (some (0, (cFeedM g o a b c d e).1), E, (cFeedM g o a b c d e).2) := by
  have ht1 := oTp ho
  obtain ⟨hkt, t0, t1⟩ := oTp ho
  refine od_ctI pnX10 rfl (Nat.le_of_ble_eq_true rfl) od_le.rf ?_
  show od_R _ _ _ _ _ 0 [some (2, o), some (0, a), some (0, b), some (0, c), some (0, d), some (0, e)] [] E g
  refine r_aload_n dX10_feed_0 rfl ?_
  refine r_getR dX10_feed_1 fkX10_43 gf10_7 (oO ho) (oR7 ho) ?_
  refine r_getIj (j := 1) rfl dX10_feed_4 fkX10_177 gf8_1 (by assumption) rfl ?_
  refine r_bipush dX10_feed_7 lb_20 ?_
  refine r_iaddE dX10_feed_9 (by first | exact od_w0 (by omega) (by omega) | exact od_wI (by omega) (by omega) | rfl) ?_
  refine r_sipush dX10_feed_10 ls_400 ?_
  refine r_icmp_le (tgt := 18) dX10_feed_13 rfl (fun c13 => ?_) (fun c13 => ?_)
  · refine r_aload_n dX10_feed_18 rfl ?_
    refine r_getR dX10_feed_19 fkX10_43 gf10_7 (oO ho) (oR7 ho) ?_
    refine r_iload_n dX10_feed_22 rfl ?_
    refine r_callV1v dX10_feed_23 cvX10_180 (by assumption) (c_X8_put ht1 _ (by omega)) (by decide) (Nat.le_of_ble_eq_true rfl) od_le.rf ?_
    refine r_aload_n dX10_feed_26 rfl ?_
    refine r_getR dX10_feed_27 fkX10_43 gf10_7 (oO ho) (oR7 ho) ?_
    refine r_iload_n dX10_feed_30 rfl ?_
    refine r_callV1v dX10_feed_31 cvX10_180 (by assumption) (c_X8_put ht1 _ (by simp only [cPut_n]; omega)) (by decide) (Nat.le_of_ble_eq_true rfl) od_le.rf ?_
    refine r_aload_n dX10_feed_34 rfl ?_
    refine r_getR dX10_feed_35 fkX10_43 gf10_7 (oO ho) (oR7 ho) ?_
    refine r_iload_n dX10_feed_38 rfl ?_
    refine r_callV1v dX10_feed_39 cvX10_180 (by assumption) (c_X8_put ht1 _ (by simp only [cPut_n]; omega)) (by decide) (Nat.le_of_ble_eq_true rfl) od_le.rf ?_
    refine r_aload_n dX10_feed_42 rfl ?_
    refine r_getR dX10_feed_43 fkX10_43 gf10_7 (oO ho) (oR7 ho) ?_
    refine r_iload dX10_feed_46 rfl ?_
    refine r_callV1v dX10_feed_48 cvX10_180 (by assumption) (c_X8_put ht1 _ (by simp only [cPut_n]; omega)) (by decide) (Nat.le_of_ble_eq_true rfl) od_le.rf ?_
    refine r_aload_n dX10_feed_51 rfl ?_
    refine r_getR dX10_feed_52 fkX10_43 gf10_7 (oO ho) (oR7 ho) ?_
    refine r_iload dX10_feed_55 rfl ?_
    refine r_callV1v dX10_feed_57 cvX10_180 (by assumption) (c_X8_put ht1 _ (by simp only [cPut_n]; omega)) (by decide) (Nat.le_of_ble_eq_true rfl) od_le.rf ?_
    refine r_aload_n dX10_feed_60 rfl ?_
    refine r_getR dX10_feed_61 fkX10_43 gf10_7 (oO ho) (oR7 ho) ?_
    refine r_getIj (j := 1) rfl dX10_feed_64 fkX10_177 gf8_1 (by assumption) rfl ?_
    exact r_iret dX10_feed_67 rfl (by unfold cFeedM; repeat (first | rw [od_ip_t (by first | assumption | omega)] | rw [od_ip_f (by first | assumption | omega)] | rw [od_ite_t (by first | assumption | omega)] | rw [od_ite_f (by first | assumption | omega)]))
  · refine r_iconst dX10_feed_16 li_m1 ?_
    exact r_iret dX10_feed_17 rfl (by unfold cFeedM; repeat (first | rw [od_ip_t (by first | assumption | omega)] | rw [od_ip_f (by first | assumption | omega)] | rw [od_ite_t (by first | assumption | omega)] | rw [od_ite_f (by first | assumption | omega)]))
noncomputable def cUndoM (g : od_G) (o : Int) : Int × od_G := od_ip (g (o + 48) 6 = 0) (-3, cRef g o (-3)) (g (o + 48 + 1) (cGiveS g (o + 48)), cAcc (cGive g (o + 48) (o + 1)) o)
set_option maxRecDepth 10000 in
theorem c_X10_undo {E : od_E} {g : od_G} {o : Int} (ho : OdAt E o) (h5 : 0 ≤ g (o + 48) 5 ∧ g (o + 48) 5 < 16) (h6 : 0 ≤ g (o + 48) 6 ∧ g (o + 48) 6 ≤ 16) : od_Ct 2 mX10_undo [(2, o)] E g (some (0, (cUndoM g o).1), E, (cUndoM g o).2) := by
  have hs1 := oS1 ho
  obtain ⟨hk, r0, r1, r2, r3, r4, r5, r6, r7, a1, a2, a3, a4, a5, a6, a7, a8⟩ := oS1 ho
  have hp1 := oP1 ho
  obtain ⟨hkp, p0, p1, p2, p3, p4, d1, d2, d3, d4, d5⟩ := oP1 ho
  refine od_ctI pnX10 rfl (Nat.le_of_ble_eq_true rfl) od_le.rf ?_
  show od_R _ _ _ _ _ 0 [some (2, o)] [] E g
  refine r_aload_n dX10_undo_0 rfl ?_
  refine r_getR dX10_undo_1 fkX10_33 gf10_5 (oO ho) (oR5 ho) ?_
  refine r_getIj (j := 6) rfl dX10_undo_4 fkX10_229 gf2_6 (by assumption) rfl ?_
  refine r_if_ne (tgt := 17) dX10_undo_7 rfl (fun c7 => ?_) (fun c7 => ?_)
  · refine r_aload_n dX10_undo_17 rfl ?_
    refine r_aload_n dX10_undo_18 rfl ?_
    refine r_getR dX10_undo_19 fkX10_33 gf10_5 (oO ho) (oR5 ho) ?_
    refine r_aload_n dX10_undo_22 rfl ?_
    refine r_getR dX10_undo_23 fkX10_12 gf10_0 (oO ho) (oR0 ho) ?_
    refine r_callV1i dX10_undo_26 cvX10_232 (by assumption) (c_X2_giveBack hp1 hs1 (by omega) (by omega) (by omega)) (by decide) (Nat.le_of_ble_eq_true rfl) od_le.rf ?_
    refine r_callV1i dX10_undo_29 cvX10_127 (oO ho) (c_X10_accept ho _) (by decide) (Nat.le_of_ble_eq_true rfl) od_le.rf ?_
    exact r_iret dX10_undo_32 rfl (by unfold cUndoM; repeat (first | rw [od_ip_t (by first | assumption | omega)] | rw [od_ip_f (by first | assumption | omega)] | rw [od_ite_t (by first | assumption | omega)] | rw [od_ite_f (by first | assumption | omega)]))
  · refine r_aload_n dX10_undo_10 rfl ?_
    refine r_bipush dX10_undo_11 lb_m3 ?_
    refine r_callV1i dX10_undo_13 cvX10_113 (oO ho) (c_X10_refuse ho _ (by omega)) (by decide) (Nat.le_of_ble_eq_true rfl) od_le.rf ?_
    exact r_iret dX10_undo_16 rfl (by unfold cUndoM; repeat (first | rw [od_ip_t (by first | assumption | omega)] | rw [od_ip_f (by first | assumption | omega)] | rw [od_ite_t (by first | assumption | omega)] | rw [od_ite_f (by first | assumption | omega)]))
