/-! OrganDrums: what is asked -/
def cRefs (E : od_E) (g : od_G) (k : Int) : Prop := (∀ y : Int, 0 ≤ y → y < 6 → g (k + 6) y = -1 ∨ (E.2.1 (g (k + 6) y)).1 = 9) ∧ ∀ y : Int, 0 ≤ y → y < 6 → g (k + 8) y = 0 ∨ g (k + 8) y = 1
def cImg (g : od_G) (o : Int) : Prop := g (o + 28) 0 = o + 29 ∧ g (o + 28) 1 = o + 38
theorem cImg_at {g : od_G} {o k : Int} (h : cImg g o) (hk : 0 ≤ k ∧ k < 2) : g (o + 28) k = o + 29 + 9 * k := by
  rcases (show k = 0 ∨ k = 1 by omega) with rfl | rfl
  · rw [h.1]; omega
  · rw [h.2]; omega
theorem oSi {E : od_E} {o k : Int} (ho : OdAt E o) (hk : 0 ≤ k ∧ k < 2) : StAt E (o + 29 + 9 * k) := by
  rcases (show k = 0 ∨ k = 1 by omega) with rfl | rfl
  · rw [show o + 29 + 9 * 0 = o + 29 by omega]; exact oS4 ho
  · rw [show o + 29 + 9 * 1 = o + 38 by omega]; exact oS5 ho
noncomputable def cImageM (g : od_G) (o k : Int) : Int × od_G := od_ip (0 ≤ k ∧ k < 2) (0, cAcc (od_up (cBecome g (o + 29 + 9 * k) (o + 1)) (o + 47) k 1) o) (-1, cRef g o (-1))
noncomputable def cBackM (g : od_G) (o k : Int) : Int × od_G := od_ip (0 ≤ k ∧ k < 2) (od_ip (g (o + 47) k ≠ 0) (0, cAcc (cClear (cBecome g (o + 1) (o + 29 + 9 * k)) (o + 48)) o) (-2, cRef g o (-2))) (-1, cRef g o (-1))
set_option maxRecDepth 10000 in
theorem c_X10_image {E : od_E} {g : od_G} {o : Int} (ho : OdAt E o) (hI : cImg g o) (hr : cRefs E g (o + 1)) (k : Int) : od_Ct 2 mX10_image [(2, o), (0, k)] E g (some (0, (cImageM g o k).1), E, (cImageM g o k).2) := by
  have hs1 := oS1 ho
  obtain ⟨hk, r0, r1, r2, r3, r4, r5, r6, r7, a1, a2, a3, a4, a5, a6, a7, a8⟩ := oS1 ho
  have him := oIm ho
  have hik := oIk ho
  refine od_ctI pnX10 rfl (Nat.le_of_ble_eq_true rfl) od_le.rf ?_
  show od_R _ _ _ _ _ 0 [some (2, o), some (0, k)] [] E g
  refine r_iload_n dX10_image_0 rfl ?_
  refine r_if_lt (tgt := 9) dX10_image_1 rfl (fun c1 => ?_) (fun c1 => ?_)
  · refine r_aload_n dX10_image_9 rfl ?_
    refine r_iconst dX10_image_10 li_m1 ?_
    refine r_callV1i dX10_image_11 cvX10_113 (oO ho) (c_X10_refuse ho _ (by omega)) (by decide) (Nat.le_of_ble_eq_true rfl) od_le.rf ?_
    exact r_iret dX10_image_14 rfl (by unfold cImageM; repeat (first | rw [od_ip_t (by first | assumption | omega)] | rw [od_ip_f (by first | assumption | omega)] | rw [od_ite_t (by first | assumption | omega)] | rw [od_ite_f (by first | assumption | omega)]))
  · refine r_iload_n dX10_image_4 rfl ?_
    refine r_iconst dX10_image_5 li_2 ?_
    refine r_icmp_lt (tgt := 15) dX10_image_6 rfl (fun c6 => ?_) (fun c6 => ?_)
    · have hik2 := cImg_at hI (show 0 ≤ k ∧ k < 2 by omega)
      have hsi := oSi ho (show 0 ≤ k ∧ k < 2 by omega)
      have hksi := hsi.1
      refine r_aload_n dX10_image_15 rfl ?_
      refine r_getR dX10_image_16 fkX10_22 gf10_3 (oO ho) (oR3 ho) ?_
      refine r_iload_n dX10_image_19 rfl ?_
      first | refine r_aald24 dX10_image_20 (by assumption) (by omega) (by first | exact hik2 | rfl) ?_ | refine r_aald25 dX10_image_20 (by assumption) (by omega) (by first | exact hik2 | rfl) ?_
      refine r_aload_n dX10_image_21 rfl ?_
      refine r_getR dX10_image_22 fkX10_12 gf10_0 (oO ho) (oR0 ho) ?_
      refine r_callV1v dX10_image_25 cvX10_208 (by assumption) (c_X6_become hsi hs1 (by omega) hr.1 hr.2) (by decide) (Nat.le_of_ble_eq_true rfl) od_le.rf ?_
      refine r_aload_n dX10_image_28 rfl ?_
      refine r_getR dX10_image_29 fkX10_26 gf10_4 (oO ho) (oR4 ho) ?_
      refine r_iload_n dX10_image_32 rfl ?_
      refine r_iconst dX10_image_33 li_1 ?_
      refine r_zast dX10_image_34 (by first | exact Or.inl rfl | exact Or.inr rfl | omega | assumption) (by assumption) (by omega) ?_
      refine r_aload_n dX10_image_35 rfl ?_
      refine r_iconst dX10_image_36 li_0 ?_
      refine r_callV1i dX10_image_37 cvX10_127 (oO ho) (c_X10_accept ho _) (by decide) (Nat.le_of_ble_eq_true rfl) od_le.rf ?_
      exact r_iret dX10_image_40 rfl (by unfold cImageM; repeat (first | rw [od_ip_t (by first | assumption | omega)] | rw [od_ip_f (by first | assumption | omega)] | rw [od_ite_t (by first | assumption | omega)] | rw [od_ite_f (by first | assumption | omega)]))
    · refine r_aload_n dX10_image_9 rfl ?_
      refine r_iconst dX10_image_10 li_m1 ?_
      refine r_callV1i dX10_image_11 cvX10_113 (oO ho) (c_X10_refuse ho _ (by omega)) (by decide) (Nat.le_of_ble_eq_true rfl) od_le.rf ?_
      exact r_iret dX10_image_14 rfl (by unfold cImageM; repeat (first | rw [od_ip_t (by first | assumption | omega)] | rw [od_ip_f (by first | assumption | omega)] | rw [od_ite_t (by first | assumption | omega)] | rw [od_ite_f (by first | assumption | omega)]))
set_option maxRecDepth 10000 in
theorem c_X10_back {E : od_E} {g : od_G} {o : Int} (ho : OdAt E o) (hI : cImg g o) (k : Int) (hr : 0 ≤ k → k < 2 → cRefs E g (o + 29 + 9 * k)) : od_Ct 2 mX10_back [(2, o), (0, k)] E g (some (0, (cBackM g o k).1), E, (cBackM g o k).2) := by
  have hs1 := oS1 ho
  obtain ⟨hk, r0, r1, r2, r3, r4, r5, r6, r7, a1, a2, a3, a4, a5, a6, a7, a8⟩ := oS1 ho
  have him := oIm ho
  have hik := oIk ho
  have hp1 := oP1 ho
  obtain ⟨hkp, p0, p1, p2, p3, p4, d1, d2, d3, d4, d5⟩ := oP1 ho
  refine od_ctI pnX10 rfl (Nat.le_of_ble_eq_true rfl) od_le.rf ?_
  show od_R _ _ _ _ _ 0 [some (2, o), some (0, k)] [] E g
  refine r_iload_n dX10_back_0 rfl ?_
  refine r_if_lt (tgt := 9) dX10_back_1 rfl (fun c1 => ?_) (fun c1 => ?_)
  · refine r_aload_n dX10_back_9 rfl ?_
    refine r_iconst dX10_back_10 li_m1 ?_
    refine r_callV1i dX10_back_11 cvX10_113 (oO ho) (c_X10_refuse ho _ (by omega)) (by decide) (Nat.le_of_ble_eq_true rfl) od_le.rf ?_
    exact r_iret dX10_back_14 rfl (by unfold cBackM; repeat (first | rw [od_ip_t (by first | assumption | omega)] | rw [od_ip_f (by first | assumption | omega)] | rw [od_ite_t (by first | assumption | omega)] | rw [od_ite_f (by first | assumption | omega)]))
  · refine r_iload_n dX10_back_4 rfl ?_
    refine r_iconst dX10_back_5 li_2 ?_
    refine r_icmp_lt (tgt := 15) dX10_back_6 rfl (fun c6 => ?_) (fun c6 => ?_)
    · refine r_aload_n dX10_back_15 rfl ?_
      refine r_getR dX10_back_16 fkX10_26 gf10_4 (oO ho) (oR4 ho) ?_
      refine r_iload_n dX10_back_19 rfl ?_
      refine r_zald dX10_back_20 (by assumption) (by omega) (by first | exact hik2 | rfl) ?_
      refine r_if_ne (tgt := 31) dX10_back_21 rfl (fun c21 => ?_) (fun c21 => ?_)
      · have hik2 := cImg_at hI (show 0 ≤ k ∧ k < 2 by omega)
        have hsi := oSi ho (show 0 ≤ k ∧ k < 2 by omega)
        have hrk := hr (by omega) (by omega)
        refine r_aload_n dX10_back_31 rfl ?_
        refine r_getR dX10_back_32 fkX10_12 gf10_0 (oO ho) (oR0 ho) ?_
        refine r_aload_n dX10_back_35 rfl ?_
        refine r_getR dX10_back_36 fkX10_22 gf10_3 (oO ho) (oR3 ho) ?_
        refine r_iload_n dX10_back_39 rfl ?_
        first | refine r_aald24 dX10_back_40 (by assumption) (by omega) (by first | exact hik2 | rfl) ?_ | refine r_aald25 dX10_back_40 (by assumption) (by omega) (by first | exact hik2 | rfl) ?_
        refine r_callV1v dX10_back_41 cvX10_208 (by assumption) (c_X6_become hs1 hsi (by omega) hrk.1 hrk.2) (by decide) (Nat.le_of_ble_eq_true rfl) od_le.rf ?_
        refine r_aload_n dX10_back_44 rfl ?_
        refine r_getR dX10_back_45 fkX10_33 gf10_5 (oO ho) (oR5 ho) ?_
        refine r_callV0v dX10_back_48 cvX10_124 (by assumption) (c_X2_clear (by assumption)) (by decide) (Nat.le_of_ble_eq_true rfl) od_le.rf ?_
        refine r_aload_n dX10_back_51 rfl ?_
        refine r_iconst dX10_back_52 li_0 ?_
        refine r_callV1i dX10_back_53 cvX10_127 (oO ho) (c_X10_accept ho _) (by decide) (Nat.le_of_ble_eq_true rfl) od_le.rf ?_
        exact r_iret dX10_back_56 rfl (by unfold cBackM; repeat (first | rw [od_ip_t (by first | assumption | omega)] | rw [od_ip_f (by first | assumption | omega)] | rw [od_ite_t (by first | assumption | omega)] | rw [od_ite_f (by first | assumption | omega)]))
      · refine r_aload_n dX10_back_24 rfl ?_
        refine r_bipush dX10_back_25 lb_m2 ?_
        refine r_callV1i dX10_back_27 cvX10_113 (oO ho) (c_X10_refuse ho _ (by omega)) (by decide) (Nat.le_of_ble_eq_true rfl) od_le.rf ?_
        exact r_iret dX10_back_30 rfl (by unfold cBackM; repeat (first | rw [od_ip_t (by first | assumption | omega)] | rw [od_ip_f (by first | assumption | omega)] | rw [od_ite_t (by first | assumption | omega)] | rw [od_ite_f (by first | assumption | omega)]))
    · refine r_aload_n dX10_back_9 rfl ?_
      refine r_iconst dX10_back_10 li_m1 ?_
      refine r_callV1i dX10_back_11 cvX10_113 (oO ho) (c_X10_refuse ho _ (by omega)) (by decide) (Nat.le_of_ble_eq_true rfl) od_le.rf ?_
      exact r_iret dX10_back_14 rfl (by unfold cBackM; repeat (first | rw [od_ip_t (by first | assumption | omega)] | rw [od_ip_f (by first | assumption | omega)] | rw [od_ite_t (by first | assumption | omega)] | rw [od_ite_f (by first | assumption | omega)]))
noncomputable def cDrawnM (g : od_G) (o d w : Int) : Int := od_ite (cHas g (o + 19) d) (if w = 0 then g (o + 19 + 4) d else if w = 1 then g (o + 19 + 3) d else if w = 2 then od_b (cStop g (o + 19) d) else -1) (-1)
noncomputable def cOfM (g : od_G) (k d w : Int) : Int := od_ite (cHas g k d) (if w = 0 then g (k + 1) d else if w = 1 then g (k + 2) d else if w = 2 then g (k + 3) d else if w = 3 then g (k + 4) d else if w = 4 then od_b (cStop g k d) else if w = 5 then od_b (cStrikes g k d 0) else -1) (-1)
set_option maxRecDepth 10000 in
theorem c_X10_drawn {E : od_E} {g : od_G} {o : Int} (ho : OdAt E o) (d w : Int) : od_Ct 4 mX10_drawn [(2, o), (0, d), (0, w)] E g (some (0, cDrawnM g o d w), E, g) := by
  have hs3 := oS3 ho
  obtain ⟨hk3, r30, r31, r32, r33, r34, r35, r36, r37, a31, a32, a33, a34, a35, a36, a37, a38⟩ := oS3 ho
  refine od_ctI pnX10 rfl (Nat.le_of_ble_eq_true rfl) od_le.rf ?_
  show od_R _ _ _ _ _ 0 [some (2, o), some (0, d), some (0, w)] [] E g
  refine r_aload_n dX10_drawn_0 rfl ?_
  refine r_getR dX10_drawn_1 fkX10_19 gf10_2 (oO ho) (oR2 ho) ?_
  refine r_iload_n dX10_drawn_4 rfl ?_
  refine r_callV1b dX10_drawn_5 cvX10_130 (by assumption) (c_X6_has (by assumption) _) (by decide) (Nat.le_of_ble_eq_true rfl) od_le.rf (fun q5 => ?_) (fun q5 => ?_)
  · refine r_if_ne (tgt := 13) dX10_drawn_8 rfl (fun _ => ?_) (fun h => absurd h (by decide))
    have zc : cHas g (o + 19) d := by assumption
    have hd6 : 0 ≤ d ∧ d < 6 := by unfold cHas at zc; omega
    refine r_iload_n dX10_drawn_13 rfl ?_
    refine r_sw3 (t0 := 40) (t1 := 50) (t2 := 60) (td := 77) dX10_drawn_14 (by decide) rfl rfl rfl rfl (fun c14 => ?_) (fun c14 => ?_) (fun c14 => ?_) (fun c14 => ?_)
    · refine r_aload_n dX10_drawn_40 rfl ?_
      refine r_getR dX10_drawn_41 fkX10_19 gf10_2 (oO ho) (oR2 ho) ?_
      refine r_getR dX10_drawn_44 fkX10_143 gf6_3 (by assumption) (by assumption) ?_
      refine r_iload_n dX10_drawn_47 rfl ?_
      refine r_iald dX10_drawn_48 (by assumption) (by omega) rfl ?_
      exact r_iret dX10_drawn_49 rfl (by unfold cDrawnM; rw [od_ite_t (by assumption)]; (repeat (first | rw [if_pos (by omega)] | rw [if_neg (by omega)])))
    · refine r_aload_n dX10_drawn_50 rfl ?_
      refine r_getR dX10_drawn_51 fkX10_19 gf10_2 (oO ho) (oR2 ho) ?_
      refine r_getR dX10_drawn_54 fkX10_140 gf6_2 (by assumption) (by assumption) ?_
      refine r_iload_n dX10_drawn_57 rfl ?_
      refine r_iald dX10_drawn_58 (by assumption) (by omega) rfl ?_
      exact r_iret dX10_drawn_59 rfl (by unfold cDrawnM; rw [od_ite_t (by assumption)]; (repeat (first | rw [if_pos (by omega)] | rw [if_neg (by omega)])))
    · refine r_aload_n dX10_drawn_60 rfl ?_
      refine r_getR dX10_drawn_61 fkX10_19 gf10_2 (oO ho) (oR2 ho) ?_
      refine r_iload_n dX10_drawn_64 rfl ?_
      refine r_callV1b dX10_drawn_65 cvX10_146 (by assumption) (c_X6_isStopped (by assumption) _) (by decide) (Nat.le_of_ble_eq_true rfl) od_le.rf (fun q65 => ?_) (fun q65 => ?_)
      · refine r_if_eq (tgt := 75) dX10_drawn_68 rfl (fun h => absurd h (by decide)) (fun _ => ?_)
        refine r_iconst dX10_drawn_71 li_1 ?_
        refine r_goto (tgt := 76) dX10_drawn_72 rfl ?_
        exact r_iret dX10_drawn_76 rfl (by unfold cDrawnM; rw [od_ite_t (by assumption)]; (repeat (first | rw [if_pos (by omega)] | rw [if_neg (by omega)])); first | rw [od_b_t (by assumption)] | rw [od_b_f (by assumption)])
      · refine r_if_eq (tgt := 75) dX10_drawn_68 rfl (fun _ => ?_) (fun h => absurd h (by decide))
        refine r_iconst dX10_drawn_75 li_0 ?_
        exact r_iret dX10_drawn_76 rfl (by unfold cDrawnM; rw [od_ite_t (by assumption)]; (repeat (first | rw [if_pos (by omega)] | rw [if_neg (by omega)])); first | rw [od_b_t (by assumption)] | rw [od_b_f (by assumption)])
    · refine r_iconst dX10_drawn_77 li_m1 ?_
      exact r_iret dX10_drawn_78 rfl (by unfold cDrawnM; rw [od_ite_t (by assumption)]; (repeat (first | rw [if_pos (by omega)] | rw [if_neg (by omega)])))
  · refine r_if_ne (tgt := 13) dX10_drawn_8 rfl (fun h => absurd h (by decide)) (fun _ => ?_)
    refine r_iconst dX10_drawn_11 li_m1 ?_
    exact r_iret dX10_drawn_12 rfl (by unfold cDrawnM; rw [od_ite_f (by assumption)])
set_option maxRecDepth 10000 in
theorem c_X10_of {E : od_E} {g : od_G} {o : Int} (ho : OdAt E o) (d w : Int) : od_Ct 4 mX10_of [(2, o), (0, d), (0, w)] E g (some (0, cOfM g (o + 1) d w), E, g) := by
  have hs1 := oS1 ho
  obtain ⟨hk, r0, r1, r2, r3, r4, r5, r6, r7, a1, a2, a3, a4, a5, a6, a7, a8⟩ := oS1 ho
  refine od_ctI pnX10 rfl (Nat.le_of_ble_eq_true rfl) od_le.rf ?_
  show od_R _ _ _ _ _ 0 [some (2, o), some (0, d), some (0, w)] [] E g
  refine r_aload_n dX10_of_0 rfl ?_
  refine r_getR dX10_of_1 fkX10_12 gf10_0 (oO ho) (oR0 ho) ?_
  refine r_iload_n dX10_of_4 rfl ?_
  refine r_callV1b dX10_of_5 cvX10_130 (by assumption) (c_X6_has (by assumption) _) (by decide) (Nat.le_of_ble_eq_true rfl) od_le.rf (fun q5 => ?_) (fun q5 => ?_)
  · refine r_if_ne (tgt := 13) dX10_of_8 rfl (fun _ => ?_) (fun h => absurd h (by decide))
    have zc : cHas g (o + 1) d := by assumption
    have hd6 : 0 ≤ d ∧ d < 6 := by unfold cHas at zc; omega
    refine r_iload_n dX10_of_13 rfl ?_
    refine r_sw6 (t0 := 52) (t1 := 62) (t2 := 72) (t3 := 82) (t4 := 92) (t5 := 109) (td := 127) dX10_of_14 (by decide) rfl rfl rfl rfl rfl rfl rfl (fun c14 => ?_) (fun c14 => ?_) (fun c14 => ?_) (fun c14 => ?_) (fun c14 => ?_) (fun c14 => ?_) (fun c14 => ?_)
    · refine r_aload_n dX10_of_52 rfl ?_
      refine r_getR dX10_of_53 fkX10_12 gf10_0 (oO ho) (oR0 ho) ?_
      refine r_getR dX10_of_56 fkX10_134 gf6_0 (by assumption) (by assumption) ?_
      refine r_iload_n dX10_of_59 rfl ?_
      refine r_iald dX10_of_60 (by assumption) (by omega) rfl ?_
      exact r_iret dX10_of_61 rfl (by unfold cOfM; rw [od_ite_t (by assumption)]; (repeat (first | rw [if_pos (by omega)] | rw [if_neg (by omega)])))
    · refine r_aload_n dX10_of_62 rfl ?_
      refine r_getR dX10_of_63 fkX10_12 gf10_0 (oO ho) (oR0 ho) ?_
      refine r_getR dX10_of_66 fkX10_137 gf6_1 (by assumption) (by assumption) ?_
      refine r_iload_n dX10_of_69 rfl ?_
      refine r_iald dX10_of_70 (by assumption) (by omega) rfl ?_
      exact r_iret dX10_of_71 rfl (by unfold cOfM; rw [od_ite_t (by assumption)]; (repeat (first | rw [if_pos (by omega)] | rw [if_neg (by omega)])))
    · refine r_aload_n dX10_of_72 rfl ?_
      refine r_getR dX10_of_73 fkX10_12 gf10_0 (oO ho) (oR0 ho) ?_
      refine r_getR dX10_of_76 fkX10_140 gf6_2 (by assumption) (by assumption) ?_
      refine r_iload_n dX10_of_79 rfl ?_
      refine r_iald dX10_of_80 (by assumption) (by omega) rfl ?_
      exact r_iret dX10_of_81 rfl (by unfold cOfM; rw [od_ite_t (by assumption)]; (repeat (first | rw [if_pos (by omega)] | rw [if_neg (by omega)])))
    · refine r_aload_n dX10_of_82 rfl ?_
      refine r_getR dX10_of_83 fkX10_12 gf10_0 (oO ho) (oR0 ho) ?_
      refine r_getR dX10_of_86 fkX10_143 gf6_3 (by assumption) (by assumption) ?_
      refine r_iload_n dX10_of_89 rfl ?_
      refine r_iald dX10_of_90 (by assumption) (by omega) rfl ?_
      exact r_iret dX10_of_91 rfl (by unfold cOfM; rw [od_ite_t (by assumption)]; (repeat (first | rw [if_pos (by omega)] | rw [if_neg (by omega)])))
    · refine r_aload_n dX10_of_92 rfl ?_
      refine r_getR dX10_of_93 fkX10_12 gf10_0 (oO ho) (oR0 ho) ?_
      refine r_iload_n dX10_of_96 rfl ?_
      refine r_callV1b dX10_of_97 cvX10_146 (by assumption) (c_X6_isStopped (by assumption) _) (by decide) (Nat.le_of_ble_eq_true rfl) od_le.rf (fun q97 => ?_) (fun q97 => ?_)
      · refine r_if_eq (tgt := 107) dX10_of_100 rfl (fun h => absurd h (by decide)) (fun _ => ?_)
        refine r_iconst dX10_of_103 li_1 ?_
        refine r_goto (tgt := 108) dX10_of_104 rfl ?_
        exact r_iret dX10_of_108 rfl (by unfold cOfM; rw [od_ite_t (by assumption)]; (repeat (first | rw [if_pos (by omega)] | rw [if_neg (by omega)])); first | rw [od_b_t (by assumption)] | rw [od_b_f (by assumption)])
      · refine r_if_eq (tgt := 107) dX10_of_100 rfl (fun _ => ?_) (fun h => absurd h (by decide))
        refine r_iconst dX10_of_107 li_0 ?_
        exact r_iret dX10_of_108 rfl (by unfold cOfM; rw [od_ite_t (by assumption)]; (repeat (first | rw [if_pos (by omega)] | rw [if_neg (by omega)])); first | rw [od_b_t (by assumption)] | rw [od_b_f (by assumption)])
    · refine r_aload_n dX10_of_109 rfl ?_
      refine r_getR dX10_of_110 fkX10_12 gf10_0 (oO ho) (oR0 ho) ?_
      refine r_iload_n dX10_of_113 rfl ?_
      refine r_iconst dX10_of_114 li_0 ?_
      refine r_callV2b dX10_of_115 cvX10_149 (by assumption) (c_X6_strikesIn (by assumption) _ _) (by decide) (Nat.le_of_ble_eq_true rfl) od_le.rf (fun q115 => ?_) (fun q115 => ?_)
      · refine r_if_eq (tgt := 125) dX10_of_118 rfl (fun h => absurd h (by decide)) (fun _ => ?_)
        refine r_iconst dX10_of_121 li_1 ?_
        refine r_goto (tgt := 126) dX10_of_122 rfl ?_
        exact r_iret dX10_of_126 rfl (by unfold cOfM; rw [od_ite_t (by assumption)]; (repeat (first | rw [if_pos (by omega)] | rw [if_neg (by omega)])); first | rw [od_b_t (by assumption)] | rw [od_b_f (by assumption)])
      · refine r_if_eq (tgt := 125) dX10_of_118 rfl (fun _ => ?_) (fun h => absurd h (by decide))
        refine r_iconst dX10_of_125 li_0 ?_
        exact r_iret dX10_of_126 rfl (by unfold cOfM; rw [od_ite_t (by assumption)]; (repeat (first | rw [if_pos (by omega)] | rw [if_neg (by omega)])); first | rw [od_b_t (by assumption)] | rw [od_b_f (by assumption)])
    · refine r_iconst dX10_of_127 li_m1 ?_
      exact r_iret dX10_of_128 rfl (by unfold cOfM; rw [od_ite_t (by assumption)]; (repeat (first | rw [if_pos (by omega)] | rw [if_neg (by omega)])))
  · refine r_if_ne (tgt := 13) dX10_of_8 rfl (fun h => absurd h (by decide)) (fun _ => ?_)
    refine r_iconst dX10_of_11 li_m1 ?_
    exact r_iret dX10_of_12 rfl (by unfold cOfM; rw [od_ite_f (by assumption)])
noncomputable def cCountM (g : od_G) (o w : Int) : Int := if w = 0 then g (o + 1) 8 else if w = 1 then cHow g (o + 1) (g (o + 1) 8).toNat else if w = 2 then cPins g (o + 1) (g (o + 1) 8).toNat else if w = 3 then g (o + 1) 12 else if w = 4 then g (o + 1) 10 else if w = 5 then g (o + 48) 6 else if w = 6 then g (o + 60) 1 else if w = 7 then g (o + 85) 1 else if w = 8 then g (o + 85) 2 else if w = 9 then g (o + 85) 3 else if w = 10 then g (o + 85) 5 else if w = 11 then g (o + 85) 6 else if w = 12 then g (o + 1) 11 else if w = 13 then g (o + 1 + 5) 0 else if w = 14 then g (o + 1 + 5) 1 else if w = 15 then g (o + 1 + 5) 2 else -1
set_option maxRecDepth 10000 in
theorem c_X10_count {E : od_E} {g : od_G} {o : Int} (ho : OdAt E o) (h8 : 0 ≤ g (o + 1) 8 ∧ g (o + 1) 8 ≤ 6) (w : Int) : od_Ct 5 mX10_count [(2, o), (0, w)] E g (some (0, cCountM g o w), E, g) := by
  have hs1 := oS1 ho
  obtain ⟨hk, r0, r1, r2, r3, r4, r5, r6, r7, a1, a2, a3, a4, a5, a6, a7, a8⟩ := oS1 ho
  have hp1 := oP1 ho
  obtain ⟨hkp, p0, p1, p2, p3, p4, d1, d2, d3, d4, d5⟩ := oP1 ho
  have ht1 := oTp ho
  obtain ⟨hkt, t0, t1⟩ := oTp ho
  have hrf := oRf ho
  refine od_ctI pnX10 rfl (Nat.le_of_ble_eq_true rfl) od_le.rf ?_
  show od_R _ _ _ _ _ 0 [some (2, o), some (0, w)] [] E g
  refine r_iload_n dX10_count_0 rfl ?_
  refine r_sw16 (t0 := 80) (t1 := 88) (t2 := 96) (t3 := 104) (t4 := 112) (t5 := 120) (t6 := 128) (t7 := 136) (t8 := 143) (t9 := 150) (t10 := 157) (t11 := 164) (t12 := 172) (t13 := 180) (t14 := 190) (t15 := 200) (td := 210) dX10_count_1 (by decide) rfl rfl rfl rfl rfl rfl rfl rfl rfl rfl rfl rfl rfl rfl rfl rfl rfl (fun c1 => ?_) (fun c1 => ?_) (fun c1 => ?_) (fun c1 => ?_) (fun c1 => ?_) (fun c1 => ?_) (fun c1 => ?_) (fun c1 => ?_) (fun c1 => ?_) (fun c1 => ?_) (fun c1 => ?_) (fun c1 => ?_) (fun c1 => ?_) (fun c1 => ?_) (fun c1 => ?_) (fun c1 => ?_) (fun c1 => ?_)
  · refine r_aload_n dX10_count_80 rfl ?_
    refine r_getR dX10_count_81 fkX10_12 gf10_0 (oO ho) (oR0 ho) ?_
    refine r_getIj (j := 8) rfl dX10_count_84 fkX10_117 gf6_8 (by assumption) rfl ?_
    exact r_iret dX10_count_87 rfl (by unfold cCountM; repeat (first | rw [if_pos (by omega)] | rw [if_neg (by omega)]))
  · refine r_aload_n dX10_count_88 rfl ?_
    refine r_getR dX10_count_89 fkX10_12 gf10_0 (oO ho) (oR0 ho) ?_
    refine r_callV0i dX10_count_92 cvX10_325 (by assumption) (c_X6_howManyStrike (by assumption) (by omega)) (by decide) (Nat.le_of_ble_eq_true rfl) od_le.rf ?_
    exact r_iret dX10_count_95 rfl (by unfold cCountM; repeat (first | rw [if_pos (by omega)] | rw [if_neg (by omega)]))
  · refine r_aload_n dX10_count_96 rfl ?_
    refine r_getR dX10_count_97 fkX10_12 gf10_0 (oO ho) (oR0 ho) ?_
    refine r_callV0i dX10_count_100 cvX10_328 (by assumption) (c_X6_allPins (by assumption) (by omega)) (by decide) (Nat.le_of_ble_eq_true rfl) od_le.rf ?_
    exact r_iret dX10_count_103 rfl (by unfold cCountM; repeat (first | rw [if_pos (by omega)] | rw [if_neg (by omega)]))
  · refine r_aload_n dX10_count_104 rfl ?_
    refine r_getR dX10_count_105 fkX10_12 gf10_0 (oO ho) (oR0 ho) ?_
    refine r_getIj (j := 12) rfl dX10_count_108 fkX10_289 gf6_12 (by assumption) rfl ?_
    exact r_iret dX10_count_111 rfl (by unfold cCountM; repeat (first | rw [if_pos (by omega)] | rw [if_neg (by omega)]))
  · refine r_aload_n dX10_count_112 rfl ?_
    refine r_getR dX10_count_113 fkX10_12 gf10_0 (oO ho) (oR0 ho) ?_
    refine r_getIj (j := 10) rfl dX10_count_116 fkX10_187 gf6_10 (by assumption) rfl ?_
    exact r_iret dX10_count_119 rfl (by unfold cCountM; repeat (first | rw [if_pos (by omega)] | rw [if_neg (by omega)]))
  · refine r_aload_n dX10_count_120 rfl ?_
    refine r_getR dX10_count_121 fkX10_33 gf10_5 (oO ho) (oR5 ho) ?_
    refine r_getIj (j := 6) rfl dX10_count_124 fkX10_229 gf2_6 (by assumption) rfl ?_
    exact r_iret dX10_count_127 rfl (by unfold cCountM; repeat (first | rw [if_pos (by omega)] | rw [if_neg (by omega)]))
  · refine r_aload_n dX10_count_128 rfl ?_
    refine r_getR dX10_count_129 fkX10_43 gf10_7 (oO ho) (oR7 ho) ?_
    refine r_getIj (j := 1) rfl dX10_count_132 fkX10_177 gf8_1 (by assumption) rfl ?_
    exact r_iret dX10_count_135 rfl (by unfold cCountM; repeat (first | rw [if_pos (by omega)] | rw [if_neg (by omega)]))
  · refine r_aload_n dX10_count_136 rfl ?_
    refine r_getR dX10_count_137 fkX10_92 gf10_14 (oO ho) (oR14 ho) ?_
    refine r_iconst dX10_count_140 li_1 ?_
    refine r_iald dX10_count_141 (by assumption) (by omega) rfl ?_
    exact r_iret dX10_count_142 rfl (by unfold cCountM; repeat (first | rw [if_pos (by omega)] | rw [if_neg (by omega)]))
  · refine r_aload_n dX10_count_143 rfl ?_
    refine r_getR dX10_count_144 fkX10_92 gf10_14 (oO ho) (oR14 ho) ?_
    refine r_iconst dX10_count_147 li_2 ?_
    refine r_iald dX10_count_148 (by assumption) (by omega) rfl ?_
    exact r_iret dX10_count_149 rfl (by unfold cCountM; repeat (first | rw [if_pos (by omega)] | rw [if_neg (by omega)]))
  · refine r_aload_n dX10_count_150 rfl ?_
    refine r_getR dX10_count_151 fkX10_92 gf10_14 (oO ho) (oR14 ho) ?_
    refine r_iconst dX10_count_154 li_3 ?_
    refine r_iald dX10_count_155 (by assumption) (by omega) rfl ?_
    exact r_iret dX10_count_156 rfl (by unfold cCountM; repeat (first | rw [if_pos (by omega)] | rw [if_neg (by omega)]))
  · refine r_aload_n dX10_count_157 rfl ?_
    refine r_getR dX10_count_158 fkX10_92 gf10_14 (oO ho) (oR14 ho) ?_
    refine r_iconst dX10_count_161 li_5 ?_
    refine r_iald dX10_count_162 (by assumption) (by omega) rfl ?_
    exact r_iret dX10_count_163 rfl (by unfold cCountM; repeat (first | rw [if_pos (by omega)] | rw [if_neg (by omega)]))
  · refine r_aload_n dX10_count_164 rfl ?_
    refine r_getR dX10_count_165 fkX10_92 gf10_14 (oO ho) (oR14 ho) ?_
    refine r_bipush dX10_count_168 lb_6 ?_
    refine r_iald dX10_count_170 (by assumption) (by omega) rfl ?_
    exact r_iret dX10_count_171 rfl (by unfold cCountM; repeat (first | rw [if_pos (by omega)] | rw [if_neg (by omega)]))
  · refine r_aload_n dX10_count_172 rfl ?_
    refine r_getR dX10_count_173 fkX10_12 gf10_0 (oO ho) (oR0 ho) ?_
    refine r_getIj (j := 11) rfl dX10_count_176 fkX10_156 gf6_11 (by assumption) rfl ?_
    exact r_iret dX10_count_179 rfl (by unfold cCountM; repeat (first | rw [if_pos (by omega)] | rw [if_neg (by omega)]))
  · refine r_aload_n dX10_count_180 rfl ?_
    refine r_getR dX10_count_181 fkX10_12 gf10_0 (oO ho) (oR0 ho) ?_
    refine r_getR dX10_count_184 fkX10_174 gf6_4 (by assumption) (by assumption) ?_
    refine r_iconst dX10_count_187 li_0 ?_
    refine r_iald dX10_count_188 (by assumption) (by omega) rfl ?_
    exact r_iret dX10_count_189 rfl (by unfold cCountM; repeat (first | rw [if_pos (by omega)] | rw [if_neg (by omega)]))
  · refine r_aload_n dX10_count_190 rfl ?_
    refine r_getR dX10_count_191 fkX10_12 gf10_0 (oO ho) (oR0 ho) ?_
    refine r_getR dX10_count_194 fkX10_174 gf6_4 (by assumption) (by assumption) ?_
    refine r_iconst dX10_count_197 li_1 ?_
    refine r_iald dX10_count_198 (by assumption) (by omega) rfl ?_
    exact r_iret dX10_count_199 rfl (by unfold cCountM; repeat (first | rw [if_pos (by omega)] | rw [if_neg (by omega)]))
  · refine r_aload_n dX10_count_200 rfl ?_
    refine r_getR dX10_count_201 fkX10_12 gf10_0 (oO ho) (oR0 ho) ?_
    refine r_getR dX10_count_204 fkX10_174 gf6_4 (by assumption) (by assumption) ?_
    refine r_iconst dX10_count_207 li_2 ?_
    refine r_iald dX10_count_208 (by assumption) (by omega) rfl ?_
    exact r_iret dX10_count_209 rfl (by unfold cCountM; repeat (first | rw [if_pos (by omega)] | rw [if_neg (by omega)]))
  · refine r_iconst dX10_count_210 li_m1 ?_
    exact r_iret dX10_count_211 rfl (by unfold cCountM; repeat (first | rw [if_pos (by omega)] | rw [if_neg (by omega)]))
set_option maxRecDepth 10000 in
theorem c_X10_canBe {E : od_E} {g : od_G} {o : Int} (ho : OdAt E o) (h8 : 0 ≤ g (o + 1) 8 ∧ g (o + 1) 8 ≤ 6) (h12 : 0 ≤ g (o + 1) 12 ∧ g (o + 1) 12 ≤ 6) : od_Ct 5 mX10_canBe [(2, o)] E g (some (0, cSus g (o + 1) (g (o + 1) 8).toNat), E, g) := by
  have hs1 := oS1 ho
  obtain ⟨hk, r0, r1, r2, r3, r4, r5, r6, r7, a1, a2, a3, a4, a5, a6, a7, a8⟩ := oS1 ho
  refine od_ctI pnX10 rfl (Nat.le_of_ble_eq_true rfl) od_le.rf ?_
  show od_R _ _ _ _ _ 0 [some (2, o)] [] E g
  refine r_aload_n dX10_canBe_0 rfl ?_
  refine r_getR dX10_canBe_1 fkX10_12 gf10_0 (oO ho) (oR0 ho) ?_
  refine r_callV0i dX10_canBe_4 cvX10_298 (by assumption) (c_X6_suspects (by assumption) (by omega) (by omega)) (by decide) (Nat.le_of_ble_eq_true rfl) od_le.rf ?_
  exact r_iret dX10_canBe_7 rfl (by rfl)
set_option maxRecDepth 10000 in
theorem c_X10_round {E : od_E} {g : od_G} {o : Int} (ho : OdAt E o) : od_Ct 3 mX10_round [(2, o)] E g (some (0, cRound g (o + 1) 0 6), E, g) := by
  have hs1 := oS1 ho
  obtain ⟨hk, r0, r1, r2, r3, r4, r5, r6, r7, a1, a2, a3, a4, a5, a6, a7, a8⟩ := oS1 ho
  refine od_ctI pnX10 rfl (Nat.le_of_ble_eq_true rfl) od_le.rf ?_
  show od_R _ _ _ _ _ 0 [some (2, o)] [] E g
  refine r_aload_n dX10_round_0 rfl ?_
  refine r_getR dX10_round_1 fkX10_12 gf10_0 (oO ho) (oR0 ho) ?_
  refine r_iconst dX10_round_4 li_0 ?_
  refine r_bipush dX10_round_5 lb_6 ?_
  refine r_callV2i dX10_round_7 cvX10_240 (by assumption) (c_X6_roundOf (by assumption) _ _ (by omega)) (by decide) (Nat.le_of_ble_eq_true rfl) od_le.rf ?_
  exact r_iret dX10_round_10 rfl (by rfl)
noncomputable def cAsksM (g : od_G) (k : Int) (sn : Nat) (d b w : Int) : Int := od_ite (cHasBeat g k d b ∧ 0 ≤ w ∧ w ≤ 2) (if w = 0 then cSound g k (cLawOf g k (g k 11)) d b sn else od_b (cHolds g k (cLawOf g k (g k 11)) d b sn w)) (-1)
set_option maxRecDepth 10000 in
theorem c_X10_asks {E : od_E} {g : od_G} {o : Int} (ho : OdAt E o) {cn sn : Nat} (hlaw : LawOk E g (o + 70) (cLawOf g (o + 1) (g (o + 1) 11)) cn sn) (d b w : Int) : od_Cf 6 mX10_asks [(2, o), (0, d), (0, b), (0, w)] E g (some (0, cAsksM g (o + 1) sn d b w)) (fun x _ => x = o + 70 + 2 ∨ x = o + 70 + 3) := by
  have hs1 := oS1 ho
  obtain ⟨hk, r0, r1, r2, r3, r4, r5, r6, r7, a1, a2, a3, a4, a5, a6, a7, a8⟩ := oS1 ho
  have ha1 := oAs ho
  have hka := ha1.1
  refine od_cqI pnX10 rfl (Nat.le_of_ble_eq_true rfl) od_le.rf ?_
  show od_Rf 6 mX10_asks od_Z0 E (some (0, cAsksM g (o + 1) sn d b w)) (fun x _ => x = o + 70 + 2 ∨ x = o + 70 + 3) g 0 [some (2, o), some (0, d), some (0, b), some (0, w), none] [] E g
  refine r_aload_n dX10_asks_0 rfl ?_
  refine r_getR dX10_asks_1 fkX10_12 gf10_0 (oO ho) (oR0 ho) ?_
  refine r_iload_n dX10_asks_4 rfl ?_
  refine r_iload_n dX10_asks_5 rfl ?_
  refine r_callV2b dX10_asks_6 cvX10_153 (by assumption) (c_X6_hasBeat (by assumption) _ _) (by decide) (Nat.le_of_ble_eq_true rfl) od_le.rf (fun q6 => ?_) (fun q6 => ?_)
  · refine r_if_eq (tgt := 21) dX10_asks_9 rfl (fun h => absurd h (by decide)) (fun _ => ?_)
    refine r_iload_n dX10_asks_12 rfl ?_
    refine r_if_lt (tgt := 21) dX10_asks_13 rfl (fun c13 => ?_) (fun c13 => ?_)
    · refine r_iconst dX10_asks_21 li_m1 ?_
      exact r_iretq dX10_asks_22 rfl rfl ⟨by unfold cAsksM; rw [od_ite_f (fun z => by first | exact absurd z.1 (by assumption) | omega)], od_fr.rf⟩
    · refine r_iload_n dX10_asks_16 rfl ?_
      refine r_iconst dX10_asks_17 li_2 ?_
      refine r_icmp_le (tgt := 23) dX10_asks_18 rfl (fun c18 => ?_) (fun c18 => ?_)
      · refine r_aload_n dX10_asks_23 rfl ?_
        refine r_getR dX10_asks_24 fkX10_12 gf10_0 (oO ho) (oR0 ho) ?_
        refine r_aload_n dX10_asks_27 rfl ?_
        refine r_getR dX10_asks_28 fkX10_12 gf10_0 (oO ho) (oR0 ho) ?_
        refine r_getIj (j := 11) rfl dX10_asks_31 fkX10_156 gf6_11 (by assumption) rfl ?_
        refine r_callV1i dX10_asks_34 cvX10_159 (by assumption) (c_X6_lawOf (by assumption) _) (by decide) (Nat.le_of_ble_eq_true rfl) od_le.rf ?_
        refine r_astore dX10_asks_37 (by decide) rfl ?_
        refine r_iload_n dX10_asks_39 rfl ?_
        refine r_if_ne (tgt := 59) dX10_asks_40 rfl (fun c40 => ?_) (fun c40 => ?_)
        · refine r_aload_n dX10_asks_59 rfl ?_
          refine r_getR dX10_asks_60 fkX10_59 gf10_9 (oO ho) (oR9 ho) ?_
          refine r_aload_n dX10_asks_63 rfl ?_
          refine r_getR dX10_asks_64 fkX10_12 gf10_0 (oO ho) (oR0 ho) ?_
          refine r_aload dX10_asks_67 rfl ?_
          refine r_iload_n dX10_asks_69 rfl ?_
          refine r_iload_n dX10_asks_70 rfl ?_
          refine r_iload_n dX10_asks_71 rfl ?_
          refine r_callV5g dX10_asks_72 cvX10_167 (by assumption) (c_X0_holds ha1 hs1 (by omega) hlaw _ _ _) (by decide) (Nat.le_of_ble_eq_true rfl) od_le.rf (fun q72 g72 f72 => ?_) (fun q72 g72 f72 => ?_)
          · refine r_if_eq (tgt := 82) dX10_asks_75 rfl (fun h => absurd h (by decide)) (fun _ => ?_)
            refine r_iconst dX10_asks_78 li_1 ?_
            refine r_goto (tgt := 83) dX10_asks_79 rfl ?_
            exact r_iretq dX10_asks_83 rfl rfl ⟨by unfold cAsksM; rw [od_ite_t ⟨by assumption, by omega, by omega⟩, if_neg (by omega)]; first | rw [od_b_t (by assumption)] | rw [od_b_f (by assumption)], f72⟩
          · refine r_if_eq (tgt := 82) dX10_asks_75 rfl (fun _ => ?_) (fun h => absurd h (by decide))
            refine r_iconst dX10_asks_82 li_0 ?_
            exact r_iretq dX10_asks_83 rfl rfl ⟨by unfold cAsksM; rw [od_ite_t ⟨by assumption, by omega, by omega⟩, if_neg (by omega)]; first | rw [od_b_t (by assumption)] | rw [od_b_f (by assumption)], f72⟩
        · refine r_aload_n dX10_asks_43 rfl ?_
          refine r_getR dX10_asks_44 fkX10_59 gf10_9 (oO ho) (oR9 ho) ?_
          refine r_aload_n dX10_asks_47 rfl ?_
          refine r_getR dX10_asks_48 fkX10_12 gf10_0 (oO ho) (oR0 ho) ?_
          refine r_aload dX10_asks_51 rfl ?_
          refine r_iload_n dX10_asks_53 rfl ?_
          refine r_iload_n dX10_asks_54 rfl ?_
          refine r_callV4f dX10_asks_55 cvX10_163 (by assumption) (c_X0_sound ha1 hs1 (by omega) hlaw _ _) (by decide) (Nat.le_of_ble_eq_true rfl) od_le.rf (fun g55 f55 => ?_)
          exact r_iretq dX10_asks_58 rfl rfl ⟨by unfold cAsksM; rw [od_ite_t ⟨by assumption, by omega, by omega⟩, if_pos (by omega)], f55⟩
      · refine r_iconst dX10_asks_21 li_m1 ?_
        exact r_iretq dX10_asks_22 rfl rfl ⟨by unfold cAsksM; rw [od_ite_f (fun z => by first | exact absurd z.1 (by assumption) | omega)], od_fr.rf⟩
  · refine r_if_eq (tgt := 21) dX10_asks_9 rfl (fun _ => ?_) (fun h => absurd h (by decide))
    refine r_iconst dX10_asks_21 li_m1 ?_
    exact r_iretq dX10_asks_22 rfl rfl ⟨by unfold cAsksM; rw [od_ite_f (fun z => by first | exact absurd z.1 (by assumption) | omega)], od_fr.rf⟩
noncomputable def cLoudM (g : od_G) (k : Int) (sn : Nat) (h : Int) : Int := od_ite (0 ≤ h ∧ h ≤ 30000) (cLoud g k (cLawOf g k (g k 11)) h sn) (-1)
set_option maxRecDepth 10000 in
theorem c_X10_loud {E : od_E} {g : od_G} {o : Int} (ho : OdAt E o) {cn sn : Nat} (hlaw : LawOk E g (o + 70) (cLawOf g (o + 1) (g (o + 1) 11)) cn sn) (h8 : 0 ≤ g (o + 1) 8 ∧ g (o + 1) 8 ≤ 6) (h : Int) : od_Cf 6 mX10_loud [(2, o), (0, h)] E g (some (0, cLoudM g (o + 1) sn h)) (fun x _ => x = o + 70 + 2 ∨ x = o + 70 + 3) := by
  have hs1 := oS1 ho
  obtain ⟨hk, r0, r1, r2, r3, r4, r5, r6, r7, a1, a2, a3, a4, a5, a6, a7, a8⟩ := oS1 ho
  have ha1 := oAs ho
  have hka := ha1.1
  refine od_cqI pnX10 rfl (Nat.le_of_ble_eq_true rfl) od_le.rf ?_
  show od_Rf 6 mX10_loud od_Z0 E (some (0, cLoudM g (o + 1) sn h)) (fun x _ => x = o + 70 + 2 ∨ x = o + 70 + 3) g 0 [some (2, o), some (0, h)] [] E g
  refine r_iload_n dX10_loud_0 rfl ?_
  refine r_if_lt (tgt := 11) dX10_loud_1 rfl (fun c1 => ?_) (fun c1 => ?_)
  · refine r_iconst dX10_loud_11 li_m1 ?_
    exact r_iretq dX10_loud_12 rfl rfl ⟨by unfold cLoudM; rw [od_ite_f (by omega)], od_fr.rf⟩
  · refine r_iload_n dX10_loud_4 rfl ?_
    refine r_sipush dX10_loud_5 ls_30000 ?_
    refine r_icmp_le (tgt := 13) dX10_loud_8 rfl (fun c8 => ?_) (fun c8 => ?_)
    · refine r_aload_n dX10_loud_13 rfl ?_
      refine r_getR dX10_loud_14 fkX10_59 gf10_9 (oO ho) (oR9 ho) ?_
      refine r_aload_n dX10_loud_17 rfl ?_
      refine r_getR dX10_loud_18 fkX10_12 gf10_0 (oO ho) (oR0 ho) ?_
      refine r_iload_n dX10_loud_21 rfl ?_
      refine r_callV2f dX10_loud_22 cvX10_236 (by assumption) (c_X0_loudIn ha1 hs1 (by omega) h8 hlaw _) (by decide) (Nat.le_of_ble_eq_true rfl) od_le.rf (fun g22 f22 => ?_)
      exact r_iretq dX10_loud_25 rfl rfl ⟨by unfold cLoudM; rw [od_ite_t (by omega)], f22⟩
    · refine r_iconst dX10_loud_11 li_m1 ?_
      exact r_iretq dX10_loud_12 rfl rfl ⟨by unfold cLoudM; rw [od_ite_f (by omega)], od_fr.rf⟩
