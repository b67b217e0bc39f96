/-! OrganDrums$Street -/
/-- a street at cell k: its rows are the next eight cells -/
def StAt (E : od_E) (k : Int) : Prop := (E.2.1 k).1 = 6 ∧ E.2.2 k 0 = k + 1 ∧ E.2.2 k 1 = k + 2 ∧ E.2.2 k 2 = k + 3 ∧ E.2.2 k 3 = k + 4 ∧ E.2.2 k 4 = k + 5 ∧ E.2.2 k 5 = k + 6 ∧ E.2.2 k 6 = k + 7 ∧ E.2.2 k 7 = k + 8
  ∧ E.2.1 (k + 1) = (20, 6) ∧ E.2.1 (k + 2) = (20, 6) ∧ E.2.1 (k + 3) = (20, 6) ∧ E.2.1 (k + 4) = (20, 6) ∧ E.2.1 (k + 5) = (20, 3) ∧ E.2.1 (k + 6) = (24, 6) ∧ E.2.1 (k + 7) = (20, 6) ∧ E.2.1 (k + 8) = (22, 6)
def cHas (g : od_G) (k d : Int) : Prop := 0 ≤ d ∧ d < g k 8 ∧ d < 6
def cHasBeat (g : od_G) (k d b : Int) : Prop := cHas g k d ∧ 0 ≤ b ∧ b < g (k + 1) d
def cHasAll (g : od_G) (k s : Int) : Prop := 0 ≤ s ∧ s < od_shl 1 (g k 8)
def cHasPin (g : od_G) (k d b : Int) : Prop := cHas g k d ∧ 0 ≤ b ∧ b < g (k + 1) d ∧ od_bit (g (k + 4) d) b
def cStop (g : od_G) (k d : Int) : Prop := 0 ≤ d ∧ d < 6 ∧ od_bit (g k 9) d
noncomputable def cBeatIn (g : od_G) (k d h : Int) : Int := od_ite (cHas g k d ∧ 1 ≤ g (k + 1) d) (od_ite (cStop g k d) (g (k + 3) d) ((od_w (g (k + 3) d + h)).tmod (g (k + 1) d))) 0
def cStrikes (g : od_G) (k d h : Int) : Prop := ¬ cStop g k d ∧ cHasPin g k d (cBeatIn g k d h)
def cCanHold (l k a p : Int) : Prop := 1 ≤ l ∧ l ≤ 12 ∧ 0 ≤ k ∧ k < 4 ∧ 0 ≤ a ∧ a < l ∧ 0 ≤ p ∧ p < od_shl 1 l
noncomputable def cLawOf (g : od_G) (k n : Int) : Int := od_ite (0 ≤ n ∧ n < g k 10 ∧ n < 6) (g (k + 6) n) (-1)
set_option maxRecDepth 10000 in
theorem c_X6_has {E : od_E} {g : od_G} {k : Int} (hs : StAt E k) (d : Int) : od_Ct 1 mX6_has [(2, k), (0, d)] E g (some (0, od_b (cHas g k d)), E, g) := by
  have hs0 := hs
  obtain ⟨hk, r0, r1, r2, r3, r4, r5, r6, r7, a1, a2, a3, a4, a5, a6, a7, a8⟩ := hs
  refine od_ctI pnX6 rfl (Nat.le_of_ble_eq_true rfl) od_le.rf ?_
  show od_R _ _ _ _ _ 0 [some (2, k), some (0, d)] [] E g
  refine r_iload_n dX6_has_0 rfl ?_
  refine r_if_lt (tgt := 22) dX6_has_1 rfl (fun c1 => ?_) (fun c1 => ?_)
  · refine r_iconst dX6_has_22 li_0 ?_
    exact r_zret (v := 0) dX6_has_23 rfl od_nz0 (od_lt0 (by unfold cHas; grind))
  · refine r_iload_n dX6_has_4 rfl ?_
    refine r_aload_n dX6_has_5 rfl ?_
    refine r_getIj (j := 8) rfl dX6_has_6 fkX6_40 gf6_8 (by assumption) (by (repeat (first | rewrite [od_upn (by omega)] | rewrite [od_up_at, if_pos (by omega)] | rewrite [od_up_at, if_neg (by omega)])); rfl) ?_
    refine r_icmp_ge (tgt := 22) dX6_has_9 rfl (fun c9 => ?_) (fun c9 => ?_)
    · refine r_iconst dX6_has_22 li_0 ?_
      exact r_zret (v := 0) dX6_has_23 rfl od_nz0 (od_lt0 (by unfold cHas; grind))
    · refine r_iload_n dX6_has_12 rfl ?_
      refine r_bipush dX6_has_13 lb_6 ?_
      refine r_icmp_ge (tgt := 22) dX6_has_15 rfl (fun c15 => ?_) (fun c15 => ?_)
      · refine r_iconst dX6_has_22 li_0 ?_
        exact r_zret (v := 0) dX6_has_23 rfl od_nz0 (od_lt0 (by unfold cHas; grind))
      · refine r_iconst dX6_has_18 li_1 ?_
        refine r_goto (tgt := 23) dX6_has_19 rfl ?_
        exact r_zret (v := 1) dX6_has_23 rfl od_nz1 (od_lt1 (by unfold cHas; grind))
set_option maxRecDepth 10000 in
theorem c_X6_hasBeat {E : od_E} {g : od_G} {k : Int} (hs : StAt E k) (d b : Int) : od_Ct 2 mX6_hasBeat [(2, k), (0, d), (0, b)] E g (some (0, od_b (cHasBeat g k d b)), E, g) := by
  have hs0 := hs
  obtain ⟨hk, r0, r1, r2, r3, r4, r5, r6, r7, a1, a2, a3, a4, a5, a6, a7, a8⟩ := hs
  refine od_ctI pnX6 rfl (Nat.le_of_ble_eq_true rfl) od_le.rf ?_
  show od_R _ _ _ _ _ 0 [some (2, k), some (0, d), some (0, b)] [] E g
  refine r_aload_n dX6_hasBeat_0 rfl ?_
  refine r_iload_n dX6_hasBeat_1 rfl ?_
  refine r_callV1b dX6_hasBeat_2 cvX6_56 (by assumption) (c_X6_has (by assumption) _) (by decide) (Nat.le_of_ble_eq_true rfl) od_le.rf (fun q2 => ?_) (fun q2 => ?_)
  · refine r_if_eq (tgt := 26) dX6_hasBeat_5 rfl (fun h => absurd h (by decide)) (fun _ => ?_)
    have u2 := q2; unfold cHas at u2
    refine r_iload_n dX6_hasBeat_8 rfl ?_
    refine r_if_lt (tgt := 26) dX6_hasBeat_9 rfl (fun c9 => ?_) (fun c9 => ?_)
    · refine r_iconst dX6_hasBeat_26 li_0 ?_
      exact r_zret (v := 0) dX6_hasBeat_27 rfl od_nz0 (od_lt0 (by unfold cHasBeat; grind))
    · refine r_iload_n dX6_hasBeat_12 rfl ?_
      refine r_aload_n dX6_hasBeat_13 rfl ?_
      refine r_getR dX6_hasBeat_14 fkX6_9 gf6_0 (by assumption) (by assumption) ?_
      refine r_iload_n dX6_hasBeat_17 rfl ?_
      refine r_iald dX6_hasBeat_18 (by assumption) (by omega) (by (repeat (first | rewrite [od_upn (by omega)] | rewrite [od_up_at, if_pos (by omega)] | rewrite [od_up_at, if_neg (by omega)])); rfl) ?_
      refine r_icmp_ge (tgt := 26) dX6_hasBeat_19 rfl (fun c19 => ?_) (fun c19 => ?_)
      · refine r_iconst dX6_hasBeat_26 li_0 ?_
        exact r_zret (v := 0) dX6_hasBeat_27 rfl od_nz0 (od_lt0 (by unfold cHasBeat; grind))
      · refine r_iconst dX6_hasBeat_22 li_1 ?_
        refine r_goto (tgt := 27) dX6_hasBeat_23 rfl ?_
        exact r_zret (v := 1) dX6_hasBeat_27 rfl od_nz1 (od_lt1 (by unfold cHasBeat; grind))
  · refine r_if_eq (tgt := 26) dX6_hasBeat_5 rfl (fun _ => ?_) (fun h => absurd h (by decide))
    refine r_iconst dX6_hasBeat_26 li_0 ?_
    exact r_zret (v := 0) dX6_hasBeat_27 rfl od_nz0 (od_lt0 (by unfold cHasBeat; grind))
set_option maxRecDepth 10000 in
theorem c_X6_isStopped {E : od_E} {g : od_G} {k : Int} (hs : StAt E k) (d : Int) : od_Ct 1 mX6_isStopped [(2, k), (0, d)] E g (some (0, od_b (cStop g k d)), E, g) := by
  have hs0 := hs
  obtain ⟨hk, r0, r1, r2, r3, r4, r5, r6, r7, a1, a2, a3, a4, a5, a6, a7, a8⟩ := hs
  refine od_ctI pnX6 rfl (Nat.le_of_ble_eq_true rfl) od_le.rf ?_
  show od_R _ _ _ _ _ 0 [some (2, k), some (0, d)] [] E g
  refine r_iload_n dX6_isStopped_0 rfl ?_
  refine r_if_lt (tgt := 25) dX6_isStopped_1 rfl (fun c1 => ?_) (fun c1 => ?_)
  · refine r_iconst dX6_isStopped_25 li_0 ?_
    exact r_zret (v := 0) dX6_isStopped_26 rfl od_nz0 (od_lt0 (by unfold cStop od_bit; grind))
  · refine r_iload_n dX6_isStopped_4 rfl ?_
    refine r_bipush dX6_isStopped_5 lb_6 ?_
    refine r_icmp_ge (tgt := 25) dX6_isStopped_7 rfl (fun c7 => ?_) (fun c7 => ?_)
    · refine r_iconst dX6_isStopped_25 li_0 ?_
      exact r_zret (v := 0) dX6_isStopped_26 rfl od_nz0 (od_lt0 (by unfold cStop od_bit; grind))
    · refine r_aload_n dX6_isStopped_10 rfl ?_
      refine r_getIj (j := 9) rfl dX6_isStopped_11 fkX6_44 gf6_9 (by assumption) (by (repeat (first | rewrite [od_upn (by omega)] | rewrite [od_up_at, if_pos (by omega)] | rewrite [od_up_at, if_neg (by omega)])); rfl) ?_
      refine r_iload_n dX6_isStopped_14 rfl ?_
      refine r_ishr dX6_isStopped_15 ?_
      refine r_iconst dX6_isStopped_16 li_1 ?_
      refine r_iand dX6_isStopped_17 ?_
      refine r_if_eq (tgt := 25) dX6_isStopped_18 rfl (fun c18 => ?_) (fun c18 => ?_)
      · refine r_iconst dX6_isStopped_25 li_0 ?_
        exact r_zret (v := 0) dX6_isStopped_26 rfl od_nz0 (od_lt0 (by unfold cStop od_bit; grind))
      · refine r_iconst dX6_isStopped_21 li_1 ?_
        refine r_goto (tgt := 26) dX6_isStopped_22 rfl ?_
        exact r_zret (v := 1) dX6_isStopped_26 rfl od_nz1 (od_lt1 (by unfold cStop od_bit; grind))
set_option maxRecDepth 10000 in
theorem c_X6_hasAll {E : od_E} {g : od_G} {k : Int} (hs : StAt E k) (s : Int) : od_Ct 1 mX6_hasAll [(2, k), (0, s)] E g (some (0, od_b (cHasAll g k s)), E, g) := by
  have hs0 := hs
  obtain ⟨hk, r0, r1, r2, r3, r4, r5, r6, r7, a1, a2, a3, a4, a5, a6, a7, a8⟩ := hs
  refine od_ctI pnX6 rfl (Nat.le_of_ble_eq_true rfl) od_le.rf ?_
  show od_R _ _ _ _ _ 0 [some (2, k), some (0, s)] [] E g
  refine r_iload_n dX6_hasAll_0 rfl ?_
  refine r_if_lt (tgt := 18) dX6_hasAll_1 rfl (fun c1 => ?_) (fun c1 => ?_)
  · refine r_iconst dX6_hasAll_18 li_0 ?_
    exact r_zret (v := 0) dX6_hasAll_19 rfl od_nz0 (od_lt0 (by unfold cHasAll; grind))
  · refine r_iload_n dX6_hasAll_4 rfl ?_
    refine r_iconst dX6_hasAll_5 li_1 ?_
    refine r_aload_n dX6_hasAll_6 rfl ?_
    refine r_getIj (j := 8) rfl dX6_hasAll_7 fkX6_40 gf6_8 (by assumption) (by (repeat (first | rewrite [od_upn (by omega)] | rewrite [od_up_at, if_pos (by omega)] | rewrite [od_up_at, if_neg (by omega)])); rfl) ?_
    refine r_ishl dX6_hasAll_10 ?_
    refine r_icmp_ge (tgt := 18) dX6_hasAll_11 rfl (fun c11 => ?_) (fun c11 => ?_)
    · refine r_iconst dX6_hasAll_18 li_0 ?_
      exact r_zret (v := 0) dX6_hasAll_19 rfl od_nz0 (od_lt0 (by unfold cHasAll; grind))
    · refine r_iconst dX6_hasAll_14 li_1 ?_
      refine r_goto (tgt := 19) dX6_hasAll_15 rfl ?_
      exact r_zret (v := 1) dX6_hasAll_19 rfl od_nz1 (od_lt1 (by unfold cHasAll; grind))
set_option maxRecDepth 10000 in
theorem c_X6_hasPin {E : od_E} {g : od_G} {k : Int} (hs : StAt E k) (d b : Int) : od_Ct 2 mX6_hasPin [(2, k), (0, d), (0, b)] E g (some (0, od_b (cHasPin g k d b)), E, g) := by
  have hs0 := hs
  obtain ⟨hk, r0, r1, r2, r3, r4, r5, r6, r7, a1, a2, a3, a4, a5, a6, a7, a8⟩ := hs
  refine od_ctI pnX6 rfl (Nat.le_of_ble_eq_true rfl) od_le.rf ?_
  show od_R _ _ _ _ _ 0 [some (2, k), some (0, d), some (0, b)] [] E g
  refine r_aload_n dX6_hasPin_0 rfl ?_
  refine r_iload_n dX6_hasPin_1 rfl ?_
  refine r_callV1b dX6_hasPin_2 cvX6_56 (by assumption) (c_X6_has (by assumption) _) (by decide) (Nat.le_of_ble_eq_true rfl) od_le.rf (fun q2 => ?_) (fun q2 => ?_)
  · refine r_if_eq (tgt := 39) dX6_hasPin_5 rfl (fun h => absurd h (by decide)) (fun _ => ?_)
    have u2 := q2; unfold cHas at u2
    refine r_iload_n dX6_hasPin_8 rfl ?_
    refine r_if_lt (tgt := 39) dX6_hasPin_9 rfl (fun c9 => ?_) (fun c9 => ?_)
    · refine r_iconst dX6_hasPin_39 li_0 ?_
      exact r_zret (v := 0) dX6_hasPin_40 rfl od_nz0 (od_lt0 (by unfold cHasPin od_bit; grind))
    · refine r_iload_n dX6_hasPin_12 rfl ?_
      refine r_aload_n dX6_hasPin_13 rfl ?_
      refine r_getR dX6_hasPin_14 fkX6_9 gf6_0 (by assumption) (by assumption) ?_
      refine r_iload_n dX6_hasPin_17 rfl ?_
      refine r_iald dX6_hasPin_18 (by assumption) (by omega) (by (repeat (first | rewrite [od_upn (by omega)] | rewrite [od_up_at, if_pos (by omega)] | rewrite [od_up_at, if_neg (by omega)])); rfl) ?_
      refine r_icmp_ge (tgt := 39) dX6_hasPin_19 rfl (fun c19 => ?_) (fun c19 => ?_)
      · refine r_iconst dX6_hasPin_39 li_0 ?_
        exact r_zret (v := 0) dX6_hasPin_40 rfl od_nz0 (od_lt0 (by unfold cHasPin od_bit; grind))
      · refine r_aload_n dX6_hasPin_22 rfl ?_
        refine r_getR dX6_hasPin_23 fkX6_21 gf6_3 (by assumption) (by assumption) ?_
        refine r_iload_n dX6_hasPin_26 rfl ?_
        refine r_iald dX6_hasPin_27 (by assumption) (by omega) (by (repeat (first | rewrite [od_upn (by omega)] | rewrite [od_up_at, if_pos (by omega)] | rewrite [od_up_at, if_neg (by omega)])); rfl) ?_
        refine r_iload_n dX6_hasPin_28 rfl ?_
        refine r_ishr dX6_hasPin_29 ?_
        refine r_iconst dX6_hasPin_30 li_1 ?_
        refine r_iand dX6_hasPin_31 ?_
        refine r_if_eq (tgt := 39) dX6_hasPin_32 rfl (fun c32 => ?_) (fun c32 => ?_)
        · refine r_iconst dX6_hasPin_39 li_0 ?_
          exact r_zret (v := 0) dX6_hasPin_40 rfl od_nz0 (od_lt0 (by unfold cHasPin od_bit; grind))
        · refine r_iconst dX6_hasPin_35 li_1 ?_
          refine r_goto (tgt := 40) dX6_hasPin_36 rfl ?_
          exact r_zret (v := 1) dX6_hasPin_40 rfl od_nz1 (od_lt1 (by unfold cHasPin od_bit; grind))
  · refine r_if_eq (tgt := 39) dX6_hasPin_5 rfl (fun _ => ?_) (fun h => absurd h (by decide))
    refine r_iconst dX6_hasPin_39 li_0 ?_
    exact r_zret (v := 0) dX6_hasPin_40 rfl od_nz0 (od_lt0 (by unfold cHasPin od_bit; grind))
set_option maxRecDepth 10000 in
theorem c_X6_beatIn {E : od_E} {g : od_G} {k : Int} (hs : StAt E k) (d h : Int) : od_Ct 2 mX6_beatIn [(2, k), (0, d), (0, h)] E g (some (0, cBeatIn g k d h), E, g) := by
  have hs0 := hs
  obtain ⟨hk, r0, r1, r2, r3, r4, r5, r6, r7, a1, a2, a3, a4, a5, a6, a7, a8⟩ := hs
  refine od_ctI pnX6 rfl (Nat.le_of_ble_eq_true rfl) od_le.rf ?_
  show od_R _ _ _ _ _ 0 [some (2, k), some (0, d), some (0, h)] [] E g
  refine r_aload_n dX6_beatIn_0 rfl ?_
  refine r_iload_n dX6_beatIn_1 rfl ?_
  refine r_callV1b dX6_beatIn_2 cvX6_56 (by assumption) (c_X6_has (by assumption) _) (by decide) (Nat.le_of_ble_eq_true rfl) od_le.rf (fun q2 => ?_) (fun q2 => ?_)
  · refine r_if_eq (tgt := 18) dX6_beatIn_5 rfl (fun h => absurd h (by decide)) (fun _ => ?_)
    have u2 := q2; unfold cHas at u2
    refine r_aload_n dX6_beatIn_8 rfl ?_
    refine r_getR dX6_beatIn_9 fkX6_9 gf6_0 (by assumption) (by assumption) ?_
    refine r_iload_n dX6_beatIn_12 rfl ?_
    refine r_iald dX6_beatIn_13 (by assumption) (by omega) (by (repeat (first | rewrite [od_upn (by omega)] | rewrite [od_up_at, if_pos (by omega)] | rewrite [od_up_at, if_neg (by omega)])); rfl) ?_
    refine r_iconst dX6_beatIn_14 li_1 ?_
    refine r_icmp_ge (tgt := 20) dX6_beatIn_15 rfl (fun c15 => ?_) (fun c15 => ?_)
    · refine r_aload_n dX6_beatIn_20 rfl ?_
      refine r_iload_n dX6_beatIn_21 rfl ?_
      refine r_callV1b dX6_beatIn_22 cvX6_60 (by assumption) (c_X6_isStopped (by assumption) _) (by decide) (Nat.le_of_ble_eq_true rfl) od_le.rf (fun q22 => ?_) (fun q22 => ?_)
      · refine r_if_eq (tgt := 37) dX6_beatIn_25 rfl (fun h => absurd h (by decide)) (fun _ => ?_)
        refine r_aload_n dX6_beatIn_28 rfl ?_
        refine r_getR dX6_beatIn_29 fkX6_18 gf6_2 (by assumption) (by assumption) ?_
        refine r_iload_n dX6_beatIn_32 rfl ?_
        refine r_iald dX6_beatIn_33 (by assumption) (by omega) (by (repeat (first | rewrite [od_upn (by omega)] | rewrite [od_up_at, if_pos (by omega)] | rewrite [od_up_at, if_neg (by omega)])); rfl) ?_
        refine r_goto (tgt := 52) dX6_beatIn_34 rfl ?_
        exact r_iret dX6_beatIn_52 rfl (by unfold cBeatIn; first | rw [od_ite_f (by grind)] | rw [od_ite_t (by grind), od_ite_t (by assumption)] | rw [od_ite_t (by grind), od_ite_f (by assumption)])
      · refine r_if_eq (tgt := 37) dX6_beatIn_25 rfl (fun _ => ?_) (fun h => absurd h (by decide))
        refine r_aload_n dX6_beatIn_37 rfl ?_
        refine r_getR dX6_beatIn_38 fkX6_18 gf6_2 (by assumption) (by assumption) ?_
        refine r_iload_n dX6_beatIn_41 rfl ?_
        refine r_iald dX6_beatIn_42 (by assumption) (by omega) (by (repeat (first | rewrite [od_upn (by omega)] | rewrite [od_up_at, if_pos (by omega)] | rewrite [od_up_at, if_neg (by omega)])); rfl) ?_
        refine r_iload_n dX6_beatIn_43 rfl ?_
        refine r_iaddE dX6_beatIn_44 (by first | exact od_w0 (by omega) (by omega) | exact od_wI (by omega) (by omega) | rfl) ?_
        refine r_aload_n dX6_beatIn_45 rfl ?_
        refine r_getR dX6_beatIn_46 fkX6_9 gf6_0 (by assumption) (by assumption) ?_
        refine r_iload_n dX6_beatIn_49 rfl ?_
        refine r_iald dX6_beatIn_50 (by assumption) (by omega) (by (repeat (first | rewrite [od_upn (by omega)] | rewrite [od_up_at, if_pos (by omega)] | rewrite [od_up_at, if_neg (by omega)])); rfl) ?_
        refine r_irem dX6_beatIn_51 (by first | decide | omega) ?_
        exact r_iret dX6_beatIn_52 rfl (by unfold cBeatIn; first | rw [od_ite_f (by grind)] | rw [od_ite_t (by grind), od_ite_t (by assumption)] | rw [od_ite_t (by grind), od_ite_f (by assumption)])
    · refine r_iconst dX6_beatIn_18 li_0 ?_
      exact r_iret dX6_beatIn_19 rfl (by unfold cBeatIn; first | rw [od_ite_f (by grind)] | rw [od_ite_t (by grind), od_ite_t (by assumption)] | rw [od_ite_t (by grind), od_ite_f (by assumption)])
  · refine r_if_eq (tgt := 18) dX6_beatIn_5 rfl (fun _ => ?_) (fun h => absurd h (by decide))
    refine r_iconst dX6_beatIn_18 li_0 ?_
    exact r_iret dX6_beatIn_19 rfl (by unfold cBeatIn; first | rw [od_ite_f (by grind)] | rw [od_ite_t (by grind), od_ite_t (by assumption)] | rw [od_ite_t (by grind), od_ite_f (by assumption)])
set_option maxRecDepth 10000 in
theorem c_X6_strikesIn {E : od_E} {g : od_G} {k : Int} (hs : StAt E k) (d h : Int) : od_Ct 3 mX6_strikesIn [(2, k), (0, d), (0, h)] E g (some (0, od_b (cStrikes g k d h)), E, g) := by
  have hs0 := hs
  obtain ⟨hk, r0, r1, r2, r3, r4, r5, r6, r7, a1, a2, a3, a4, a5, a6, a7, a8⟩ := hs
  refine od_ctI pnX6 rfl (Nat.le_of_ble_eq_true rfl) od_le.rf ?_
  show od_R _ _ _ _ _ 0 [some (2, k), some (0, d), some (0, h)] [] E g
  refine r_aload_n dX6_strikesIn_0 rfl ?_
  refine r_iload_n dX6_strikesIn_1 rfl ?_
  refine r_callV1b dX6_strikesIn_2 cvX6_60 (by assumption) (c_X6_isStopped (by assumption) _) (by decide) (Nat.le_of_ble_eq_true rfl) od_le.rf (fun q2 => ?_) (fun q2 => ?_)
  · refine r_if_ne (tgt := 26) dX6_strikesIn_5 rfl (fun _ => ?_) (fun h => absurd h (by decide))
    refine r_iconst dX6_strikesIn_26 li_0 ?_
    exact r_zret (v := 0) dX6_strikesIn_27 rfl od_nz0 (od_lt0 (by unfold cStrikes; grind))
  · refine r_if_ne (tgt := 26) dX6_strikesIn_5 rfl (fun h => absurd h (by decide)) (fun _ => ?_)
    refine r_aload_n dX6_strikesIn_8 rfl ?_
    refine r_iload_n dX6_strikesIn_9 rfl ?_
    refine r_aload_n dX6_strikesIn_10 rfl ?_
    refine r_iload_n dX6_strikesIn_11 rfl ?_
    refine r_iload_n dX6_strikesIn_12 rfl ?_
    refine r_callV2i dX6_strikesIn_13 cvX6_63 (by assumption) (c_X6_beatIn (by assumption) _ _) (by decide) (Nat.le_of_ble_eq_true rfl) od_le.rf ?_
    refine r_callV2b dX6_strikesIn_16 cvX6_67 (by assumption) (c_X6_hasPin (by assumption) _ _) (by decide) (Nat.le_of_ble_eq_true rfl) od_le.rf (fun q16 => ?_) (fun q16 => ?_)
    · refine r_if_eq (tgt := 26) dX6_strikesIn_19 rfl (fun h => absurd h (by decide)) (fun _ => ?_)
      refine r_iconst dX6_strikesIn_22 li_1 ?_
      refine r_goto (tgt := 27) dX6_strikesIn_23 rfl ?_
      exact r_zret (v := 1) dX6_strikesIn_27 rfl od_nz1 (od_lt1 (by unfold cStrikes; grind))
    · refine r_if_eq (tgt := 26) dX6_strikesIn_19 rfl (fun _ => ?_) (fun h => absurd h (by decide))
      refine r_iconst dX6_strikesIn_26 li_0 ?_
      exact r_zret (v := 0) dX6_strikesIn_27 rfl od_nz0 (od_lt0 (by unfold cStrikes; grind))
set_option maxRecDepth 10000 in
theorem c_X6_canHold {E : od_E} {g : od_G} (l kd a p : Int) : od_Ct 1 mX6_canHold [(0, l), (0, kd), (0, a), (0, p)] E g (some (0, od_b (cCanHold l kd a p)), E, g) := by
  refine od_ctI pnX6 rfl (Nat.le_of_ble_eq_true rfl) od_le.rf ?_
  show od_R _ _ _ _ _ 0 [some (0, l), some (0, kd), some (0, a), some (0, p)] [] E g
  refine r_iload_n dX6_canHold_0 rfl ?_
  refine r_iconst dX6_canHold_1 li_1 ?_
  refine r_icmp_lt (tgt := 44) dX6_canHold_2 rfl (fun c2 => ?_) (fun c2 => ?_)
  · refine r_iconst dX6_canHold_44 li_0 ?_
    exact r_zret (v := 0) dX6_canHold_45 rfl od_nz0 (od_lt0 (by unfold cCanHold; grind))
  · refine r_iload_n dX6_canHold_5 rfl ?_
    refine r_bipush dX6_canHold_6 lb_12 ?_
    refine r_icmp_gt (tgt := 44) dX6_canHold_8 rfl (fun c8 => ?_) (fun c8 => ?_)
    · refine r_iconst dX6_canHold_44 li_0 ?_
      exact r_zret (v := 0) dX6_canHold_45 rfl od_nz0 (od_lt0 (by unfold cCanHold; grind))
    · refine r_iload_n dX6_canHold_11 rfl ?_
      refine r_if_lt (tgt := 44) dX6_canHold_12 rfl (fun c12 => ?_) (fun c12 => ?_)
      · refine r_iconst dX6_canHold_44 li_0 ?_
        exact r_zret (v := 0) dX6_canHold_45 rfl od_nz0 (od_lt0 (by unfold cCanHold; grind))
      · refine r_iload_n dX6_canHold_15 rfl ?_
        refine r_iconst dX6_canHold_16 li_4 ?_
        refine r_icmp_ge (tgt := 44) dX6_canHold_17 rfl (fun c17 => ?_) (fun c17 => ?_)
        · refine r_iconst dX6_canHold_44 li_0 ?_
          exact r_zret (v := 0) dX6_canHold_45 rfl od_nz0 (od_lt0 (by unfold cCanHold; grind))
        · refine r_iload_n dX6_canHold_20 rfl ?_
          refine r_if_lt (tgt := 44) dX6_canHold_21 rfl (fun c21 => ?_) (fun c21 => ?_)
          · refine r_iconst dX6_canHold_44 li_0 ?_
            exact r_zret (v := 0) dX6_canHold_45 rfl od_nz0 (od_lt0 (by unfold cCanHold; grind))
          · refine r_iload_n dX6_canHold_24 rfl ?_
            refine r_iload_n dX6_canHold_25 rfl ?_
            refine r_icmp_ge (tgt := 44) dX6_canHold_26 rfl (fun c26 => ?_) (fun c26 => ?_)
            · refine r_iconst dX6_canHold_44 li_0 ?_
              exact r_zret (v := 0) dX6_canHold_45 rfl od_nz0 (od_lt0 (by unfold cCanHold; grind))
            · refine r_iload_n dX6_canHold_29 rfl ?_
              refine r_if_lt (tgt := 44) dX6_canHold_30 rfl (fun c30 => ?_) (fun c30 => ?_)
              · refine r_iconst dX6_canHold_44 li_0 ?_
                exact r_zret (v := 0) dX6_canHold_45 rfl od_nz0 (od_lt0 (by unfold cCanHold; grind))
              · refine r_iload_n dX6_canHold_33 rfl ?_
                refine r_iconst dX6_canHold_34 li_1 ?_
                refine r_iload_n dX6_canHold_35 rfl ?_
                refine r_ishl dX6_canHold_36 ?_
                refine r_icmp_ge (tgt := 44) dX6_canHold_37 rfl (fun c37 => ?_) (fun c37 => ?_)
                · refine r_iconst dX6_canHold_44 li_0 ?_
                  exact r_zret (v := 0) dX6_canHold_45 rfl od_nz0 (od_lt0 (by unfold cCanHold; grind))
                · refine r_iconst dX6_canHold_40 li_1 ?_
                  refine r_goto (tgt := 45) dX6_canHold_41 rfl ?_
                  exact r_zret (v := 1) dX6_canHold_45 rfl od_nz1 (od_lt1 (by unfold cCanHold; grind))
set_option maxRecDepth 10000 in
theorem c_X6_lawOf {E : od_E} {g : od_G} {k : Int} (hs : StAt E k) (n : Int) : od_Ct 1 mX6_lawOf [(2, k), (0, n)] E g (some (2, cLawOf g k n), E, g) := by
  have hs0 := hs
  obtain ⟨hk, r0, r1, r2, r3, r4, r5, r6, r7, a1, a2, a3, a4, a5, a6, a7, a8⟩ := hs
  refine od_ctI pnX6 rfl (Nat.le_of_ble_eq_true rfl) od_le.rf ?_
  show od_R _ _ _ _ _ 0 [some (2, k), some (0, n)] [] E g
  refine r_iload_n dX6_lawOf_0 rfl ?_
  refine r_if_lt (tgt := 27) dX6_lawOf_1 rfl (fun c1 => ?_) (fun c1 => ?_)
  · refine r_null dX6_lawOf_27 ?_
    exact r_aret dX6_lawOf_28 rfl (Or.inl ⟨_, rfl⟩) (by unfold cLawOf; first | rw [od_ite_t (by grind)] | rw [od_ite_f (by grind)])
  · refine r_iload_n dX6_lawOf_4 rfl ?_
    refine r_aload_n dX6_lawOf_5 rfl ?_
    refine r_getIj (j := 10) rfl dX6_lawOf_6 fkX6_47 gf6_10 (by assumption) (by (repeat (first | rewrite [od_upn (by omega)] | rewrite [od_up_at, if_pos (by omega)] | rewrite [od_up_at, if_neg (by omega)])); rfl) ?_
    refine r_icmp_ge (tgt := 27) dX6_lawOf_9 rfl (fun c9 => ?_) (fun c9 => ?_)
    · refine r_null dX6_lawOf_27 ?_
      exact r_aret dX6_lawOf_28 rfl (Or.inl ⟨_, rfl⟩) (by unfold cLawOf; first | rw [od_ite_t (by grind)] | rw [od_ite_f (by grind)])
    · refine r_iload_n dX6_lawOf_12 rfl ?_
      refine r_bipush dX6_lawOf_13 lb_6 ?_
      refine r_icmp_ge (tgt := 27) dX6_lawOf_15 rfl (fun c15 => ?_) (fun c15 => ?_)
      · refine r_null dX6_lawOf_27 ?_
        exact r_aret dX6_lawOf_28 rfl (Or.inl ⟨_, rfl⟩) (by unfold cLawOf; first | rw [od_ite_t (by grind)] | rw [od_ite_f (by grind)])
      · refine r_aload_n dX6_lawOf_18 rfl ?_
        refine r_getR dX6_lawOf_19 fkX6_29 gf6_5 (by assumption) (by assumption) ?_
        refine r_iload_n dX6_lawOf_22 rfl ?_
        first | refine r_aald24 dX6_lawOf_23 (by assumption) (by omega) (by (repeat (first | rewrite [od_upn (by omega)] | rewrite [od_up_at, if_pos (by omega)] | rewrite [od_up_at, if_neg (by omega)])); rfl) ?_ | refine r_aald25 dX6_lawOf_23 (by assumption) (by omega) (by (repeat (first | rewrite [od_upn (by omega)] | rewrite [od_up_at, if_pos (by omega)] | rewrite [od_up_at, if_neg (by omega)])); rfl) ?_
        refine r_goto (tgt := 28) dX6_lawOf_24 rfl ?_
        exact r_aret dX6_lawOf_28 rfl (Or.inl ⟨_, rfl⟩) (by unfold cLawOf; first | rw [od_ite_t (by grind)] | rw [od_ite_f (by grind)])
def cTake1 (g : od_G) (k l kd a p : Int) : od_G := od_up (od_up (od_up (od_up (od_up g (k + 1) (g k 8) l) (k + 2) (g k 8) kd) (k + 3) (g k 8) a) (k + 4) (g k 8) p) k 8 (g k 8 + 1)
set_option maxRecDepth 10000 in
theorem c_X6_take {E : od_E} {g : od_G} {k : Int} (hs : StAt E k) (l kd a p : Int) (h0 : 0 ≤ g k 8) (h6 : g k 8 < 6) : od_Ct 1 mX6_take [(2, k), (0, l), (0, kd), (0, a), (0, p)] E g (none, E, cTake1 g k l kd a p) := by
  have hs0 := hs
  obtain ⟨hk, r0, r1, r2, r3, r4, r5, r6, r7, a1, a2, a3, a4, a5, a6, a7, a8⟩ := hs
  refine od_ctI pnX6 rfl (Nat.le_of_ble_eq_true rfl) od_le.rf ?_
  show od_R _ _ _ _ _ 0 [some (2, k), some (0, l), some (0, kd), some (0, a), some (0, p)] [] E g
  refine r_aload_n dX6_take_0 rfl ?_
  refine r_getIj (j := 8) rfl dX6_take_1 fkX6_40 gf6_8 (by assumption) (by (try simp only [od_upn (show k ≠ k + 1 by omega), od_upn (show k ≠ k + 2 by omega), od_upn (show k ≠ k + 3 by omega), od_upn (show k ≠ k + 4 by omega)]); rfl) ?_
  refine r_if_lt (tgt := 16) dX6_take_4 rfl (fun c4 => ?_) (fun c4 => ?_)
  · exfalso; omega
  · refine r_aload_n dX6_take_7 rfl ?_
    refine r_getIj (j := 8) rfl dX6_take_8 fkX6_40 gf6_8 (by assumption) (by (try simp only [od_upn (show k ≠ k + 1 by omega), od_upn (show k ≠ k + 2 by omega), od_upn (show k ≠ k + 3 by omega), od_upn (show k ≠ k + 4 by omega)]); rfl) ?_
    refine r_bipush dX6_take_11 lb_6 ?_
    refine r_icmp_lt (tgt := 17) dX6_take_13 rfl (fun c13 => ?_) (fun c13 => ?_)
    · refine r_aload_n dX6_take_17 rfl ?_
      refine r_getR dX6_take_18 fkX6_9 gf6_0 (by assumption) (by assumption) ?_
      refine r_aload_n dX6_take_21 rfl ?_
      refine r_getIj (j := 8) rfl dX6_take_22 fkX6_40 gf6_8 (by assumption) (by (try simp only [od_upn (show k ≠ k + 1 by omega), od_upn (show k ≠ k + 2 by omega), od_upn (show k ≠ k + 3 by omega), od_upn (show k ≠ k + 4 by omega)]); rfl) ?_
      refine r_iload_n dX6_take_25 rfl ?_
      refine r_iast dX6_take_26 (by assumption) (by omega) ?_
      refine r_aload_n dX6_take_27 rfl ?_
      refine r_getR dX6_take_28 fkX6_15 gf6_1 (by assumption) (by assumption) ?_
      refine r_aload_n dX6_take_31 rfl ?_
      refine r_getIj (j := 8) rfl dX6_take_32 fkX6_40 gf6_8 (by assumption) (by (try simp only [od_upn (show k ≠ k + 1 by omega), od_upn (show k ≠ k + 2 by omega), od_upn (show k ≠ k + 3 by omega), od_upn (show k ≠ k + 4 by omega)]); rfl) ?_
      refine r_iload_n dX6_take_35 rfl ?_
      refine r_iast dX6_take_36 (by assumption) (by omega) ?_
      refine r_aload_n dX6_take_37 rfl ?_
      refine r_getR dX6_take_38 fkX6_18 gf6_2 (by assumption) (by assumption) ?_
      refine r_aload_n dX6_take_41 rfl ?_
      refine r_getIj (j := 8) rfl dX6_take_42 fkX6_40 gf6_8 (by assumption) (by (try simp only [od_upn (show k ≠ k + 1 by omega), od_upn (show k ≠ k + 2 by omega), od_upn (show k ≠ k + 3 by omega), od_upn (show k ≠ k + 4 by omega)]); rfl) ?_
      refine r_iload_n dX6_take_45 rfl ?_
      refine r_iast dX6_take_46 (by assumption) (by omega) ?_
      refine r_aload_n dX6_take_47 rfl ?_
      refine r_getR dX6_take_48 fkX6_21 gf6_3 (by assumption) (by assumption) ?_
      refine r_aload_n dX6_take_51 rfl ?_
      refine r_getIj (j := 8) rfl dX6_take_52 fkX6_40 gf6_8 (by assumption) (by (try simp only [od_upn (show k ≠ k + 1 by omega), od_upn (show k ≠ k + 2 by omega), od_upn (show k ≠ k + 3 by omega), od_upn (show k ≠ k + 4 by omega)]); rfl) ?_
      refine r_iload dX6_take_55 rfl ?_
      refine r_iast dX6_take_57 (by assumption) (by omega) ?_
      refine r_aload_n dX6_take_58 rfl ?_
      refine r_dup dX6_take_59 (by first | exact od_ne2 | exact od_ne0) ?_
      refine r_getIj (j := 8) rfl dX6_take_60 fkX6_40 gf6_8 (by assumption) (by (try simp only [od_upn (show k ≠ k + 1 by omega), od_upn (show k ≠ k + 2 by omega), od_upn (show k ≠ k + 3 by omega), od_upn (show k ≠ k + 4 by omega)]); rfl) ?_
      refine r_iconst dX6_take_63 li_1 ?_
      refine r_iaddE dX6_take_64 (by first | exact od_w0 (by omega) (by omega) | exact od_wI (by omega) (by omega) | rfl) ?_
      refine r_putIj (j := 8) rfl dX6_take_65 fkX6_40 gf6_8 pf6_8 (by assumption) ?_
      exact r_vret dX6_take_68 rfl rfl
    · exfalso; omega
def od_bc0 (x : Int) : Int := od_w (x - od_and (od_ushr x 1) 1431655765)
def od_bc1 (x : Int) : Int := od_w (od_and x 858993459 + od_and (od_ushr x 2) 858993459)
def od_bc2 (x : Int) : Int := od_and (od_w (x + od_ushr x 4)) 252645135
def od_bc3 (x : Int) : Int := od_w (x + od_ushr x 8)
def od_bc4 (x : Int) : Int := od_and (od_w (x + od_ushr x 16)) 63
def od_bc (x : Int) : Int := od_bc4 (od_bc3 (od_bc2 (od_bc1 (od_bc0 x))))
set_option maxRecDepth 10000 in
theorem c_J6_bitCount_0f7a4 {E : od_E} {g : od_G} (x : Int) : od_Ct 1 mJ6_bitCount_0f7a4 [(0, x)] E g (some (0, od_bc x), E, g) := by
  refine od_ctI pnJ6 rfl (Nat.le_of_ble_eq_true rfl) od_le.rf ?_
  show od_R _ _ _ _ _ 0 [some (0, x)] [] E g
  refine r_iload_n dJ6_bitCount_0f7a4_0 rfl ?_
  refine r_iload_n dJ6_bitCount_0f7a4_1 rfl ?_
  refine r_iconst dJ6_bitCount_0f7a4_2 li_1 ?_
  refine r_iushr dJ6_bitCount_0f7a4_3 ?_
  refine r_ldcw dJ6_bitCount_0f7a4_4 kcJ6_265 lk_J6_265 ?_
  refine r_iand dJ6_bitCount_0f7a4_7 ?_
  refine r_isubE dJ6_bitCount_0f7a4_8 rfl ?_
  refine r_istore_n dJ6_bitCount_0f7a4_9 (by decide) rfl ?_
  refine r_iload_n dJ6_bitCount_0f7a4_10 rfl ?_
  refine r_ldcw dJ6_bitCount_0f7a4_11 kcJ6_266 lk_J6_266 ?_
  refine r_iand dJ6_bitCount_0f7a4_14 ?_
  refine r_iload_n dJ6_bitCount_0f7a4_15 rfl ?_
  refine r_iconst dJ6_bitCount_0f7a4_16 li_2 ?_
  refine r_iushr dJ6_bitCount_0f7a4_17 ?_
  refine r_ldcw dJ6_bitCount_0f7a4_18 kcJ6_266 lk_J6_266 ?_
  refine r_iand dJ6_bitCount_0f7a4_21 ?_
  refine r_iaddE dJ6_bitCount_0f7a4_22 rfl ?_
  refine r_istore_n dJ6_bitCount_0f7a4_23 (by decide) rfl ?_
  refine r_iload_n dJ6_bitCount_0f7a4_24 rfl ?_
  refine r_iload_n dJ6_bitCount_0f7a4_25 rfl ?_
  refine r_iconst dJ6_bitCount_0f7a4_26 li_4 ?_
  refine r_iushr dJ6_bitCount_0f7a4_27 ?_
  refine r_iaddE dJ6_bitCount_0f7a4_28 rfl ?_
  refine r_ldcw dJ6_bitCount_0f7a4_29 kcJ6_267 lk_J6_267 ?_
  refine r_iand dJ6_bitCount_0f7a4_32 ?_
  refine r_istore_n dJ6_bitCount_0f7a4_33 (by decide) rfl ?_
  refine r_iload_n dJ6_bitCount_0f7a4_34 rfl ?_
  refine r_iload_n dJ6_bitCount_0f7a4_35 rfl ?_
  refine r_bipush dJ6_bitCount_0f7a4_36 lb_8 ?_
  refine r_iushr dJ6_bitCount_0f7a4_38 ?_
  refine r_iaddE dJ6_bitCount_0f7a4_39 rfl ?_
  refine r_istore_n dJ6_bitCount_0f7a4_40 (by decide) rfl ?_
  refine r_iload_n dJ6_bitCount_0f7a4_41 rfl ?_
  refine r_iload_n dJ6_bitCount_0f7a4_42 rfl ?_
  refine r_bipush dJ6_bitCount_0f7a4_43 lb_16 ?_
  refine r_iushr dJ6_bitCount_0f7a4_45 ?_
  refine r_iaddE dJ6_bitCount_0f7a4_46 rfl ?_
  refine r_istore_n dJ6_bitCount_0f7a4_47 (by decide) rfl ?_
  refine r_iload_n dJ6_bitCount_0f7a4_48 rfl ?_
  refine r_bipush dJ6_bitCount_0f7a4_49 lb_63 ?_
  refine r_iand dJ6_bitCount_0f7a4_51 ?_
  exact r_iret dJ6_bitCount_0f7a4_52 rfl rfl
