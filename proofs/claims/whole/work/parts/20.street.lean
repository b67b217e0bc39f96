/-! OrganDrums$Street -/
/-- a street at cell k: its rows are the next eight cells -/
def StAt (E : od_E) (k : Int) : Prop := (E.2.1 k).1 = 6 ∧ E.2.2 k 0 = k + 1 ∧ E.2.2 k 1 = k + 2 ∧ E.2.2 k 2 = k + 3 ∧ E.2.2 k 3 = k + 4 ∧ E.2.2 k 4 = k + 5 ∧ E.2.2 k 5 = k + 6 ∧ E.2.2 k 6 = k + 7 ∧ E.2.2 k 7 = k + 8
  ∧ E.2.1 (k + 1) = (20, 6) ∧ E.2.1 (k + 2) = (20, 6) ∧ E.2.1 (k + 3) = (20, 6) ∧ E.2.1 (k + 4) = (20, 6) ∧ E.2.1 (k + 5) = (20, 3) ∧ E.2.1 (k + 6) = (24, 6) ∧ E.2.1 (k + 7) = (20, 6) ∧ E.2.1 (k + 8) = (22, 6)
def cHas (g : od_G) (k d : Int) : Prop := 0 ≤ d ∧ d < g k 8 ∧ d < 6
def cHasBeat (g : od_G) (k d b : Int) : Prop := cHas g k d ∧ 0 ≤ b ∧ b < g (k + 1) d
def cHasAll (g : od_G) (k s : Int) : Prop := 0 ≤ s ∧ s < od_shl 1 (g k 8)
def cHasPin (g : od_G) (k d b : Int) : Prop := cHas g k d ∧ 0 ≤ b ∧ b < g (k + 1) d ∧ od_bit (g (k + 4) d) b
def cStop (g : od_G) (k d : Int) : Prop := 0 ≤ d ∧ d < 6 ∧ od_bit (g k 9) d
noncomputable def cBeatIn (g : od_G) (k d h : Int) : Int := od_ite (cHas g k d ∧ 1 ≤ g (k + 1) d) (od_ite (cStop g k d) (g (k + 3) d) ((od_w (g (k + 3) d + h)).tmod (g (k + 1) d))) 0
def cStrikes (g : od_G) (k d h : Int) : Prop := ¬ cStop g k d ∧ cHasPin g k d (cBeatIn g k d h)
def cCanHold (l k a p : Int) : Prop := 1 ≤ l ∧ l ≤ 12 ∧ 0 ≤ k ∧ k < 4 ∧ 0 ≤ a ∧ a < l ∧ 0 ≤ p ∧ p < od_shl 1 l
noncomputable def cLawOf (g : od_G) (k n : Int) : Int := od_ite (0 ≤ n ∧ n < g k 10 ∧ n < 6) (g (k + 6) n) (-1)
set_option maxRecDepth 10000 in
theorem c_X6_has {E : od_E} {g : od_G} {k : Int} (hs : StAt E k) (d : Int) : od_Ct 1 mX6_has [(2, k), (0, d)] E g (some (0, od_b (cHas g k d)), E, g) := by
  have hs0 := hs
  obtain ⟨hk, r0, r1, r2, r3, r4, r5, r6, r7, a1, a2, a3, a4, a5, a6, a7, a8⟩ := hs
  refine od_ctI pnX6 rfl (Nat.le_of_ble_eq_true rfl) od_le.rf ?_
  show od_R _ _ _ _ _ 0 [some (2, k), some (0, d)] [] E g
  refine r_iload_n dX6_has_0 rfl ?_
  refine r_if_lt (tgt := 22) dX6_has_1 rfl (fun c1 => ?_) (fun c1 => ?_)
  · refine r_iconst dX6_has_22 li_0 ?_
    exact r_zret (v := 0) dX6_has_23 rfl od_nz0 (od_lt0 (by unfold cHas; grind))
  · refine r_iload_n dX6_has_4 rfl ?_
    refine r_aload_n dX6_has_5 rfl ?_
    refine r_getI dX6_has_6 fkX6_40 gf6_8 (by assumption) rfl ?_
    refine r_icmp_ge (tgt := 22) dX6_has_9 rfl (fun c9 => ?_) (fun c9 => ?_)
    · refine r_iconst dX6_has_22 li_0 ?_
      exact r_zret (v := 0) dX6_has_23 rfl od_nz0 (od_lt0 (by unfold cHas; grind))
    · refine r_iload_n dX6_has_12 rfl ?_
      refine r_bipush dX6_has_13 lb_6 ?_
      refine r_icmp_ge (tgt := 22) dX6_has_15 rfl (fun c15 => ?_) (fun c15 => ?_)
      · refine r_iconst dX6_has_22 li_0 ?_
        exact r_zret (v := 0) dX6_has_23 rfl od_nz0 (od_lt0 (by unfold cHas; grind))
      · refine r_iconst dX6_has_18 li_1 ?_
        refine r_goto (tgt := 23) dX6_has_19 rfl ?_
        exact r_zret (v := 1) dX6_has_23 rfl od_nz1 (od_lt1 (by unfold cHas; grind))
set_option maxRecDepth 10000 in
theorem c_X6_hasBeat {E : od_E} {g : od_G} {k : Int} (hs : StAt E k) (d b : Int) : od_Ct 2 mX6_hasBeat [(2, k), (0, d), (0, b)] E g (some (0, od_b (cHasBeat g k d b)), E, g) := by
  have hs0 := hs
  obtain ⟨hk, r0, r1, r2, r3, r4, r5, r6, r7, a1, a2, a3, a4, a5, a6, a7, a8⟩ := hs
  refine od_ctI pnX6 rfl (Nat.le_of_ble_eq_true rfl) od_le.rf ?_
  show od_R _ _ _ _ _ 0 [some (2, k), some (0, d), some (0, b)] [] E g
  refine r_aload_n dX6_hasBeat_0 rfl ?_
  refine r_iload_n dX6_hasBeat_1 rfl ?_
  refine r_callV1b dX6_hasBeat_2 cvX6_56 (by assumption) (c_X6_has (by assumption) _) (by decide) (Nat.le_of_ble_eq_true rfl) od_le.rf (fun q2 => ?_) (fun q2 => ?_)
  · refine r_if_eq (tgt := 26) dX6_hasBeat_5 rfl (fun h => absurd h (by decide)) (fun _ => ?_)
    have u2 := q2; unfold cHas at u2
    refine r_iload_n dX6_hasBeat_8 rfl ?_
    refine r_if_lt (tgt := 26) dX6_hasBeat_9 rfl (fun c9 => ?_) (fun c9 => ?_)
    · refine r_iconst dX6_hasBeat_26 li_0 ?_
      exact r_zret (v := 0) dX6_hasBeat_27 rfl od_nz0 (od_lt0 (by unfold cHasBeat; grind))
    · refine r_iload_n dX6_hasBeat_12 rfl ?_
      refine r_aload_n dX6_hasBeat_13 rfl ?_
      refine r_getR dX6_hasBeat_14 fkX6_9 gf6_0 (by assumption) (by assumption) ?_
      refine r_iload_n dX6_hasBeat_17 rfl ?_
      refine r_iald dX6_hasBeat_18 (by assumption) (by omega) rfl ?_
      refine r_icmp_ge (tgt := 26) dX6_hasBeat_19 rfl (fun c19 => ?_) (fun c19 => ?_)
      · refine r_iconst dX6_hasBeat_26 li_0 ?_
        exact r_zret (v := 0) dX6_hasBeat_27 rfl od_nz0 (od_lt0 (by unfold cHasBeat; grind))
      · refine r_iconst dX6_hasBeat_22 li_1 ?_
        refine r_goto (tgt := 27) dX6_hasBeat_23 rfl ?_
        exact r_zret (v := 1) dX6_hasBeat_27 rfl od_nz1 (od_lt1 (by unfold cHasBeat; grind))
  · refine r_if_eq (tgt := 26) dX6_hasBeat_5 rfl (fun _ => ?_) (fun h => absurd h (by decide))
    refine r_iconst dX6_hasBeat_26 li_0 ?_
    exact r_zret (v := 0) dX6_hasBeat_27 rfl od_nz0 (od_lt0 (by unfold cHasBeat; grind))
set_option maxRecDepth 10000 in
theorem c_X6_isStopped {E : od_E} {g : od_G} {k : Int} (hs : StAt E k) (d : Int) : od_Ct 1 mX6_isStopped [(2, k), (0, d)] E g (some (0, od_b (cStop g k d)), E, g) := by
  have hs0 := hs
  obtain ⟨hk, r0, r1, r2, r3, r4, r5, r6, r7, a1, a2, a3, a4, a5, a6, a7, a8⟩ := hs
  refine od_ctI pnX6 rfl (Nat.le_of_ble_eq_true rfl) od_le.rf ?_
  show od_R _ _ _ _ _ 0 [some (2, k), some (0, d)] [] E g
  refine r_iload_n dX6_isStopped_0 rfl ?_
  refine r_if_lt (tgt := 25) dX6_isStopped_1 rfl (fun c1 => ?_) (fun c1 => ?_)
  · refine r_iconst dX6_isStopped_25 li_0 ?_
    exact r_zret (v := 0) dX6_isStopped_26 rfl od_nz0 (od_lt0 (by unfold cStop od_bit; grind))
  · refine r_iload_n dX6_isStopped_4 rfl ?_
    refine r_bipush dX6_isStopped_5 lb_6 ?_
    refine r_icmp_ge (tgt := 25) dX6_isStopped_7 rfl (fun c7 => ?_) (fun c7 => ?_)
    · refine r_iconst dX6_isStopped_25 li_0 ?_
      exact r_zret (v := 0) dX6_isStopped_26 rfl od_nz0 (od_lt0 (by unfold cStop od_bit; grind))
    · refine r_aload_n dX6_isStopped_10 rfl ?_
      refine r_getI dX6_isStopped_11 fkX6_44 gf6_9 (by assumption) rfl ?_
      refine r_iload_n dX6_isStopped_14 rfl ?_
      refine r_ishr dX6_isStopped_15 ?_
      refine r_iconst dX6_isStopped_16 li_1 ?_
      refine r_iand dX6_isStopped_17 ?_
      refine r_if_eq (tgt := 25) dX6_isStopped_18 rfl (fun c18 => ?_) (fun c18 => ?_)
      · refine r_iconst dX6_isStopped_25 li_0 ?_
        exact r_zret (v := 0) dX6_isStopped_26 rfl od_nz0 (od_lt0 (by unfold cStop od_bit; grind))
      · refine r_iconst dX6_isStopped_21 li_1 ?_
        refine r_goto (tgt := 26) dX6_isStopped_22 rfl ?_
        exact r_zret (v := 1) dX6_isStopped_26 rfl od_nz1 (od_lt1 (by unfold cStop od_bit; grind))
