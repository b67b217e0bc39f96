/-! OrganDrums$Street: loops -/
noncomputable def cHow (g : od_G) (k : Int) (n : Nat) : Int := od_sum (fun d => od_b (cStrikes g k d 0)) n
def cPins (g : od_G) (k : Int) (n : Nat) : Int := od_sum (fun d => od_bc (g (k + 4) d)) n
theorem od_and_le (a : Int) : ∀ b : Nat, b < 64 → 0 ≤ od_and a b ∧ od_and a b ≤ 63 := by
  intro b hb
  unfold od_and
  have h2 : (Int32.ofInt (b : Int)).toBitVec.toNat = b := by
    rw [show Int32.ofInt (b : Int) = Int32.ofNat b from Int32.ofInt_eq_ofNat]
    simp [Int32.toBitVec_ofNat]
    omega
  have h3 : (Int32.ofInt a &&& Int32.ofInt (b : Int)).toBitVec.toNat ≤ 63 := by
    rw [Int32.toBitVec_and, BitVec.toNat_and, h2]
    have := @Nat.and_le_right (Int32.ofInt a).toBitVec.toNat b
    omega
  rw [← Int32.toInt_toBitVec, BitVec.toInt_eq_toNat_cond]
  split <;> omega
theorem od_bc_le (x : Int) : 0 ≤ od_bc x ∧ od_bc x ≤ 63 := od_and_le _ 63 (by omega)
def cMultF (h l : Int) : Nat → Int → Int
  | 0, _ => h
  | f + 1, i => if 0 < l ∧ (od_w (h * i)).tmod l = 0 then od_w (h * i) else cMultF h l f (i + 1)
def cMult (h l : Int) : Int := cMultF h l 12 1
noncomputable def cRoundF (g : od_G) (k : Int) : Nat → Int → Int → Int
  | 0, _, h => h
  | f + 1, d, h => cRoundF g k f (d + 1) (od_ite (cHas g k d ∧ ¬ cStop g k d) (cMult h (g (k + 1) d)) h)
noncomputable def cRound (g : od_G) (k a b : Int) : Int := cRoundF g k (b - a).toNat a 1
def cFit (g : od_G) (k d n : Int) : Prop := ∀ j : Int, 0 ≤ j → j < n → od_b (cStrikes g k d (g (k + 7) j)) = g (k + 8) j
noncomputable def cSus (g : od_G) (k : Int) : Nat → Int
  | 0 => 0
  | d + 1 => od_ite (cFit g k d (g k 12)) (od_or (cSus g k d) (od_shl 1 d)) (cSus g k d)
set_option maxRecDepth 10000 in
theorem lp_X6_how {E : od_E} {g : od_G} {k : Int} (hs : StAt E k) : ∀ (m : Nat) (d n : Int), (0 ≤ d ∧ d ≤ g k 8 ∧ g k 8 ≤ 6 ∧ n = cHow g k d.toNat) → ((g k 8 - d).toNat) < m → od_R 4 mX6_howManyStrike od_Z0 E (some (0, cHow g k (g k 8).toNat), E, g) 4 [some (2, k), some (0, n), some (0, d)] [] E g := by
  have hs0 := hs
  obtain ⟨hk, r0, r1, r2, r3, r4, r5, r6, r7, a1, a2, a3, a4, a5, a6, a7, a8⟩ := hs
  intro m
  induction m with
  | zero => intro d n hi hM; exact absurd hM (Nat.not_lt_zero _)
  | succ m ih =>
    intro d n hi hM
    have hb := od_sum_b (f := fun d => od_b (cStrikes g k d 0)) (m := 1) d.toNat (fun i _ _ => by have := od_b_01 (cStrikes g k i 0); omega)
    have hs1 := od_sum_s (fun d => od_b (cStrikes g k d 0)) hi.1
    unfold cHow at hi ih ⊢
    refine r_iload_n dX6_howManyStrike_4 rfl ?_
    refine r_aload_n dX6_howManyStrike_5 rfl ?_
    refine r_getIj (j := 8) rfl dX6_howManyStrike_6 fkX6_40 gf6_8 (by assumption) (by (repeat (first | rewrite [od_upn (by omega)] | rewrite [od_up_at, if_pos (by omega)] | rewrite [od_up_at, if_neg (by omega)])); rfl) ?_
    refine r_icmp_ge (tgt := 30) dX6_howManyStrike_9 rfl (fun c9 => ?_) (fun c9 => ?_)
    · refine r_iload_n dX6_howManyStrike_30 rfl ?_
      exact r_iret dX6_howManyStrike_31 rfl (by rw [hi.2.2.2, show d = g k 8 by omega])
    · refine r_aload_n dX6_howManyStrike_12 rfl ?_
      refine r_iload_n dX6_howManyStrike_13 rfl ?_
      refine r_iconst dX6_howManyStrike_14 li_0 ?_
      refine r_callV2b dX6_howManyStrike_15 cvX6_71 (by assumption) (c_X6_strikesIn (by assumption) _ _) (by decide) (Nat.le_of_ble_eq_true rfl) od_le.rf (fun q15 => ?_) (fun q15 => ?_)
      · refine r_if_eq (tgt := 24) dX6_howManyStrike_18 rfl (fun h => absurd h (by decide)) (fun _ => ?_)
        refine r_iincE dX6_howManyStrike_21 rfl (by decide) (by first | exact od_w0 (by omega) (by omega) | exact od_wI (by omega) (by omega) | rfl) rfl ?_
        refine r_iincE dX6_howManyStrike_24 rfl (by decide) (by first | exact od_w0 (by omega) (by omega) | exact od_wI (by omega) (by omega) | rfl) rfl ?_
        refine r_goto (tgt := 4) dX6_howManyStrike_27 rfl ?_
        exact ih _ _ ⟨by omega, by omega, by omega, by rw [hs1]; first | rw [od_b_t (by assumption)]; omega | rw [od_b_f (by assumption)]; omega⟩ (by omega)
      · refine r_if_eq (tgt := 24) dX6_howManyStrike_18 rfl (fun _ => ?_) (fun h => absurd h (by decide))
        refine r_iincE dX6_howManyStrike_24 rfl (by decide) (by first | exact od_w0 (by omega) (by omega) | exact od_wI (by omega) (by omega) | rfl) rfl ?_
        refine r_goto (tgt := 4) dX6_howManyStrike_27 rfl ?_
        exact ih _ _ ⟨by omega, by omega, by omega, by rw [hs1]; first | rw [od_b_t (by assumption)]; omega | rw [od_b_f (by assumption)]; omega⟩ (by omega)
set_option maxRecDepth 10000 in
theorem c_X6_howManyStrike {E : od_E} {g : od_G} {k : Int} (hs : StAt E k) (h0 : 0 ≤ g k 8 ∧ g k 8 ≤ 6) : od_Ct 4 mX6_howManyStrike [(2, k)] E g (some (0, cHow g k (g k 8).toNat), E, g) := by
  have hs0 := hs
  obtain ⟨hk, r0, r1, r2, r3, r4, r5, r6, r7, a1, a2, a3, a4, a5, a6, a7, a8⟩ := hs
  refine od_ctI pnX6 rfl (Nat.le_of_ble_eq_true rfl) od_le.rf ?_
  show od_R _ _ _ _ _ 0 [some (2, k), none, none] [] E g
  refine r_iconst dX6_howManyStrike_0 li_0 ?_
  refine r_istore_n dX6_howManyStrike_1 (by decide) rfl ?_
  refine r_iconst dX6_howManyStrike_2 li_0 ?_
  refine r_istore_n dX6_howManyStrike_3 (by decide) rfl ?_
  exact lp_X6_how hs0 _ _ _ ⟨by omega, by omega, by omega, rfl⟩ (Nat.lt_succ_self _)
set_option maxRecDepth 10000 in
theorem lp_X6_pins {E : od_E} {g : od_G} {k : Int} (hs : StAt E k) : ∀ (m : Nat) (d n : Int), (0 ≤ d ∧ d ≤ g k 8 ∧ g k 8 ≤ 6 ∧ n = cPins g k d.toNat) → ((g k 8 - d).toNat) < m → od_R 2 mX6_allPins od_Z0 E (some (0, cPins g k (g k 8).toNat), E, g) 4 [some (2, k), some (0, n), some (0, d)] [] E g := by
  have hs0 := hs
  obtain ⟨hk, r0, r1, r2, r3, r4, r5, r6, r7, a1, a2, a3, a4, a5, a6, a7, a8⟩ := hs
  intro m
  induction m with
  | zero => intro d n hi hM; exact absurd hM (Nat.not_lt_zero _)
  | succ m ih =>
    intro d n hi hM
    have hb := od_sum_b (f := fun d => od_bc (g (k + 4) d)) (m := 63) d.toNat (fun i _ _ => od_bc_le _)
    have hs1 := od_sum_s (fun d => od_bc (g (k + 4) d)) hi.1
    have hc1 := od_bc_le (g (k + 4) d)
    unfold cPins at hi ih ⊢
    refine r_iload_n dX6_allPins_4 rfl ?_
    refine r_aload_n dX6_allPins_5 rfl ?_
    refine r_getIj (j := 8) rfl dX6_allPins_6 fkX6_40 gf6_8 (by assumption) (by (repeat (first | rewrite [od_upn (by omega)] | rewrite [od_up_at, if_pos (by omega)] | rewrite [od_up_at, if_neg (by omega)])); rfl) ?_
    refine r_icmp_ge (tgt := 36) dX6_allPins_9 rfl (fun c9 => ?_) (fun c9 => ?_)
    · refine r_iload_n dX6_allPins_36 rfl ?_
      exact r_iret dX6_allPins_37 rfl (by rw [hi.2.2.2, show d = g k 8 by omega])
    · refine r_iload_n dX6_allPins_12 rfl ?_
      refine r_bipush dX6_allPins_13 lb_6 ?_
      refine r_icmp_ge (tgt := 36) dX6_allPins_15 rfl (fun c15 => ?_) (fun c15 => ?_)
      · refine r_iload_n dX6_allPins_36 rfl ?_
        exact r_iret dX6_allPins_37 rfl (by rw [hi.2.2.2, show d = g k 8 by omega])
      · refine r_iload_n dX6_allPins_18 rfl ?_
        refine r_aload_n dX6_allPins_19 rfl ?_
        refine r_getR dX6_allPins_20 fkX6_21 gf6_3 (by assumption) (by assumption) ?_
        refine r_iload_n dX6_allPins_23 rfl ?_
        refine r_iald dX6_allPins_24 (by assumption) (by omega) (by (repeat (first | rewrite [od_upn (by omega)] | rewrite [od_up_at, if_pos (by omega)] | rewrite [od_up_at, if_neg (by omega)])); rfl) ?_
        refine r_callS1i dX6_allPins_25 csX6_74 (c_J6_bitCount_0f7a4 _) (by decide) (Nat.le_of_ble_eq_true rfl) od_le.rf ?_
        refine r_iaddE dX6_allPins_28 (by first | exact od_w0 (by omega) (by omega) | exact od_wI (by omega) (by omega) | rfl) ?_
        refine r_istore_n dX6_allPins_29 (by decide) rfl ?_
        refine r_iincE dX6_allPins_30 rfl (by decide) (by first | exact od_w0 (by omega) (by omega) | exact od_wI (by omega) (by omega) | rfl) rfl ?_
        refine r_goto (tgt := 4) dX6_allPins_33 rfl ?_
        exact ih _ _ ⟨by omega, by omega, by omega, by rw [hs1]; omega⟩ (by omega)
set_option maxRecDepth 10000 in
theorem c_X6_allPins {E : od_E} {g : od_G} {k : Int} (hs : StAt E k) (h0 : 0 ≤ g k 8 ∧ g k 8 ≤ 6) : od_Ct 2 mX6_allPins [(2, k)] E g (some (0, cPins g k (g k 8).toNat), E, g) := by
  have hs0 := hs
  obtain ⟨hk, r0, r1, r2, r3, r4, r5, r6, r7, a1, a2, a3, a4, a5, a6, a7, a8⟩ := hs
  refine od_ctI pnX6 rfl (Nat.le_of_ble_eq_true rfl) od_le.rf ?_
  show od_R _ _ _ _ _ 0 [some (2, k), none, none] [] E g
  refine r_iconst dX6_allPins_0 li_0 ?_
  refine r_istore_n dX6_allPins_1 (by decide) rfl ?_
  refine r_iconst dX6_allPins_2 li_0 ?_
  refine r_istore_n dX6_allPins_3 (by decide) rfl ?_
  exact lp_X6_pins hs0 _ _ _ ⟨by omega, by omega, by omega, rfl⟩ (Nat.lt_succ_self _)
set_option maxRecDepth 10000 in
theorem lp_X6_mult {E : od_E} {g : od_G} (h l : Int) : ∀ (m : Nat) (i v : Int), (1 ≤ i ∧ i ≤ 13 ∧ v = cMultF h l (13 - i).toNat i) → ((13 - i).toNat) < m → od_R 1 mX6_multipleOf od_Z0 E (some (0, v), E, g) 2 [some (0, h), some (0, l), some (0, i)] [] E g := by
  intro m
  induction m with
  | zero => intro i v hi hM; exact absurd hM (Nat.not_lt_zero _)
  | succ m ih =>
    intro i v hi hM
    have e1 : i ≤ 12 → cMultF h l (13 - i).toNat i = if 0 < l ∧ (od_w (h * i)).tmod l = 0 then od_w (h * i) else cMultF h l (13 - (i + 1)).toNat (i + 1) := fun q => by rw [show (13 - i).toNat = (13 - (i + 1)).toNat + 1 by omega]; rfl
    refine r_iload_n dX6_multipleOf_2 rfl ?_
    refine r_bipush dX6_multipleOf_3 lb_12 ?_
    refine r_icmp_gt (tgt := 30) dX6_multipleOf_5 rfl (fun c5 => ?_) (fun c5 => ?_)
    · refine r_iload_n dX6_multipleOf_30 rfl ?_
      exact r_iret dX6_multipleOf_31 rfl (by rw [hi.2.2, show i = 13 by omega]; rfl)
    · refine r_iload_n dX6_multipleOf_8 rfl ?_
      refine r_if_le (tgt := 24) dX6_multipleOf_9 rfl (fun c9 => ?_) (fun c9 => ?_)
      · refine r_iincE dX6_multipleOf_24 rfl (by decide) (by first | exact od_w0 (by omega) (by omega) | exact od_wI (by omega) (by omega) | rfl) rfl ?_
        refine r_goto (tgt := 2) dX6_multipleOf_27 rfl ?_
        exact ih _ _ ⟨by omega, by omega, by rw [hi.2.2, e1 (by omega), if_neg (by omega)]⟩ (by omega)
      · refine r_iload_n dX6_multipleOf_12 rfl ?_
        refine r_iload_n dX6_multipleOf_13 rfl ?_
        refine r_imulE dX6_multipleOf_14 (by first | exact od_w0 (by omega) (by omega) | exact od_wI (by omega) (by omega) | rfl) ?_
        refine r_iload_n dX6_multipleOf_15 rfl ?_
        refine r_irem dX6_multipleOf_16 (by first | decide | omega) ?_
        refine r_if_ne (tgt := 24) dX6_multipleOf_17 rfl (fun c17 => ?_) (fun c17 => ?_)
        · refine r_iincE dX6_multipleOf_24 rfl (by decide) (by first | exact od_w0 (by omega) (by omega) | exact od_wI (by omega) (by omega) | rfl) rfl ?_
          refine r_goto (tgt := 2) dX6_multipleOf_27 rfl ?_
          exact ih _ _ ⟨by omega, by omega, by rw [hi.2.2, e1 (by omega), if_neg (by omega)]⟩ (by omega)
        · refine r_iload_n dX6_multipleOf_20 rfl ?_
          refine r_iload_n dX6_multipleOf_21 rfl ?_
          refine r_imulE dX6_multipleOf_22 (by first | exact od_w0 (by omega) (by omega) | exact od_wI (by omega) (by omega) | rfl) ?_
          exact r_iret dX6_multipleOf_23 rfl (by rw [hi.2.2, e1 (by omega), if_pos (by omega)])
set_option maxRecDepth 10000 in
theorem c_X6_multipleOf {E : od_E} {g : od_G} (h l : Int) : od_Ct 1 mX6_multipleOf [(0, h), (0, l)] E g (some (0, cMult h l), E, g) := by
  refine od_ctI pnX6 rfl (Nat.le_of_ble_eq_true rfl) od_le.rf ?_
  show od_R _ _ _ _ _ 0 [some (0, h), some (0, l), none] [] E g
  refine r_iconst dX6_multipleOf_0 li_1 ?_
  refine r_istore_n dX6_multipleOf_1 (by decide) rfl ?_
  exact lp_X6_mult h l _ _ _ ⟨by omega, by omega, rfl⟩ (Nat.lt_succ_self _)
set_option maxRecDepth 10000 in
theorem lp_X6_round {E : od_E} {g : od_G} {k : Int} (hs : StAt E k) (a b : Int) (hb : b ≤ 6) : ∀ (m : Nat) (d h v : Int), (0 ≤ d ∧ d ≤ b ∧ v = cRoundF g k (b - d).toNat d h) → ((b - d).toNat) < m → od_R 2 mX6_roundOf od_Z0 E (some (0, v), E, g) 5 [some (2, k), some (0, a), some (0, b), some (0, h), some (0, d)] [] E g := by
  have hs0 := hs
  obtain ⟨hk, r0, r1, r2, r3, r4, r5, r6, r7, a1, a2, a3, a4, a5, a6, a7, a8⟩ := hs
  intro m
  induction m with
  | zero => intro d h v hi hM; exact absurd hM (Nat.not_lt_zero _)
  | succ m ih =>
    intro d h v hi hM
    have e1 : d < b → cRoundF g k (b - d).toNat d h = cRoundF g k (b - (d + 1)).toNat (d + 1) (od_ite (cHas g k d ∧ ¬ cStop g k d) (cMult h (g (k + 1) d)) h) := fun q => by rw [show (b - d).toNat = (b - (d + 1)).toNat + 1 by omega]; rfl
    refine r_iload dX6_roundOf_5 rfl ?_
    refine r_iload_n dX6_roundOf_7 rfl ?_
    refine r_icmp_ge (tgt := 47) dX6_roundOf_8 rfl (fun c8 => ?_) (fun c8 => ?_)
    · refine r_iload_n dX6_roundOf_47 rfl ?_
      exact r_iret dX6_roundOf_48 rfl (by rw [hi.2.2, show d = b by omega, Int.sub_self]; rfl)
    · refine r_aload_n dX6_roundOf_11 rfl ?_
      refine r_iload dX6_roundOf_12 rfl ?_
      refine r_callV1b dX6_roundOf_14 cvX6_56 (by assumption) (c_X6_has (by assumption) _) (by decide) (Nat.le_of_ble_eq_true rfl) od_le.rf (fun q14 => ?_) (fun q14 => ?_)
      · refine r_if_eq (tgt := 41) dX6_roundOf_17 rfl (fun h => absurd h (by decide)) (fun _ => ?_)
        have u14 := q14; unfold cHas at u14
        refine r_aload_n dX6_roundOf_20 rfl ?_
        refine r_iload dX6_roundOf_21 rfl ?_
        refine r_callV1b dX6_roundOf_23 cvX6_60 (by assumption) (c_X6_isStopped (by assumption) _) (by decide) (Nat.le_of_ble_eq_true rfl) od_le.rf (fun q23 => ?_) (fun q23 => ?_)
        · refine r_if_ne (tgt := 41) dX6_roundOf_26 rfl (fun _ => ?_) (fun h => absurd h (by decide))
          refine r_iincE dX6_roundOf_41 rfl (by decide) (by first | exact od_w0 (by omega) (by omega) | exact od_wI (by omega) (by omega) | rfl) rfl ?_
          refine r_goto (tgt := 5) dX6_roundOf_44 rfl ?_
          exact ih _ _ _ ⟨by omega, by omega, by rw [hi.2.2, e1 (by omega)]; first | rw [od_ite_t ⟨by assumption, by assumption⟩] | rw [od_ite_f (fun z => absurd z.1 (by assumption))] | rw [od_ite_f (fun z => absurd (by assumption) z.2)]⟩ (by omega)
        · refine r_if_ne (tgt := 41) dX6_roundOf_26 rfl (fun h => absurd h (by decide)) (fun _ => ?_)
          refine r_iload_n dX6_roundOf_29 rfl ?_
          refine r_aload_n dX6_roundOf_30 rfl ?_
          refine r_getR dX6_roundOf_31 fkX6_9 gf6_0 (by assumption) (by assumption) ?_
          refine r_iload dX6_roundOf_34 rfl ?_
          refine r_iald dX6_roundOf_36 (by assumption) (by omega) (by (repeat (first | rewrite [od_upn (by omega)] | rewrite [od_up_at, if_pos (by omega)] | rewrite [od_up_at, if_neg (by omega)])); rfl) ?_
          refine r_callS2i dX6_roundOf_37 csX6_80 (c_X6_multipleOf _ _) (by decide) (Nat.le_of_ble_eq_true rfl) od_le.rf ?_
          refine r_istore_n dX6_roundOf_40 (by decide) rfl ?_
          refine r_iincE dX6_roundOf_41 rfl (by decide) (by first | exact od_w0 (by omega) (by omega) | exact od_wI (by omega) (by omega) | rfl) rfl ?_
          refine r_goto (tgt := 5) dX6_roundOf_44 rfl ?_
          exact ih _ _ _ ⟨by omega, by omega, by rw [hi.2.2, e1 (by omega)]; first | rw [od_ite_t ⟨by assumption, by assumption⟩] | rw [od_ite_f (fun z => absurd z.1 (by assumption))] | rw [od_ite_f (fun z => absurd (by assumption) z.2)]⟩ (by omega)
      · refine r_if_eq (tgt := 41) dX6_roundOf_17 rfl (fun _ => ?_) (fun h => absurd h (by decide))
        refine r_iincE dX6_roundOf_41 rfl (by decide) (by first | exact od_w0 (by omega) (by omega) | exact od_wI (by omega) (by omega) | rfl) rfl ?_
        refine r_goto (tgt := 5) dX6_roundOf_44 rfl ?_
        exact ih _ _ _ ⟨by omega, by omega, by rw [hi.2.2, e1 (by omega)]; first | rw [od_ite_t ⟨by assumption, by assumption⟩] | rw [od_ite_f (fun z => absurd z.1 (by assumption))] | rw [od_ite_f (fun z => absurd (by assumption) z.2)]⟩ (by omega)
set_option maxRecDepth 10000 in
theorem c_X6_roundOf {E : od_E} {g : od_G} {k : Int} (hs : StAt E k) (a b : Int) (h0 : 0 ≤ a ∧ a ≤ b ∧ b ≤ 6) : od_Ct 2 mX6_roundOf [(2, k), (0, a), (0, b)] E g (some (0, cRound g k a b), E, g) := by
  have hs0 := hs
  obtain ⟨hk, r0, r1, r2, r3, r4, r5, r6, r7, a1, a2, a3, a4, a5, a6, a7, a8⟩ := hs
  refine od_ctI pnX6 rfl (Nat.le_of_ble_eq_true rfl) od_le.rf ?_
  show od_R _ _ _ _ _ 0 [some (2, k), some (0, a), some (0, b), none, none] [] E g
  refine r_iconst dX6_roundOf_0 li_1 ?_
  refine r_istore_n dX6_roundOf_1 (by decide) rfl ?_
  refine r_iload_n dX6_roundOf_2 rfl ?_
  refine r_istore dX6_roundOf_3 (by decide) rfl ?_
  exact lp_X6_round hs0 a b (by omega) _ _ _ _ ⟨by omega, by omega, rfl⟩ (Nat.lt_succ_self _)
