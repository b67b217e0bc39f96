/-! Round: what is asked of a round that is laid -/
/-- the round has H hours; the cell of hour h is C h -/
def RdC (g : od_G) (q H : Int) (C : Int → Int) : Prop := g q 9 = H ∧ (1 ≤ H ∧ H ≤ 27720) ∧ (1 ≤ g q 7 ∧ g q 7 ≤ 990) ∧ (1 ≤ g q 8 ∧ g q 8 ≤ 990) ∧ (∀ h : Int, 0 ≤ h → h ≤ 60000 → g (q + 1) (h.tmod (g q 7)) + g (q + 2) (h.tmod (g q 8)) = C h) ∧ ∀ h : Int, 0 ≤ h → 0 ≤ C h ∧ C h ≤ 5000
theorem RdC.e {g g' : od_G} {q H : Int} {C : Int → Int} (h : RdC g q H C) (e0 : g' q = g q) (e1 : g' (q + 1) = g (q + 1)) (e2 : g' (q + 2) = g (q + 2)) : RdC g' q H C := by
  unfold RdC
  rw [e0, e1, e2]
  exact h
def cBt (C : Int → Int) (h : Int) : Int := od_and (C h) 63
def cLn (C : Int → Int) (h : Int) : Int := od_shr (C h) 6
/-- the first at which P is -/
noncomputable def od_fst (P : Int → Prop) : Nat → Int → Int
  | 0, _ => -1
  | f + 1, i => od_ite (P i) i (od_fst P f (i + 1))
theorem od_fst_c {P Q : Int → Prop} : ∀ (f : Nat) (i : Int), (∀ j : Int, i ≤ j → j < i + f → (P j ↔ Q j)) → od_fst P f i = od_fst Q f i := by
  intro f
  induction f with
  | zero => intro i _; rfl
  | succ f ih =>
    intro i h
    simp only [od_fst]
    rw [ih (i + 1) (fun j j0 j1 => h j (by omega) (by omega)), propext (h i (by omega) (by omega))]
/-- the most, where it is first, how often -/
def od_ld (F : Int → Int) (f0 : Int) : Nat → Int × Int × Int
  | 0 => (-1, f0, 0)
  | n + 1 => if (od_ld F f0 n).1 < F n then (F n, (n : Int), 1) else if F n = (od_ld F f0 n).1 then ((od_ld F f0 n).1, (od_ld F f0 n).2.1, (od_ld F f0 n).2.2 + 1) else od_ld F f0 n
theorem od_ld_c {F G : Int → Int} (f0 : Int) (n : Nat) (e : ∀ i : Int, 0 ≤ i → i < n → F i = G i) : od_ld F f0 n = od_ld G f0 n := by
  induction n with
  | zero => rfl
  | succ n ih =>
    simp only [od_ld]
    rw [ih (fun i i0 i1 => e i i0 (by omega)), e n (by omega) (by omega)]
theorem od_ld_b (F : Int → Int) (f0 : Int) : ∀ n : Nat, 0 ≤ (od_ld F f0 n).2.2 ∧ (od_ld F f0 n).2.2 ≤ n := by
  intro n
  induction n with
  | zero => simp [od_ld]
  | succ n ih =>
    simp only [od_ld]
    split
    · simp only []; omega
    · split
      · simp only []; omega
      · omega
theorem od_shr6e {x : Int} (h : -2147483648 ≤ x ∧ x < 2147483648) : od_shr x 6 = x / 64 := by
  unfold od_shr
  rw [show (Int32.ofInt 6 &&& 31 : Int32) = 6 by decide, ← Int32.toInt_toBitVec, Int32.toBitVec_shiftRight]
  rw [show ((6 : Int32).toBitVec.smod (32 : BitVec 32)) = 6#32 by decide, BitVec.sshiftRight_eq', BitVec.toInt_sshiftRight, Int32.toInt_toBitVec, show (6#32).toNat = 6 by rfl]
  rw [Int32.toInt_ofInt_of_le (by omega) (by omega), Int.shiftRight_eq_div_pow]
  rfl
theorem od_shr6 {x : Int} (h : 0 ≤ x ∧ x ≤ 5000) : 0 ≤ od_shr x 6 ∧ od_shr x 6 ≤ 5000 := by
  rw [od_shr6e (by omega)]
  omega
set_option maxRecDepth 10000 in
theorem c_X4_cellIn {E : od_E} {g : od_G} {q s : Int} (hq : RoAt E q s) {H : Int} {C : Int → Int} (hC : RdC g q H C) (h : Int) (h0 : 0 ≤ h ∧ h ≤ 60000) : od_Ct 1 mX4_cellIn [(2, q), (0, h)] E g (some (0, C h), E, g) := by
  have hq0 := hq
  obtain ⟨hkq, qa, qb, qc, qd, qe, qf, qg, l1, l2, l3, l4, l5, l6⟩ := hq
  have hC0 := hC
  obtain ⟨r9, rH, r7, r8, rc, rb⟩ := hC
  refine od_ctI pnX4 rfl (Nat.le_of_ble_eq_true rfl) od_le.rf ?_
  show od_R _ _ _ _ _ 0 [some (2, q), some (0, h)] [] E g
  refine r_iload_n dX4_cellIn_0 rfl ?_
  refine r_if_lt (tgt := 20) dX4_cellIn_1 rfl (fun c1 => ?_) (fun c1 => ?_)
  · refine r_iconst dX4_cellIn_20 li_0 ?_
    exfalso; omega
  · refine r_aload_n dX4_cellIn_4 rfl ?_
    refine r_getIj (j := 7) rfl dX4_cellIn_5 fkX4_31 gf4_7 (by assumption) (by (repeat (first | rewrite [od_upn (by omega)] | rewrite [od_up_at, if_pos (by omega)] | rewrite [od_up_at, if_neg (by omega)])); rfl) ?_
    refine r_iconst dX4_cellIn_8 li_1 ?_
    refine r_icmp_lt (tgt := 20) dX4_cellIn_9 rfl (fun c9 => ?_) (fun c9 => ?_)
    · refine r_iconst dX4_cellIn_20 li_0 ?_
      exfalso; omega
    · refine r_aload_n dX4_cellIn_12 rfl ?_
      refine r_getIj (j := 8) rfl dX4_cellIn_13 fkX4_35 gf4_8 (by assumption) (by (repeat (first | rewrite [od_upn (by omega)] | rewrite [od_up_at, if_pos (by omega)] | rewrite [od_up_at, if_neg (by omega)])); rfl) ?_
      refine r_iconst dX4_cellIn_16 li_1 ?_
      refine r_icmp_ge (tgt := 22) dX4_cellIn_17 rfl (fun c17 => ?_) (fun c17 => ?_)
      · have m1 := od_tmb (x := h) (L := g q 7) h0.1 (by omega)
        have m2 := od_tmb (x := h) (L := g q 8) h0.1 (by omega)
        have eq := rc h h0.1 h0.2
        have bq := rb h h0.1
        refine r_aload_n dX4_cellIn_22 rfl ?_
        refine r_getR dX4_cellIn_23 fkX4_11 gf4_1 (by assumption) (by assumption) ?_
        refine r_iload_n dX4_cellIn_26 rfl ?_
        refine r_aload_n dX4_cellIn_27 rfl ?_
        refine r_getIj (j := 7) rfl dX4_cellIn_28 fkX4_31 gf4_7 (by assumption) (by (repeat (first | rewrite [od_upn (by omega)] | rewrite [od_up_at, if_pos (by omega)] | rewrite [od_up_at, if_neg (by omega)])); rfl) ?_
        refine r_irem dX4_cellIn_31 (by first | decide | omega) ?_
        refine r_iald dX4_cellIn_32 (by assumption) (by omega) (by (repeat (first | rewrite [od_upn (by omega)] | rewrite [od_up_at, if_pos (by omega)] | rewrite [od_up_at, if_neg (by omega)])); rfl) ?_
        refine r_aload_n dX4_cellIn_33 rfl ?_
        refine r_getR dX4_cellIn_34 fkX4_15 gf4_2 (by assumption) (by assumption) ?_
        refine r_iload_n dX4_cellIn_37 rfl ?_
        refine r_aload_n dX4_cellIn_38 rfl ?_
        refine r_getIj (j := 8) rfl dX4_cellIn_39 fkX4_35 gf4_8 (by assumption) (by (repeat (first | rewrite [od_upn (by omega)] | rewrite [od_up_at, if_pos (by omega)] | rewrite [od_up_at, if_neg (by omega)])); rfl) ?_
        refine r_irem dX4_cellIn_42 (by first | decide | omega) ?_
        refine r_iald dX4_cellIn_43 (by assumption) (by omega) (by (repeat (first | rewrite [od_upn (by omega)] | rewrite [od_up_at, if_pos (by omega)] | rewrite [od_up_at, if_neg (by omega)])); rfl) ?_
        refine r_iaddE dX4_cellIn_44 (by first | exact od_w0 (by omega) (by omega) | exact od_wI (by omega) (by omega) | rfl) ?_
        exact r_iret dX4_cellIn_45 rfl (by rw [eq])
      · refine r_iconst dX4_cellIn_20 li_0 ?_
        exfalso; omega
set_option maxRecDepth 10000 in
theorem c_X4_strikersIn {E : od_E} {g : od_G} {q s : Int} (hq : RoAt E q s) {H : Int} {C : Int → Int} (hC : RdC g q H C) (h : Int) (h0 : 0 ≤ h ∧ h ≤ 60000) : od_Ct 2 mX4_strikersIn [(2, q), (0, h)] E g (some (0, cBt C h), E, g) := by
  have hq0 := hq
  obtain ⟨hkq, qa, qb, qc, qd, qe, qf, qg, l1, l2, l3, l4, l5, l6⟩ := hq
  have hC0 := hC
  obtain ⟨r9, rH, r7, r8, rc, rb⟩ := hC
  refine od_ctI pnX4 rfl (Nat.le_of_ble_eq_true rfl) od_le.rf ?_
  show od_R _ _ _ _ _ 0 [some (2, q), some (0, h)] [] E g
  refine r_aload_n dX4_strikersIn_0 rfl ?_
  refine r_iload_n dX4_strikersIn_1 rfl ?_
  refine r_callV1i dX4_strikersIn_2 cvX4_95 (by assumption) (c_X4_cellIn hq0 hC0 _ h0) (by decide) (Nat.le_of_ble_eq_true rfl) od_le.rf ?_
  refine r_bipush dX4_strikersIn_5 lb_63 ?_
  refine r_iand dX4_strikersIn_7 ?_
  exact r_iret dX4_strikersIn_8 rfl (by rfl)
set_option maxRecDepth 10000 in
theorem c_X4_loudnessIn {E : od_E} {g : od_G} {q s : Int} (hq : RoAt E q s) {H : Int} {C : Int → Int} (hC : RdC g q H C) (h : Int) (h0 : 0 ≤ h ∧ h ≤ 60000) : od_Ct 2 mX4_loudnessIn [(2, q), (0, h)] E g (some (0, cLn C h), E, g) := by
  have hq0 := hq
  obtain ⟨hkq, qa, qb, qc, qd, qe, qf, qg, l1, l2, l3, l4, l5, l6⟩ := hq
  have hC0 := hC
  obtain ⟨r9, rH, r7, r8, rc, rb⟩ := hC
  refine od_ctI pnX4 rfl (Nat.le_of_ble_eq_true rfl) od_le.rf ?_
  show od_R _ _ _ _ _ 0 [some (2, q), some (0, h)] [] E g
  refine r_aload_n dX4_loudnessIn_0 rfl ?_
  refine r_iload_n dX4_loudnessIn_1 rfl ?_
  refine r_callV1i dX4_loudnessIn_2 cvX4_95 (by assumption) (c_X4_cellIn hq0 hC0 _ h0) (by decide) (Nat.le_of_ble_eq_true rfl) od_le.rf ?_
  refine r_bipush dX4_loudnessIn_5 lb_6 ?_
  refine r_ishr dX4_loudnessIn_7 ?_
  exact r_iret dX4_loudnessIn_8 rfl (by rfl)
set_option maxRecDepth 10000 in
theorem lp_X4_first {E : od_E} {g : od_G} {q s : Int} (hq : RoAt E q s) {H : Int} {C : Int → Int} (hC : RdC g q H C) (st : Int) : ∀ (m : Nat) (h v : Int), (0 ≤ h ∧ h ≤ H ∧ v = od_fst (fun h => od_and (cBt C h) st = st) (H - h).toNat h) → ((H - h).toNat) < m → od_R 3 mX4_firstOf od_Z0 E (some (0, v), E, g) 2 [some (2, q), some (0, st), some (0, h)] [] E g := by
  have hq0 := hq
  obtain ⟨hkq, qa, qb, qc, qd, qe, qf, qg, l1, l2, l3, l4, l5, l6⟩ := hq
  have hC0 := hC
  obtain ⟨r9, rH, r7, r8, rc, rb⟩ := hC
  intro m
  induction m with
  | zero => intro h v hi hM; exact absurd hM (Nat.not_lt_zero _)
  | succ m ih =>
    intro h v hi hM
    have e1 : h < H → od_fst (fun h => od_and (cBt C h) st = st) (H - h).toNat h = od_ite (od_and (cBt C h) st = st) h (od_fst (fun h => od_and (cBt C h) st = st) (H - (h + 1)).toNat (h + 1)) := fun z => by rw [show (H - h).toNat = (H - (h + 1)).toNat + 1 by omega]; rfl
    refine r_iload_n dX4_firstOf_2 rfl ?_
    refine r_aload_n dX4_firstOf_3 rfl ?_
    refine r_getIj (j := 9) rfl dX4_firstOf_4 fkX4_38 gf4_9 (by assumption) (by (repeat (first | rewrite [od_upn (by omega)] | rewrite [od_up_at, if_pos (by omega)] | rewrite [od_up_at, if_neg (by omega)])); rfl) ?_
    refine r_icmp_ge (tgt := 29) dX4_firstOf_7 rfl (fun c7 => ?_) (fun c7 => ?_)
    · refine r_iconst dX4_firstOf_29 li_m1 ?_
      exact r_iret dX4_firstOf_30 rfl (by rw [hi.2.2, show (H - h).toNat = 0 by omega]; rfl)
    · refine r_aload_n dX4_firstOf_10 rfl ?_
      refine r_iload_n dX4_firstOf_11 rfl ?_
      refine r_callV1i dX4_firstOf_12 cvX4_99 (by assumption) (c_X4_strikersIn hq0 hC0 _ (by omega)) (by decide) (Nat.le_of_ble_eq_true rfl) od_le.rf ?_
      refine r_iload_n dX4_firstOf_15 rfl ?_
      refine r_iand dX4_firstOf_16 ?_
      refine r_iload_n dX4_firstOf_17 rfl ?_
      refine r_icmp_ne (tgt := 23) dX4_firstOf_18 rfl (fun c18 => ?_) (fun c18 => ?_)
      · refine r_iincE dX4_firstOf_23 rfl (by decide) (by first | exact od_w0 (by omega) (by omega) | exact od_wI (by omega) (by omega) | rfl) rfl ?_
        refine r_goto (tgt := 2) dX4_firstOf_26 rfl ?_
        exact ih _ _ ⟨by omega, by omega, by rw [hi.2.2, e1 (by omega), od_ite_f (by assumption)]⟩ (by omega)
      · refine r_iload_n dX4_firstOf_21 rfl ?_
        exact r_iret dX4_firstOf_22 rfl (by rw [hi.2.2, e1 (by omega), od_ite_t (by assumption)])
set_option maxRecDepth 10000 in
theorem c_X4_firstOf {E : od_E} {g : od_G} {q s : Int} (hq : RoAt E q s) {H : Int} {C : Int → Int} (hC : RdC g q H C) (st : Int) : od_Ct 3 mX4_firstOf [(2, q), (0, st)] E g (some (0, od_fst (fun h => od_and (cBt C h) st = st) H.toNat 0), E, g) := by
  have hq0 := hq
  obtain ⟨hkq, qa, qb, qc, qd, qe, qf, qg, l1, l2, l3, l4, l5, l6⟩ := hq
  have hC0 := hC
  obtain ⟨r9, rH, r7, r8, rc, rb⟩ := hC
  refine od_ctI pnX4 rfl (Nat.le_of_ble_eq_true rfl) od_le.rf ?_
  show od_R _ _ _ _ _ 0 [some (2, q), some (0, st), none] [] E g
  refine r_iconst dX4_firstOf_0 li_0 ?_
  refine r_istore_n dX4_firstOf_1 (by decide) rfl ?_
  exact lp_X4_first hq0 hC0 st _ _ _ ⟨by omega, by omega, by rw [Int.sub_zero]⟩ (Nat.lt_succ_self _)
set_option maxRecDepth 10000 in
theorem lp_X4_times {E : od_E} {g : od_G} {q s : Int} (hq : RoAt E q s) {H : Int} {C : Int → Int} (hC : RdC g q H C) (st wt : Int) : ∀ (m : Nat) (h n : Int), (0 ≤ h ∧ h ≤ H ∧ n = od_sum (fun h => od_b (od_and (cBt C h) st = wt)) h.toNat) → ((H - h).toNat) < m → od_R 3 mX4_timesOf od_Z0 E (some (0, od_sum (fun h => od_b (od_and (cBt C h) st = wt)) H.toNat), E, g) 5 [some (2, q), some (0, st), some (0, wt), some (0, n), some (0, h)] [] E g := by
  have hq0 := hq
  obtain ⟨hkq, qa, qb, qc, qd, qe, qf, qg, l1, l2, l3, l4, l5, l6⟩ := hq
  have hC0 := hC
  obtain ⟨r9, rH, r7, r8, rc, rb⟩ := hC
  intro m
  induction m with
  | zero => intro h n hi hM; exact absurd hM (Nat.not_lt_zero _)
  | succ m ih =>
    intro h n hi hM
    have hb := od_sum_b (f := (fun h => od_b (od_and (cBt C h) st = wt))) (m := 1) h.toNat (fun i _ _ => by have := od_b_01 (od_and (cBt C i) st = wt); omega)
    have hs1 := od_sum_s (fun h => od_b (od_and (cBt C h) st = wt)) hi.1
    refine r_iload dX4_timesOf_5 rfl ?_
    refine r_aload_n dX4_timesOf_7 rfl ?_
    refine r_getIj (j := 9) rfl dX4_timesOf_8 fkX4_38 gf4_9 (by assumption) (by (repeat (first | rewrite [od_upn (by omega)] | rewrite [od_up_at, if_pos (by omega)] | rewrite [od_up_at, if_neg (by omega)])); rfl) ?_
    refine r_icmp_ge (tgt := 35) dX4_timesOf_11 rfl (fun c11 => ?_) (fun c11 => ?_)
    · refine r_iload_n dX4_timesOf_35 rfl ?_
      exact r_iret dX4_timesOf_36 rfl (by rw [hi.2.2, show h = H by omega])
    · refine r_aload_n dX4_timesOf_14 rfl ?_
      refine r_iload dX4_timesOf_15 rfl ?_
      refine r_callV1i dX4_timesOf_17 cvX4_99 (by assumption) (c_X4_strikersIn hq0 hC0 _ (by omega)) (by decide) (Nat.le_of_ble_eq_true rfl) od_le.rf ?_
      refine r_iload_n dX4_timesOf_20 rfl ?_
      refine r_iand dX4_timesOf_21 ?_
      refine r_iload_n dX4_timesOf_22 rfl ?_
      refine r_icmp_ne (tgt := 29) dX4_timesOf_23 rfl (fun c23 => ?_) (fun c23 => ?_)
      · refine r_iincE dX4_timesOf_29 rfl (by decide) (by first | exact od_w0 (by omega) (by omega) | exact od_wI (by omega) (by omega) | rfl) rfl ?_
        refine r_goto (tgt := 5) dX4_timesOf_32 rfl ?_
        exact ih _ _ ⟨by omega, by omega, by rw [hs1]; first | (rw [od_b_t (by assumption)]; omega) | (rw [od_b_f (by assumption)]; omega)⟩ (by omega)
      · refine r_iincE dX4_timesOf_26 rfl (by decide) (by first | exact od_w0 (by omega) (by omega) | exact od_wI (by omega) (by omega) | rfl) rfl ?_
        refine r_iincE dX4_timesOf_29 rfl (by decide) (by first | exact od_w0 (by omega) (by omega) | exact od_wI (by omega) (by omega) | rfl) rfl ?_
        refine r_goto (tgt := 5) dX4_timesOf_32 rfl ?_
        exact ih _ _ ⟨by omega, by omega, by rw [hs1]; first | (rw [od_b_t (by assumption)]; omega) | (rw [od_b_f (by assumption)]; omega)⟩ (by omega)
set_option maxRecDepth 10000 in
theorem c_X4_timesOf {E : od_E} {g : od_G} {q s : Int} (hq : RoAt E q s) {H : Int} {C : Int → Int} (hC : RdC g q H C) (st wt : Int) : od_Ct 3 mX4_timesOf [(2, q), (0, st), (0, wt)] E g (some (0, od_sum (fun h => od_b (od_and (cBt C h) st = wt)) H.toNat), E, g) := by
  have hq0 := hq
  obtain ⟨hkq, qa, qb, qc, qd, qe, qf, qg, l1, l2, l3, l4, l5, l6⟩ := hq
  have hC0 := hC
  obtain ⟨r9, rH, r7, r8, rc, rb⟩ := hC
  refine od_ctI pnX4 rfl (Nat.le_of_ble_eq_true rfl) od_le.rf ?_
  show od_R _ _ _ _ _ 0 [some (2, q), some (0, st), some (0, wt), none, none] [] E g
  refine r_iconst dX4_timesOf_0 li_0 ?_
  refine r_istore_n dX4_timesOf_1 (by decide) rfl ?_
  refine r_iconst dX4_timesOf_2 li_0 ?_
  refine r_istore dX4_timesOf_3 (by decide) rfl ?_
  exact lp_X4_times hq0 hC0 st wt _ _ _ ⟨by omega, by omega, rfl⟩ (Nat.lt_succ_self _)
set_option maxRecDepth 10000 in
theorem lp_X4_lt {E : od_E} {g : od_G} {q s : Int} (hq : RoAt E q s) {H : Int} {C : Int → Int} (hC : RdC g q H C) : ∀ (m : Nat) (h n : Int), (0 ≤ h ∧ h ≤ H ∧ n = od_sum (cLn C) h.toNat) → ((H - h).toNat) < m → od_R 3 mX4_loudTogether od_Z0 E (some (0, od_sum (cLn C) H.toNat), E, g) 4 [some (2, q), some (0, n), some (0, h)] [] E g := by
  have hq0 := hq
  obtain ⟨hkq, qa, qb, qc, qd, qe, qf, qg, l1, l2, l3, l4, l5, l6⟩ := hq
  have hC0 := hC
  obtain ⟨r9, rH, r7, r8, rc, rb⟩ := hC
  intro m
  induction m with
  | zero => intro h n hi hM; exact absurd hM (Nat.not_lt_zero _)
  | succ m ih =>
    intro h n hi hM
    have hb := od_sum_b (f := cLn C) (m := 5000) h.toNat (fun i i0 _ => od_shr6 (rb i i0))
    have hs1 := od_sum_s (cLn C) hi.1
    have hx : 0 ≤ cLn C h ∧ cLn C h ≤ 5000 := od_shr6 (rb h hi.1)
    refine r_iload_n dX4_loudTogether_4 rfl ?_
    refine r_aload_n dX4_loudTogether_5 rfl ?_
    refine r_getIj (j := 9) rfl dX4_loudTogether_6 fkX4_38 gf4_9 (by assumption) (by (repeat (first | rewrite [od_upn (by omega)] | rewrite [od_up_at, if_pos (by omega)] | rewrite [od_up_at, if_neg (by omega)])); rfl) ?_
    refine r_icmp_ge (tgt := 26) dX4_loudTogether_9 rfl (fun c9 => ?_) (fun c9 => ?_)
    · refine r_iload_n dX4_loudTogether_26 rfl ?_
      exact r_iret dX4_loudTogether_27 rfl (by rw [hi.2.2, show h = H by omega])
    · refine r_iload_n dX4_loudTogether_12 rfl ?_
      refine r_aload_n dX4_loudTogether_13 rfl ?_
      refine r_iload_n dX4_loudTogether_14 rfl ?_
      refine r_callV1i dX4_loudTogether_15 cvX4_102 (by assumption) (c_X4_loudnessIn hq0 hC0 _ (by omega)) (by decide) (Nat.le_of_ble_eq_true rfl) od_le.rf ?_
      refine r_iaddE dX4_loudTogether_18 (by first | exact od_w0 (by omega) (by omega) | exact od_wI (by omega) (by omega) | rfl) ?_
      refine r_istore_n dX4_loudTogether_19 (by decide) rfl ?_
      refine r_iincE dX4_loudTogether_20 rfl (by decide) (by first | exact od_w0 (by omega) (by omega) | exact od_wI (by omega) (by omega) | rfl) rfl ?_
      refine r_goto (tgt := 4) dX4_loudTogether_23 rfl ?_
      exact ih _ _ ⟨by omega, by omega, by rw [hs1]; omega⟩ (by omega)
set_option maxRecDepth 10000 in
theorem c_X4_loudTogether {E : od_E} {g : od_G} {q s : Int} (hq : RoAt E q s) {H : Int} {C : Int → Int} (hC : RdC g q H C) : od_Ct 3 mX4_loudTogether [(2, q)] E g (some (0, od_sum (cLn C) H.toNat), E, g) := by
  have hq0 := hq
  obtain ⟨hkq, qa, qb, qc, qd, qe, qf, qg, l1, l2, l3, l4, l5, l6⟩ := hq
  have hC0 := hC
  obtain ⟨r9, rH, r7, r8, rc, rb⟩ := hC
  refine od_ctI pnX4 rfl (Nat.le_of_ble_eq_true rfl) od_le.rf ?_
  show od_R _ _ _ _ _ 0 [some (2, q), none, none] [] E g
  refine r_iconst dX4_loudTogether_0 li_0 ?_
  refine r_istore_n dX4_loudTogether_1 (by decide) rfl ?_
  refine r_iconst dX4_loudTogether_2 li_0 ?_
  refine r_istore_n dX4_loudTogether_3 (by decide) rfl ?_
  exact lp_X4_lt hq0 hC0 _ _ _ ⟨by omega, by omega, rfl⟩ (Nat.lt_succ_self _)
def cLdA (x : Int × Int × Int) (w : Int) : Int := if w = 0 then x.1 else if w = 1 then x.2.1 else x.2.2
set_option maxRecDepth 10000 in
theorem lp_X4_lh {E : od_E} {g : od_G} {q s : Int} (hq : RoAt E q s) {H : Int} {C : Int → Int} (hC : RdC g q H C) (w : Int) : ∀ (m : Nat) (h mo f n : Int) (L6 : Option od_V), (0 ≤ h ∧ h ≤ H ∧ (mo, f, n) = od_ld (cLn C) 0 h.toNat) → ((H - h).toNat) < m → od_R 3 mX4_loudestHour od_Z0 E (some (0, cLdA (od_ld (cLn C) 0 H.toNat) w), E, g) 10 [some (2, q), some (0, w), some (0, mo), some (0, f), some (0, n), some (0, h), L6] [] E g := by
  have hq0 := hq
  obtain ⟨hkq, qa, qb, qc, qd, qe, qf, qg, l1, l2, l3, l4, l5, l6⟩ := hq
  have hC0 := hC
  obtain ⟨r9, rH, r7, r8, rc, rb⟩ := hC
  intro m
  induction m with
  | zero => intro h mo f n L6 hi hM; exact absurd hM (Nat.not_lt_zero _)
  | succ m ih =>
    intro h mo f n L6 hi hM
    obtain ⟨hi0, hi1, hi2⟩ := hi
    have hb := od_ld_b (cLn C) 0 h.toNat
    have hs1 : od_ld (cLn C) 0 (h + 1).toNat = if mo < cLn C h then (cLn C h, h, 1) else if cLn C h = mo then (mo, f, n + 1) else (mo, f, n) := by
      rw [show (h + 1).toNat = h.toNat + 1 by omega]
      simp only [od_ld]
      rw [← hi2, show ((h.toNat : Nat) : Int) = h by omega]
    rw [← hi2] at hb
    simp only [] at hb
    refine r_iload dX4_loudestHour_10 rfl ?_
    refine r_aload_n dX4_loudestHour_12 rfl ?_
    refine r_getIj (j := 9) rfl dX4_loudestHour_13 fkX4_38 gf4_9 (by assumption) (by (repeat (first | rewrite [od_upn (by omega)] | rewrite [od_up_at, if_pos (by omega)] | rewrite [od_up_at, if_neg (by omega)])); rfl) ?_
    refine r_icmp_ge (tgt := 57) dX4_loudestHour_16 rfl (fun c16 => ?_) (fun c16 => ?_)
    · refine r_iload_n dX4_loudestHour_57 rfl ?_
      refine r_if_ne (tgt := 63) dX4_loudestHour_58 rfl (fun c58 => ?_) (fun c58 => ?_)
      · refine r_iload_n dX4_loudestHour_63 rfl ?_
        refine r_iconst dX4_loudestHour_64 li_1 ?_
        refine r_icmp_ne (tgt := 72) dX4_loudestHour_65 rfl (fun c65 => ?_) (fun c65 => ?_)
        · refine r_iload dX4_loudestHour_72 rfl ?_
          exact r_iret dX4_loudestHour_74 rfl (by rw [show H = h by omega, ← hi2]; unfold cLdA; first | rw [if_pos (by assumption)] | rw [if_neg (by assumption), if_pos (by assumption)] | rw [if_neg (by assumption), if_neg (by assumption)])
        · refine r_iload_n dX4_loudestHour_68 rfl ?_
          refine r_goto (tgt := 74) dX4_loudestHour_69 rfl ?_
          exact r_iret dX4_loudestHour_74 rfl (by rw [show H = h by omega, ← hi2]; unfold cLdA; first | rw [if_pos (by assumption)] | rw [if_neg (by assumption), if_pos (by assumption)] | rw [if_neg (by assumption), if_neg (by assumption)])
      · refine r_iload_n dX4_loudestHour_61 rfl ?_
        exact r_iret dX4_loudestHour_62 rfl (by rw [show H = h by omega, ← hi2]; unfold cLdA; first | rw [if_pos (by assumption)] | rw [if_neg (by assumption), if_pos (by assumption)] | rw [if_neg (by assumption), if_neg (by assumption)])
    · refine r_aload_n dX4_loudestHour_19 rfl ?_
      refine r_iload dX4_loudestHour_20 rfl ?_
      refine r_callV1i dX4_loudestHour_22 cvX4_102 (by assumption) (c_X4_loudnessIn hq0 hC0 _ (by omega)) (by decide) (Nat.le_of_ble_eq_true rfl) od_le.rf ?_
      refine r_istore dX4_loudestHour_25 (by decide) rfl ?_
      refine r_iload dX4_loudestHour_27 rfl ?_
      refine r_iload_n dX4_loudestHour_29 rfl ?_
      refine r_icmp_le (tgt := 42) dX4_loudestHour_30 rfl (fun c30 => ?_) (fun c30 => ?_)
      · refine r_iload dX4_loudestHour_42 rfl ?_
        refine r_iload_n dX4_loudestHour_44 rfl ?_
        refine r_icmp_ne (tgt := 51) dX4_loudestHour_45 rfl (fun c45 => ?_) (fun c45 => ?_)
        · refine r_iincE dX4_loudestHour_51 rfl (by decide) (by first | exact od_w0 (by omega) (by omega) | exact od_wI (by omega) (by omega) | rfl) rfl ?_
          refine r_goto (tgt := 10) dX4_loudestHour_54 rfl ?_
          first
          | (exfalso; omega)
          | (refine ih _ _ _ _ _ ⟨by omega, by omega, ?_⟩ (by omega)
             rw [hs1]
             first | rw [if_pos (by omega)] | rw [if_neg (by omega), if_pos (by omega)] | rw [if_neg (by omega), if_neg (by omega)])
        · refine r_iincE dX4_loudestHour_48 rfl (by decide) (by first | exact od_w0 (by omega) (by omega) | exact od_wI (by omega) (by omega) | rfl) rfl ?_
          refine r_iincE dX4_loudestHour_51 rfl (by decide) (by first | exact od_w0 (by omega) (by omega) | exact od_wI (by omega) (by omega) | rfl) rfl ?_
          refine r_goto (tgt := 10) dX4_loudestHour_54 rfl ?_
          first
          | (exfalso; omega)
          | (refine ih _ _ _ _ _ ⟨by omega, by omega, ?_⟩ (by omega)
             rw [hs1]
             first | rw [if_pos (by omega)] | rw [if_neg (by omega), if_pos (by omega)] | rw [if_neg (by omega), if_neg (by omega)])
      · refine r_iload dX4_loudestHour_33 rfl ?_
        refine r_istore_n dX4_loudestHour_35 (by decide) rfl ?_
        refine r_iload dX4_loudestHour_36 rfl ?_
        refine r_istore_n dX4_loudestHour_38 (by decide) rfl ?_
        refine r_iconst dX4_loudestHour_39 li_0 ?_
        refine r_istore dX4_loudestHour_40 (by decide) rfl ?_
        refine r_iload dX4_loudestHour_42 rfl ?_
        refine r_iload_n dX4_loudestHour_44 rfl ?_
        refine r_icmp_ne (tgt := 51) dX4_loudestHour_45 rfl (fun c45 => ?_) (fun c45 => ?_)
        · refine r_iincE dX4_loudestHour_51 rfl (by decide) (by first | exact od_w0 (by omega) (by omega) | exact od_wI (by omega) (by omega) | rfl) rfl ?_
          refine r_goto (tgt := 10) dX4_loudestHour_54 rfl ?_
          first
          | (exfalso; omega)
          | (refine ih _ _ _ _ _ ⟨by omega, by omega, ?_⟩ (by omega)
             rw [hs1]
             first | rw [if_pos (by omega)] | rw [if_neg (by omega), if_pos (by omega)] | rw [if_neg (by omega), if_neg (by omega)])
        · refine r_iincE dX4_loudestHour_48 rfl (by decide) (by first | exact od_w0 (by omega) (by omega) | exact od_wI (by omega) (by omega) | rfl) rfl ?_
          refine r_iincE dX4_loudestHour_51 rfl (by decide) (by first | exact od_w0 (by omega) (by omega) | exact od_wI (by omega) (by omega) | rfl) rfl ?_
          refine r_goto (tgt := 10) dX4_loudestHour_54 rfl ?_
          first
          | (exfalso; omega)
          | (refine ih _ _ _ _ _ ⟨by omega, by omega, ?_⟩ (by omega)
             rw [hs1]
             first | rw [if_pos (by omega)] | rw [if_neg (by omega), if_pos (by omega)] | rw [if_neg (by omega), if_neg (by omega)])
set_option maxRecDepth 10000 in
theorem c_X4_loudestHour {E : od_E} {g : od_G} {q s : Int} (hq : RoAt E q s) {H : Int} {C : Int → Int} (hC : RdC g q H C) (w : Int) : od_Ct 3 mX4_loudestHour [(2, q), (0, w)] E g (some (0, cLdA (od_ld (cLn C) 0 H.toNat) w), E, g) := by
  have hq0 := hq
  obtain ⟨hkq, qa, qb, qc, qd, qe, qf, qg, l1, l2, l3, l4, l5, l6⟩ := hq
  have hC0 := hC
  obtain ⟨r9, rH, r7, r8, rc, rb⟩ := hC
  refine od_ctI pnX4 rfl (Nat.le_of_ble_eq_true rfl) od_le.rf ?_
  show od_R _ _ _ _ _ 0 [some (2, q), some (0, w), none, none, none, none, none] [] E g
  refine r_iconst dX4_loudestHour_0 li_m1 ?_
  refine r_istore_n dX4_loudestHour_1 (by decide) rfl ?_
  refine r_iconst dX4_loudestHour_2 li_0 ?_
  refine r_istore_n dX4_loudestHour_3 (by decide) rfl ?_
  refine r_iconst dX4_loudestHour_4 li_0 ?_
  refine r_istore dX4_loudestHour_5 (by decide) rfl ?_
  refine r_iconst dX4_loudestHour_7 li_0 ?_
  refine r_istore dX4_loudestHour_8 (by decide) rfl ?_
  exact lp_X4_lh hq0 hC0 w _ _ _ _ _ _ ⟨by omega, by omega, rfl⟩ (Nat.lt_succ_self _)
