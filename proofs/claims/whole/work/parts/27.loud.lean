/-! rows that are as they were -/
def StEq (g g' : od_G) (k : Int) : Prop := g' k = g k ∧ g' (k + 1) = g (k + 1) ∧ g' (k + 2) = g (k + 2) ∧ g' (k + 3) = g (k + 3) ∧ g' (k + 4) = g (k + 4) ∧ g' (k + 5) = g (k + 5) ∧ g' (k + 6) = g (k + 6) ∧ g' (k + 7) = g (k + 7) ∧ g' (k + 8) = g (k + 8)
def TxEq (g g' : od_G) (t : Int) : Prop := g' t = g t ∧ g' (t + 1) = g (t + 1) ∧ g' (t + 2) = g (t + 2) ∧ g' (t + 3) = g (t + 3) ∧ g' (t + 4) = g (t + 4) ∧ g' (t + 5) = g (t + 5) ∧ g' (t + 6) = g (t + 6)
theorem StEq.of {X : Int → Int → Prop} {g g' : od_G} {k : Int} (h : od_fr X g g') (hX : ∀ x y, X x y → x < k ∨ k + 8 < x) : StEq g g' k :=
  ⟨h.row (fun y q => by have := hX _ _ q; omega), h.row (fun y q => by have := hX _ _ q; omega), h.row (fun y q => by have := hX _ _ q; omega), h.row (fun y q => by have := hX _ _ q; omega), h.row (fun y q => by have := hX _ _ q; omega), h.row (fun y q => by have := hX _ _ q; omega), h.row (fun y q => by have := hX _ _ q; omega), h.row (fun y q => by have := hX _ _ q; omega), h.row (fun y q => by have := hX _ _ q; omega)⟩
theorem TxEq.of {X : Int → Int → Prop} {g g' : od_G} {t : Int} (h : od_fr X g g') (hX : ∀ x y, X x y → x < t ∨ t + 6 < x) : TxEq g g' t :=
  ⟨h.row (fun y q => by have := hX _ _ q; omega), h.row (fun y q => by have := hX _ _ q; omega), h.row (fun y q => by have := hX _ _ q; omega), h.row (fun y q => by have := hX _ _ q; omega), h.row (fun y q => by have := hX _ _ q; omega), h.row (fun y q => by have := hX _ _ q; omega), h.row (fun y q => by have := hX _ _ q; omega)⟩
theorem cHas_e {g g' : od_G} {k : Int} (h : StEq g g' k) (d : Int) : cHas g' k d ↔ cHas g k d := by unfold cHas; rw [h.1]
theorem cStop_e {g g' : od_G} {k : Int} (h : StEq g g' k) (d : Int) : cStop g' k d ↔ cStop g k d := by unfold cStop; rw [h.1]
theorem cHasPin_e {g g' : od_G} {k : Int} (h : StEq g g' k) (d b : Int) : cHasPin g' k d b ↔ cHasPin g k d b := by unfold cHasPin; rw [cHas_e h, h.2.1, h.2.2.2.2.1]
theorem cHasBeat_e {g g' : od_G} {k : Int} (h : StEq g g' k) (d b : Int) : cHasBeat g' k d b ↔ cHasBeat g k d b := by unfold cHasBeat; rw [cHas_e h, h.2.1]
theorem cBeatIn_e {g g' : od_G} {k : Int} (h : StEq g g' k) (d i : Int) : cBeatIn g' k d i = cBeatIn g k d i := by
  unfold cBeatIn
  rw [propext (cHas_e h d), propext (cStop_e h d), h.2.1, h.2.2.2.1]
theorem cStrikes_e {g g' : od_G} {k : Int} (h : StEq g g' k) (d i : Int) : cStrikes g' k d i ↔ cStrikes g k d i := by unfold cStrikes; rw [cStop_e h, cBeatIn_e h, cHasPin_e h]
theorem cLawOf_e {g g' : od_G} {k : Int} (h : StEq g g' k) (n : Int) : cLawOf g' k n = cLawOf g k n := by unfold cLawOf; rw [h.1, h.2.2.2.2.2.2.1]
theorem cWd_e {g g' : od_G} {k : Int} (h : StEq g g' k) (d b : Int) : cWd g' k d b = cWd g k d b := by unfold cWd; rw [h.2.1, h.2.2.1, h.2.2.2.2.1, h.2.2.2.2.2.1]
theorem cV_e {g g' : od_G} {k t : Int} (h : StEq g g' k) (ht : TxEq g g' t) (d b : Int) (sn : Nat) (f : Int) : cV g' k t d b sn f = cV g k t d b sn f := by unfold cV; rw [cWd_e h, ht.2.2.2.2.2.2]
theorem cSnd_e {g g' : od_G} {k t : Int} (h : StEq g g' k) (ht : TxEq g g' t) (d b : Int) (sn : Nat) : ∀ n, cSnd g' k t d b sn n = cSnd g k t d b sn n := by
  intro n
  induction n with
  | zero => rfl
  | succ n ih => simp only [cSnd]; rw [ih, cV_e h ht, cV_e h ht, ht.2.1, ht.2.2.2.1, ht.2.2.2.2.2.1]
theorem cSound_e {g g' : od_G} {k t : Int} (h : StEq g g' k) (ht : t ≠ -1 → TxEq g g' t) (d b : Int) (sn : Nat) : cSound g' k t d b sn = cSound g k t d b sn := by
  unfold cSound
  rw [propext (cHas_e h d)]
  by_cases q : t = -1
  · rw [od_ite_t (Or.inl q), od_ite_t (Or.inl q)]
  · rw [cSnd_e h (ht q), (ht q).1]
theorem cHolds_e {g g' : od_G} {k t : Int} (h : StEq g g' k) (ht : t ≠ -1 → TxEq g g' t) (d b : Int) (sn : Nat) (kd : Int) : cHolds g' k t d b sn kd ↔ cHolds g k t d b sn kd := by
  unfold cHolds
  constructor
  · rintro ⟨q, q2, c, c0, c1, c2, c3⟩
    rw [cHas_e h] at q2
    rw [(ht q).1] at c1
    rw [(ht q).2.1] at c2
    rw [cV_e h (ht q), (ht q).2.2.2.2.2.1] at c3
    exact ⟨q, q2, c, c0, c1, c2, c3⟩
  · rintro ⟨q, q2, c, c0, c1, c2, c3⟩
    rw [← cHas_e h] at q2
    rw [← (ht q).1] at c1
    rw [← (ht q).2.1] at c2
    rw [← cV_e h (ht q), ← (ht q).2.2.2.2.2.1] at c3
    exact ⟨q, q2, c, c0, c1, c2, c3⟩
theorem LawOk.e {E : od_E} {g g' : od_G} {s t : Int} {cn sn : Nat} (h : LawOk E g s t cn sn) (ht : t ≠ -1 → TxEq g g' t) : LawOk E g' s t cn sn := by
  by_cases q : t = -1
  · exact Or.inl q
  · obtain ⟨h1, h2, h3⟩ := h.resolve_left q
    exact Or.inr ⟨h1, by rw [(ht q).1]; exact h2, h3⟩
theorem LawOk.fr {E : od_E} {g g' : od_G} {s t : Int} {cn sn : Nat} (h : LawOk E g s t cn sn) (hf : od_fr (fun x _ => x = s + 2 ∨ x = s + 3) g g') : t ≠ -1 → TxEq g g' t := fun q => by
  obtain ⟨h1, h2, h3⟩ := h.resolve_left q
  exact TxEq.of hf (fun x y z => by omega)
theorem cSnd_b (g : od_G) (k t d b : Int) (sn : Nat) : ∀ n, 0 ≤ cSnd g k t d b sn n ∧ cSnd g k t d b sn n ≤ 9 := by
  intro n
  induction n with
  | zero => simp [cSnd]
  | succ n ih =>
    simp only [cSnd]
    split
    · omega
    · exact ih
theorem cSound_b (g : od_G) (k t d b : Int) (sn : Nat) : 0 ≤ cSound g k t d b sn ∧ cSound g k t d b sn ≤ 9 := by
  unfold cSound
  by_cases q : t = -1 ∨ ¬ cHas g k d
  · rw [od_ite_t q]; omega
  · rw [od_ite_f q]; exact cSnd_b g k t d b sn _
/-- how loud drum d is -/
noncomputable def cLd (g : od_G) (k t h : Int) (sn : Nat) (d : Int) : Int := od_ite (cStrikes g k d h) (cSound g k t d (cBeatIn g k d h) sn) 0
theorem cLd_b (g : od_G) (k t h : Int) (sn : Nat) (d : Int) : 0 ≤ cLd g k t h sn d ∧ cLd g k t h sn d ≤ 9 := by
  unfold cLd
  by_cases q : cStrikes g k d h
  · rw [od_ite_t q]; exact cSound_b _ _ _ _ _ _
  · rw [od_ite_f q]; omega
noncomputable def cLoud (g : od_G) (k t h : Int) (sn : Nat) : Int := od_sum (cLd g k t h sn) (g k 8).toNat
set_option maxRecDepth 10000 in
theorem lp_X0_loud {E : od_E} {g : od_G} {s : Int} (ha : AsAt E s) {k : Int} (hs : StAt E k) (hne : k + 9 ≤ s ∨ s + 4 ≤ k) {cn sn : Nat} {t : Int} (hlaw : LawOk E g s t cn sn) (h : Int) : ∀ (m : Nat) (d n : Int) (gw : od_G), (0 ≤ d ∧ d ≤ g k 8 ∧ g k 8 ≤ 6 ∧ od_fr (fun x _ => x = s + 2 ∨ x = s + 3) g gw ∧ n = od_sum (cLd g k t h sn) d.toNat) → ((g k 8 - d).toNat) < m → od_Rf 5 mX0_loudIn od_Z0 E (some (0, cLoud g k t h sn)) (fun x _ => x = s + 2 ∨ x = s + 3) g 15 [some (2, s), some (2, k), some (0, h), some (2, t), some (0, n), some (0, d)] [] E gw := by
  have ha0 := ha
  obtain ⟨hka, w0, w1, hu, w3⟩ := ha
  have hu7 := hu.1
  have hs0 := hs
  obtain ⟨hk, r0, r1, r2, r3, r4, r5, r6, r7, a1, a2, a3, a4, a5, a6, a7, a8⟩ := hs
  intro m
  induction m with
  | zero => intro d n gw hi hM; exact absurd hM (Nat.not_lt_zero _)
  | succ m ih =>
    intro d n gw hi hM
    obtain ⟨hi0, hi1, hi2, hfr, hn⟩ := hi
    have eS : StEq g gw k := StEq.of hfr (fun x y q => by omega)
    have eT := hlaw.fr hfr
    have hlaw1 : LawOk E gw s t cn sn := hlaw.e eT
    have e0 : gw k = g k := eS.1
    have hb := od_sum_b (f := cLd g k t h sn) (m := 9) d.toNat (fun i _ _ => cLd_b g k t h sn i)
    have hs1 := od_sum_s (cLd g k t h sn) hi0
    have hc1 := cSound_b g k t d (cBeatIn g k d h) sn
    refine r_iload dX0_loudIn_15 rfl ?_
    refine r_aload_n dX0_loudIn_17 rfl ?_
    refine r_getIj (j := 8) rfl dX0_loudIn_18 fkX0_71 gf6_8 (by assumption) (by (repeat (first | rewrite [od_upn (by omega)] | rewrite [od_up_at, if_pos (by omega)] | rewrite [od_up_at, if_neg (by omega)])); rfl) ?_
    rw [e0]
    refine r_icmp_ge (tgt := 60) dX0_loudIn_21 rfl (fun c21 => ?_) (fun c21 => ?_)
    · refine r_iload dX0_loudIn_60 rfl ?_
      exact r_iretq dX0_loudIn_62 rfl rfl ⟨by unfold cLoud; rw [hn, show d = g k 8 by omega], hfr⟩
    · refine r_aload_n dX0_loudIn_24 rfl ?_
      refine r_iload dX0_loudIn_25 rfl ?_
      refine r_iload_n dX0_loudIn_27 rfl ?_
      refine r_callV2b dX0_loudIn_28 cvX0_74 (by assumption) (c_X6_strikesIn (by assumption) _ _) (by decide) (Nat.le_of_ble_eq_true rfl) od_le.rf (fun q28 => ?_) (fun q28 => ?_)
      · refine r_if_eq (tgt := 54) dX0_loudIn_31 rfl (fun h => absurd h (by decide)) (fun _ => ?_)
        refine r_iload dX0_loudIn_34 rfl ?_
        refine r_aload_n dX0_loudIn_36 rfl ?_
        refine r_aload_n dX0_loudIn_37 rfl ?_
        refine r_aload_n dX0_loudIn_38 rfl ?_
        refine r_iload dX0_loudIn_39 rfl ?_
        refine r_aload_n dX0_loudIn_41 rfl ?_
        refine r_iload dX0_loudIn_42 rfl ?_
        refine r_iload_n dX0_loudIn_44 rfl ?_
        refine r_callV2i dX0_loudIn_45 cvX0_78 (by assumption) (c_X6_beatIn (by assumption) _ _) (by decide) (Nat.le_of_ble_eq_true rfl) od_le.rf ?_
        rw [cBeatIn_e eS]
        refine r_callV4f dX0_loudIn_48 cvX0_81 (by assumption) (c_X0_sound (by assumption) (by assumption) (by omega) (by assumption) _ _) (by decide) (Nat.le_of_ble_eq_true rfl) od_le.rf (fun g48 f48 => ?_)
        rw [cSound_e eS eT]
        refine r_iaddE dX0_loudIn_51 (by first | exact od_w0 (by omega) (by omega) | exact od_wI (by omega) (by omega) | rfl) ?_
        refine r_istore dX0_loudIn_52 (by decide) rfl ?_
        refine r_iincE dX0_loudIn_54 rfl (by decide) (by first | exact od_w0 (by omega) (by omega) | exact od_wI (by omega) (by omega) | rfl) rfl ?_
        refine r_goto (tgt := 15) dX0_loudIn_57 rfl ?_
        refine ih _ _ _ ⟨by omega, by omega, by omega, by first | exact hfr.tr f48 | exact hfr, ?_⟩ (by omega)
        rw [hs1, hn]
        unfold cLd
        first
        | rw [od_ite_t ((cStrikes_e eS d h).mp q28)]
        | (rw [od_ite_f (fun q => q28 ((cStrikes_e eS d h).mpr q))]; omega)
      · refine r_if_eq (tgt := 54) dX0_loudIn_31 rfl (fun _ => ?_) (fun h => absurd h (by decide))
        refine r_iincE dX0_loudIn_54 rfl (by decide) (by first | exact od_w0 (by omega) (by omega) | exact od_wI (by omega) (by omega) | rfl) rfl ?_
        refine r_goto (tgt := 15) dX0_loudIn_57 rfl ?_
        refine ih _ _ _ ⟨by omega, by omega, by omega, by first | exact hfr.tr f48 | exact hfr, ?_⟩ (by omega)
        rw [hs1, hn]
        unfold cLd
        first
        | rw [od_ite_t ((cStrikes_e eS d h).mp q28)]
        | (rw [od_ite_f (fun q => q28 ((cStrikes_e eS d h).mpr q))]; omega)
set_option maxRecDepth 10000 in
theorem c_X0_loudIn {E : od_E} {g : od_G} {s : Int} (ha : AsAt E s) {k : Int} (hs : StAt E k) (hne : k + 9 ≤ s ∨ s + 4 ≤ k) {cn sn : Nat} (h0 : 0 ≤ g k 8 ∧ g k 8 ≤ 6) (hlaw : LawOk E g s (cLawOf g k (g k 11)) cn sn) (h : Int) : od_Cf 5 mX0_loudIn [(2, s), (2, k), (0, h)] E g (some (0, cLoud g k (cLawOf g k (g k 11)) h sn)) (fun x _ => x = s + 2 ∨ x = s + 3) := by
  have ha0 := ha
  obtain ⟨hka, w0, w1, hu, w3⟩ := ha
  have hu7 := hu.1
  have hs0 := hs
  obtain ⟨hk, r0, r1, r2, r3, r4, r5, r6, r7, a1, a2, a3, a4, a5, a6, a7, a8⟩ := hs
  refine od_cqI pnX0 rfl (Nat.le_of_ble_eq_true rfl) od_le.rf ?_
  show od_Rf 5 mX0_loudIn od_Z0 E (some (0, cLoud g k (cLawOf g k (g k 11)) h sn)) (fun x _ => x = s + 2 ∨ x = s + 3) g 0 [some (2, s), some (2, k), some (0, h), none, none, none] [] E g
  refine r_aload_n dX0_loudIn_0 rfl ?_
  refine r_aload_n dX0_loudIn_1 rfl ?_
  refine r_getIj (j := 11) rfl dX0_loudIn_2 fkX0_64 gf6_11 (by assumption) (by (repeat (first | rewrite [od_upn (by omega)] | rewrite [od_up_at, if_pos (by omega)] | rewrite [od_up_at, if_neg (by omega)])); rfl) ?_
  refine r_callV1i dX0_loudIn_5 cvX0_67 (by assumption) (c_X6_lawOf (by assumption) _) (by decide) (Nat.le_of_ble_eq_true rfl) od_le.rf ?_
  refine r_astore_n dX0_loudIn_8 (by decide) rfl ?_
  refine r_iconst dX0_loudIn_9 li_0 ?_
  refine r_istore dX0_loudIn_10 (by decide) rfl ?_
  refine r_iconst dX0_loudIn_12 li_0 ?_
  refine r_istore dX0_loudIn_13 (by decide) rfl ?_
  exact lp_X0_loud ha0 hs0 hne hlaw h _ _ _ _ ⟨by omega, by omega, by omega, od_fr.rf, rfl⟩ (Nat.lt_succ_self _)
