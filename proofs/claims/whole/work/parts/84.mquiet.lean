/-! the reference: quiet -/
noncomputable def od_run (P : Int → Prop) : Nat → Int → Int
  | 0, i => i
  | f + 1, i => od_ite (P i) (od_run P f (i + 1)) i
theorem od_run_b (P : Int → Prop) : ∀ (f : Nat) (i : Int), i ≤ od_run P f i ∧ od_run P f i ≤ i + f := by
  intro f
  induction f with
  | zero => intro i; simp only [od_run]; omega
  | succ f ih =>
    intro i
    have z := ih (i + 1)
    simp only [od_run]
    by_cases c : P i
    · rw [od_ite_t c]; omega
    · rw [od_ite_f c]; omega
def mQz (g : od_G) (M h i : Int) : Prop := mStN g M ((h + i).tmod (mRd g M)) = 0
noncomputable def mQf (g : od_G) (M h : Int) : Int := od_run (mQz g M h) (mRd g M).toNat 0
def od_qu (q : Int → Int) (R : Int) : Nat → Int → Int → Int → Int × Int
  | 0, b, a, _ => (b, a)
  | f + 1, b, a, h => if h < R then (if b < q h then od_qu q R f (q h) h (h + (q h + 1)) else od_qu q R f b a (h + (q h + 1))) else (b, a)
theorem od_qu_x {q : Int → Int} {R : Int} (f : Nat) {b a h : Int} (hh : R ≤ h) : od_qu q R f b a h = (b, a) := by
  cases f with
  | zero => rfl
  | succ f => simp only [od_qu]; rw [if_neg (by omega)]
noncomputable def mQu (g : od_G) (M w : Int) : Int := if w = 0 then (od_qu (mQf g M) (mRd g M) (mRd g M).toNat 0 (-1) 0).1 else (od_qu (mQf g M) (mRd g M) (mRd g M).toNat 0 (-1) 0).2
set_option maxRecDepth 10000 in
theorem lp_X11_qf {E : od_E} {g gw : od_G} {M : Int} (hm : MoAt E M) (hI : MI g M) (hfr : od_fr (LR M) g gw) (hL : LrQ g gw M) (h v : Int) (hh : 0 ≤ h ∧ h ≤ 30000) : ∀ (m : Nat) (i : Int), (0 ≤ i ∧ i ≤ mRd g M ∧ od_run (mQz g M h) (mRd g M - i).toNat i = v) → ((mRd g M - i).toNat) < m → od_R 1 mX11_quietFrom od_Z0 E (some (0, v), E, gw) 2 [some (2, M), some (0, h), some (0, i)] [] E gw := by
  intro m
  induction m with
  | zero => intro i hi hM; exact absurd hM (Nat.not_lt_zero _)
  | succ m ih =>
    intro i hi hM
    obtain ⟨hi0, hi1, hv⟩ := hi
    have hR := mRd_b hI
    have e37 := hL.1
    have hb : 0 ≤ (h + i).tmod (mRd g M) ∧ (h + i).tmod (mRd g M) < mRd g M := by rw [Int.tmod_eq_emod_of_nonneg (by omega)]; exact ⟨Int.emod_nonneg _ (by omega), Int.emod_lt_of_pos _ (by omega)⟩
    have hs : i < mRd g M → od_ite (mQz g M h i) (od_run (mQz g M h) (mRd g M - (i + 1)).toNat (i + 1)) i = v := fun q => by
      rw [show (mRd g M - i).toNat = (mRd g M - (i + 1)).toNat + 1 by omega] at hv
      exact hv
    refine r_iload_n dX11_quietFrom_2 rfl ?_
    refine r_aload_n dX11_quietFrom_3 rfl ?_
    refine r_getIj (j := 37) rfl dX11_quietFrom_4 fkX11_380 gf11_37 (mo_o hm) (by first | exact e37 | exact hL.2 _ hb.1 hb.2 | rfl) ?_
    refine r_icmp_ge (tgt := 32) dX11_quietFrom_7 rfl (fun c7 => ?_) (fun c7 => ?_)
    · refine r_iload_n dX11_quietFrom_32 rfl ?_
      first
      | (have hi9 : i = mRd g M := by omega
         rw [show (mRd g M - i).toNat = 0 by omega] at hv
         exact r_iret dX11_quietFrom_33 rfl (by rw [← hv]; rfl))
      | (have hs1 := hs (by omega)
         rw [od_ite_f (show ¬ mQz g M h i from by assumption)] at hs1
         exact r_iret dX11_quietFrom_33 rfl (by rw [hs1]))
    · refine r_aload_n dX11_quietFrom_10 rfl ?_
      refine r_getR dX11_quietFrom_11 fkX11_75 gf11_34 (mo_o hm) (mo_r34 hm) ?_
      refine r_iload_n dX11_quietFrom_14 rfl ?_
      refine r_iload_n dX11_quietFrom_15 rfl ?_
      refine r_iaddE dX11_quietFrom_16 (by first | exact od_w0 (by omega) (by omega) | exact od_wI (by omega) (by omega) | rfl) ?_
      refine r_aload_n dX11_quietFrom_17 rfl ?_
      refine r_getIj (j := 37) rfl dX11_quietFrom_18 fkX11_380 gf11_37 (mo_o hm) (by first | exact e37 | exact hL.2 _ hb.1 hb.2 | rfl) ?_
      refine r_irem dX11_quietFrom_21 (by first | decide | omega) ?_
      refine r_iald dX11_quietFrom_22 (mo_k34 hm) (by omega) (by first | exact e37 | exact hL.2 _ hb.1 hb.2 | rfl) ?_
      refine r_if_ne (tgt := 32) dX11_quietFrom_23 rfl (fun c23 => ?_) (fun c23 => ?_)
      · refine r_iload_n dX11_quietFrom_32 rfl ?_
        first
        | (have hi9 : i = mRd g M := by omega
           rw [show (mRd g M - i).toNat = 0 by omega] at hv
           exact r_iret dX11_quietFrom_33 rfl (by rw [← hv]; rfl))
        | (have hs1 := hs (by omega)
           rw [od_ite_f (show ¬ mQz g M h i from by assumption)] at hs1
           exact r_iret dX11_quietFrom_33 rfl (by rw [hs1]))
      · refine r_iincE dX11_quietFrom_26 rfl (by decide) (by first | exact od_w0 (by omega) (by omega) | exact od_wI (by omega) (by omega) | rfl) rfl ?_
        refine r_goto (tgt := 2) dX11_quietFrom_29 rfl ?_
        have hs1 := hs (by omega)
        rw [od_ite_t (show mQz g M h i from by assumption)] at hs1
        exact ih _ ⟨by omega, by omega, hs1⟩ (by omega)
set_option maxRecDepth 10000 in
theorem c_X11_quietFrom {E : od_E} {g gw : od_G} {M : Int} (hm : MoAt E M) (hI : MI g M) (hfr : od_fr (LR M) g gw) (hL : LrQ g gw M) (h : Int) (hh : 0 ≤ h ∧ h ≤ 30000) : od_Ct 1 mX11_quietFrom [(2, M), (0, h)] E gw (some (0, mQf g M h), E, gw) := by
  refine od_ctI pnX11 rfl (Nat.le_of_ble_eq_true rfl) od_le.rf ?_
  show od_R _ _ _ _ _ 0 [some (2, M), some (0, h), none] [] E gw
  refine r_iconst dX11_quietFrom_0 li_0 ?_
  refine r_istore_n dX11_quietFrom_1 (by decide) rfl ?_
  have hR := mRd_b hI
  exact lp_X11_qf hm hI hfr hL h _ hh _ _ ⟨by omega, by omega, by unfold mQf; rw [Int.sub_zero]⟩ (Nat.lt_succ_self _)
set_option maxRecDepth 10000 in
theorem lp_X11_quiet {E : od_E} {g gw : od_G} {M : Int} (hm : MoAt E M) (hI : MI g M) (hfr : od_fr (LR M) g gw) (hL : LrQ g gw M) (w : Int) (v : Int × Int) : ∀ (m : Nat) (f : Nat) (b a h : Int) (x : Option od_V), (0 ≤ h ∧ h ≤ 60000 ∧ mRd g M - h ≤ f ∧ od_qu (mQf g M) (mRd g M) f b a h = v) → ((mRd g M - h).toNat) < m → od_Rf 5 mX11_quiet od_Z0 E (some (0, if w = 0 then v.1 else v.2)) (LR M) g 20 [some (2, M), some (0, w), some (0, b), some (0, a), some (0, h), x] [] E gw := by
  intro m
  induction m with
  | zero => intro f b a h x hi hM; exact absurd hM (Nat.not_lt_zero _)
  | succ m ih =>
    intro f b a h x hi hM
    obtain ⟨hi0, hi1, hf, hv⟩ := hi
    have hR := mRd_b hI
    have e37 := hL.1
    have hq : 0 ≤ mQf g M h ∧ mQf g M h ≤ mRd g M := by
      have z := od_run_b (mQz g M h) (mRd g M).toNat 0
      unfold mQf
      omega
    refine r_iload dX11_quiet_20 rfl ?_
    refine r_aload_n dX11_quiet_22 rfl ?_
    refine r_getIj (j := 37) rfl dX11_quiet_23 fkX11_380 gf11_37 (mo_o hm) (by first | exact e37 | rfl) ?_
    refine r_icmp_ge (tgt := 61) dX11_quiet_26 rfl (fun c26 => ?_) (fun c26 => ?_)
    · refine r_iload_n dX11_quiet_61 rfl ?_
      refine r_if_ne (tgt := 69) dX11_quiet_62 rfl (fun c62 => ?_) (fun c62 => ?_)
      · refine r_iload_n dX11_quiet_69 rfl ?_
        rw [od_qu_x f (by omega)] at hv
        exact r_iretq dX11_quiet_70 rfl rfl ⟨by rw [← hv]; first | rw [if_pos (by assumption)] | rw [if_neg (by assumption)], hfr⟩
      · refine r_iload_n dX11_quiet_65 rfl ?_
        refine r_goto (tgt := 70) dX11_quiet_66 rfl ?_
        rw [od_qu_x f (by omega)] at hv
        exact r_iretq dX11_quiet_70 rfl rfl ⟨by rw [← hv]; first | rw [if_pos (by assumption)] | rw [if_neg (by assumption)], hfr⟩
    · refine r_aload_n dX11_quiet_29 rfl ?_
      refine r_iload dX11_quiet_30 rfl ?_
      refine r_callV1i dX11_quiet_32 cvX11_395 (mo_o hm) (c_X11_quietFrom hm hI hfr hL _ (by omega)) (by decide) (Nat.le_of_ble_eq_true rfl) od_le.rf ?_
      refine r_istore dX11_quiet_35 (by decide) rfl ?_
      refine r_iload dX11_quiet_37 rfl ?_
      refine r_iload_n dX11_quiet_39 rfl ?_
      refine r_icmp_le (tgt := 49) dX11_quiet_40 rfl (fun c40 => ?_) (fun c40 => ?_)
      · refine r_iload dX11_quiet_49 rfl ?_
        refine r_iload dX11_quiet_51 rfl ?_
        refine r_iconst dX11_quiet_53 li_1 ?_
        refine r_iaddE dX11_quiet_54 (by first | exact od_w0 (by omega) (by omega) | exact od_wI (by omega) (by omega) | rfl) ?_
        refine r_iaddE dX11_quiet_55 (by first | exact od_w0 (by omega) (by omega) | exact od_wI (by omega) (by omega) | rfl) ?_
        refine r_istore dX11_quiet_56 (by decide) rfl ?_
        refine r_goto (tgt := 20) dX11_quiet_58 rfl ?_
        obtain ⟨f1, rfl⟩ : ∃ f1 : Nat, f = f1 + 1 := ⟨f - 1, by omega⟩
        simp only [od_qu] at hv
        rw [if_pos (by omega)] at hv
        first
        | (rw [if_pos (by omega)] at hv
           exact ih f1 _ _ _ _ ⟨by omega, by omega, by omega, hv⟩ (by omega))
        | (rw [if_neg (by omega)] at hv
           exact ih f1 _ _ _ _ ⟨by omega, by omega, by omega, hv⟩ (by omega))
      · refine r_iload dX11_quiet_43 rfl ?_
        refine r_istore_n dX11_quiet_45 (by decide) rfl ?_
        refine r_iload dX11_quiet_46 rfl ?_
        refine r_istore_n dX11_quiet_48 (by decide) rfl ?_
        refine r_iload dX11_quiet_49 rfl ?_
        refine r_iload dX11_quiet_51 rfl ?_
        refine r_iconst dX11_quiet_53 li_1 ?_
        refine r_iaddE dX11_quiet_54 (by first | exact od_w0 (by omega) (by omega) | exact od_wI (by omega) (by omega) | rfl) ?_
        refine r_iaddE dX11_quiet_55 (by first | exact od_w0 (by omega) (by omega) | exact od_wI (by omega) (by omega) | rfl) ?_
        refine r_istore dX11_quiet_56 (by decide) rfl ?_
        refine r_goto (tgt := 20) dX11_quiet_58 rfl ?_
        obtain ⟨f1, rfl⟩ : ∃ f1 : Nat, f = f1 + 1 := ⟨f - 1, by omega⟩
        simp only [od_qu] at hv
        rw [if_pos (by omega)] at hv
        first
        | (rw [if_pos (by omega)] at hv
           exact ih f1 _ _ _ _ ⟨by omega, by omega, by omega, hv⟩ (by omega))
        | (rw [if_neg (by omega)] at hv
           exact ih f1 _ _ _ _ ⟨by omega, by omega, by omega, hv⟩ (by omega))
set_option maxRecDepth 10000 in
theorem c_X11_quiet {E : od_E} {g : od_G} {M : Int} (hm : MoAt E M) (hI : MI g M) (w : Int) : od_Cf 5 mX11_quiet [(2, M), (0, w)] E g (some (0, od_ite (mLies w 0 1) (mQu g M w) (-1))) (LR M) := by
  refine od_cqI pnX11 rfl (Nat.le_of_ble_eq_true rfl) od_le.rf ?_
  show od_Rf 5 mX11_quiet od_Z0 E (some (0, od_ite (mLies w 0 1) (mQu g M w) (-1))) (LR M) g 0 [some (2, M), some (0, w), none, none, none, none] [] E g
  refine r_iload_n dX11_quiet_0 rfl ?_
  refine r_callS1b dX11_quiet_1 csX11_392 (c_X11_isBit _) (by decide) (Nat.le_of_ble_eq_true rfl) od_le.rf (fun q1 => ?_) (fun q1 => ?_)
  · refine r_if_ne (tgt := 9) dX11_quiet_4 rfl (fun _ => ?_) (fun h => absurd h (by decide))
    refine r_aload_n dX11_quiet_9 rfl ?_
    refine r_callV0p dX11_quiet_10 cvX11_383 (mo_o hm) (c_X11_laysRound hm hI) (by decide) (Nat.le_of_ble_eq_true rfl) od_le.rf (fun r10 g10 h10 => ?_)
    obtain ⟨rfl, f10, k10⟩ := h10
    show od_Rq _ _ _ _ _ _ _ [] _ _
    refine r_iconst dX11_quiet_13 li_0 ?_
    refine r_istore_n dX11_quiet_14 (by decide) rfl ?_
    refine r_iconst dX11_quiet_15 li_m1 ?_
    refine r_istore_n dX11_quiet_16 (by decide) rfl ?_
    refine r_iconst dX11_quiet_17 li_0 ?_
    refine r_istore dX11_quiet_18 (by decide) rfl ?_
    have hR := mRd_b hI
    rw [od_ite_t (by assumption)]
    exact lp_X11_quiet hm hI f10 k10 w _ _ (mRd g M).toNat _ _ _ _ ⟨by omega, by omega, by omega, rfl⟩ (Nat.lt_succ_self _)
  · refine r_if_ne (tgt := 9) dX11_quiet_4 rfl (fun h => absurd h (by decide)) (fun _ => ?_)
    refine r_iconst dX11_quiet_7 li_m1 ?_
    exact r_iretq dX11_quiet_8 rfl rfl ⟨by rw [od_ite_f (by assumption)], od_fr.rf⟩
