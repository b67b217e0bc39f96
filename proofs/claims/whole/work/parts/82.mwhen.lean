/-! the reference: when, often, alone, together -/
noncomputable def od_cnt (P : Int → Prop) (n : Nat) : Int := od_sum (fun h => od_b (P h)) n
theorem od_cnt_s (P : Int → Prop) {d : Int} (h : 0 ≤ d) : od_cnt P (d + 1).toNat = od_cnt P d.toNat + od_b (P d) := od_sum_s _ h
theorem od_b_b1 (P : Prop) : 0 ≤ od_b P ∧ od_b P ≤ 1 := by
  by_cases c : P
  · rw [od_b_t c]; omega
  · rw [od_b_f c]; omega
theorem od_cnt_b (P : Int → Prop) (n : Nat) : 0 ≤ od_cnt P n ∧ od_cnt P n ≤ n := by
  have z := od_sum_b (f := fun h => od_b (P h)) (m := 1) n (fun i _ _ => od_b_b1 _)
  unfold od_cnt
  omega
def mIsSet (g : od_G) (M s : Int) : Prop := mLies s 0 (od_w (od_shl 1 (g (M + 2) 45) - 1))
noncomputable def mWhen (g : od_G) (M s : Int) : Int := od_fst (fun h => od_and (mStN g M h) s = s) (mRd g M).toNat 0
noncomputable def mOften (g : od_G) (M s : Int) : Int := od_cnt (fun h => od_and (mStN g M h) s = s) (mRd g M).toNat
noncomputable def mAlone (g : od_G) (M d : Int) : Int := od_cnt (fun h => mStN g M h = od_shl 1 d) (mRd g M).toNat
def mTogP (g : od_G) (M d a h : Int) : Prop := mStrikes g M d (h + a) ∧ od_and (mStN g M h) (od_xor (od_shl 1 d) (-1)) ≠ 0
noncomputable def mTog (g : od_G) (M d a : Int) : Int := od_cnt (mTogP g M d a) (mRd g M).toNat
theorem LR_row {g g' : od_G} {M : Int} (f : od_fr (LR M) g g') : g' (M + 2) = g (M + 2) := f.row (fun y => by unfold LR; omega)
set_option maxRecDepth 10000 in
theorem c_X11_isSet {E : od_E} {g : od_G} {M : Int} (hm : MoAt E M) (s : Int) : od_Ct 2 mX11_isSet [(2, M), (0, s)] E g (some (0, od_b (mIsSet g M s)), E, g) := by
  refine od_ctI pnX11 rfl (Nat.le_of_ble_eq_true rfl) od_le.rf ?_
  show od_R _ _ _ _ _ 0 [some (2, M), some (0, s)] [] E g
  refine r_iload_n dX11_isSet_0 rfl ?_
  refine r_iconst dX11_isSet_1 li_0 ?_
  refine r_iconst dX11_isSet_2 li_1 ?_
  refine r_aload_n dX11_isSet_3 rfl ?_
  refine r_callV0i dX11_isSet_4 cvX11_112 (mo_o hm) (c_X11_drumMany hm) (by decide) (Nat.le_of_ble_eq_true rfl) od_le.rf ?_
  refine r_ishl dX11_isSet_7 ?_
  refine r_iconst dX11_isSet_8 li_1 ?_
  refine r_isubE dX11_isSet_9 (by first | exact od_w0 (by omega) (by omega) | exact od_wI (by omega) (by omega) | rfl) ?_
  refine r_callS3b dX11_isSet_10 csX11_18 (c_X11_lies _ _ _) (by decide) (Nat.le_of_ble_eq_true rfl) od_le.rf (fun q10 => ?_) (fun q10 => ?_)
  · exact r_zret (v := 1) dX11_isSet_13 rfl od_nz1 (od_lt1 (by unfold mIsSet; assumption))
  · exact r_zret (v := 0) dX11_isSet_13 rfl od_nz0 (od_lt0 (by unfold mIsSet; assumption))
set_option maxRecDepth 10000 in
theorem lp_X11_when {E : od_E} {g gw : od_G} {M : Int} (hm : MoAt E M) (hI : MI g M) (hfr : od_fr (LR M) g gw) (hL : LrQ g gw M) (s v : Int) : ∀ (m : Nat) (h : Int), (0 ≤ h ∧ h ≤ mRd g M ∧ od_fst (fun h => od_and (mStN g M h) s = s) (mRd g M - h).toNat h = v) → ((mRd g M - h).toNat) < m → od_Rf 5 mX11_when od_Z0 E (some (0, v)) (LR M) g 16 [some (2, M), some (0, s), some (0, h)] [] E gw := by
  intro m
  induction m with
  | zero => intro h hi hM; exact absurd hM (Nat.not_lt_zero _)
  | succ m ih =>
    intro h hi hM
    obtain ⟨hi0, hi1, hv⟩ := hi
    have hR := mRd_b hI
    have e37 := hL.1
    have hs : h < mRd g M → od_ite (od_and (mStN g M h) s = s) h (od_fst (fun h => od_and (mStN g M h) s = s) (mRd g M - (h + 1)).toNat (h + 1)) = v := fun q => by
      rw [show (mRd g M - h).toNat = (mRd g M - (h + 1)).toNat + 1 by omega] at hv
      exact hv
    refine r_iload_n dX11_when_16 rfl ?_
    refine r_aload_n dX11_when_17 rfl ?_
    refine r_getIj (j := 37) rfl dX11_when_18 fkX11_380 gf11_37 (mo_o hm) (by first | exact e37 | exact hL.2 _ hi0 (by omega) | rfl) ?_
    refine r_icmp_ge (tgt := 44) dX11_when_21 rfl (fun c21 => ?_) (fun c21 => ?_)
    · refine r_iconst dX11_when_44 li_m1 ?_
      rw [show (mRd g M - h).toNat = 0 by omega] at hv
      exact r_iretq dX11_when_45 rfl rfl ⟨by rw [← hv]; rfl, hfr⟩
    · refine r_aload_n dX11_when_24 rfl ?_
      refine r_getR dX11_when_25 fkX11_75 gf11_34 (mo_o hm) (mo_r34 hm) ?_
      refine r_iload_n dX11_when_28 rfl ?_
      refine r_iald dX11_when_29 (mo_k34 hm) (by omega) (by first | exact e37 | exact hL.2 _ hi0 (by omega) | rfl) ?_
      refine r_iload_n dX11_when_30 rfl ?_
      refine r_iand dX11_when_31 ?_
      refine r_iload_n dX11_when_32 rfl ?_
      refine r_icmp_ne (tgt := 38) dX11_when_33 rfl (fun c33 => ?_) (fun c33 => ?_)
      · refine r_iincE dX11_when_38 rfl (by decide) (by first | exact od_w0 (by omega) (by omega) | exact od_wI (by omega) (by omega) | rfl) rfl ?_
        refine r_goto (tgt := 16) dX11_when_41 rfl ?_
        have hs1 := hs (by omega)
        rw [od_ite_f (by assumption)] at hs1
        exact ih _ ⟨by omega, by omega, hs1⟩ (by omega)
      · refine r_iload_n dX11_when_36 rfl ?_
        have hs1 := hs (by omega)
        rw [od_ite_t (by assumption)] at hs1
        exact r_iretq dX11_when_37 rfl rfl ⟨by rw [hs1], hfr⟩
set_option maxRecDepth 10000 in
theorem c_X11_when {E : od_E} {g : od_G} {M : Int} (hm : MoAt E M) (hI : MI g M) (s : Int) : od_Cf 5 mX11_when [(2, M), (0, s)] E g (some (0, od_ite (mIsSet g M s) (mWhen g M s) (-1))) (LR M) := by
  refine od_cqI pnX11 rfl (Nat.le_of_ble_eq_true rfl) od_le.rf ?_
  show od_Rf 5 mX11_when od_Z0 E (some (0, od_ite (mIsSet g M s) (mWhen g M s) (-1))) (LR M) g 0 [some (2, M), some (0, s), none] [] E g
  refine r_aload_n dX11_when_0 rfl ?_
  refine r_iload_n dX11_when_1 rfl ?_
  refine r_callV1b dX11_when_2 cvX11_386 (mo_o hm) (c_X11_isSet hm _) (by decide) (Nat.le_of_ble_eq_true rfl) od_le.rf (fun q2 => ?_) (fun q2 => ?_)
  · refine r_if_ne (tgt := 10) dX11_when_5 rfl (fun _ => ?_) (fun h => absurd h (by decide))
    refine r_aload_n dX11_when_10 rfl ?_
    refine r_callV0p dX11_when_11 cvX11_383 (mo_o hm) (c_X11_laysRound hm hI) (by decide) (Nat.le_of_ble_eq_true rfl) od_le.rf (fun r11 g11 h11 => ?_)
    obtain ⟨rfl, f11, k11⟩ := h11
    show od_Rq _ _ _ _ _ _ _ [] _ _
    refine r_iconst dX11_when_14 li_0 ?_
    refine r_istore_n dX11_when_15 (by decide) rfl ?_
    have hR := mRd_b hI
    rw [od_ite_t (by assumption)]
    exact lp_X11_when hm hI f11 k11 s _ _ _ ⟨by omega, by omega, by unfold mWhen; rw [Int.sub_zero]⟩ (Nat.lt_succ_self _)
  · refine r_if_ne (tgt := 10) dX11_when_5 rfl (fun h => absurd h (by decide)) (fun _ => ?_)
    refine r_iconst dX11_when_8 li_m1 ?_
    exact r_iretq dX11_when_9 rfl rfl ⟨by rw [od_ite_f (by assumption)], od_fr.rf⟩
set_option maxRecDepth 10000 in
theorem lp_X11_often {E : od_E} {g gw : od_G} {M : Int} (hm : MoAt E M) (hI : MI g M) (hfr : od_fr (LR M) g gw) (hL : LrQ g gw M) (s : Int) : ∀ (m : Nat) (c h : Int), (0 ≤ h ∧ h ≤ mRd g M ∧ c = od_cnt (fun h => od_and (mStN g M h) s = s) h.toNat) → ((mRd g M - h).toNat) < m → od_Rf 5 mX11_often od_Z0 E (some (0, mOften g M s)) (LR M) g 18 [some (2, M), some (0, s), some (0, c), some (0, h)] [] E gw := by
  intro m
  induction m with
  | zero => intro c h hi hM; exact absurd hM (Nat.not_lt_zero _)
  | succ m ih =>
    intro c h hi hM
    obtain ⟨hi0, hi1, hc⟩ := hi
    have hR := mRd_b hI
    have e37 := hL.1
    have hs := od_cnt_s (fun h => od_and (mStN g M h) s = s) hi0
    have hb := od_cnt_b (fun h => od_and (mStN g M h) s = s) h.toNat
    refine r_iload_n dX11_often_18 rfl ?_
    refine r_aload_n dX11_often_19 rfl ?_
    refine r_getIj (j := 37) rfl dX11_often_20 fkX11_380 gf11_37 (mo_o hm) (by first | exact e37 | exact hL.2 _ hi0 (by omega) | rfl) ?_
    refine r_icmp_ge (tgt := 52) dX11_often_23 rfl (fun c23 => ?_) (fun c23 => ?_)
    · refine r_iload_n dX11_often_52 rfl ?_
      exact r_iretq dX11_often_53 rfl rfl ⟨by rw [hc, show h = mRd g M by omega]; rfl, hfr⟩
    · refine r_iload_n dX11_often_26 rfl ?_
      refine r_aload_n dX11_often_27 rfl ?_
      refine r_getR dX11_often_28 fkX11_75 gf11_34 (mo_o hm) (mo_r34 hm) ?_
      refine r_iload_n dX11_often_31 rfl ?_
      refine r_iald dX11_often_32 (mo_k34 hm) (by omega) (by first | exact e37 | exact hL.2 _ hi0 (by omega) | rfl) ?_
      refine r_iload_n dX11_often_33 rfl ?_
      refine r_iand dX11_often_34 ?_
      refine r_iload_n dX11_often_35 rfl ?_
      refine r_icmp_ne (tgt := 43) dX11_often_36 rfl (fun c36 => ?_) (fun c36 => ?_)
      · refine r_iconst dX11_often_43 li_0 ?_
        refine r_iaddE dX11_often_44 (by first | exact od_w0 (by omega) (by omega) | exact od_wI (by omega) (by omega) | rfl) ?_
        refine r_istore_n dX11_often_45 (by decide) rfl ?_
        refine r_iincE dX11_often_46 rfl (by decide) (by first | exact od_w0 (by omega) (by omega) | exact od_wI (by omega) (by omega) | rfl) rfl ?_
        refine r_goto (tgt := 18) dX11_often_49 rfl ?_
        first
        | (rw [od_b_t (by assumption)] at hs
           exact ih _ _ ⟨by omega, by omega, by rw [hs, hc]⟩ (by omega))
        | (rw [od_b_f (by assumption)] at hs
           exact ih _ _ ⟨by omega, by omega, by rw [hs, hc]⟩ (by omega))
      · refine r_iconst dX11_often_39 li_1 ?_
        refine r_goto (tgt := 44) dX11_often_40 rfl ?_
        refine r_iaddE dX11_often_44 (by first | exact od_w0 (by omega) (by omega) | exact od_wI (by omega) (by omega) | rfl) ?_
        refine r_istore_n dX11_often_45 (by decide) rfl ?_
        refine r_iincE dX11_often_46 rfl (by decide) (by first | exact od_w0 (by omega) (by omega) | exact od_wI (by omega) (by omega) | rfl) rfl ?_
        refine r_goto (tgt := 18) dX11_often_49 rfl ?_
        first
        | (rw [od_b_t (by assumption)] at hs
           exact ih _ _ ⟨by omega, by omega, by rw [hs, hc]⟩ (by omega))
        | (rw [od_b_f (by assumption)] at hs
           exact ih _ _ ⟨by omega, by omega, by rw [hs, hc]⟩ (by omega))
set_option maxRecDepth 10000 in
theorem c_X11_often {E : od_E} {g : od_G} {M : Int} (hm : MoAt E M) (hI : MI g M) (s : Int) : od_Cf 5 mX11_often [(2, M), (0, s)] E g (some (0, od_ite (mIsSet g M s) (mOften g M s) (-1))) (LR M) := by
  refine od_cqI pnX11 rfl (Nat.le_of_ble_eq_true rfl) od_le.rf ?_
  show od_Rf 5 mX11_often od_Z0 E (some (0, od_ite (mIsSet g M s) (mOften g M s) (-1))) (LR M) g 0 [some (2, M), some (0, s), none, none] [] E g
  refine r_aload_n dX11_often_0 rfl ?_
  refine r_iload_n dX11_often_1 rfl ?_
  refine r_callV1b dX11_often_2 cvX11_386 (mo_o hm) (c_X11_isSet hm _) (by decide) (Nat.le_of_ble_eq_true rfl) od_le.rf (fun q2 => ?_) (fun q2 => ?_)
  · refine r_if_ne (tgt := 10) dX11_often_5 rfl (fun _ => ?_) (fun h => absurd h (by decide))
    refine r_aload_n dX11_often_10 rfl ?_
    refine r_callV0p dX11_often_11 cvX11_383 (mo_o hm) (c_X11_laysRound hm hI) (by decide) (Nat.le_of_ble_eq_true rfl) od_le.rf (fun r11 g11 h11 => ?_)
    obtain ⟨rfl, f11, k11⟩ := h11
    show od_Rq _ _ _ _ _ _ _ [] _ _
    refine r_iconst dX11_often_14 li_0 ?_
    refine r_istore_n dX11_often_15 (by decide) rfl ?_
    refine r_iconst dX11_often_16 li_0 ?_
    refine r_istore_n dX11_often_17 (by decide) rfl ?_
    have hR := mRd_b hI
    rw [od_ite_t (by assumption)]
    exact lp_X11_often hm hI f11 k11 s _ _ _ ⟨by omega, by omega, rfl⟩ (Nat.lt_succ_self _)
  · refine r_if_ne (tgt := 10) dX11_often_5 rfl (fun h => absurd h (by decide)) (fun _ => ?_)
    refine r_iconst dX11_often_8 li_m1 ?_
    exact r_iretq dX11_often_9 rfl rfl ⟨by rw [od_ite_f (by assumption)], od_fr.rf⟩
set_option maxRecDepth 10000 in
theorem lp_X11_alone {E : od_E} {g gw : od_G} {M : Int} (hm : MoAt E M) (hI : MI g M) (hfr : od_fr (LR M) g gw) (hL : LrQ g gw M) (d : Int) : ∀ (m : Nat) (c h : Int), (0 ≤ h ∧ h ≤ mRd g M ∧ c = od_cnt (fun h => mStN g M h = od_shl 1 d) h.toNat) → ((mRd g M - h).toNat) < m → od_Rf 5 mX11_alone od_Z0 E (some (0, mAlone g M d)) (LR M) g 18 [some (2, M), some (0, d), some (0, c), some (0, h)] [] E gw := by
  intro m
  induction m with
  | zero => intro c h hi hM; exact absurd hM (Nat.not_lt_zero _)
  | succ m ih =>
    intro c h hi hM
    obtain ⟨hi0, hi1, hc⟩ := hi
    have hR := mRd_b hI
    have e37 := hL.1
    have hs := od_cnt_s (fun h => mStN g M h = od_shl 1 d) hi0
    have hb := od_cnt_b (fun h => mStN g M h = od_shl 1 d) h.toNat
    refine r_iload_n dX11_alone_18 rfl ?_
    refine r_aload_n dX11_alone_19 rfl ?_
    refine r_getIj (j := 37) rfl dX11_alone_20 fkX11_380 gf11_37 (mo_o hm) (by first | exact e37 | exact hL.2 _ hi0 (by omega) | rfl) ?_
    refine r_icmp_ge (tgt := 52) dX11_alone_23 rfl (fun c23 => ?_) (fun c23 => ?_)
    · refine r_iload_n dX11_alone_52 rfl ?_
      exact r_iretq dX11_alone_53 rfl rfl ⟨by rw [hc, show h = mRd g M by omega]; rfl, hfr⟩
    · refine r_iload_n dX11_alone_26 rfl ?_
      refine r_aload_n dX11_alone_27 rfl ?_
      refine r_getR dX11_alone_28 fkX11_75 gf11_34 (mo_o hm) (mo_r34 hm) ?_
      refine r_iload_n dX11_alone_31 rfl ?_
      refine r_iald dX11_alone_32 (mo_k34 hm) (by omega) (by first | exact e37 | exact hL.2 _ hi0 (by omega) | rfl) ?_
      refine r_iconst dX11_alone_33 li_1 ?_
      refine r_iload_n dX11_alone_34 rfl ?_
      refine r_ishl dX11_alone_35 ?_
      refine r_icmp_ne (tgt := 43) dX11_alone_36 rfl (fun c36 => ?_) (fun c36 => ?_)
      · refine r_iconst dX11_alone_43 li_0 ?_
        refine r_iaddE dX11_alone_44 (by first | exact od_w0 (by omega) (by omega) | exact od_wI (by omega) (by omega) | rfl) ?_
        refine r_istore_n dX11_alone_45 (by decide) rfl ?_
        refine r_iincE dX11_alone_46 rfl (by decide) (by first | exact od_w0 (by omega) (by omega) | exact od_wI (by omega) (by omega) | rfl) rfl ?_
        refine r_goto (tgt := 18) dX11_alone_49 rfl ?_
        first
        | (rw [od_b_t (by assumption)] at hs
           exact ih _ _ ⟨by omega, by omega, by rw [hs, hc]⟩ (by omega))
        | (rw [od_b_f (by assumption)] at hs
           exact ih _ _ ⟨by omega, by omega, by rw [hs, hc]⟩ (by omega))
      · refine r_iconst dX11_alone_39 li_1 ?_
        refine r_goto (tgt := 44) dX11_alone_40 rfl ?_
        refine r_iaddE dX11_alone_44 (by first | exact od_w0 (by omega) (by omega) | exact od_wI (by omega) (by omega) | rfl) ?_
        refine r_istore_n dX11_alone_45 (by decide) rfl ?_
        refine r_iincE dX11_alone_46 rfl (by decide) (by first | exact od_w0 (by omega) (by omega) | exact od_wI (by omega) (by omega) | rfl) rfl ?_
        refine r_goto (tgt := 18) dX11_alone_49 rfl ?_
        first
        | (rw [od_b_t (by assumption)] at hs
           exact ih _ _ ⟨by omega, by omega, by rw [hs, hc]⟩ (by omega))
        | (rw [od_b_f (by assumption)] at hs
           exact ih _ _ ⟨by omega, by omega, by rw [hs, hc]⟩ (by omega))
set_option maxRecDepth 10000 in
theorem c_X11_alone {E : od_E} {g : od_G} {M : Int} (hm : MoAt E M) (hI : MI g M) (d : Int) : od_Cf 5 mX11_alone [(2, M), (0, d)] E g (some (0, od_ite (mDr g M d) (mAlone g M d) (-1))) (LR M) := by
  refine od_cqI pnX11 rfl (Nat.le_of_ble_eq_true rfl) od_le.rf ?_
  show od_Rf 5 mX11_alone od_Z0 E (some (0, od_ite (mDr g M d) (mAlone g M d) (-1))) (LR M) g 0 [some (2, M), some (0, d), none, none] [] E g
  refine r_aload_n dX11_alone_0 rfl ?_
  refine r_iload_n dX11_alone_1 rfl ?_
  refine r_callV1b dX11_alone_2 cvX11_128 (mo_o hm) (c_X11_isDrum hm hI.1 _) (by decide) (Nat.le_of_ble_eq_true rfl) od_le.rf (fun q2 => ?_) (fun q2 => ?_)
  · refine r_if_ne (tgt := 10) dX11_alone_5 rfl (fun _ => ?_) (fun h => absurd h (by decide))
    refine r_aload_n dX11_alone_10 rfl ?_
    refine r_callV0p dX11_alone_11 cvX11_383 (mo_o hm) (c_X11_laysRound hm hI) (by decide) (Nat.le_of_ble_eq_true rfl) od_le.rf (fun r11 g11 h11 => ?_)
    obtain ⟨rfl, f11, k11⟩ := h11
    show od_Rq _ _ _ _ _ _ _ [] _ _
    refine r_iconst dX11_alone_14 li_0 ?_
    refine r_istore_n dX11_alone_15 (by decide) rfl ?_
    refine r_iconst dX11_alone_16 li_0 ?_
    refine r_istore_n dX11_alone_17 (by decide) rfl ?_
    have hR := mRd_b hI
    rw [od_ite_t (by assumption)]
    exact lp_X11_alone hm hI f11 k11 d _ _ _ ⟨by omega, by omega, rfl⟩ (Nat.lt_succ_self _)
  · refine r_if_ne (tgt := 10) dX11_alone_5 rfl (fun h => absurd h (by decide)) (fun _ => ?_)
    refine r_iconst dX11_alone_8 li_m1 ?_
    exact r_iretq dX11_alone_9 rfl rfl ⟨by rw [od_ite_f (by assumption)], od_fr.rf⟩
set_option maxRecDepth 10000 in
theorem lp_X11_tog {E : od_E} {g gw : od_G} {M : Int} (hm : MoAt E M) (hI : MI g M) (hfr : od_fr (LR M) g gw) (hL : LrQ g gw M) (d a : Int) (hd : 0 ≤ d ∧ d < g (M + 2) 45) (ha : 0 ≤ a ∧ a ≤ 12) : ∀ (m : Nat) (c h : Int), (0 ≤ h ∧ h ≤ mRd g M ∧ c = od_cnt (mTogP g M d a) h.toNat) → ((mRd g M - h).toNat) < m → od_R 4 mX11_together od_Z0 E (some (0, mTog g M d a), E, gw) 5 [some (2, M), some (0, d), some (0, a), some (0, c), some (0, h)] [] E gw := by
  intro m
  induction m with
  | zero => intro c h hi hM; exact absurd hM (Nat.not_lt_zero _)
  | succ m ih =>
    intro c h hi hM
    obtain ⟨hi0, hi1, hc⟩ := hi
    have hR := mRd_b hI
    have e37 := hL.1
    have hs := od_cnt_s (mTogP g M d a) hi0
    have hb := od_cnt_b (mTogP g M d a) h.toNat
    have e2 := LR_row hfr
    have i45 := hI.1
    have l : 1 ≤ gw (M + 2) (19 + d) := by rw [e2]; exact (hI.2 d hd.1 hd.2).1
    refine r_iload dX11_together_5 rfl ?_
    refine r_aload_n dX11_together_7 rfl ?_
    refine r_getIj (j := 37) rfl dX11_together_8 fkX11_380 gf11_37 (mo_o hm) (by first | exact e37 | exact hL.2 _ hi0 (by omega) | rfl) ?_
    refine r_icmp_ge (tgt := 56) dX11_together_11 rfl (fun c11 => ?_) (fun c11 => ?_)
    · refine r_iload_n dX11_together_56 rfl ?_
      exact r_iret dX11_together_57 rfl (by rw [hc, show h = mRd g M by omega]; rfl)
    · refine r_iload_n dX11_together_14 rfl ?_
      refine r_aload_n dX11_together_15 rfl ?_
      refine r_iload_n dX11_together_16 rfl ?_
      refine r_iload dX11_together_17 rfl ?_
      refine r_iload_n dX11_together_19 rfl ?_
      refine r_iaddE dX11_together_20 (by first | exact od_w0 (by omega) (by omega) | exact od_wI (by omega) (by omega) | rfl) ?_
      refine r_callV2b dX11_together_21 cvX11_132 (mo_o hm) (c_X11_strikes hm _ (by omega) l _) (by decide) (Nat.le_of_ble_eq_true rfl) od_le.rf (fun q21 => ?_) (fun q21 => ?_)
      · refine r_if_eq (tgt := 47) dX11_together_24 rfl (fun h => absurd h (by decide)) (fun _ => ?_)
        refine r_aload_n dX11_together_27 rfl ?_
        refine r_getR dX11_together_28 fkX11_75 gf11_34 (mo_o hm) (mo_r34 hm) ?_
        refine r_iload dX11_together_31 rfl ?_
        refine r_iald dX11_together_33 (mo_k34 hm) (by omega) (by first | exact e37 | exact hL.2 _ hi0 (by omega) | rfl) ?_
        refine r_iconst dX11_together_34 li_1 ?_
        refine r_iload_n dX11_together_35 rfl ?_
        refine r_ishl dX11_together_36 ?_
        refine r_iconst dX11_together_37 li_m1 ?_
        refine r_ixor dX11_together_38 ?_
        refine r_iand dX11_together_39 ?_
        refine r_if_eq (tgt := 47) dX11_together_40 rfl (fun c40 => ?_) (fun c40 => ?_)
        · refine r_iconst dX11_together_47 li_0 ?_
          refine r_iaddE dX11_together_48 (by first | exact od_w0 (by omega) (by omega) | exact od_wI (by omega) (by omega) | rfl) ?_
          refine r_istore_n dX11_together_49 (by decide) rfl ?_
          refine r_iincE dX11_together_50 rfl (by decide) (by first | exact od_w0 (by omega) (by omega) | exact od_wI (by omega) (by omega) | rfl) rfl ?_
          refine r_goto (tgt := 5) dX11_together_53 rfl ?_
          have q21x := q21
          rw [mStrikes_e e2] at q21x
          first
          | (rw [od_b_t (show mTogP g M d a h from ⟨q21x, by assumption⟩)] at hs
             exact ih _ _ ⟨by omega, by omega, by rw [hs, hc]⟩ (by omega))
          | (rw [od_b_f (show ¬ mTogP g M d a h from fun z => z.2 (by assumption))] at hs
             exact ih _ _ ⟨by omega, by omega, by rw [hs, hc]⟩ (by omega))
          | (rw [od_b_f (show ¬ mTogP g M d a h from fun z => q21x z.1)] at hs
             exact ih _ _ ⟨by omega, by omega, by rw [hs, hc]⟩ (by omega))
        · refine r_iconst dX11_together_43 li_1 ?_
          refine r_goto (tgt := 48) dX11_together_44 rfl ?_
          refine r_iaddE dX11_together_48 (by first | exact od_w0 (by omega) (by omega) | exact od_wI (by omega) (by omega) | rfl) ?_
          refine r_istore_n dX11_together_49 (by decide) rfl ?_
          refine r_iincE dX11_together_50 rfl (by decide) (by first | exact od_w0 (by omega) (by omega) | exact od_wI (by omega) (by omega) | rfl) rfl ?_
          refine r_goto (tgt := 5) dX11_together_53 rfl ?_
          have q21x := q21
          rw [mStrikes_e e2] at q21x
          first
          | (rw [od_b_t (show mTogP g M d a h from ⟨q21x, by assumption⟩)] at hs
             exact ih _ _ ⟨by omega, by omega, by rw [hs, hc]⟩ (by omega))
          | (rw [od_b_f (show ¬ mTogP g M d a h from fun z => z.2 (by assumption))] at hs
             exact ih _ _ ⟨by omega, by omega, by rw [hs, hc]⟩ (by omega))
          | (rw [od_b_f (show ¬ mTogP g M d a h from fun z => q21x z.1)] at hs
             exact ih _ _ ⟨by omega, by omega, by rw [hs, hc]⟩ (by omega))
      · refine r_if_eq (tgt := 47) dX11_together_24 rfl (fun _ => ?_) (fun h => absurd h (by decide))
        refine r_iconst dX11_together_47 li_0 ?_
        refine r_iaddE dX11_together_48 (by first | exact od_w0 (by omega) (by omega) | exact od_wI (by omega) (by omega) | rfl) ?_
        refine r_istore_n dX11_together_49 (by decide) rfl ?_
        refine r_iincE dX11_together_50 rfl (by decide) (by first | exact od_w0 (by omega) (by omega) | exact od_wI (by omega) (by omega) | rfl) rfl ?_
        refine r_goto (tgt := 5) dX11_together_53 rfl ?_
        have q21x := q21
        rw [mStrikes_e e2] at q21x
        first
        | (rw [od_b_t (show mTogP g M d a h from ⟨q21x, by assumption⟩)] at hs
           exact ih _ _ ⟨by omega, by omega, by rw [hs, hc]⟩ (by omega))
        | (rw [od_b_f (show ¬ mTogP g M d a h from fun z => z.2 (by assumption))] at hs
           exact ih _ _ ⟨by omega, by omega, by rw [hs, hc]⟩ (by omega))
        | (rw [od_b_f (show ¬ mTogP g M d a h from fun z => q21x z.1)] at hs
           exact ih _ _ ⟨by omega, by omega, by rw [hs, hc]⟩ (by omega))
set_option maxRecDepth 10000 in
theorem c_X11_together {E : od_E} {g gw : od_G} {M : Int} (hm : MoAt E M) (hI : MI g M) (hfr : od_fr (LR M) g gw) (hL : LrQ g gw M) (d a : Int) (hd : 0 ≤ d ∧ d < g (M + 2) 45) (ha : 0 ≤ a ∧ a ≤ 12) : od_Ct 4 mX11_together [(2, M), (0, d), (0, a)] E gw (some (0, mTog g M d a), E, gw) := by
  refine od_ctI pnX11 rfl (Nat.le_of_ble_eq_true rfl) od_le.rf ?_
  show od_R _ _ _ _ _ 0 [some (2, M), some (0, d), some (0, a), none, none] [] E gw
  refine r_iconst dX11_together_0 li_0 ?_
  refine r_istore_n dX11_together_1 (by decide) rfl ?_
  refine r_iconst dX11_together_2 li_0 ?_
  refine r_istore dX11_together_3 (by decide) rfl ?_
  have hR := mRd_b hI
  exact lp_X11_tog hm hI hfr hL d a hd ha _ _ _ ⟨by omega, by omega, rfl⟩ (Nat.lt_succ_self _)
