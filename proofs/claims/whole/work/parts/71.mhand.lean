/-! the reference: how loud it is -/
theorem pTl_9 {cl : Nat → pC} {hd : Int} {w : Int → Int} {wo : Int} (hwo : 0 ≤ wo ∧ wo ≤ 9) : ∀ n : Nat, 0 ≤ pTl cl hd w wo n ∧ pTl cl hd w wo n ≤ 9 := by
  intro n
  induction n with
  | zero => exact hwo
  | succ n ih =>
    simp only [pTl]
    cases e : (cl n).2.2.1 w with
    | none => exact ih
    | some x =>
      simp only []
      split
      · omega
      · exact ih
theorem mTl_9 {row pl : Int → Int} {C hd d bt wo : Int} (hwo : 0 ≤ wo ∧ wo ≤ 9) : 0 ≤ mTl row pl C hd d bt wo ∧ mTl row pl C hd d bt wo ≤ 9 := by
  unfold mTl
  split
  · exact hwo
  · exact pTl_9 hwo _
noncomputable def mSnd (row pl : Int → Int) (C d bt : Int) : Int := mTl row pl C 0 d bt 1
def mNow (row pl : Int → Int) (C hd d bt : Int) : Prop := mTl row pl C hd d bt 0 = 1
theorem MI.e {g g' : od_G} {M : Int} (h : MI g M) (e : g' (M + 2) = g (M + 2)) : MI g' M := by unfold MI; rw [e]; exact h
theorem mStrikes_e {g g' : od_G} {M : Int} (e : g' (M + 2) = g (M + 2)) (d h : Int) : mStrikes g' M d h = mStrikes g M d h := by unfold mStrikes mPin mBeat mStop; rw [e]
theorem mBeat_e {g g' : od_G} {M : Int} (e : g' (M + 2) = g (M + 2)) (d h : Int) : mBeat g' M d h = mBeat g M d h := by unfold mBeat mStop; rw [e]
noncomputable def mLd (g : od_G) (M : Int) (pl : Int → Int) (C h d : Int) : Int := od_ite (mStrikes g M d h) (mSnd (g (M + 2)) pl C d (mBeat g M d h)) 0
noncomputable def mLoud (g : od_G) (M : Int) (pl : Int → Int) (C h : Int) : Int := od_sum (mLd g M pl C h) (g (M + 2) 45).toNat
theorem mLd_b (g : od_G) (M : Int) (pl : Int → Int) (C h d : Int) : 0 ≤ mLd g M pl C h d ∧ mLd g M pl C h d ≤ 9 := by
  unfold mLd
  by_cases c : mStrikes g M d h
  · rw [od_ite_t c]; exact mTl_9 (by omega)
  · rw [od_ite_f c]; omega
theorem LwF.e {row row' : Int → Int} {pl : Int → Int} {C : Int} (h : LwF row pl C) (e : row' = row) : LwF row' pl C := by rw [e]; exact h
set_option maxRecDepth 10000 in
theorem c_X11_soundsAt {E : od_E} {g : od_G} {M : Int} (hm : MoAt E M) {pl : Int → Int} {C : Int} (hI : MI g M) (hF : LwF (g (M + 2)) pl C) (d : Int) (hd : 0 ≤ d ∧ d < 6) (bt : Int) : od_Cf 45 mX11_soundsAt [(2, M), (0, d), (0, bt)] E g (some (0, mSnd (g (M + 2)) pl C d bt)) (XQ M) := by
  refine od_cqI pnX11 rfl (Nat.le_of_ble_eq_true rfl) od_le.rf ?_
  show od_Rf 45 mX11_soundsAt od_Z0 E (some (0, mSnd (g (M + 2)) pl C d bt)) (XQ M) g 0 [some (2, M), some (0, d), some (0, bt)] [] E g
  refine r_aload_n dX11_soundsAt_0 rfl ?_
  refine r_iconst dX11_soundsAt_1 li_1 ?_
  refine r_iload_n dX11_soundsAt_2 rfl ?_
  refine r_iload_n dX11_soundsAt_3 rfl ?_
  refine r_iconst dX11_soundsAt_4 li_1 ?_
  refine r_callV4p dX11_soundsAt_5 cvX11_331 (mo_o hm) (c_X11_tells hm hI.1 hF _ hd _ _ _ (by omega)) (by decide) (Nat.le_of_ble_eq_true rfl) od_le.rf (fun r5 g5 h5 => ?_)
  obtain ⟨rfl, f5⟩ := h5
  show od_Rq _ _ _ _ _ _ _ ((0, _) :: _) _ _
  exact r_iretq dX11_soundsAt_8 rfl rfl ⟨rfl, f5⟩
set_option maxRecDepth 10000 in
theorem c_X11_isNow {E : od_E} {g : od_G} {M : Int} (hm : MoAt E M) {pl : Int → Int} {C : Int} (hI : MI g M) (hF : LwF (g (M + 2)) pl C) (hc d : Int) (hd : 0 ≤ d ∧ d < 6) (bt : Int) : od_Cf 45 mX11_isNow [(2, M), (0, hc), (0, d), (0, bt)] E g (some (0, od_b (mNow (g (M + 2)) pl C (hc - 1) d bt))) (XQ M) := by
  refine od_cqI pnX11 rfl (Nat.le_of_ble_eq_true rfl) od_le.rf ?_
  show od_Rf 45 mX11_isNow od_Z0 E (some (0, od_b (mNow (g (M + 2)) pl C (hc - 1) d bt))) (XQ M) g 0 [some (2, M), some (0, hc), some (0, d), some (0, bt)] [] E g
  refine r_aload_n dX11_isNow_0 rfl ?_
  refine r_iload_n dX11_isNow_1 rfl ?_
  refine r_iload_n dX11_isNow_2 rfl ?_
  refine r_iload_n dX11_isNow_3 rfl ?_
  refine r_iconst dX11_isNow_4 li_0 ?_
  refine r_callV4p dX11_isNow_5 cvX11_331 (mo_o hm) (c_X11_tells hm hI.1 hF _ hd _ _ _ (by omega)) (by decide) (Nat.le_of_ble_eq_true rfl) od_le.rf (fun r5 g5 h5 => ?_)
  obtain ⟨rfl, f5⟩ := h5
  show od_Rq _ _ _ _ _ _ _ ((0, _) :: _) _ _
  refine r_iconst dX11_isNow_8 li_1 ?_
  refine r_icmp_ne (tgt := 16) dX11_isNow_9 rfl (fun c9 => ?_) (fun c9 => ?_)
  · refine r_iconst dX11_isNow_16 li_0 ?_
    refine r_zretq dX11_isNow_17 rfl od_nz0 rfl ⟨?_, f5⟩
    rw [od_b_f (by assumption)]
  · refine r_iconst dX11_isNow_12 li_1 ?_
    refine r_goto (tgt := 17) dX11_isNow_13 rfl ?_
    refine r_zretq dX11_isNow_17 rfl od_nz1 rfl ⟨?_, f5⟩
    rw [od_b_t (by assumption)]
set_option maxRecDepth 10000 in
theorem lp_X11_loud {E : od_E} {g : od_G} {M : Int} (hm : MoAt E M) {pl : Int → Int} {C : Int} (hI : MI g M) (hF : LwF (g (M + 2)) pl C) (h : Int) : ∀ (m : Nat) (sm d : Int) (gw : od_G), (0 ≤ d ∧ d ≤ g (M + 2) 45 ∧ sm = od_sum (mLd g M pl C h) d.toNat ∧ od_fr (XQ M) g gw) → ((g (M + 2) 45 - d).toNat) < m → od_Rf 46 mX11_loudAt od_Z0 E (some (0, mLoud g M pl C h)) (XQ M) g 4 [some (2, M), some (0, h), some (0, sm), some (0, d)] [] E gw := by
  intro m
  induction m with
  | zero => intro sm d gw hi hM; exact absurd hM (Nat.not_lt_zero _)
  | succ m ih =>
    intro sm d gw hi hM
    obtain ⟨hi0, hi1, hsm, hfr⟩ := hi
    have e2 : gw (M + 2) = g (M + 2) := hfr.row (fun y => by unfold XQ; omega)
    have hIw := hI.e e2
    have hFw := hF.e e2
    have i45 := hI.1
    have hb := od_sum_b (f := mLd g M pl C h) (m := 9) d.toNat (fun i _ _ => mLd_b g M pl C h i)
    have hs1 := od_sum_s (mLd g M pl C h) hi0
    have hl : d < g (M + 2) 45 → 1 ≤ gw (M + 2) (19 + d) := fun z => (hIw.2 d hi0 (by rw [e2]; omega)).1
    have hlb := mLd_b g M pl C h d
    refine r_iload_n dX11_loudAt_4 rfl ?_
    refine r_aload_n dX11_loudAt_5 rfl ?_
    refine r_callV0i dX11_loudAt_6 cvX11_112 (mo_o hm) (c_X11_drumMany hm) (by decide) (Nat.le_of_ble_eq_true rfl) od_le.rf ?_
    rw [e2]
    refine r_icmp_ge (tgt := 45) dX11_loudAt_9 rfl (fun c9 => ?_) (fun c9 => ?_)
    · refine r_iload_n dX11_loudAt_45 rfl ?_
      refine r_iretq dX11_loudAt_46 rfl rfl ⟨?_, hfr⟩
      unfold mLoud
      rw [hsm, show d = g (M + 2) 45 by omega]
    · refine r_iload_n dX11_loudAt_12 rfl ?_
      refine r_aload_n dX11_loudAt_13 rfl ?_
      refine r_iload_n dX11_loudAt_14 rfl ?_
      refine r_iload_n dX11_loudAt_15 rfl ?_
      refine r_callV2b dX11_loudAt_16 cvX11_132 (mo_o hm) (c_X11_strikes hm _ (by omega) (hl (by omega)) _) (by decide) (Nat.le_of_ble_eq_true rfl) od_le.rf (fun q16 => ?_) (fun q16 => ?_)
      · refine r_if_eq (tgt := 36) dX11_loudAt_19 rfl (fun h => absurd h (by decide)) (fun _ => ?_)
        refine r_aload_n dX11_loudAt_22 rfl ?_
        refine r_iload_n dX11_loudAt_23 rfl ?_
        refine r_aload_n dX11_loudAt_24 rfl ?_
        refine r_iload_n dX11_loudAt_25 rfl ?_
        refine r_iload_n dX11_loudAt_26 rfl ?_
        refine r_callV2i dX11_loudAt_27 cvX11_338 (mo_o hm) (c_X11_beatOf hm _ (by omega) (hl (by omega)) _) (by decide) (Nat.le_of_ble_eq_true rfl) od_le.rf ?_
        refine r_callV2f dX11_loudAt_30 cvX11_138 (mo_o hm) (c_X11_soundsAt hm hIw hFw _ (by omega) _) (by decide) (Nat.le_of_ble_eq_true rfl) od_le.rf (fun g30 f30 => ?_)
        rw [e2, mBeat_e e2]
        have q16x := q16
        rw [mStrikes_e e2] at q16x
        have eL : mLd g M pl C h d = mSnd (g (M + 2)) pl C d (mBeat g M d h) := od_ite_t q16x
        rw [← eL]
        refine r_goto (tgt := 37) dX11_loudAt_33 rfl ?_
        refine r_iaddE dX11_loudAt_37 (by first | exact od_w0 (by omega) (by omega) | exact od_wI (by omega) (by omega) | rfl) ?_
        refine r_istore_n dX11_loudAt_38 (by decide) rfl ?_
        refine r_iincE dX11_loudAt_39 rfl (by decide) (by first | exact od_w0 (by omega) (by omega) | exact od_wI (by omega) (by omega) | rfl) rfl ?_
        refine r_goto (tgt := 4) dX11_loudAt_42 rfl ?_
        first
        | exact ih _ _ _ ⟨by omega, by omega, by rw [hs1]; omega, hfr.tr f30⟩ (by omega)
        | (have q16x := q16
           rw [mStrikes_e e2] at q16x
           have eL : mLd g M pl C h d = 0 := od_ite_f q16x
           exact ih _ _ _ ⟨by omega, by omega, by rw [hs1]; omega, hfr⟩ (by omega))
      · refine r_if_eq (tgt := 36) dX11_loudAt_19 rfl (fun _ => ?_) (fun h => absurd h (by decide))
        refine r_iconst dX11_loudAt_36 li_0 ?_
        refine r_iaddE dX11_loudAt_37 (by first | exact od_w0 (by omega) (by omega) | exact od_wI (by omega) (by omega) | rfl) ?_
        refine r_istore_n dX11_loudAt_38 (by decide) rfl ?_
        refine r_iincE dX11_loudAt_39 rfl (by decide) (by first | exact od_w0 (by omega) (by omega) | exact od_wI (by omega) (by omega) | rfl) rfl ?_
        refine r_goto (tgt := 4) dX11_loudAt_42 rfl ?_
        first
        | exact ih _ _ _ ⟨by omega, by omega, by rw [hs1]; omega, hfr.tr f30⟩ (by omega)
        | (have q16x := q16
           rw [mStrikes_e e2] at q16x
           have eL : mLd g M pl C h d = 0 := od_ite_f q16x
           exact ih _ _ _ ⟨by omega, by omega, by rw [hs1]; omega, hfr⟩ (by omega))
set_option maxRecDepth 10000 in
theorem c_X11_loudAt {E : od_E} {g : od_G} {M : Int} (hm : MoAt E M) {pl : Int → Int} {C : Int} (hI : MI g M) (hF : LwF (g (M + 2)) pl C) (h : Int) : od_Cf 46 mX11_loudAt [(2, M), (0, h)] E g (some (0, mLoud g M pl C h)) (XQ M) := by
  refine od_cqI pnX11 rfl (Nat.le_of_ble_eq_true rfl) od_le.rf ?_
  show od_Rf 46 mX11_loudAt od_Z0 E (some (0, mLoud g M pl C h)) (XQ M) g 0 [some (2, M), some (0, h), none, none] [] E g
  refine r_iconst dX11_loudAt_0 li_0 ?_
  refine r_istore_n dX11_loudAt_1 (by decide) rfl ?_
  refine r_iconst dX11_loudAt_2 li_0 ?_
  refine r_istore_n dX11_loudAt_3 (by decide) rfl ?_
  exact lp_X11_loud hm hI hF h _ _ _ _ ⟨by omega, hI.1.1, rfl, od_fr.rf⟩ (Nat.lt_succ_self _)
set_option maxRecDepth 10000 in
theorem c_X11_canPin {E : od_E} {g : od_G} {M : Int} (hm : MoAt E M) {pl : Int → Int} {C : Int} (hI : MI g M) (hF : LwF (g (M + 2)) pl C) (d : Int) (hd : 0 ≤ d ∧ d < g (M + 2) 45) (bt : Int) : od_Cf 46 mX11_canPin [(2, M), (0, d), (0, bt)] E g (some (0, od_b (mBeatL g M d bt ∧ (mPin g M d bt ∨ ¬ mNow (g (M + 2)) pl C 2 d bt)))) (XQ M) := by
  have i45 := hI.1
  refine od_cqI pnX11 rfl (Nat.le_of_ble_eq_true rfl) od_le.rf ?_
  show od_Rf 46 mX11_canPin od_Z0 E (some (0, od_b (mBeatL g M d bt ∧ (mPin g M d bt ∨ ¬ mNow (g (M + 2)) pl C 2 d bt)))) (XQ M) g 0 [some (2, M), some (0, d), some (0, bt)] [] E g
  refine r_aload_n dX11_canPin_0 rfl ?_
  refine r_iload_n dX11_canPin_1 rfl ?_
  refine r_iload_n dX11_canPin_2 rfl ?_
  refine r_callV2b dX11_canPin_3 cvX11_135 (mo_o hm) (c_X11_isBeat hm _ (by omega) (hI.2 d hd.1 hd.2) _) (by decide) (Nat.le_of_ble_eq_true rfl) od_le.rf (fun q3 => ?_) (fun q3 => ?_)
  · refine r_if_eq (tgt := 32) dX11_canPin_6 rfl (fun h => absurd h (by decide)) (fun _ => ?_)
    refine r_aload_n dX11_canPin_9 rfl ?_
    refine r_iload_n dX11_canPin_10 rfl ?_
    refine r_iload_n dX11_canPin_11 rfl ?_
    refine r_callV2b dX11_canPin_12 cvX11_341 (mo_o hm) (c_X11_hasPin hm _ (by omega) _) (by decide) (Nat.le_of_ble_eq_true rfl) od_le.rf (fun q12 => ?_) (fun q12 => ?_)
    · refine r_if_ne (tgt := 28) dX11_canPin_15 rfl (fun _ => ?_) (fun h => absurd h (by decide))
      refine r_iconst dX11_canPin_28 li_1 ?_
      refine r_goto (tgt := 33) dX11_canPin_29 rfl ?_
      first
      | exact r_zretq dX11_canPin_33 rfl od_nz1 rfl ⟨by rw [od_b_t ⟨by assumption, Or.inl (by assumption)⟩], od_fr.rf⟩
      | exact r_zretq dX11_canPin_33 rfl od_nz1 rfl ⟨by rw [od_b_t ⟨by assumption, Or.inr (by assumption)⟩], by assumption⟩
    · refine r_if_ne (tgt := 28) dX11_canPin_15 rfl (fun h => absurd h (by decide)) (fun _ => ?_)
      refine r_aload_n dX11_canPin_18 rfl ?_
      refine r_iconst dX11_canPin_19 li_3 ?_
      refine r_iload_n dX11_canPin_20 rfl ?_
      refine r_iload_n dX11_canPin_21 rfl ?_
      refine r_callV3g dX11_canPin_22 cvX11_142 (mo_o hm) (c_X11_isNow hm hI hF 3 _ (by omega) _) (by decide) (Nat.le_of_ble_eq_true rfl) od_le.rf (fun q22 g22 f22 => ?_) (fun q22 g22 f22 => ?_)
      · refine r_if_ne (tgt := 32) dX11_canPin_25 rfl (fun _ => ?_) (fun h => absurd h (by decide))
        refine r_iconst dX11_canPin_32 li_0 ?_
        first
        | exact r_zretq dX11_canPin_33 rfl od_nz0 rfl ⟨by rw [od_b_f (fun z => by have z1 := z.1; contradiction)], od_fr.rf⟩
        | exact r_zretq dX11_canPin_33 rfl od_nz0 rfl ⟨by rw [od_b_f (fun z => by rcases z.2 with z2 | z2 <;> contradiction)], by assumption⟩
      · refine r_if_ne (tgt := 32) dX11_canPin_25 rfl (fun h => absurd h (by decide)) (fun _ => ?_)
        refine r_iconst dX11_canPin_28 li_1 ?_
        refine r_goto (tgt := 33) dX11_canPin_29 rfl ?_
        first
        | exact r_zretq dX11_canPin_33 rfl od_nz1 rfl ⟨by rw [od_b_t ⟨by assumption, Or.inl (by assumption)⟩], od_fr.rf⟩
        | exact r_zretq dX11_canPin_33 rfl od_nz1 rfl ⟨by rw [od_b_t ⟨by assumption, Or.inr (by assumption)⟩], by assumption⟩
  · refine r_if_eq (tgt := 32) dX11_canPin_6 rfl (fun _ => ?_) (fun h => absurd h (by decide))
    refine r_iconst dX11_canPin_32 li_0 ?_
    first
    | exact r_zretq dX11_canPin_33 rfl od_nz0 rfl ⟨by rw [od_b_f (fun z => by have z1 := z.1; contradiction)], od_fr.rf⟩
    | exact r_zretq dX11_canPin_33 rfl od_nz0 rfl ⟨by rw [od_b_f (fun z => by rcases z.2 with z2 | z2 <;> contradiction)], by assumption⟩
