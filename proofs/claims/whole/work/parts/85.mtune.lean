/-! the reference: tune and compare -/
def mIsTn (F : Int → Int) (R t : Int) : Prop := R.tmod t = 0 ∧ ∀ h : Int, 0 ≤ h → h < R → F h = F ((h + t).tmod R)
theorem mIsTn_R {F : Int → Int} {R : Int} (h : 1 ≤ R) : mIsTn F R R := by
  refine ⟨?_, fun i i0 i1 => ?_⟩
  · rw [Int.tmod_eq_emod_of_nonneg (by omega), Int.emod_self]
  · rw [Int.tmod_eq_emod_of_nonneg (by omega), Int.add_emod_right, Int.emod_eq_of_lt i0 i1]
noncomputable def mTune (g : od_G) (M : Int) (pl : Int → Int) (C : Int) : Int := od_fst (mIsTn (mNz g M pl C) (mRd g M)) (mRd g M).toNat 1
noncomputable def mCmp (g : od_G) (M : Int) (pl : Int → Int) (C l : Int) : Int := od_sum (mNz (od_up g (M + 2) 48 l) M pl C) (mRd (od_up g (M + 2) 48 l) M).toNat
theorem mNz_b {g : od_G} {M : Int} (hI : MI g M) (pl : Int → Int) (C h : Int) : 0 ≤ mNz g M pl C h ∧ mNz g M pl C h ≤ 54 := by
  have z := od_sum_b (f := mNd g M pl C h) (m := 9) (g (M + 2) 45).toNat (fun i _ _ => mNd_b g M pl C h i)
  have i45 := hI.1
  unfold mNz
  omega
theorem MI.up {g : od_G} {M l : Int} (h : MI g M) : MI (od_up g (M + 2) 48 l) M := by
  have i45 := h.1
  unfold MI
  rw [od_up_at, if_neg (by omega)]
  refine ⟨i45, fun d d0 d1 => ?_⟩
  rw [od_up_at, if_neg (by omega)]
  exact h.2 d d0 d1
theorem MJ.up {g : od_G} {M l : Int} (hI : MI g M) (h : MJ g M) : MJ (od_up g (M + 2) 48 l) M := by
  have i45 := hI.1
  unfold MJ
  rw [od_up_at, if_neg (by omega)]
  intro d d0 d1
  rw [od_up_at, od_up_at, od_up_at, if_neg (by omega), if_neg (by omega), if_neg (by omega)]
  exact h d d0 d1
set_option maxRecDepth 10000 in
theorem lp_X11_isTune {E : od_E} {g gw : od_G} {M : Int} (hm : MoAt E M) {pl : Int → Int} {C : Int} (hI : MI g M) (hfr : od_fr (NQ M) g gw) (hN : NzQ g gw M pl C) (t : Int) (ht : 1 ≤ t ∧ t ≤ 30000) : ∀ (m : Nat) (k h : Int), (0 ≤ h ∧ h ≤ mRd g M ∧ ((k = 1 ∧ (mRd g M).tmod t = 0 ∧ ∀ j : Int, 0 ≤ j → j < h → mNz g M pl C j = mNz g M pl C ((j + t).tmod (mRd g M))) ∨ (k = 0 ∧ ¬ mIsTn (mNz g M pl C) (mRd g M) t))) → ((mRd g M - h).toNat) < m → od_R 1 mX11_isTune od_Z0 E (some (0, od_b (mIsTn (mNz g M pl C) (mRd g M) t)), E, gw) 17 [some (2, M), some (0, t), some (0, k), some (0, h)] [] E gw := by
  intro m
  induction m with
  | zero => intro k h hi hM; exact absurd hM (Nat.not_lt_zero _)
  | succ m ih =>
    intro k h hi hM
    obtain ⟨hi0, hi1, hk⟩ := hi
    have hR := mRd_b hI
    have e37 := hN.1.1
    have hb : 0 ≤ (h + t).tmod (mRd g M) ∧ (h + t).tmod (mRd g M) < mRd g M := by rw [Int.tmod_eq_emod_of_nonneg (by omega)]; exact ⟨Int.emod_nonneg _ (by omega), Int.emod_lt_of_pos _ (by omega)⟩
    refine r_iload_n dX11_isTune_17 rfl ?_
    refine r_aload_n dX11_isTune_18 rfl ?_
    refine r_getIj (j := 37) rfl dX11_isTune_19 fkX11_380 gf11_37 (mo_o hm) (by first | exact e37 | exact hN.2 _ hi0 (by omega) | exact hN.2 _ hb.1 hb.2 | rfl) ?_
    refine r_icmp_ge (tgt := 63) dX11_isTune_22 rfl (fun c22 => ?_) (fun c22 => ?_)
    · refine r_iload_n dX11_isTune_63 rfl ?_
      rcases hk with ⟨rfl, hk⟩ | ⟨rfl, hk⟩
      · first
        | (exfalso; omega)
        | exact r_zret (v := 1) dX11_isTune_64 rfl od_nz1 (od_lt1 ⟨hk.1, fun j j0 j1 => hk.2 j j0 (by omega)⟩)
      · first
        | (exfalso; omega)
        | exact r_zret (v := 0) dX11_isTune_64 rfl od_nz0 (od_lt0 hk)
    · refine r_iload_n dX11_isTune_25 rfl ?_
      refine r_if_eq (tgt := 63) dX11_isTune_26 rfl (fun c26 => ?_) (fun c26 => ?_)
      · refine r_iload_n dX11_isTune_63 rfl ?_
        rcases hk with ⟨rfl, hk⟩ | ⟨rfl, hk⟩
        · first
          | (exfalso; omega)
          | exact r_zret (v := 1) dX11_isTune_64 rfl od_nz1 (od_lt1 ⟨hk.1, fun j j0 j1 => hk.2 j j0 (by omega)⟩)
        · first
          | (exfalso; omega)
          | exact r_zret (v := 0) dX11_isTune_64 rfl od_nz0 (od_lt0 hk)
      · refine r_aload_n dX11_isTune_29 rfl ?_
        refine r_getR dX11_isTune_30 fkX11_78 gf11_35 (mo_o hm) (mo_r35 hm) ?_
        refine r_iload_n dX11_isTune_33 rfl ?_
        refine r_iald dX11_isTune_34 (mo_k35 hm) (by omega) (by first | exact e37 | exact hN.2 _ hi0 (by omega) | exact hN.2 _ hb.1 hb.2 | rfl) ?_
        refine r_aload_n dX11_isTune_35 rfl ?_
        refine r_getR dX11_isTune_36 fkX11_78 gf11_35 (mo_o hm) (mo_r35 hm) ?_
        refine r_iload_n dX11_isTune_39 rfl ?_
        refine r_iload_n dX11_isTune_40 rfl ?_
        refine r_iaddE dX11_isTune_41 (by first | exact od_w0 (by omega) (by omega) | exact od_wI (by omega) (by omega) | rfl) ?_
        refine r_aload_n dX11_isTune_42 rfl ?_
        refine r_getIj (j := 37) rfl dX11_isTune_43 fkX11_380 gf11_37 (mo_o hm) (by first | exact e37 | exact hN.2 _ hi0 (by omega) | exact hN.2 _ hb.1 hb.2 | rfl) ?_
        refine r_irem dX11_isTune_46 (by first | decide | omega) ?_
        refine r_iald dX11_isTune_47 (mo_k35 hm) (by omega) (by first | exact e37 | exact hN.2 _ hi0 (by omega) | exact hN.2 _ hb.1 hb.2 | rfl) ?_
        refine r_icmp_ne (tgt := 55) dX11_isTune_48 rfl (fun c48 => ?_) (fun c48 => ?_)
        · refine r_iconst dX11_isTune_55 li_0 ?_
          refine r_istore_n dX11_isTune_56 (by decide) rfl ?_
          refine r_iincE dX11_isTune_57 rfl (by decide) (by first | exact od_w0 (by omega) (by omega) | exact od_wI (by omega) (by omega) | rfl) rfl ?_
          refine r_goto (tgt := 17) dX11_isTune_60 rfl ?_
          rcases hk with hk | hk
          · first
            | (have cc : mNz g M pl C h = mNz g M pl C ((h + t).tmod (mRd g M)) := by assumption
               refine ih 1 _ ⟨by omega, by omega, Or.inl ⟨rfl, hk.2.1, fun j j0 j1 => ?_⟩⟩ (by omega)
               by_cases cj : j = h
               · rw [cj]; exact cc
               · exact hk.2.2 j j0 (by omega))
            | (have cc : ¬ mNz g M pl C h = mNz g M pl C ((h + t).tmod (mRd g M)) := by assumption
               exact ih 0 _ ⟨by omega, by omega, Or.inr ⟨rfl, fun z => cc (z.2 h hi0 (by omega))⟩⟩ (by omega))
          · exfalso; omega
        · refine r_iconst dX11_isTune_51 li_1 ?_
          refine r_goto (tgt := 56) dX11_isTune_52 rfl ?_
          refine r_istore_n dX11_isTune_56 (by decide) rfl ?_
          refine r_iincE dX11_isTune_57 rfl (by decide) (by first | exact od_w0 (by omega) (by omega) | exact od_wI (by omega) (by omega) | rfl) rfl ?_
          refine r_goto (tgt := 17) dX11_isTune_60 rfl ?_
          rcases hk with hk | hk
          · first
            | (have cc : mNz g M pl C h = mNz g M pl C ((h + t).tmod (mRd g M)) := by assumption
               refine ih 1 _ ⟨by omega, by omega, Or.inl ⟨rfl, hk.2.1, fun j j0 j1 => ?_⟩⟩ (by omega)
               by_cases cj : j = h
               · rw [cj]; exact cc
               · exact hk.2.2 j j0 (by omega))
            | (have cc : ¬ mNz g M pl C h = mNz g M pl C ((h + t).tmod (mRd g M)) := by assumption
               exact ih 0 _ ⟨by omega, by omega, Or.inr ⟨rfl, fun z => cc (z.2 h hi0 (by omega))⟩⟩ (by omega))
          · exfalso; omega
set_option maxRecDepth 10000 in
theorem c_X11_isTune {E : od_E} {g gw : od_G} {M : Int} (hm : MoAt E M) {pl : Int → Int} {C : Int} (hI : MI g M) (hfr : od_fr (NQ M) g gw) (hN : NzQ g gw M pl C) (t : Int) (ht : 1 ≤ t ∧ t ≤ 30000) : od_Ct 1 mX11_isTune [(2, M), (0, t)] E gw (some (0, od_b (mIsTn (mNz g M pl C) (mRd g M) t)), E, gw) := by
  have e37 := hN.1.1
  have hR := mRd_b hI
  refine od_ctI pnX11 rfl (Nat.le_of_ble_eq_true rfl) od_le.rf ?_
  show od_R _ _ _ _ _ 0 [some (2, M), some (0, t), none, none] [] E gw
  refine r_aload_n dX11_isTune_0 rfl ?_
  refine r_getIj (j := 37) rfl dX11_isTune_1 fkX11_380 gf11_37 (mo_o hm) (by first | exact e37 | rfl) ?_
  refine r_iload_n dX11_isTune_4 rfl ?_
  refine r_irem dX11_isTune_5 (by first | decide | omega) ?_
  refine r_if_ne (tgt := 13) dX11_isTune_6 rfl (fun c6 => ?_) (fun c6 => ?_)
  · refine r_iconst dX11_isTune_13 li_0 ?_
    refine r_istore_n dX11_isTune_14 (by decide) rfl ?_
    refine r_iconst dX11_isTune_15 li_0 ?_
    refine r_istore_n dX11_isTune_16 (by decide) rfl ?_
    first
    | (have cc : (mRd g M).tmod t = 0 := by assumption
       exact lp_X11_isTune hm hI hfr hN t ht _ 1 _ ⟨by omega, by omega, Or.inl ⟨rfl, cc, fun j j0 j1 => by omega⟩⟩ (Nat.lt_succ_self _))
    | (have cc : ¬ (mRd g M).tmod t = 0 := by assumption
       exact lp_X11_isTune hm hI hfr hN t ht _ 0 _ ⟨by omega, by omega, Or.inr ⟨rfl, fun z => cc z.1⟩⟩ (Nat.lt_succ_self _))
  · refine r_iconst dX11_isTune_9 li_1 ?_
    refine r_goto (tgt := 14) dX11_isTune_10 rfl ?_
    refine r_istore_n dX11_isTune_14 (by decide) rfl ?_
    refine r_iconst dX11_isTune_15 li_0 ?_
    refine r_istore_n dX11_isTune_16 (by decide) rfl ?_
    first
    | (have cc : (mRd g M).tmod t = 0 := by assumption
       exact lp_X11_isTune hm hI hfr hN t ht _ 1 _ ⟨by omega, by omega, Or.inl ⟨rfl, cc, fun j j0 j1 => by omega⟩⟩ (Nat.lt_succ_self _))
    | (have cc : ¬ (mRd g M).tmod t = 0 := by assumption
       exact lp_X11_isTune hm hI hfr hN t ht _ 0 _ ⟨by omega, by omega, Or.inr ⟨rfl, fun z => cc z.1⟩⟩ (Nat.lt_succ_self _))
set_option maxRecDepth 10000 in
theorem lp_X11_tune {E : od_E} {g gw : od_G} {M : Int} (hm : MoAt E M) {pl : Int → Int} {C : Int} (hI : MI g M) (hfr : od_fr (NQ M) g gw) (hN : NzQ g gw M pl C) (v : Int) : ∀ (m : Nat) (t : Int), (1 ≤ t ∧ t ≤ mRd g M ∧ od_fst (mIsTn (mNz g M pl C) (mRd g M)) (mRd g M + 1 - t).toNat t = v) → ((mRd g M - t).toNat) < m → od_Rf 47 mX11_tune od_Z0 E (some (0, v)) (NQ M) g 6 [some (2, M), some (0, t)] [] E gw := by
  intro m
  induction m with
  | zero => intro t hi hM; exact absurd hM (Nat.not_lt_zero _)
  | succ m ih =>
    intro t hi hM
    obtain ⟨hi0, hi1, hv⟩ := hi
    have hR := mRd_b hI
    have hs : od_ite (mIsTn (mNz g M pl C) (mRd g M) t) t (od_fst (mIsTn (mNz g M pl C) (mRd g M)) (mRd g M + 1 - (t + 1)).toNat (t + 1)) = v := by
      rw [show (mRd g M + 1 - t).toNat = (mRd g M + 1 - (t + 1)).toNat + 1 by omega] at hv
      exact hv
    refine r_aload_n dX11_tune_6 rfl ?_
    refine r_iload_n dX11_tune_7 rfl ?_
    refine r_callV1b dX11_tune_8 cvX11_407 (mo_o hm) (c_X11_isTune hm hI hfr hN _ (by omega)) (by decide) (Nat.le_of_ble_eq_true rfl) od_le.rf (fun q8 => ?_) (fun q8 => ?_)
    · refine r_if_ne (tgt := 20) dX11_tune_11 rfl (fun _ => ?_) (fun h => absurd h (by decide))
      refine r_iload_n dX11_tune_20 rfl ?_
      rw [od_ite_t q8] at hs
      exact r_iretq dX11_tune_21 rfl rfl ⟨by rw [hs], hfr⟩
    · refine r_if_ne (tgt := 20) dX11_tune_11 rfl (fun h => absurd h (by decide)) (fun _ => ?_)
      refine r_iincE dX11_tune_14 rfl (by decide) (by first | exact od_w0 (by omega) (by omega) | exact od_wI (by omega) (by omega) | rfl) rfl ?_
      refine r_goto (tgt := 6) dX11_tune_17 rfl ?_
      have tR : t ≠ mRd g M := fun z => q8 (by rw [z]; exact mIsTn_R (by omega))
      rw [od_ite_f q8] at hs
      exact ih _ ⟨by omega, by omega, hs⟩ (by omega)
set_option maxRecDepth 10000 in
theorem c_X11_tune {E : od_E} {g : od_G} {M : Int} (hm : MoAt E M) {pl : Int → Int} {C : Int} (hI : MI g M) (hJ : MJ g M) (hF : LwF (g (M + 2)) pl C) : od_Cf 47 mX11_tune [(2, M)] E g (some (0, mTune g M pl C)) (NQ M) := by
  refine od_cqI pnX11 rfl (Nat.le_of_ble_eq_true rfl) od_le.rf ?_
  show od_Rf 47 mX11_tune od_Z0 E (some (0, mTune g M pl C)) (NQ M) g 0 [some (2, M), none] [] E g
  refine r_aload_n dX11_tune_0 rfl ?_
  refine r_callV0p dX11_tune_1 cvX11_389 (mo_o hm) (c_X11_laysNoise hm hI hJ hF) (by decide) (Nat.le_of_ble_eq_true rfl) od_le.rf (fun r1 g1 h1 => ?_)
  obtain ⟨rfl, f1, k1⟩ := h1
  show od_Rq _ _ _ _ _ _ _ [] _ _
  refine r_iconst dX11_tune_4 li_1 ?_
  refine r_istore_n dX11_tune_5 (by decide) rfl ?_
  have hR := mRd_b hI
  exact lp_X11_tune hm hI f1 k1 _ _ _ ⟨by omega, by omega, by unfold mTune; rw [Int.add_sub_cancel]⟩ (Nat.lt_succ_self _)
