/-! the reference: compare and listen -/
noncomputable def od_set (P : Int → Prop) : Nat → Int
  | 0 => 0
  | n + 1 => od_or (od_set P n) (od_ite (P n) (od_shl 1 n) 0)
theorem od_set_s (P : Int → Prop) {d : Int} (hd : 0 ≤ d) : od_set P (d + 1).toNat = od_or (od_set P d.toNat) (od_ite (P d) (od_shl 1 d) 0) := by
  rw [show (d + 1).toNat = d.toNat + 1 by omega]
  show od_or (od_set P d.toNat) (od_ite (P (d.toNat : Nat)) (od_shl 1 (d.toNat : Nat)) 0) = _
  rw [show ((d.toNat : Nat) : Int) = d by omega]
def mSoI (g : od_G) (M d i : Int) : Prop := mStrikes g M d (g (M + 2) (31 + 2 * i)) ↔ g (M + 2) (31 + 2 * i + 1) = 1
def mSo (g : od_G) (M d : Int) : Prop := ∀ i : Int, 0 ≤ i → i < g (M + 2) 46 → mSoI g M d i
noncomputable def mCb (g : od_G) (M : Int) : Int := od_set (mSo g M) (g (M + 2) 45).toNat
noncomputable def mMoN (g : od_G) (M s h : Int) : Int := od_cnt (fun d => mIn s d ∧ mStrikes g M d h) (g (M + 2) 45).toNat
noncomputable def mMore (g : od_G) (M s h : Int) : Int := max (mMoN g M s h) (od_w (mOnes s 12 - mMoN g M s h))
def od_ml (z a : Int) (T : Int → Int) : Nat → Int × Int
  | 0 => (z, a)
  | n + 1 => if T n < (od_ml z a T n).1 then (T n, (n : Int)) else od_ml z a T n
theorem od_ml_s (z a0 : Int) (T : Int → Int) {h b a : Int} (h0 : 0 ≤ h) (he : od_ml z a0 T h.toNat = (b, a)) : od_ml z a0 T (h + 1).toNat = if T h < b then (T h, h) else (b, a) := by
  rw [show (h + 1).toNat = h.toNat + 1 by omega]
  simp only [od_ml, he]
  rw [show ((h.toNat : Nat) : Int) = h by omega]
def mLsA (x : Int × Int) (w : Int) : Int := if x.2 = -1 ∨ w = 0 then x.2 else x.1
noncomputable def mLis (g : od_G) (M w : Int) : Int := mLsA (od_ml 1000000 (-1) (mMore g M (mCb g M)) (if mCb g M = 0 then 0 else 100)) w
set_option maxRecDepth 10000 in
theorem lp_X11_cmp {E : od_E} {g gw g0 : od_G} {X : Int → Int → Prop} {M : Int} (hm : MoAt E M) {pl : Int → Int} {C : Int} (hI : MI g M) (hfr : od_fr X g0 gw) (hN : NzQ g gw M pl C) (l f : Int) : ∀ (m : Nat) (s h : Int), (0 ≤ h ∧ h ≤ mRd g M ∧ s = od_sum (mNz g M pl C) h.toNat) → ((mRd g M - h).toNat) < m → od_Rf 47 mX11_compare od_Z0 E (some (0, od_sum (mNz g M pl C) (mRd g M).toNat)) X g0 43 [some (2, M), some (0, l), some (0, f), some (0, s), some (0, h)] [] E gw := by
  intro m
  induction m with
  | zero => intro s h hi hM; exact absurd hM (Nat.not_lt_zero _)
  | succ m ih =>
    intro s h hi hM
    obtain ⟨hi0, hi1, hsm⟩ := hi
    have hR := mRd_b hI
    have e37 := hN.1.1
    have hs := od_sum_s (mNz g M pl C) hi0
    have hb := od_sum_b (f := mNz g M pl C) (m := 54) h.toNat (fun i _ _ => mNz_b hI pl C i)
    have hb1 := mNz_b hI pl C h
    refine r_iload dX11_compare_43 rfl ?_
    refine r_aload_n dX11_compare_45 rfl ?_
    refine r_getIj (j := 37) rfl dX11_compare_46 fkX11_380 gf11_37 (mo_o hm) (by first | exact e37 | exact hN.2 _ hi0 (by omega) | rfl) ?_
    refine r_icmp_ge (tgt := 68) dX11_compare_49 rfl (fun c49 => ?_) (fun c49 => ?_)
    · refine r_iload_n dX11_compare_68 rfl ?_
      exact r_iretq dX11_compare_69 rfl rfl ⟨by rw [hsm, show mRd g M = h by omega], hfr⟩
    · refine r_iload_n dX11_compare_52 rfl ?_
      refine r_aload_n dX11_compare_53 rfl ?_
      refine r_getR dX11_compare_54 fkX11_78 gf11_35 (mo_o hm) (mo_r35 hm) ?_
      refine r_iload dX11_compare_57 rfl ?_
      refine r_iald dX11_compare_59 (mo_k35 hm) (by omega) (by first | exact e37 | exact hN.2 _ hi0 (by omega) | rfl) ?_
      refine r_iaddE dX11_compare_60 (by first | exact od_w0 (by omega) (by omega) | exact od_wI (by omega) (by omega) | rfl) ?_
      refine r_istore_n dX11_compare_61 (by decide) rfl ?_
      refine r_iincE dX11_compare_62 rfl (by decide) (by first | exact od_w0 (by omega) (by omega) | exact od_wI (by omega) (by omega) | rfl) rfl ?_
      refine r_goto (tgt := 43) dX11_compare_65 rfl ?_
      exact ih _ _ ⟨by omega, by omega, by rw [hs, hsm]⟩ (by omega)
set_option maxRecDepth 10000 in
theorem c_X11_compare {E : od_E} {g : od_G} {M : Int} (hm : MoAt E M) {pl : Int → Int} {C : Int} (hI : MI g M) (hJ : MJ g M) (l : Int) (hF : mIsLaw g M l → LwF (od_up g (M + 2) 48 l (M + 2)) pl C) (hL : 0 ≤ g (M + 2) 47 ∧ g (M + 2) 47 ≤ 6) : od_Cf 47 mX11_compare [(2, M), (0, l)] E g (some (0, od_ite (mIsLaw g M l) (mCmp g M pl C l) (-1))) (NQ M) := by
  refine od_cqI pnX11 rfl (Nat.le_of_ble_eq_true rfl) od_le.rf ?_
  show od_Rf 47 mX11_compare od_Z0 E (some (0, od_ite (mIsLaw g M l) (mCmp g M pl C l) (-1))) (NQ M) g 0 [some (2, M), some (0, l), none, none, none] [] E g
  refine r_aload_n dX11_compare_0 rfl ?_
  refine r_iload_n dX11_compare_1 rfl ?_
  refine r_callV1b dX11_compare_2 cvX11_257 (mo_o hm) (c_X11_isLaw hm hL _) (by decide) (Nat.le_of_ble_eq_true rfl) od_le.rf (fun q2 => ?_) (fun q2 => ?_)
  · refine r_if_ne (tgt := 10) dX11_compare_5 rfl (fun _ => ?_) (fun h => absurd h (by decide))
    refine r_aload_n dX11_compare_10 rfl ?_
    refine r_getR dX11_compare_11 fkX11_28 gf11_2 (mo_o hm) (mo_r2 hm) ?_
    refine r_bipush dX11_compare_14 lb_48 ?_
    refine r_iald dX11_compare_16 (mo_k2 hm) (by omega) rfl ?_
    refine r_istore_n dX11_compare_17 (by decide) rfl ?_
    refine r_aload_n dX11_compare_18 rfl ?_
    refine r_getR dX11_compare_19 fkX11_28 gf11_2 (mo_o hm) (mo_r2 hm) ?_
    refine r_bipush dX11_compare_22 lb_48 ?_
    refine r_iload_n dX11_compare_24 rfl ?_
    refine r_iast dX11_compare_25 (mo_k2 hm) (by omega) ?_
    refine r_aload_n dX11_compare_26 rfl ?_
    refine r_callV0p dX11_compare_27 cvX11_389 (mo_o hm) (c_X11_laysNoise hm hI.up (hJ.up hI) (hF q2)) (by decide) (Nat.le_of_ble_eq_true rfl) od_le.rf (fun r27 g27 h27 => ?_)
    obtain ⟨rfl, f27, k27⟩ := h27
    show od_Rq _ _ _ _ _ _ _ [] _ _
    refine r_aload_n dX11_compare_30 rfl ?_
    refine r_getR dX11_compare_31 fkX11_28 gf11_2 (mo_o hm) (mo_r2 hm) ?_
    refine r_bipush dX11_compare_34 lb_48 ?_
    refine r_iload_n dX11_compare_36 rfl ?_
    refine r_iast dX11_compare_37 (mo_k2 hm) (by omega) ?_
    refine r_iconst dX11_compare_38 li_0 ?_
    refine r_istore_n dX11_compare_39 (by decide) rfl ?_
    refine r_iconst dX11_compare_40 li_0 ?_
    refine r_istore dX11_compare_41 (by decide) rfl ?_
    rw [od_ite_t (by assumption)]
    have hI1 : MI (od_up g (M + 2) 48 l) M := hI.up
    have hR := mRd_b hI1
    have fr : od_fr (NQ M) g (od_up g27 (M + 2) 48 (g (M + 2) 48)) := by
      intro x y hx
      by_cases cx : x = M + 2 ∧ y = 48
      · rw [cx.1, cx.2, od_up_i]
      · have z := f27 x y hx
        unfold od_up at z ⊢
        rw [if_neg cx] at z ⊢
        exact z
    have kN : NzQ (od_up g (M + 2) 48 l) (od_up g27 (M + 2) 48 (g (M + 2) 48)) M pl C := ⟨k27.1.up (by omega) (by omega), fun j h0 h1 => by rw [od_upn (by omega)]; exact k27.2 j h0 h1⟩
    exact lp_X11_cmp hm hI1 fr kN l _ _ _ _ ⟨by omega, by omega, rfl⟩ (Nat.lt_succ_self _)
  · refine r_if_ne (tgt := 10) dX11_compare_5 rfl (fun h => absurd h (by decide)) (fun _ => ?_)
    refine r_iconst dX11_compare_8 li_m1 ?_
    exact r_iretq dX11_compare_9 rfl rfl ⟨by rw [od_ite_f (by assumption)], od_fr.rf⟩
set_option maxRecDepth 10000 in
theorem lp_X11_isSo {E : od_E} {g : od_G} {M : Int} (hm : MoAt E M) (hI : MI g M) (h46 : 0 ≤ g (M + 2) 46 ∧ g (M + 2) 46 ≤ 6) (d : Int) (hd : 0 ≤ d ∧ d < g (M + 2) 45) : ∀ (m : Nat) (k i : Int), (0 ≤ i ∧ i ≤ g (M + 2) 46 ∧ ((k = 1 ∧ ∀ j : Int, 0 ≤ j → j < i → mSoI g M d j) ∨ (k = 0 ∧ ¬ mSo g M d))) → ((g (M + 2) 46 - i).toNat) < m → od_R 4 mX11_isSo od_Z0 E (some (0, od_b (mSo g M d)), E, g) 4 [some (2, M), some (0, d), some (0, k), some (0, i)] [] E g := by
  intro m
  induction m with
  | zero => intro k i hi hM; exact absurd hM (Nat.not_lt_zero _)
  | succ m ih =>
    intro k i hi hM
    obtain ⟨hi0, hi1, hk⟩ := hi
    have i45 := hI.1
    have l := (hI.2 d hd.1 hd.2).1
    refine r_iload_n dX11_isSo_4 rfl ?_
    refine r_aload_n dX11_isSo_5 rfl ?_
    refine r_getR dX11_isSo_6 fkX11_28 gf11_2 (mo_o hm) (mo_r2 hm) ?_
    refine r_bipush dX11_isSo_9 lb_46 ?_
    refine r_iald dX11_isSo_11 (mo_k2 hm) (by omega) rfl ?_
    refine r_icmp_ge (tgt := 72) dX11_isSo_12 rfl (fun c12 => ?_) (fun c12 => ?_)
    · refine r_iload_n dX11_isSo_72 rfl ?_
      rcases hk with ⟨rfl, hk⟩ | ⟨rfl, hk⟩
      · first
        | (exfalso; omega)
        | exact r_zret (v := 1) dX11_isSo_73 rfl od_nz1 (od_lt1 (fun j j0 j1 => hk j j0 (by omega)))
      · first
        | (exfalso; omega)
        | exact r_zret (v := 0) dX11_isSo_73 rfl od_nz0 (od_lt0 hk)
    · refine r_iload_n dX11_isSo_15 rfl ?_
      refine r_if_eq (tgt := 72) dX11_isSo_16 rfl (fun c16 => ?_) (fun c16 => ?_)
      · refine r_iload_n dX11_isSo_72 rfl ?_
        rcases hk with ⟨rfl, hk⟩ | ⟨rfl, hk⟩
        · first
          | (exfalso; omega)
          | exact r_zret (v := 1) dX11_isSo_73 rfl od_nz1 (od_lt1 (fun j j0 j1 => hk j j0 (by omega)))
        · first
          | (exfalso; omega)
          | exact r_zret (v := 0) dX11_isSo_73 rfl od_nz0 (od_lt0 hk)
      · refine r_aload_n dX11_isSo_19 rfl ?_
        refine r_iload_n dX11_isSo_20 rfl ?_
        refine r_aload_n dX11_isSo_21 rfl ?_
        refine r_getR dX11_isSo_22 fkX11_28 gf11_2 (mo_o hm) (mo_r2 hm) ?_
        refine r_bipush dX11_isSo_25 lb_31 ?_
        refine r_iconst dX11_isSo_27 li_2 ?_
        refine r_iload_n dX11_isSo_28 rfl ?_
        refine r_imulE dX11_isSo_29 (by first | exact od_w0 (by omega) (by omega) | exact od_wI (by omega) (by omega) | rfl) ?_
        refine r_iaddE dX11_isSo_30 (by first | exact od_w0 (by omega) (by omega) | exact od_wI (by omega) (by omega) | rfl) ?_
        refine r_iald dX11_isSo_31 (mo_k2 hm) (by omega) rfl ?_
        refine r_callV2b dX11_isSo_32 cvX11_132 (mo_o hm) (c_X11_strikes hm _ (by omega) l _) (by decide) (Nat.le_of_ble_eq_true rfl) od_le.rf (fun q32 => ?_) (fun q32 => ?_)
        · refine r_aload_n dX11_isSo_35 rfl ?_
          refine r_getR dX11_isSo_36 fkX11_28 gf11_2 (mo_o hm) (mo_r2 hm) ?_
          refine r_bipush dX11_isSo_39 lb_31 ?_
          refine r_iconst dX11_isSo_41 li_2 ?_
          refine r_iload_n dX11_isSo_42 rfl ?_
          refine r_imulE dX11_isSo_43 (by first | exact od_w0 (by omega) (by omega) | exact od_wI (by omega) (by omega) | rfl) ?_
          refine r_iaddE dX11_isSo_44 (by first | exact od_w0 (by omega) (by omega) | exact od_wI (by omega) (by omega) | rfl) ?_
          refine r_iconst dX11_isSo_45 li_1 ?_
          refine r_iaddE dX11_isSo_46 (by first | exact od_w0 (by omega) (by omega) | exact od_wI (by omega) (by omega) | rfl) ?_
          refine r_iald dX11_isSo_47 (mo_k2 hm) (by omega) rfl ?_
          refine r_iconst dX11_isSo_48 li_1 ?_
          refine r_icmp_ne (tgt := 56) dX11_isSo_49 rfl (fun c49 => ?_) (fun c49 => ?_)
          · refine r_iconst dX11_isSo_56 li_0 ?_
            refine r_icmp_ne (tgt := 64) dX11_isSo_57 rfl (fun c57 => ?_) (fun c57 => ?_)
            · refine r_iconst dX11_isSo_64 li_0 ?_
              refine r_istore_n dX11_isSo_65 (by decide) rfl ?_
              refine r_iincE dX11_isSo_66 rfl (by decide) (by first | exact od_w0 (by omega) (by omega) | exact od_wI (by omega) (by omega) | rfl) rfl ?_
              refine r_goto (tgt := 4) dX11_isSo_69 rfl ?_
              rcases hk with hk | hk
              · first
                | (exfalso; omega)
                | (have cc : mSoI g M d i := by unfold mSoI; first | exact ⟨fun _ => by assumption, fun _ => by assumption⟩ | exact ⟨fun z => absurd z (by assumption), fun z => absurd z (by assumption)⟩
                   refine ih 1 _ ⟨by omega, by omega, Or.inl ⟨rfl, fun j j0 j1 => ?_⟩⟩ (by omega)
                   by_cases cj : j = i
                   · rw [cj]; exact cc
                   · exact hk.2 j j0 (by omega))
                | (have cc : ¬ mSoI g M d i := fun z => by
                     unfold mSoI at z
                     first
                     | exact absurd (z.mp (by assumption)) (by assumption)
                     | exact absurd (z.mpr (by assumption)) (by assumption)
                   exact ih 0 _ ⟨by omega, by omega, Or.inr ⟨rfl, fun z => cc (z i hi0 (by omega))⟩⟩ (by omega))
              · exfalso; omega
            · refine r_iconst dX11_isSo_60 li_1 ?_
              refine r_goto (tgt := 65) dX11_isSo_61 rfl ?_
              refine r_istore_n dX11_isSo_65 (by decide) rfl ?_
              refine r_iincE dX11_isSo_66 rfl (by decide) (by first | exact od_w0 (by omega) (by omega) | exact od_wI (by omega) (by omega) | rfl) rfl ?_
              refine r_goto (tgt := 4) dX11_isSo_69 rfl ?_
              rcases hk with hk | hk
              · first
                | (exfalso; omega)
                | (have cc : mSoI g M d i := by unfold mSoI; first | exact ⟨fun _ => by assumption, fun _ => by assumption⟩ | exact ⟨fun z => absurd z (by assumption), fun z => absurd z (by assumption)⟩
                   refine ih 1 _ ⟨by omega, by omega, Or.inl ⟨rfl, fun j j0 j1 => ?_⟩⟩ (by omega)
                   by_cases cj : j = i
                   · rw [cj]; exact cc
                   · exact hk.2 j j0 (by omega))
                | (have cc : ¬ mSoI g M d i := fun z => by
                     unfold mSoI at z
                     first
                     | exact absurd (z.mp (by assumption)) (by assumption)
                     | exact absurd (z.mpr (by assumption)) (by assumption)
                   exact ih 0 _ ⟨by omega, by omega, Or.inr ⟨rfl, fun z => cc (z i hi0 (by omega))⟩⟩ (by omega))
              · exfalso; omega
          · refine r_iconst dX11_isSo_52 li_1 ?_
            refine r_goto (tgt := 57) dX11_isSo_53 rfl ?_
            refine r_icmp_ne (tgt := 64) dX11_isSo_57 rfl (fun c57 => ?_) (fun c57 => ?_)
            · refine r_iconst dX11_isSo_64 li_0 ?_
              refine r_istore_n dX11_isSo_65 (by decide) rfl ?_
              refine r_iincE dX11_isSo_66 rfl (by decide) (by first | exact od_w0 (by omega) (by omega) | exact od_wI (by omega) (by omega) | rfl) rfl ?_
              refine r_goto (tgt := 4) dX11_isSo_69 rfl ?_
              rcases hk with hk | hk
              · first
                | (exfalso; omega)
                | (have cc : mSoI g M d i := by unfold mSoI; first | exact ⟨fun _ => by assumption, fun _ => by assumption⟩ | exact ⟨fun z => absurd z (by assumption), fun z => absurd z (by assumption)⟩
                   refine ih 1 _ ⟨by omega, by omega, Or.inl ⟨rfl, fun j j0 j1 => ?_⟩⟩ (by omega)
                   by_cases cj : j = i
                   · rw [cj]; exact cc
                   · exact hk.2 j j0 (by omega))
                | (have cc : ¬ mSoI g M d i := fun z => by
                     unfold mSoI at z
                     first
                     | exact absurd (z.mp (by assumption)) (by assumption)
                     | exact absurd (z.mpr (by assumption)) (by assumption)
                   exact ih 0 _ ⟨by omega, by omega, Or.inr ⟨rfl, fun z => cc (z i hi0 (by omega))⟩⟩ (by omega))
              · exfalso; omega
            · refine r_iconst dX11_isSo_60 li_1 ?_
              refine r_goto (tgt := 65) dX11_isSo_61 rfl ?_
              refine r_istore_n dX11_isSo_65 (by decide) rfl ?_
              refine r_iincE dX11_isSo_66 rfl (by decide) (by first | exact od_w0 (by omega) (by omega) | exact od_wI (by omega) (by omega) | rfl) rfl ?_
              refine r_goto (tgt := 4) dX11_isSo_69 rfl ?_
              rcases hk with hk | hk
              · first
                | (exfalso; omega)
                | (have cc : mSoI g M d i := by unfold mSoI; first | exact ⟨fun _ => by assumption, fun _ => by assumption⟩ | exact ⟨fun z => absurd z (by assumption), fun z => absurd z (by assumption)⟩
                   refine ih 1 _ ⟨by omega, by omega, Or.inl ⟨rfl, fun j j0 j1 => ?_⟩⟩ (by omega)
                   by_cases cj : j = i
                   · rw [cj]; exact cc
                   · exact hk.2 j j0 (by omega))
                | (have cc : ¬ mSoI g M d i := fun z => by
                     unfold mSoI at z
                     first
                     | exact absurd (z.mp (by assumption)) (by assumption)
                     | exact absurd (z.mpr (by assumption)) (by assumption)
                   exact ih 0 _ ⟨by omega, by omega, Or.inr ⟨rfl, fun z => cc (z i hi0 (by omega))⟩⟩ (by omega))
              · exfalso; omega
        · refine r_aload_n dX11_isSo_35 rfl ?_
          refine r_getR dX11_isSo_36 fkX11_28 gf11_2 (mo_o hm) (mo_r2 hm) ?_
          refine r_bipush dX11_isSo_39 lb_31 ?_
          refine r_iconst dX11_isSo_41 li_2 ?_
          refine r_iload_n dX11_isSo_42 rfl ?_
          refine r_imulE dX11_isSo_43 (by first | exact od_w0 (by omega) (by omega) | exact od_wI (by omega) (by omega) | rfl) ?_
          refine r_iaddE dX11_isSo_44 (by first | exact od_w0 (by omega) (by omega) | exact od_wI (by omega) (by omega) | rfl) ?_
          refine r_iconst dX11_isSo_45 li_1 ?_
          refine r_iaddE dX11_isSo_46 (by first | exact od_w0 (by omega) (by omega) | exact od_wI (by omega) (by omega) | rfl) ?_
          refine r_iald dX11_isSo_47 (mo_k2 hm) (by omega) rfl ?_
          refine r_iconst dX11_isSo_48 li_1 ?_
          refine r_icmp_ne (tgt := 56) dX11_isSo_49 rfl (fun c49 => ?_) (fun c49 => ?_)
          · refine r_iconst dX11_isSo_56 li_0 ?_
            refine r_icmp_ne (tgt := 64) dX11_isSo_57 rfl (fun c57 => ?_) (fun c57 => ?_)
            · refine r_iconst dX11_isSo_64 li_0 ?_
              refine r_istore_n dX11_isSo_65 (by decide) rfl ?_
              refine r_iincE dX11_isSo_66 rfl (by decide) (by first | exact od_w0 (by omega) (by omega) | exact od_wI (by omega) (by omega) | rfl) rfl ?_
              refine r_goto (tgt := 4) dX11_isSo_69 rfl ?_
              rcases hk with hk | hk
              · first
                | (exfalso; omega)
                | (have cc : mSoI g M d i := by unfold mSoI; first | exact ⟨fun _ => by assumption, fun _ => by assumption⟩ | exact ⟨fun z => absurd z (by assumption), fun z => absurd z (by assumption)⟩
                   refine ih 1 _ ⟨by omega, by omega, Or.inl ⟨rfl, fun j j0 j1 => ?_⟩⟩ (by omega)
                   by_cases cj : j = i
                   · rw [cj]; exact cc
                   · exact hk.2 j j0 (by omega))
                | (have cc : ¬ mSoI g M d i := fun z => by
                     unfold mSoI at z
                     first
                     | exact absurd (z.mp (by assumption)) (by assumption)
                     | exact absurd (z.mpr (by assumption)) (by assumption)
                   exact ih 0 _ ⟨by omega, by omega, Or.inr ⟨rfl, fun z => cc (z i hi0 (by omega))⟩⟩ (by omega))
              · exfalso; omega
            · refine r_iconst dX11_isSo_60 li_1 ?_
              refine r_goto (tgt := 65) dX11_isSo_61 rfl ?_
              refine r_istore_n dX11_isSo_65 (by decide) rfl ?_
              refine r_iincE dX11_isSo_66 rfl (by decide) (by first | exact od_w0 (by omega) (by omega) | exact od_wI (by omega) (by omega) | rfl) rfl ?_
              refine r_goto (tgt := 4) dX11_isSo_69 rfl ?_
              rcases hk with hk | hk
              · first
                | (exfalso; omega)
                | (have cc : mSoI g M d i := by unfold mSoI; first | exact ⟨fun _ => by assumption, fun _ => by assumption⟩ | exact ⟨fun z => absurd z (by assumption), fun z => absurd z (by assumption)⟩
                   refine ih 1 _ ⟨by omega, by omega, Or.inl ⟨rfl, fun j j0 j1 => ?_⟩⟩ (by omega)
                   by_cases cj : j = i
                   · rw [cj]; exact cc
                   · exact hk.2 j j0 (by omega))
                | (have cc : ¬ mSoI g M d i := fun z => by
                     unfold mSoI at z
                     first
                     | exact absurd (z.mp (by assumption)) (by assumption)
                     | exact absurd (z.mpr (by assumption)) (by assumption)
                   exact ih 0 _ ⟨by omega, by omega, Or.inr ⟨rfl, fun z => cc (z i hi0 (by omega))⟩⟩ (by omega))
              · exfalso; omega
          · refine r_iconst dX11_isSo_52 li_1 ?_
            refine r_goto (tgt := 57) dX11_isSo_53 rfl ?_
            refine r_icmp_ne (tgt := 64) dX11_isSo_57 rfl (fun c57 => ?_) (fun c57 => ?_)
            · refine r_iconst dX11_isSo_64 li_0 ?_
              refine r_istore_n dX11_isSo_65 (by decide) rfl ?_
              refine r_iincE dX11_isSo_66 rfl (by decide) (by first | exact od_w0 (by omega) (by omega) | exact od_wI (by omega) (by omega) | rfl) rfl ?_
              refine r_goto (tgt := 4) dX11_isSo_69 rfl ?_
              rcases hk with hk | hk
              · first
                | (exfalso; omega)
                | (have cc : mSoI g M d i := by unfold mSoI; first | exact ⟨fun _ => by assumption, fun _ => by assumption⟩ | exact ⟨fun z => absurd z (by assumption), fun z => absurd z (by assumption)⟩
                   refine ih 1 _ ⟨by omega, by omega, Or.inl ⟨rfl, fun j j0 j1 => ?_⟩⟩ (by omega)
                   by_cases cj : j = i
                   · rw [cj]; exact cc
                   · exact hk.2 j j0 (by omega))
                | (have cc : ¬ mSoI g M d i := fun z => by
                     unfold mSoI at z
                     first
                     | exact absurd (z.mp (by assumption)) (by assumption)
                     | exact absurd (z.mpr (by assumption)) (by assumption)
                   exact ih 0 _ ⟨by omega, by omega, Or.inr ⟨rfl, fun z => cc (z i hi0 (by omega))⟩⟩ (by omega))
              · exfalso; omega
            · refine r_iconst dX11_isSo_60 li_1 ?_
              refine r_goto (tgt := 65) dX11_isSo_61 rfl ?_
              refine r_istore_n dX11_isSo_65 (by decide) rfl ?_
              refine r_iincE dX11_isSo_66 rfl (by decide) (by first | exact od_w0 (by omega) (by omega) | exact od_wI (by omega) (by omega) | rfl) rfl ?_
              refine r_goto (tgt := 4) dX11_isSo_69 rfl ?_
              rcases hk with hk | hk
              · first
                | (exfalso; omega)
                | (have cc : mSoI g M d i := by unfold mSoI; first | exact ⟨fun _ => by assumption, fun _ => by assumption⟩ | exact ⟨fun z => absurd z (by assumption), fun z => absurd z (by assumption)⟩
                   refine ih 1 _ ⟨by omega, by omega, Or.inl ⟨rfl, fun j j0 j1 => ?_⟩⟩ (by omega)
                   by_cases cj : j = i
                   · rw [cj]; exact cc
                   · exact hk.2 j j0 (by omega))
                | (have cc : ¬ mSoI g M d i := fun z => by
                     unfold mSoI at z
                     first
                     | exact absurd (z.mp (by assumption)) (by assumption)
                     | exact absurd (z.mpr (by assumption)) (by assumption)
                   exact ih 0 _ ⟨by omega, by omega, Or.inr ⟨rfl, fun z => cc (z i hi0 (by omega))⟩⟩ (by omega))
              · exfalso; omega
set_option maxRecDepth 10000 in
theorem c_X11_isSo {E : od_E} {g : od_G} {M : Int} (hm : MoAt E M) (hI : MI g M) (h46 : 0 ≤ g (M + 2) 46 ∧ g (M + 2) 46 ≤ 6) (d : Int) (hd : 0 ≤ d ∧ d < g (M + 2) 45) : od_Ct 4 mX11_isSo [(2, M), (0, d)] E g (some (0, od_b (mSo g M d)), E, g) := by
  refine od_ctI pnX11 rfl (Nat.le_of_ble_eq_true rfl) od_le.rf ?_
  show od_R _ _ _ _ _ 0 [some (2, M), some (0, d), none, none] [] E g
  refine r_iconst dX11_isSo_0 li_1 ?_
  refine r_istore_n dX11_isSo_1 (by decide) rfl ?_
  refine r_iconst dX11_isSo_2 li_0 ?_
  refine r_istore_n dX11_isSo_3 (by decide) rfl ?_
  exact lp_X11_isSo hm hI h46 d hd _ 1 _ ⟨by omega, by omega, Or.inl ⟨rfl, fun j j0 j1 => by omega⟩⟩ (Nat.lt_succ_self _)
set_option maxRecDepth 10000 in
theorem lp_X11_canBe {E : od_E} {g : od_G} {M : Int} (hm : MoAt E M) (hI : MI g M) (h46 : 0 ≤ g (M + 2) 46 ∧ g (M + 2) 46 ≤ 6) : ∀ (m : Nat) (s d : Int), (0 ≤ d ∧ d ≤ g (M + 2) 45 ∧ s = od_set (mSo g M) d.toNat) → ((g (M + 2) 45 - d).toNat) < m → od_R 5 mX11_canBe od_Z0 E (some (0, mCb g M), E, g) 4 [some (2, M), some (0, s), some (0, d)] [] E g := by
  intro m
  induction m with
  | zero => intro s d hi hM; exact absurd hM (Nat.not_lt_zero _)
  | succ m ih =>
    intro s d hi hM
    obtain ⟨hi0, hi1, hsm⟩ := hi
    have i45 := hI.1
    have hs := od_set_s (mSo g M) hi0
    refine r_iload_n dX11_canBe_4 rfl ?_
    refine r_aload_n dX11_canBe_5 rfl ?_
    refine r_callV0i dX11_canBe_6 cvX11_112 (mo_o hm) (c_X11_drumMany hm) (by decide) (Nat.le_of_ble_eq_true rfl) od_le.rf ?_
    refine r_icmp_ge (tgt := 36) dX11_canBe_9 rfl (fun c9 => ?_) (fun c9 => ?_)
    · refine r_iload_n dX11_canBe_36 rfl ?_
      exact r_iret dX11_canBe_37 rfl (by unfold mCb; rw [hsm, show d = g (M + 2) 45 by omega])
    · refine r_iload_n dX11_canBe_12 rfl ?_
      refine r_aload_n dX11_canBe_13 rfl ?_
      refine r_iload_n dX11_canBe_14 rfl ?_
      refine r_callV1b dX11_canBe_15 cvX11_410 (mo_o hm) (c_X11_isSo hm hI h46 _ (by omega)) (by decide) (Nat.le_of_ble_eq_true rfl) od_le.rf (fun q15 => ?_) (fun q15 => ?_)
      · refine r_if_eq (tgt := 27) dX11_canBe_18 rfl (fun h => absurd h (by decide)) (fun _ => ?_)
        refine r_iconst dX11_canBe_21 li_1 ?_
        refine r_iload_n dX11_canBe_22 rfl ?_
        refine r_ishl dX11_canBe_23 ?_
        refine r_goto (tgt := 28) dX11_canBe_24 rfl ?_
        refine r_ior dX11_canBe_28 ?_
        refine r_istore_n dX11_canBe_29 (by decide) rfl ?_
        refine r_iincE dX11_canBe_30 rfl (by decide) (by first | exact od_w0 (by omega) (by omega) | exact od_wI (by omega) (by omega) | rfl) rfl ?_
        refine r_goto (tgt := 4) dX11_canBe_33 rfl ?_
        first
        | (rw [od_ite_t q15] at hs
           exact ih _ _ ⟨by omega, by omega, by rw [hs, hsm]⟩ (by omega))
        | (rw [od_ite_f q15] at hs
           exact ih _ _ ⟨by omega, by omega, by rw [hs, hsm]⟩ (by omega))
      · refine r_if_eq (tgt := 27) dX11_canBe_18 rfl (fun _ => ?_) (fun h => absurd h (by decide))
        refine r_iconst dX11_canBe_27 li_0 ?_
        refine r_ior dX11_canBe_28 ?_
        refine r_istore_n dX11_canBe_29 (by decide) rfl ?_
        refine r_iincE dX11_canBe_30 rfl (by decide) (by first | exact od_w0 (by omega) (by omega) | exact od_wI (by omega) (by omega) | rfl) rfl ?_
        refine r_goto (tgt := 4) dX11_canBe_33 rfl ?_
        first
        | (rw [od_ite_t q15] at hs
           exact ih _ _ ⟨by omega, by omega, by rw [hs, hsm]⟩ (by omega))
        | (rw [od_ite_f q15] at hs
           exact ih _ _ ⟨by omega, by omega, by rw [hs, hsm]⟩ (by omega))
set_option maxRecDepth 10000 in
theorem c_X11_canBe {E : od_E} {g : od_G} {M : Int} (hm : MoAt E M) (hI : MI g M) (h46 : 0 ≤ g (M + 2) 46 ∧ g (M + 2) 46 ≤ 6) : od_Ct 5 mX11_canBe [(2, M)] E g (some (0, mCb g M), E, g) := by
  refine od_ctI pnX11 rfl (Nat.le_of_ble_eq_true rfl) od_le.rf ?_
  show od_R _ _ _ _ _ 0 [some (2, M), none, none] [] E g
  refine r_iconst dX11_canBe_0 li_0 ?_
  refine r_istore_n dX11_canBe_1 (by decide) rfl ?_
  refine r_iconst dX11_canBe_2 li_0 ?_
  refine r_istore_n dX11_canBe_3 (by decide) rfl ?_
  exact lp_X11_canBe hm hI h46 _ _ _ ⟨by omega, hI.1.1, rfl⟩ (Nat.lt_succ_self _)
set_option maxRecDepth 10000 in
theorem lp_X11_moreAt {E : od_E} {g : od_G} {M : Int} (hm : MoAt E M) (hI : MI g M) (s h : Int) : ∀ (m : Nat) (c d : Int), (0 ≤ d ∧ d ≤ g (M + 2) 45 ∧ c = od_cnt (fun d => mIn s d ∧ mStrikes g M d h) d.toNat) → ((g (M + 2) 45 - d).toNat) < m → od_R 4 mX11_moreAt od_Z0 E (some (0, mMore g M s h), E, g) 5 [some (2, M), some (0, s), some (0, h), some (0, c), some (0, d)] [] E g := by
  intro m
  induction m with
  | zero => intro c d hi hM; exact absurd hM (Nat.not_lt_zero _)
  | succ m ih =>
    intro c d hi hM
    obtain ⟨hi0, hi1, hc⟩ := hi
    have i45 := hI.1
    have hs := od_cnt_s (fun d => mIn s d ∧ mStrikes g M d h) hi0
    have hb := od_cnt_b (fun d => mIn s d ∧ mStrikes g M d h) d.toNat
    have l : d < g (M + 2) 45 → 1 ≤ g (M + 2) (19 + d) := fun z => (hI.2 d hi0 z).1
    refine r_iload dX11_moreAt_5 rfl ?_
    refine r_aload_n dX11_moreAt_7 rfl ?_
    refine r_callV0i dX11_moreAt_8 cvX11_112 (mo_o hm) (c_X11_drumMany hm) (by decide) (Nat.le_of_ble_eq_true rfl) od_le.rf ?_
    refine r_icmp_ge (tgt := 47) dX11_moreAt_11 rfl (fun c11 => ?_) (fun c11 => ?_)
    · refine r_iload_n dX11_moreAt_47 rfl ?_
      refine r_iload_n dX11_moreAt_48 rfl ?_
      refine r_callS1i dX11_moreAt_49 csX11_299 (c_X11_ones _) (by decide) (Nat.le_of_ble_eq_true rfl) od_le.rf ?_
      refine r_iload_n dX11_moreAt_52 rfl ?_
      refine r_isubE dX11_moreAt_53 (by first | exact od_w0 (by omega) (by omega) | exact od_wI (by omega) (by omega) | rfl) ?_
      refine r_callS2i dX11_moreAt_54 csX11_413 (c_X11_greater _ _) (by decide) (Nat.le_of_ble_eq_true rfl) od_le.rf ?_
      exact r_iret dX11_moreAt_57 rfl (by unfold mMore mMoN; rw [hc, show d = g (M + 2) 45 by omega])
    · refine r_iload_n dX11_moreAt_14 rfl ?_
      refine r_iload_n dX11_moreAt_15 rfl ?_
      refine r_iload dX11_moreAt_16 rfl ?_
      refine r_callS2b dX11_moreAt_18 csX11_116 (c_X11_isIn _ _) (by decide) (Nat.le_of_ble_eq_true rfl) od_le.rf (fun q18 => ?_) (fun q18 => ?_)
      · refine r_if_eq (tgt := 38) dX11_moreAt_21 rfl (fun h => absurd h (by decide)) (fun _ => ?_)
        refine r_aload_n dX11_moreAt_24 rfl ?_
        refine r_iload dX11_moreAt_25 rfl ?_
        refine r_iload_n dX11_moreAt_27 rfl ?_
        refine r_callV2b dX11_moreAt_28 cvX11_132 (mo_o hm) (c_X11_strikes hm _ (by omega) (l (by omega)) _) (by decide) (Nat.le_of_ble_eq_true rfl) od_le.rf (fun q28 => ?_) (fun q28 => ?_)
        · refine r_if_eq (tgt := 38) dX11_moreAt_31 rfl (fun h => absurd h (by decide)) (fun _ => ?_)
          refine r_iconst dX11_moreAt_34 li_1 ?_
          refine r_goto (tgt := 39) dX11_moreAt_35 rfl ?_
          refine r_iaddE dX11_moreAt_39 (by first | exact od_w0 (by omega) (by omega) | exact od_wI (by omega) (by omega) | rfl) ?_
          refine r_istore_n dX11_moreAt_40 (by decide) rfl ?_
          refine r_iincE dX11_moreAt_41 rfl (by decide) (by first | exact od_w0 (by omega) (by omega) | exact od_wI (by omega) (by omega) | rfl) rfl ?_
          refine r_goto (tgt := 5) dX11_moreAt_44 rfl ?_
          first
          | (have z1 : mIn s d := by assumption
             have z2 : mStrikes g M d h := by assumption
             rw [od_b_t ⟨z1, z2⟩] at hs
             exact ih _ _ ⟨by omega, by omega, by rw [hs, hc]⟩ (by omega))
          | (have z2 : ¬ mStrikes g M d h := by assumption
             rw [od_b_f (fun z => z2 z.2)] at hs
             exact ih _ _ ⟨by omega, by omega, by rw [hs, hc]⟩ (by omega))
          | (have z1 : ¬ mIn s d := by assumption
             rw [od_b_f (fun z => z1 z.1)] at hs
             exact ih _ _ ⟨by omega, by omega, by rw [hs, hc]⟩ (by omega))
        · refine r_if_eq (tgt := 38) dX11_moreAt_31 rfl (fun _ => ?_) (fun h => absurd h (by decide))
          refine r_iconst dX11_moreAt_38 li_0 ?_
          refine r_iaddE dX11_moreAt_39 (by first | exact od_w0 (by omega) (by omega) | exact od_wI (by omega) (by omega) | rfl) ?_
          refine r_istore_n dX11_moreAt_40 (by decide) rfl ?_
          refine r_iincE dX11_moreAt_41 rfl (by decide) (by first | exact od_w0 (by omega) (by omega) | exact od_wI (by omega) (by omega) | rfl) rfl ?_
          refine r_goto (tgt := 5) dX11_moreAt_44 rfl ?_
          first
          | (have z1 : mIn s d := by assumption
             have z2 : mStrikes g M d h := by assumption
             rw [od_b_t ⟨z1, z2⟩] at hs
             exact ih _ _ ⟨by omega, by omega, by rw [hs, hc]⟩ (by omega))
          | (have z2 : ¬ mStrikes g M d h := by assumption
             rw [od_b_f (fun z => z2 z.2)] at hs
             exact ih _ _ ⟨by omega, by omega, by rw [hs, hc]⟩ (by omega))
          | (have z1 : ¬ mIn s d := by assumption
             rw [od_b_f (fun z => z1 z.1)] at hs
             exact ih _ _ ⟨by omega, by omega, by rw [hs, hc]⟩ (by omega))
      · refine r_if_eq (tgt := 38) dX11_moreAt_21 rfl (fun _ => ?_) (fun h => absurd h (by decide))
        refine r_iconst dX11_moreAt_38 li_0 ?_
        refine r_iaddE dX11_moreAt_39 (by first | exact od_w0 (by omega) (by omega) | exact od_wI (by omega) (by omega) | rfl) ?_
        refine r_istore_n dX11_moreAt_40 (by decide) rfl ?_
        refine r_iincE dX11_moreAt_41 rfl (by decide) (by first | exact od_w0 (by omega) (by omega) | exact od_wI (by omega) (by omega) | rfl) rfl ?_
        refine r_goto (tgt := 5) dX11_moreAt_44 rfl ?_
        first
        | (have z1 : mIn s d := by assumption
           have z2 : mStrikes g M d h := by assumption
           rw [od_b_t ⟨z1, z2⟩] at hs
           exact ih _ _ ⟨by omega, by omega, by rw [hs, hc]⟩ (by omega))
        | (have z2 : ¬ mStrikes g M d h := by assumption
           rw [od_b_f (fun z => z2 z.2)] at hs
           exact ih _ _ ⟨by omega, by omega, by rw [hs, hc]⟩ (by omega))
        | (have z1 : ¬ mIn s d := by assumption
           rw [od_b_f (fun z => z1 z.1)] at hs
           exact ih _ _ ⟨by omega, by omega, by rw [hs, hc]⟩ (by omega))
set_option maxRecDepth 10000 in
theorem c_X11_moreAt {E : od_E} {g : od_G} {M : Int} (hm : MoAt E M) (hI : MI g M) (s h : Int) : od_Ct 4 mX11_moreAt [(2, M), (0, s), (0, h)] E g (some (0, mMore g M s h), E, g) := by
  refine od_ctI pnX11 rfl (Nat.le_of_ble_eq_true rfl) od_le.rf ?_
  show od_R _ _ _ _ _ 0 [some (2, M), some (0, s), some (0, h), none, none] [] E g
  refine r_iconst dX11_moreAt_0 li_0 ?_
  refine r_istore_n dX11_moreAt_1 (by decide) rfl ?_
  refine r_iconst dX11_moreAt_2 li_0 ?_
  refine r_istore dX11_moreAt_3 (by decide) rfl ?_
  exact lp_X11_moreAt hm hI s h _ _ _ ⟨by omega, hI.1.1, rfl⟩ (Nat.lt_succ_self _)
set_option maxRecDepth 10000 in
theorem lp_X11_listen {E : od_E} {g : od_G} {M : Int} (hm : MoAt E M) (hI : MI g M) (w : Int) : ∀ (m : Nat) (a b h : Int) (x : Option od_V), (0 ≤ h ∧ h ≤ 100 ∧ (mCb g M = 0 → h = 0) ∧ od_ml 1000000 (-1) (mMore g M (mCb g M)) h.toNat = (b, a)) → ((100 - h).toNat) < m → od_R 6 mX11_listen od_Z0 E (some (0, mLis g M w), E, g) 23 [some (2, M), some (0, w), some (0, mCb g M), some (0, a), some (0, b), some (0, h), x] [] E g := by
  intro m
  induction m with
  | zero => intro a b h x hi hM; exact absurd hM (Nat.not_lt_zero _)
  | succ m ih =>
    intro a b h x hi hM
    obtain ⟨hi0, hi1, hz, he⟩ := hi
    have hs := od_ml_s _ _ _ hi0 he
    have hn : (mCb g M = 0 ∨ h = 100) → (if mCb g M = 0 then 0 else 100) = h.toNat := fun q => by
      by_cases c : mCb g M = 0
      · rw [if_pos c, hz c]; rfl
      · rw [if_neg c]; omega
    refine r_iload dX11_listen_23 rfl ?_
    refine r_bipush dX11_listen_25 lb_100 ?_
    refine r_icmp_ge (tgt := 66) dX11_listen_27 rfl (fun c27 => ?_) (fun c27 => ?_)
    · refine r_iload_n dX11_listen_66 rfl ?_
      refine r_iconst dX11_listen_67 li_m1 ?_
      refine r_icmp_eq (tgt := 75) dX11_listen_68 rfl (fun c68 => ?_) (fun c68 => ?_)
      · refine r_iload_n dX11_listen_75 rfl ?_
        refine r_goto (tgt := 81) dX11_listen_76 rfl ?_
        have hn1 := hn (by omega)
        exact r_iret dX11_listen_81 rfl (by unfold mLis mLsA; rw [hn1, he]; first | rw [if_pos (by show a = -1 ∨ w = 0; omega)] | rw [if_neg (by show ¬ (a = -1 ∨ w = 0); omega)])
      · refine r_iload_n dX11_listen_71 rfl ?_
        refine r_if_ne (tgt := 79) dX11_listen_72 rfl (fun c72 => ?_) (fun c72 => ?_)
        · refine r_iload dX11_listen_79 rfl ?_
          have hn1 := hn (by omega)
          exact r_iret dX11_listen_81 rfl (by unfold mLis mLsA; rw [hn1, he]; first | rw [if_pos (by show a = -1 ∨ w = 0; omega)] | rw [if_neg (by show ¬ (a = -1 ∨ w = 0); omega)])
        · refine r_iload_n dX11_listen_75 rfl ?_
          refine r_goto (tgt := 81) dX11_listen_76 rfl ?_
          have hn1 := hn (by omega)
          exact r_iret dX11_listen_81 rfl (by unfold mLis mLsA; rw [hn1, he]; first | rw [if_pos (by show a = -1 ∨ w = 0; omega)] | rw [if_neg (by show ¬ (a = -1 ∨ w = 0); omega)])
    · refine r_iload_n dX11_listen_30 rfl ?_
      refine r_if_eq (tgt := 66) dX11_listen_31 rfl (fun c31 => ?_) (fun c31 => ?_)
      · refine r_iload_n dX11_listen_66 rfl ?_
        refine r_iconst dX11_listen_67 li_m1 ?_
        refine r_icmp_eq (tgt := 75) dX11_listen_68 rfl (fun c68 => ?_) (fun c68 => ?_)
        · refine r_iload_n dX11_listen_75 rfl ?_
          refine r_goto (tgt := 81) dX11_listen_76 rfl ?_
          have hn1 := hn (by omega)
          exact r_iret dX11_listen_81 rfl (by unfold mLis mLsA; rw [hn1, he]; first | rw [if_pos (by show a = -1 ∨ w = 0; omega)] | rw [if_neg (by show ¬ (a = -1 ∨ w = 0); omega)])
        · refine r_iload_n dX11_listen_71 rfl ?_
          refine r_if_ne (tgt := 79) dX11_listen_72 rfl (fun c72 => ?_) (fun c72 => ?_)
          · refine r_iload dX11_listen_79 rfl ?_
            have hn1 := hn (by omega)
            exact r_iret dX11_listen_81 rfl (by unfold mLis mLsA; rw [hn1, he]; first | rw [if_pos (by show a = -1 ∨ w = 0; omega)] | rw [if_neg (by show ¬ (a = -1 ∨ w = 0); omega)])
          · refine r_iload_n dX11_listen_75 rfl ?_
            refine r_goto (tgt := 81) dX11_listen_76 rfl ?_
            have hn1 := hn (by omega)
            exact r_iret dX11_listen_81 rfl (by unfold mLis mLsA; rw [hn1, he]; first | rw [if_pos (by show a = -1 ∨ w = 0; omega)] | rw [if_neg (by show ¬ (a = -1 ∨ w = 0); omega)])
      · refine r_aload_n dX11_listen_34 rfl ?_
        refine r_iload_n dX11_listen_35 rfl ?_
        refine r_iload dX11_listen_36 rfl ?_
        refine r_callV2i dX11_listen_38 cvX11_419 (mo_o hm) (c_X11_moreAt hm hI _ _) (by decide) (Nat.le_of_ble_eq_true rfl) od_le.rf ?_
        refine r_istore dX11_listen_41 (by decide) rfl ?_
        refine r_iload dX11_listen_43 rfl ?_
        refine r_iload dX11_listen_45 rfl ?_
        refine r_icmp_lt (tgt := 53) dX11_listen_47 rfl (fun c47 => ?_) (fun c47 => ?_)
        · refine r_iload dX11_listen_53 rfl ?_
          refine r_istore dX11_listen_55 (by decide) rfl ?_
          refine r_iload dX11_listen_57 rfl ?_
          refine r_istore_n dX11_listen_59 (by decide) rfl ?_
          refine r_iincE dX11_listen_60 rfl (by decide) (by first | exact od_w0 (by omega) (by omega) | exact od_wI (by omega) (by omega) | rfl) rfl ?_
          refine r_goto (tgt := 23) dX11_listen_63 rfl ?_
          first
          | (rw [if_pos (by omega)] at hs
             exact ih _ _ _ _ ⟨by omega, by omega, by omega, hs⟩ (by omega))
          | (rw [if_neg (by omega)] at hs
             exact ih _ _ _ _ ⟨by omega, by omega, by omega, hs⟩ (by omega))
        · refine r_goto (tgt := 60) dX11_listen_50 rfl ?_
          refine r_iincE dX11_listen_60 rfl (by decide) (by first | exact od_w0 (by omega) (by omega) | exact od_wI (by omega) (by omega) | rfl) rfl ?_
          refine r_goto (tgt := 23) dX11_listen_63 rfl ?_
          first
          | (rw [if_pos (by omega)] at hs
             exact ih _ _ _ _ ⟨by omega, by omega, by omega, hs⟩ (by omega))
          | (rw [if_neg (by omega)] at hs
             exact ih _ _ _ _ ⟨by omega, by omega, by omega, hs⟩ (by omega))
set_option maxRecDepth 10000 in
theorem c_X11_listen {E : od_E} {g : od_G} {M : Int} (hm : MoAt E M) (hI : MI g M) (h46 : 0 ≤ g (M + 2) 46 ∧ g (M + 2) 46 ≤ 6) (w : Int) : od_Ct 6 mX11_listen [(2, M), (0, w)] E g (some (0, od_ite (mLies w 0 1) (mLis g M w) (-1)), E, g) := by
  refine od_ctI pnX11 rfl (Nat.le_of_ble_eq_true rfl) od_le.rf ?_
  show od_R _ _ _ _ _ 0 [some (2, M), some (0, w), none, none, none, none, none] [] E g
  refine r_iload_n dX11_listen_0 rfl ?_
  refine r_callS1b dX11_listen_1 csX11_392 (c_X11_isBit _) (by decide) (Nat.le_of_ble_eq_true rfl) od_le.rf (fun q1 => ?_) (fun q1 => ?_)
  · refine r_if_ne (tgt := 9) dX11_listen_4 rfl (fun _ => ?_) (fun h => absurd h (by decide))
    refine r_aload_n dX11_listen_9 rfl ?_
    refine r_callV0i dX11_listen_10 cvX11_416 (mo_o hm) (c_X11_canBe hm hI h46) (by decide) (Nat.le_of_ble_eq_true rfl) od_le.rf ?_
    refine r_istore_n dX11_listen_13 (by decide) rfl ?_
    refine r_iconst dX11_listen_14 li_m1 ?_
    refine r_istore_n dX11_listen_15 (by decide) rfl ?_
    refine r_ldc dX11_listen_16 kcX11_169 lk_X11_169 ?_
    refine r_istore dX11_listen_18 (by decide) rfl ?_
    refine r_iconst dX11_listen_20 li_0 ?_
    refine r_istore dX11_listen_21 (by decide) rfl ?_
    rw [od_ite_t (by assumption)]
    exact lp_X11_listen hm hI w _ _ _ _ _ ⟨by omega, by omega, fun _ => rfl, rfl⟩ (Nat.lt_succ_self _)
  · refine r_if_ne (tgt := 9) dX11_listen_4 rfl (fun h => absurd h (by decide)) (fun _ => ?_)
    refine r_iconst dX11_listen_7 li_m1 ?_
    exact r_iret dX11_listen_8 rfl (by rw [od_ite_f (by assumption)])
