/-! the reference: loudest, most, least -/
theorem od_ld_s (F : Int → Int) (f0 : Int) {h b a c : Int} (h0 : 0 ≤ h) (he : od_ld F f0 h.toNat = (b, a, c)) : od_ld F f0 (h + 1).toNat = if b < F h then (F h, h, 1) else if F h = b then (b, a, c + 1) else (b, a, c) := by
  rw [show (h + 1).toNat = h.toNat + 1 by omega]
  simp only [od_ld, he]
  rw [show ((h.toNat : Nat) : Int) = h by omega]
noncomputable def mLdst (g : od_G) (M : Int) (pl : Int → Int) (C w : Int) : Int := cLdA (od_ld (mNz g M pl C) (-1) (mRd g M).toNat) w
def od_mx (T : Int → Int) : Nat → Int × Int
  | 0 => (-1, 0)
  | n + 1 => if (od_mx T n).1 < T n then (T n, (n : Int)) else od_mx T n
def od_mn (z : Int) (T : Int → Int) : Nat → Int × Int
  | 0 => (z, 0)
  | n + 1 => if T n < (od_mn z T n).1 then (T n, (n : Int)) else od_mn z T n
theorem od_mx_s (T : Int → Int) {h b a : Int} (h0 : 0 ≤ h) (he : od_mx T h.toNat = (b, a)) : od_mx T (h + 1).toNat = if b < T h then (T h, h) else (b, a) := by
  rw [show (h + 1).toNat = h.toNat + 1 by omega]
  simp only [od_mx, he]
  rw [show ((h.toNat : Nat) : Int) = h by omega]
theorem od_mn_s (z : Int) (T : Int → Int) {h b a : Int} (h0 : 0 ≤ h) (he : od_mn z T h.toNat = (b, a)) : od_mn z T (h + 1).toNat = if T h < b then (T h, h) else (b, a) := by
  rw [show (h + 1).toNat = h.toNat + 1 by omega]
  simp only [od_mn, he]
  rw [show ((h.toNat : Nat) : Int) = h by omega]
def od_sel (x : Int × Int) (w : Int) : Int := if w = 0 then x.2 else x.1
noncomputable def mMost (g : od_G) (M d w : Int) : Int := od_sel (od_mx (mTog g M d) (g (M + 2) (19 + d)).toNat) w
noncomputable def mLeast (g : od_G) (M d w : Int) : Int := od_sel (od_mn 1000000 (mTog g M d) (g (M + 2) (19 + d)).toNat) w
set_option maxRecDepth 10000 in
theorem lp_X11_ldst {E : od_E} {g gw : od_G} {M : Int} (hm : MoAt E M) {pl : Int → Int} {C : Int} (hI : MI g M) (hJ : MJ g M) (hF : LwF (g (M + 2)) pl C) (hfr : od_fr (NQ M) g gw) (hN : NzQ g gw M pl C) (w : Int) : ∀ (m : Nat) (b a c h : Int), (0 ≤ h ∧ h ≤ mRd g M ∧ (0 ≤ c ∧ c ≤ h) ∧ od_ld (mNz g M pl C) (-1) h.toNat = (b, a, c)) → ((mRd g M - h).toNat) < m → od_Rf 47 mX11_loudest od_Z0 E (some (0, mLdst g M pl C w)) (NQ M) g 25 [some (2, M), some (0, w), some (0, b), some (0, a), some (0, c), some (0, h)] [] E gw := by
  intro m
  induction m with
  | zero => intro b a c h hi hM; exact absurd hM (Nat.not_lt_zero _)
  | succ m ih =>
    intro b a c h hi hM
    obtain ⟨hi0, hi1, hcb, he⟩ := hi
    have hR := mRd_b hI
    have e37 := hN.1.1
    have hs := od_ld_s _ _ hi0 he
    refine r_iload dX11_loudest_25 rfl ?_
    refine r_aload_n dX11_loudest_27 rfl ?_
    refine r_getIj (j := 37) rfl dX11_loudest_28 fkX11_380 gf11_37 (mo_o hm) (by first | exact e37 | exact hN.2 _ hi0 (by omega) | rfl) ?_
    refine r_icmp_ge (tgt := 86) dX11_loudest_31 rfl (fun c31 => ?_) (fun c31 => ?_)
    · refine r_iload_n dX11_loudest_86 rfl ?_
      refine r_if_ne (tgt := 94) dX11_loudest_87 rfl (fun c87 => ?_) (fun c87 => ?_)
      · refine r_iload_n dX11_loudest_94 rfl ?_
        refine r_iconst dX11_loudest_95 li_1 ?_
        refine r_icmp_ne (tgt := 103) dX11_loudest_96 rfl (fun c96 => ?_) (fun c96 => ?_)
        · refine r_iload dX11_loudest_103 rfl ?_
          exact r_iretq dX11_loudest_105 rfl rfl ⟨by unfold mLdst cLdA; rw [show mRd g M = h by omega, he]; first | rw [if_pos (by assumption)] | rw [if_neg (by assumption), if_pos (by assumption)] | rw [if_neg (by assumption), if_neg (by assumption)], hfr⟩
        · refine r_iload_n dX11_loudest_99 rfl ?_
          refine r_goto (tgt := 105) dX11_loudest_100 rfl ?_
          exact r_iretq dX11_loudest_105 rfl rfl ⟨by unfold mLdst cLdA; rw [show mRd g M = h by omega, he]; first | rw [if_pos (by assumption)] | rw [if_neg (by assumption), if_pos (by assumption)] | rw [if_neg (by assumption), if_neg (by assumption)], hfr⟩
      · refine r_iload_n dX11_loudest_90 rfl ?_
        refine r_goto (tgt := 105) dX11_loudest_91 rfl ?_
        exact r_iretq dX11_loudest_105 rfl rfl ⟨by unfold mLdst cLdA; rw [show mRd g M = h by omega, he]; first | rw [if_pos (by assumption)] | rw [if_neg (by assumption), if_pos (by assumption)] | rw [if_neg (by assumption), if_neg (by assumption)], hfr⟩
    · refine r_aload_n dX11_loudest_34 rfl ?_
      refine r_getR dX11_loudest_35 fkX11_78 gf11_35 (mo_o hm) (mo_r35 hm) ?_
      refine r_iload dX11_loudest_38 rfl ?_
      refine r_iald dX11_loudest_40 (mo_k35 hm) (by omega) (by first | exact e37 | exact hN.2 _ hi0 (by omega) | rfl) ?_
      refine r_iload_n dX11_loudest_41 rfl ?_
      refine r_icmp_le (tgt := 59) dX11_loudest_42 rfl (fun c42 => ?_) (fun c42 => ?_)
      · refine r_iload dX11_loudest_59 rfl ?_
        refine r_aload_n dX11_loudest_61 rfl ?_
        refine r_getR dX11_loudest_62 fkX11_78 gf11_35 (mo_o hm) (mo_r35 hm) ?_
        refine r_iload dX11_loudest_65 rfl ?_
        refine r_iald dX11_loudest_67 (mo_k35 hm) (by omega) (by first | exact e37 | exact hN.2 _ hi0 (by omega) | rfl) ?_
        refine r_iload_n dX11_loudest_68 rfl ?_
        refine r_icmp_ne (tgt := 76) dX11_loudest_69 rfl (fun c69 => ?_) (fun c69 => ?_)
        · refine r_iconst dX11_loudest_76 li_0 ?_
          refine r_iaddE dX11_loudest_77 (by first | exact od_w0 (by omega) (by omega) | exact od_wI (by omega) (by omega) | rfl) ?_
          refine r_istore dX11_loudest_78 (by decide) rfl ?_
          refine r_iincE dX11_loudest_80 rfl (by decide) (by first | exact od_w0 (by omega) (by omega) | exact od_wI (by omega) (by omega) | rfl) rfl ?_
          refine r_goto (tgt := 25) dX11_loudest_83 rfl ?_
          first
          | (exfalso; omega)
          | (rw [if_pos (by omega)] at hs
             exact ih _ _ _ _ ⟨by omega, by omega, by omega, hs⟩ (by omega))
          | (rw [if_neg (by omega), if_pos (by omega)] at hs
             exact ih _ _ _ _ ⟨by omega, by omega, by omega, hs⟩ (by omega))
          | (rw [if_neg (by omega), if_neg (by omega)] at hs
             exact ih _ _ _ _ ⟨by omega, by omega, by omega, by rw [hs, Int.add_zero]⟩ (by omega))
        · refine r_iconst dX11_loudest_72 li_1 ?_
          refine r_goto (tgt := 77) dX11_loudest_73 rfl ?_
          refine r_iaddE dX11_loudest_77 (by first | exact od_w0 (by omega) (by omega) | exact od_wI (by omega) (by omega) | rfl) ?_
          refine r_istore dX11_loudest_78 (by decide) rfl ?_
          refine r_iincE dX11_loudest_80 rfl (by decide) (by first | exact od_w0 (by omega) (by omega) | exact od_wI (by omega) (by omega) | rfl) rfl ?_
          refine r_goto (tgt := 25) dX11_loudest_83 rfl ?_
          first
          | (exfalso; omega)
          | (rw [if_pos (by omega)] at hs
             exact ih _ _ _ _ ⟨by omega, by omega, by omega, hs⟩ (by omega))
          | (rw [if_neg (by omega), if_pos (by omega)] at hs
             exact ih _ _ _ _ ⟨by omega, by omega, by omega, hs⟩ (by omega))
          | (rw [if_neg (by omega), if_neg (by omega)] at hs
             exact ih _ _ _ _ ⟨by omega, by omega, by omega, by rw [hs, Int.add_zero]⟩ (by omega))
      · refine r_aload_n dX11_loudest_45 rfl ?_
        refine r_getR dX11_loudest_46 fkX11_78 gf11_35 (mo_o hm) (mo_r35 hm) ?_
        refine r_iload dX11_loudest_49 rfl ?_
        refine r_iald dX11_loudest_51 (mo_k35 hm) (by omega) (by first | exact e37 | exact hN.2 _ hi0 (by omega) | rfl) ?_
        refine r_istore_n dX11_loudest_52 (by decide) rfl ?_
        refine r_iload dX11_loudest_53 rfl ?_
        refine r_istore_n dX11_loudest_55 (by decide) rfl ?_
        refine r_iconst dX11_loudest_56 li_0 ?_
        refine r_istore dX11_loudest_57 (by decide) rfl ?_
        refine r_iload dX11_loudest_59 rfl ?_
        refine r_aload_n dX11_loudest_61 rfl ?_
        refine r_getR dX11_loudest_62 fkX11_78 gf11_35 (mo_o hm) (mo_r35 hm) ?_
        refine r_iload dX11_loudest_65 rfl ?_
        refine r_iald dX11_loudest_67 (mo_k35 hm) (by omega) (by first | exact e37 | exact hN.2 _ hi0 (by omega) | rfl) ?_
        refine r_iload_n dX11_loudest_68 rfl ?_
        refine r_icmp_ne (tgt := 76) dX11_loudest_69 rfl (fun c69 => ?_) (fun c69 => ?_)
        · refine r_iconst dX11_loudest_76 li_0 ?_
          refine r_iaddE dX11_loudest_77 (by first | exact od_w0 (by omega) (by omega) | exact od_wI (by omega) (by omega) | rfl) ?_
          refine r_istore dX11_loudest_78 (by decide) rfl ?_
          refine r_iincE dX11_loudest_80 rfl (by decide) (by first | exact od_w0 (by omega) (by omega) | exact od_wI (by omega) (by omega) | rfl) rfl ?_
          refine r_goto (tgt := 25) dX11_loudest_83 rfl ?_
          first
          | (exfalso; omega)
          | (rw [if_pos (by omega)] at hs
             exact ih _ _ _ _ ⟨by omega, by omega, by omega, hs⟩ (by omega))
          | (rw [if_neg (by omega), if_pos (by omega)] at hs
             exact ih _ _ _ _ ⟨by omega, by omega, by omega, hs⟩ (by omega))
          | (rw [if_neg (by omega), if_neg (by omega)] at hs
             exact ih _ _ _ _ ⟨by omega, by omega, by omega, by rw [hs, Int.add_zero]⟩ (by omega))
        · refine r_iconst dX11_loudest_72 li_1 ?_
          refine r_goto (tgt := 77) dX11_loudest_73 rfl ?_
          refine r_iaddE dX11_loudest_77 (by first | exact od_w0 (by omega) (by omega) | exact od_wI (by omega) (by omega) | rfl) ?_
          refine r_istore dX11_loudest_78 (by decide) rfl ?_
          refine r_iincE dX11_loudest_80 rfl (by decide) (by first | exact od_w0 (by omega) (by omega) | exact od_wI (by omega) (by omega) | rfl) rfl ?_
          refine r_goto (tgt := 25) dX11_loudest_83 rfl ?_
          first
          | (exfalso; omega)
          | (rw [if_pos (by omega)] at hs
             exact ih _ _ _ _ ⟨by omega, by omega, by omega, hs⟩ (by omega))
          | (rw [if_neg (by omega), if_pos (by omega)] at hs
             exact ih _ _ _ _ ⟨by omega, by omega, by omega, hs⟩ (by omega))
          | (rw [if_neg (by omega), if_neg (by omega)] at hs
             exact ih _ _ _ _ ⟨by omega, by omega, by omega, by rw [hs, Int.add_zero]⟩ (by omega))
set_option maxRecDepth 10000 in
theorem c_X11_loudest {E : od_E} {g : od_G} {M : Int} (hm : MoAt E M) {pl : Int → Int} {C : Int} (hI : MI g M) (hJ : MJ g M) (hF : LwF (g (M + 2)) pl C) (w : Int) : od_Cf 47 mX11_loudest [(2, M), (0, w)] E g (some (0, od_ite (mLies w 0 2) (mLdst g M pl C w) (-1))) (NQ M) := by
  refine od_cqI pnX11 rfl (Nat.le_of_ble_eq_true rfl) od_le.rf ?_
  show od_Rf 47 mX11_loudest od_Z0 E (some (0, od_ite (mLies w 0 2) (mLdst g M pl C w) (-1))) (NQ M) g 0 [some (2, M), some (0, w), none, none, none, none] [] E g
  refine r_iload_n dX11_loudest_0 rfl ?_
  refine r_iconst dX11_loudest_1 li_0 ?_
  refine r_iconst dX11_loudest_2 li_2 ?_
  refine r_callS3b dX11_loudest_3 csX11_18 (c_X11_lies _ _ _) (by decide) (Nat.le_of_ble_eq_true rfl) od_le.rf (fun q3 => ?_) (fun q3 => ?_)
  · refine r_if_ne (tgt := 11) dX11_loudest_6 rfl (fun _ => ?_) (fun h => absurd h (by decide))
    refine r_aload_n dX11_loudest_11 rfl ?_
    refine r_callV0p dX11_loudest_12 cvX11_389 (mo_o hm) (c_X11_laysNoise hm hI hJ hF) (by decide) (Nat.le_of_ble_eq_true rfl) od_le.rf (fun r12 g12 h12 => ?_)
    obtain ⟨rfl, f12, k12⟩ := h12
    show od_Rq _ _ _ _ _ _ _ [] _ _
    refine r_iconst dX11_loudest_15 li_m1 ?_
    refine r_istore_n dX11_loudest_16 (by decide) rfl ?_
    refine r_iconst dX11_loudest_17 li_m1 ?_
    refine r_istore_n dX11_loudest_18 (by decide) rfl ?_
    refine r_iconst dX11_loudest_19 li_0 ?_
    refine r_istore dX11_loudest_20 (by decide) rfl ?_
    refine r_iconst dX11_loudest_22 li_0 ?_
    refine r_istore dX11_loudest_23 (by decide) rfl ?_
    have hR := mRd_b hI
    rw [od_ite_t (by assumption)]
    exact lp_X11_ldst hm hI hJ hF f12 k12 w _ _ _ _ _ ⟨by omega, by omega, by omega, rfl⟩ (Nat.lt_succ_self _)
  · refine r_if_ne (tgt := 11) dX11_loudest_6 rfl (fun h => absurd h (by decide)) (fun _ => ?_)
    refine r_iconst dX11_loudest_9 li_m1 ?_
    exact r_iretq dX11_loudest_10 rfl rfl ⟨by rw [od_ite_f (by assumption)], od_fr.rf⟩
set_option maxRecDepth 10000 in
theorem lp_X11_most {E : od_E} {g gw : od_G} {M : Int} (hm : MoAt E M) (hI : MI g M) (hfr : od_fr (LR M) g gw) (hL : LrQ g gw M) (d w : Int) (hd : 0 ≤ d ∧ d < g (M + 2) 45) : ∀ (m : Nat) (b a i : Int) (x : Option od_V), (0 ≤ i ∧ i ≤ g (M + 2) (19 + d) ∧ od_mx (mTog g M d) i.toNat = (b, a)) → ((g (M + 2) (19 + d) - i).toNat) < m → od_Rf 5 mX11_most od_Z0 E (some (0, mMost g M d w)) (LR M) g 29 [some (2, M), some (0, d), some (0, w), some (0, b), some (0, a), some (0, i), x] [] E gw := by
  intro m
  induction m with
  | zero => intro b a i x hi hM; exact absurd hM (Nat.not_lt_zero _)
  | succ m ih =>
    intro b a i x hi hM
    obtain ⟨hi0, hi1, he⟩ := hi
    have e2 := LR_row hfr
    have i45 := hI.1
    have l := hI.2 d hd.1 hd.2
    have e19 : gw (M + 2) (19 + d) = g (M + 2) (19 + d) := by rw [e2]
    have hs := od_mx_s (mTog g M d) hi0 he
    refine r_iload dX11_most_29 rfl ?_
    refine r_aload_n dX11_most_31 rfl ?_
    refine r_getR dX11_most_32 fkX11_28 gf11_2 (mo_o hm) (mo_r2 hm) ?_
    refine r_bipush dX11_most_35 lb_19 ?_
    refine r_iload_n dX11_most_37 rfl ?_
    refine r_iaddE dX11_most_38 (by first | exact od_w0 (by omega) (by omega) | exact od_wI (by omega) (by omega) | rfl) ?_
    refine r_iald dX11_most_39 (mo_k2 hm) (by omega) (by first | exact e19 | rfl) ?_
    refine r_icmp_ge (tgt := 74) dX11_most_40 rfl (fun c40 => ?_) (fun c40 => ?_)
    · refine r_iload_n dX11_most_74 rfl ?_
      refine r_if_ne (tgt := 83) dX11_most_75 rfl (fun c75 => ?_) (fun c75 => ?_)
      · refine r_iload_n dX11_most_83 rfl ?_
        exact r_iretq dX11_most_84 rfl rfl ⟨by unfold mMost od_sel; rw [show g (M + 2) (19 + d) = i by omega, he]; first | rw [if_pos (by assumption)] | rw [if_neg (by assumption)], hfr⟩
      · refine r_iload dX11_most_78 rfl ?_
        refine r_goto (tgt := 84) dX11_most_80 rfl ?_
        exact r_iretq dX11_most_84 rfl rfl ⟨by unfold mMost od_sel; rw [show g (M + 2) (19 + d) = i by omega, he]; first | rw [if_pos (by assumption)] | rw [if_neg (by assumption)], hfr⟩
    · refine r_aload_n dX11_most_43 rfl ?_
      refine r_iload_n dX11_most_44 rfl ?_
      refine r_iload dX11_most_45 rfl ?_
      refine r_callV2i dX11_most_47 cvX11_398 (mo_o hm) (c_X11_together hm hI hfr hL _ _ hd (by omega)) (by decide) (Nat.le_of_ble_eq_true rfl) od_le.rf ?_
      refine r_istore dX11_most_50 (by decide) rfl ?_
      refine r_iload dX11_most_52 rfl ?_
      refine r_iload_n dX11_most_54 rfl ?_
      refine r_icmp_gt (tgt := 61) dX11_most_55 rfl (fun c55 => ?_) (fun c55 => ?_)
      · refine r_iload dX11_most_61 rfl ?_
        refine r_istore_n dX11_most_63 (by decide) rfl ?_
        refine r_iload dX11_most_64 rfl ?_
        refine r_istore dX11_most_66 (by decide) rfl ?_
        refine r_iincE dX11_most_68 rfl (by decide) (by first | exact od_w0 (by omega) (by omega) | exact od_wI (by omega) (by omega) | rfl) rfl ?_
        refine r_goto (tgt := 29) dX11_most_71 rfl ?_
        first
        | (rw [if_pos (by omega)] at hs
           exact ih _ _ _ _ ⟨by omega, by omega, hs⟩ (by omega))
        | (rw [if_neg (by omega)] at hs
           exact ih _ _ _ _ ⟨by omega, by omega, hs⟩ (by omega))
      · refine r_goto (tgt := 68) dX11_most_58 rfl ?_
        refine r_iincE dX11_most_68 rfl (by decide) (by first | exact od_w0 (by omega) (by omega) | exact od_wI (by omega) (by omega) | rfl) rfl ?_
        refine r_goto (tgt := 29) dX11_most_71 rfl ?_
        first
        | (rw [if_pos (by omega)] at hs
           exact ih _ _ _ _ ⟨by omega, by omega, hs⟩ (by omega))
        | (rw [if_neg (by omega)] at hs
           exact ih _ _ _ _ ⟨by omega, by omega, hs⟩ (by omega))
set_option maxRecDepth 10000 in
theorem c_X11_most {E : od_E} {g : od_G} {M : Int} (hm : MoAt E M) (hI : MI g M) (d w : Int) : od_Cf 5 mX11_most [(2, M), (0, d), (0, w)] E g (some (0, od_ite (mDr g M d ∧ mLies w 0 1) (mMost g M d w) (-1))) (LR M) := by
  refine od_cqI pnX11 rfl (Nat.le_of_ble_eq_true rfl) od_le.rf ?_
  show od_Rf 5 mX11_most od_Z0 E (some (0, od_ite (mDr g M d ∧ mLies w 0 1) (mMost g M d w) (-1))) (LR M) g 0 [some (2, M), some (0, d), some (0, w), none, none, none, none] [] E g
  refine r_aload_n dX11_most_0 rfl ?_
  refine r_iload_n dX11_most_1 rfl ?_
  refine r_callV1b dX11_most_2 cvX11_128 (mo_o hm) (c_X11_isDrum hm hI.1 _) (by decide) (Nat.le_of_ble_eq_true rfl) od_le.rf (fun q2 => ?_) (fun q2 => ?_)
  · refine r_if_eq (tgt := 15) dX11_most_5 rfl (fun h => absurd h (by decide)) (fun _ => ?_)
    refine r_iload_n dX11_most_8 rfl ?_
    refine r_callS1b dX11_most_9 csX11_392 (c_X11_isBit _) (by decide) (Nat.le_of_ble_eq_true rfl) od_le.rf (fun q9 => ?_) (fun q9 => ?_)
    · refine r_if_ne (tgt := 17) dX11_most_12 rfl (fun _ => ?_) (fun h => absurd h (by decide))
      refine r_aload_n dX11_most_17 rfl ?_
      refine r_callV0p dX11_most_18 cvX11_383 (mo_o hm) (c_X11_laysRound hm hI) (by decide) (Nat.le_of_ble_eq_true rfl) od_le.rf (fun r18 g18 h18 => ?_)
      obtain ⟨rfl, f18, k18⟩ := h18
      show od_Rq _ _ _ _ _ _ _ [] _ _
      refine r_iconst dX11_most_21 li_m1 ?_
      refine r_istore_n dX11_most_22 (by decide) rfl ?_
      refine r_iconst dX11_most_23 li_0 ?_
      refine r_istore dX11_most_24 (by decide) rfl ?_
      refine r_iconst dX11_most_26 li_0 ?_
      refine r_istore dX11_most_27 (by decide) rfl ?_
      have hd : 0 ≤ d ∧ d < g (M + 2) 45 := by have u := q2; unfold mDr mLies at u; omega
      have l := hI.2 d hd.1 hd.2
      rw [od_ite_t ⟨by assumption, by assumption⟩]
      exact lp_X11_most hm hI f18 k18 d w hd _ _ _ _ _ ⟨by omega, by omega, rfl⟩ (Nat.lt_succ_self _)
    · refine r_if_ne (tgt := 17) dX11_most_12 rfl (fun h => absurd h (by decide)) (fun _ => ?_)
      refine r_iconst dX11_most_15 li_m1 ?_
      first
      | exact r_iretq dX11_most_16 rfl rfl ⟨by rw [od_ite_f (fun z => absurd z.2 (by assumption))], od_fr.rf⟩
      | exact r_iretq dX11_most_16 rfl rfl ⟨by rw [od_ite_f (fun z => absurd z.1 (by assumption))], od_fr.rf⟩
  · refine r_if_eq (tgt := 15) dX11_most_5 rfl (fun _ => ?_) (fun h => absurd h (by decide))
    refine r_iconst dX11_most_15 li_m1 ?_
    first
    | exact r_iretq dX11_most_16 rfl rfl ⟨by rw [od_ite_f (fun z => absurd z.2 (by assumption))], od_fr.rf⟩
    | exact r_iretq dX11_most_16 rfl rfl ⟨by rw [od_ite_f (fun z => absurd z.1 (by assumption))], od_fr.rf⟩
set_option maxRecDepth 10000 in
theorem lp_X11_least {E : od_E} {g gw : od_G} {M : Int} (hm : MoAt E M) (hI : MI g M) (hfr : od_fr (LR M) g gw) (hL : LrQ g gw M) (d w : Int) (hd : 0 ≤ d ∧ d < g (M + 2) 45) : ∀ (m : Nat) (b a i : Int) (x : Option od_V), (0 ≤ i ∧ i ≤ g (M + 2) (19 + d) ∧ od_mn 1000000 (mTog g M d) i.toNat = (b, a)) → ((g (M + 2) (19 + d) - i).toNat) < m → od_Rf 5 mX11_least od_Z0 E (some (0, mLeast g M d w)) (LR M) g 30 [some (2, M), some (0, d), some (0, w), some (0, b), some (0, a), some (0, i), x] [] E gw := by
  intro m
  induction m with
  | zero => intro b a i x hi hM; exact absurd hM (Nat.not_lt_zero _)
  | succ m ih =>
    intro b a i x hi hM
    obtain ⟨hi0, hi1, he⟩ := hi
    have e2 := LR_row hfr
    have i45 := hI.1
    have l := hI.2 d hd.1 hd.2
    have e19 : gw (M + 2) (19 + d) = g (M + 2) (19 + d) := by rw [e2]
    have hs := od_mn_s 1000000 (mTog g M d) hi0 he
    refine r_iload dX11_least_30 rfl ?_
    refine r_aload_n dX11_least_32 rfl ?_
    refine r_getR dX11_least_33 fkX11_28 gf11_2 (mo_o hm) (mo_r2 hm) ?_
    refine r_bipush dX11_least_36 lb_19 ?_
    refine r_iload_n dX11_least_38 rfl ?_
    refine r_iaddE dX11_least_39 (by first | exact od_w0 (by omega) (by omega) | exact od_wI (by omega) (by omega) | rfl) ?_
    refine r_iald dX11_least_40 (mo_k2 hm) (by omega) (by first | exact e19 | rfl) ?_
    refine r_icmp_ge (tgt := 75) dX11_least_41 rfl (fun c41 => ?_) (fun c41 => ?_)
    · refine r_iload_n dX11_least_75 rfl ?_
      refine r_if_ne (tgt := 84) dX11_least_76 rfl (fun c76 => ?_) (fun c76 => ?_)
      · refine r_iload_n dX11_least_84 rfl ?_
        exact r_iretq dX11_least_85 rfl rfl ⟨by unfold mLeast od_sel; rw [show g (M + 2) (19 + d) = i by omega, he]; first | rw [if_pos (by assumption)] | rw [if_neg (by assumption)], hfr⟩
      · refine r_iload dX11_least_79 rfl ?_
        refine r_goto (tgt := 85) dX11_least_81 rfl ?_
        exact r_iretq dX11_least_85 rfl rfl ⟨by unfold mLeast od_sel; rw [show g (M + 2) (19 + d) = i by omega, he]; first | rw [if_pos (by assumption)] | rw [if_neg (by assumption)], hfr⟩
    · refine r_aload_n dX11_least_44 rfl ?_
      refine r_iload_n dX11_least_45 rfl ?_
      refine r_iload dX11_least_46 rfl ?_
      refine r_callV2i dX11_least_48 cvX11_398 (mo_o hm) (c_X11_together hm hI hfr hL _ _ hd (by omega)) (by decide) (Nat.le_of_ble_eq_true rfl) od_le.rf ?_
      refine r_istore dX11_least_51 (by decide) rfl ?_
      refine r_iload dX11_least_53 rfl ?_
      refine r_iload_n dX11_least_55 rfl ?_
      refine r_icmp_lt (tgt := 62) dX11_least_56 rfl (fun c56 => ?_) (fun c56 => ?_)
      · refine r_iload dX11_least_62 rfl ?_
        refine r_istore_n dX11_least_64 (by decide) rfl ?_
        refine r_iload dX11_least_65 rfl ?_
        refine r_istore dX11_least_67 (by decide) rfl ?_
        refine r_iincE dX11_least_69 rfl (by decide) (by first | exact od_w0 (by omega) (by omega) | exact od_wI (by omega) (by omega) | rfl) rfl ?_
        refine r_goto (tgt := 30) dX11_least_72 rfl ?_
        first
        | (rw [if_pos (by omega)] at hs
           exact ih _ _ _ _ ⟨by omega, by omega, hs⟩ (by omega))
        | (rw [if_neg (by omega)] at hs
           exact ih _ _ _ _ ⟨by omega, by omega, hs⟩ (by omega))
      · refine r_goto (tgt := 69) dX11_least_59 rfl ?_
        refine r_iincE dX11_least_69 rfl (by decide) (by first | exact od_w0 (by omega) (by omega) | exact od_wI (by omega) (by omega) | rfl) rfl ?_
        refine r_goto (tgt := 30) dX11_least_72 rfl ?_
        first
        | (rw [if_pos (by omega)] at hs
           exact ih _ _ _ _ ⟨by omega, by omega, hs⟩ (by omega))
        | (rw [if_neg (by omega)] at hs
           exact ih _ _ _ _ ⟨by omega, by omega, hs⟩ (by omega))
set_option maxRecDepth 10000 in
theorem c_X11_least {E : od_E} {g : od_G} {M : Int} (hm : MoAt E M) (hI : MI g M) (d w : Int) : od_Cf 5 mX11_least [(2, M), (0, d), (0, w)] E g (some (0, od_ite (mDr g M d ∧ mLies w 0 1) (mLeast g M d w) (-1))) (LR M) := by
  refine od_cqI pnX11 rfl (Nat.le_of_ble_eq_true rfl) od_le.rf ?_
  show od_Rf 5 mX11_least od_Z0 E (some (0, od_ite (mDr g M d ∧ mLies w 0 1) (mLeast g M d w) (-1))) (LR M) g 0 [some (2, M), some (0, d), some (0, w), none, none, none, none] [] E g
  refine r_aload_n dX11_least_0 rfl ?_
  refine r_iload_n dX11_least_1 rfl ?_
  refine r_callV1b dX11_least_2 cvX11_128 (mo_o hm) (c_X11_isDrum hm hI.1 _) (by decide) (Nat.le_of_ble_eq_true rfl) od_le.rf (fun q2 => ?_) (fun q2 => ?_)
  · refine r_if_eq (tgt := 15) dX11_least_5 rfl (fun h => absurd h (by decide)) (fun _ => ?_)
    refine r_iload_n dX11_least_8 rfl ?_
    refine r_callS1b dX11_least_9 csX11_392 (c_X11_isBit _) (by decide) (Nat.le_of_ble_eq_true rfl) od_le.rf (fun q9 => ?_) (fun q9 => ?_)
    · refine r_if_ne (tgt := 17) dX11_least_12 rfl (fun _ => ?_) (fun h => absurd h (by decide))
      refine r_aload_n dX11_least_17 rfl ?_
      refine r_callV0p dX11_least_18 cvX11_383 (mo_o hm) (c_X11_laysRound hm hI) (by decide) (Nat.le_of_ble_eq_true rfl) od_le.rf (fun r18 g18 h18 => ?_)
      obtain ⟨rfl, f18, k18⟩ := h18
      show od_Rq _ _ _ _ _ _ _ [] _ _
      refine r_ldc dX11_least_21 kcX11_169 lk_X11_169 ?_
      refine r_istore_n dX11_least_23 (by decide) rfl ?_
      refine r_iconst dX11_least_24 li_0 ?_
      refine r_istore dX11_least_25 (by decide) rfl ?_
      refine r_iconst dX11_least_27 li_0 ?_
      refine r_istore dX11_least_28 (by decide) rfl ?_
      have hd : 0 ≤ d ∧ d < g (M + 2) 45 := by have u := q2; unfold mDr mLies at u; omega
      have l := hI.2 d hd.1 hd.2
      rw [od_ite_t ⟨by assumption, by assumption⟩]
      exact lp_X11_least hm hI f18 k18 d w hd _ _ _ _ _ ⟨by omega, by omega, rfl⟩ (Nat.lt_succ_self _)
    · refine r_if_ne (tgt := 17) dX11_least_12 rfl (fun h => absurd h (by decide)) (fun _ => ?_)
      refine r_iconst dX11_least_15 li_m1 ?_
      first
      | exact r_iretq dX11_least_16 rfl rfl ⟨by rw [od_ite_f (fun z => absurd z.2 (by assumption))], od_fr.rf⟩
      | exact r_iretq dX11_least_16 rfl rfl ⟨by rw [od_ite_f (fun z => absurd z.1 (by assumption))], od_fr.rf⟩
  · refine r_if_eq (tgt := 15) dX11_least_5 rfl (fun _ => ?_) (fun h => absurd h (by decide))
    refine r_iconst dX11_least_15 li_m1 ?_
    first
    | exact r_iretq dX11_least_16 rfl rfl ⟨by rw [od_ite_f (fun z => absurd z.2 (by assumption))], od_fr.rf⟩
    | exact r_iretq dX11_least_16 rfl rfl ⟨by rw [od_ite_f (fun z => absurd z.1 (by assumption))], od_fr.rf⟩
