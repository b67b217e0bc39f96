/-! the reference: small answers -/
noncomputable def mOf (g : od_G) (M d k : Int) : Int := if k = 0 then g (M + 2) (19 + d) else if k = 1 then g (M + 2) (25 + d) else if k = 2 then g (M + 2) (6 + d) else if k = 3 then g (M + 2) d else if k = 4 then g (M + 2) (12 + d) else if k = 5 then od_b (mStrikes g M d 0) else -1
noncomputable def mAsks (g : od_G) (M : Int) (pl : Int → Int) (C d bt k : Int) : Int := if k = 0 then mSnd (g (M + 2)) pl C d bt else if k = 1 then od_b (mNow (g (M + 2)) pl C 1 d bt) else if k = 2 then od_b (mNow (g (M + 2)) pl C 2 d bt) else -1
noncomputable def mStr (g : od_G) (M d : Int) : Int := od_b (mStrikes g M d 0)
theorem mStr_t {g : od_G} {M d : Int} (h : mStrikes g M d 0) : mStr g M d = 1 := od_b_t h
theorem mStr_f {g : od_G} {M d : Int} (h : ¬ mStrikes g M d 0) : mStr g M d = 0 := od_b_f h
theorem mStr_b (g : od_G) (M d : Int) : 0 ≤ mStr g M d ∧ mStr g M d ≤ 1 := by
  by_cases c : mStrikes g M d 0
  · rw [mStr_t c]; omega
  · rw [mStr_f c]; omega
noncomputable def mStrN (g : od_G) (M : Int) : Int := od_sum (mStr g M) (g (M + 2) 45).toNat
theorem mTermAt_b (w : Int) : 0 ≤ mTermAt w ∧ mTermAt w < 5656 := by
  unfold mTermAt
  split
  · omega
  · split <;> omega
noncomputable def mCount (g : od_G) (M k : Int) : Int := if k = 0 then g (M + 2) 45 else if k = 1 then mStrN g M else if k = 2 then mPins g M (g (M + 2) 45).toNat else if k = 3 then g (M + 2) 46 else if k = 4 then g (M + 2) 47 else if k = 5 then g M 33 else if k = 6 then g M 13 else if k = 7 then g (M + 1) 1 else if k = 8 then g (M + 1) 2 else if k = 9 then g (M + 1) 3 else if k = 10 then g (M + 1) 5 else if k = 11 then g (M + 1) 6 else if k = 12 then g (M + 2) 48 else if k = 13 then g (M + 2) (mTermAt 0) else if k = 14 then g (M + 2) (mTermAt 1) else if k = 15 then g (M + 2) (mTermAt 2) else -1
set_option maxRecDepth 10000 in
theorem c_X11_loud {E : od_E} {g : od_G} {M : Int} (hm : MoAt E M) {pl : Int → Int} {C : Int} (hI : MI g M) (hF : LwF (g (M + 2)) pl C) (h : Int) : od_Cf 47 mX11_loud [(2, M), (0, h)] E g (some (0, od_ite (mLies h 0 30000) (mLoud g M pl C h) (-1))) (XQ M) := by
  refine od_cqI pnX11 rfl (Nat.le_of_ble_eq_true rfl) od_le.rf ?_
  show od_Rf 47 mX11_loud od_Z0 E (some (0, od_ite (mLies h 0 30000) (mLoud g M pl C h) (-1))) (XQ M) g 0 [some (2, M), some (0, h)] [] E g
  refine r_iload_n dX11_loud_0 rfl ?_
  refine r_iconst dX11_loud_1 li_0 ?_
  refine r_sipush dX11_loud_2 ls_30000 ?_
  refine r_callS3b dX11_loud_5 csX11_18 (c_X11_lies _ _ _) (by decide) (Nat.le_of_ble_eq_true rfl) od_le.rf (fun q5 => ?_) (fun q5 => ?_)
  · refine r_if_eq (tgt := 19) dX11_loud_8 rfl (fun h => absurd h (by decide)) (fun _ => ?_)
    refine r_aload_n dX11_loud_11 rfl ?_
    refine r_iload_n dX11_loud_12 rfl ?_
    refine r_callV1f dX11_loud_13 cvX11_344 (mo_o hm) (c_X11_loudAt hm hI hF _) (by decide) (Nat.le_of_ble_eq_true rfl) od_le.rf (fun g13 f13 => ?_)
    refine r_goto (tgt := 20) dX11_loud_16 rfl ?_
    first
    | exact r_iretq dX11_loud_20 rfl rfl ⟨by rw [od_ite_t (by assumption)], f13⟩
    | exact r_iretq dX11_loud_20 rfl rfl ⟨by rw [od_ite_f (by assumption)], od_fr.rf⟩
  · refine r_if_eq (tgt := 19) dX11_loud_8 rfl (fun _ => ?_) (fun h => absurd h (by decide))
    refine r_iconst dX11_loud_19 li_m1 ?_
    first
    | exact r_iretq dX11_loud_20 rfl rfl ⟨by rw [od_ite_t (by assumption)], f13⟩
    | exact r_iretq dX11_loud_20 rfl rfl ⟨by rw [od_ite_f (by assumption)], od_fr.rf⟩
set_option maxRecDepth 10000 in
theorem c_X11_of {E : od_E} {g : od_G} {M : Int} (hm : MoAt E M) (hI : MI g M) (d k : Int) : od_Ct 4 mX11_of [(2, M), (0, d), (0, k)] E g (some (0, od_ite (mDr g M d) (mOf g M d k) (-1)), E, g) := by
  refine od_ctI pnX11 rfl (Nat.le_of_ble_eq_true rfl) od_le.rf ?_
  show od_R _ _ _ _ _ 0 [some (2, M), some (0, d), some (0, k)] [] E g
  refine r_aload_n dX11_of_0 rfl ?_
  refine r_iload_n dX11_of_1 rfl ?_
  refine r_callV1b dX11_of_2 cvX11_128 (mo_o hm) (c_X11_isDrum hm hI.1 _) (by decide) (Nat.le_of_ble_eq_true rfl) od_le.rf (fun q2 => ?_) (fun q2 => ?_)
  · refine r_if_ne (tgt := 10) dX11_of_5 rfl (fun _ => ?_) (fun h => absurd h (by decide))
    have u2 := q2
    unfold mDr mLies at u2
    have i45 := hI.1
    have l := hI.2 d (by omega) (by omega)
    refine r_iload_n dX11_of_10 rfl ?_
    refine r_sw6 (t0 := 48) (t1 := 58) (t2 := 68) (t3 := 78) (t4 := 87) (t5 := 97) (td := 112) dX11_of_11 (by decide) rfl rfl rfl rfl rfl rfl rfl (fun c11 => ?_) (fun c11 => ?_) (fun c11 => ?_) (fun c11 => ?_) (fun c11 => ?_) (fun c11 => ?_) (fun c11 => ?_)
    · refine r_aload_n dX11_of_48 rfl ?_
      refine r_getR dX11_of_49 fkX11_28 gf11_2 (mo_o hm) (mo_r2 hm) ?_
      refine r_bipush dX11_of_52 lb_19 ?_
      refine r_iload_n dX11_of_54 rfl ?_
      refine r_iaddE dX11_of_55 (by first | exact od_w0 (by omega) (by omega) | exact od_wI (by omega) (by omega) | rfl) ?_
      refine r_iald dX11_of_56 (mo_k2 hm) (by omega) rfl ?_
      exact r_iret dX11_of_57 rfl (by rw [od_ite_t (by assumption)]; unfold mOf; rw [if_pos (by omega)])
    · refine r_aload_n dX11_of_58 rfl ?_
      refine r_getR dX11_of_59 fkX11_28 gf11_2 (mo_o hm) (mo_r2 hm) ?_
      refine r_bipush dX11_of_62 lb_25 ?_
      refine r_iload_n dX11_of_64 rfl ?_
      refine r_iaddE dX11_of_65 (by first | exact od_w0 (by omega) (by omega) | exact od_wI (by omega) (by omega) | rfl) ?_
      refine r_iald dX11_of_66 (mo_k2 hm) (by omega) rfl ?_
      exact r_iret dX11_of_67 rfl (by rw [od_ite_t (by assumption)]; unfold mOf; rw [if_neg (by omega), if_pos (by omega)])
    · refine r_aload_n dX11_of_68 rfl ?_
      refine r_getR dX11_of_69 fkX11_28 gf11_2 (mo_o hm) (mo_r2 hm) ?_
      refine r_bipush dX11_of_72 lb_6 ?_
      refine r_iload_n dX11_of_74 rfl ?_
      refine r_iaddE dX11_of_75 (by first | exact od_w0 (by omega) (by omega) | exact od_wI (by omega) (by omega) | rfl) ?_
      refine r_iald dX11_of_76 (mo_k2 hm) (by omega) rfl ?_
      exact r_iret dX11_of_77 rfl (by rw [od_ite_t (by assumption)]; unfold mOf; rw [if_neg (by omega), if_neg (by omega), if_pos (by omega)])
    · refine r_aload_n dX11_of_78 rfl ?_
      refine r_getR dX11_of_79 fkX11_28 gf11_2 (mo_o hm) (mo_r2 hm) ?_
      refine r_iconst dX11_of_82 li_0 ?_
      refine r_iload_n dX11_of_83 rfl ?_
      refine r_iaddE dX11_of_84 (by first | exact od_w0 (by omega) (by omega) | exact od_wI (by omega) (by omega) | rfl) ?_
      refine r_iald dX11_of_85 (mo_k2 hm) (by omega) rfl ?_
      exact r_iret dX11_of_86 rfl (by rw [od_ite_t (by assumption)]; unfold mOf; rw [if_neg (by omega), if_neg (by omega), if_neg (by omega), if_pos (by omega)])
    · refine r_aload_n dX11_of_87 rfl ?_
      refine r_getR dX11_of_88 fkX11_28 gf11_2 (mo_o hm) (mo_r2 hm) ?_
      refine r_bipush dX11_of_91 lb_12 ?_
      refine r_iload_n dX11_of_93 rfl ?_
      refine r_iaddE dX11_of_94 (by first | exact od_w0 (by omega) (by omega) | exact od_wI (by omega) (by omega) | rfl) ?_
      refine r_iald dX11_of_95 (mo_k2 hm) (by omega) rfl ?_
      exact r_iret dX11_of_96 rfl (by rw [od_ite_t (by assumption)]; unfold mOf; rw [if_neg (by omega), if_neg (by omega), if_neg (by omega), if_neg (by omega), if_pos (by omega)])
    · refine r_aload_n dX11_of_97 rfl ?_
      refine r_iload_n dX11_of_98 rfl ?_
      refine r_iconst dX11_of_99 li_0 ?_
      refine r_callV2b dX11_of_100 cvX11_132 (mo_o hm) (c_X11_strikes hm _ (by omega) (by omega) _) (by decide) (Nat.le_of_ble_eq_true rfl) od_le.rf (fun q100 => ?_) (fun q100 => ?_)
      · refine r_if_eq (tgt := 110) dX11_of_103 rfl (fun h => absurd h (by decide)) (fun _ => ?_)
        refine r_iconst dX11_of_106 li_1 ?_
        refine r_goto (tgt := 111) dX11_of_107 rfl ?_
        exact r_iret dX11_of_111 rfl (by rw [od_ite_t (by assumption)]; unfold mOf; rw [if_neg (by omega), if_neg (by omega), if_neg (by omega), if_neg (by omega), if_neg (by omega), if_pos (by omega)]; first | rw [od_b_t (by assumption)] | rw [od_b_f (by assumption)])
      · refine r_if_eq (tgt := 110) dX11_of_103 rfl (fun _ => ?_) (fun h => absurd h (by decide))
        refine r_iconst dX11_of_110 li_0 ?_
        exact r_iret dX11_of_111 rfl (by rw [od_ite_t (by assumption)]; unfold mOf; rw [if_neg (by omega), if_neg (by omega), if_neg (by omega), if_neg (by omega), if_neg (by omega), if_pos (by omega)]; first | rw [od_b_t (by assumption)] | rw [od_b_f (by assumption)])
    · refine r_iconst dX11_of_112 li_m1 ?_
      exact r_iret dX11_of_113 rfl (by rw [od_ite_t (by assumption)]; unfold mOf; rw [if_neg (by omega), if_neg (by omega), if_neg (by omega), if_neg (by omega), if_neg (by omega), if_neg (by omega)])
  · refine r_if_ne (tgt := 10) dX11_of_5 rfl (fun h => absurd h (by decide)) (fun _ => ?_)
    refine r_iconst dX11_of_8 li_m1 ?_
    exact r_iret dX11_of_9 rfl (by rw [od_ite_f (by assumption)])
set_option maxRecDepth 10000 in
theorem c_X11_asks {E : od_E} {g : od_G} {M : Int} (hm : MoAt E M) {pl : Int → Int} {C : Int} (hI : MI g M) (hF : LwF (g (M + 2)) pl C) (d bt k : Int) : od_Cf 46 mX11_asks [(2, M), (0, d), (0, bt), (0, k)] E g (some (0, od_ite (mDr g M d ∧ mBeatL g M d bt) (mAsks g M pl C d bt k) (-1))) (XQ M) := by
  refine od_cqI pnX11 rfl (Nat.le_of_ble_eq_true rfl) od_le.rf ?_
  show od_Rf 46 mX11_asks od_Z0 E (some (0, od_ite (mDr g M d ∧ mBeatL g M d bt) (mAsks g M pl C d bt k) (-1))) (XQ M) g 0 [some (2, M), some (0, d), some (0, bt), some (0, k)] [] E g
  refine r_aload_n dX11_asks_0 rfl ?_
  refine r_iload_n dX11_asks_1 rfl ?_
  refine r_callV1b dX11_asks_2 cvX11_128 (mo_o hm) (c_X11_isDrum hm hI.1 _) (by decide) (Nat.le_of_ble_eq_true rfl) od_le.rf (fun q2 => ?_) (fun q2 => ?_)
  · refine r_if_eq (tgt := 17) dX11_asks_5 rfl (fun h => absurd h (by decide)) (fun _ => ?_)
    have u2 := q2
    unfold mDr mLies at u2
    have i45 := hI.1
    have l := hI.2 d (by omega) (by omega)
    refine r_aload_n dX11_asks_8 rfl ?_
    refine r_iload_n dX11_asks_9 rfl ?_
    refine r_iload_n dX11_asks_10 rfl ?_
    refine r_callV2b dX11_asks_11 cvX11_135 (mo_o hm) (c_X11_isBeat hm _ (by omega) l _) (by decide) (Nat.le_of_ble_eq_true rfl) od_le.rf (fun q11 => ?_) (fun q11 => ?_)
    · refine r_if_ne (tgt := 19) dX11_asks_14 rfl (fun _ => ?_) (fun h => absurd h (by decide))
      refine r_iload_n dX11_asks_19 rfl ?_
      refine r_sw3 (t0 := 48) (t1 := 55) (t2 := 71) (td := 87) dX11_asks_20 (by decide) rfl rfl rfl rfl (fun c20 => ?_) (fun c20 => ?_) (fun c20 => ?_) (fun c20 => ?_)
      · refine r_aload_n dX11_asks_48 rfl ?_
        refine r_iload_n dX11_asks_49 rfl ?_
        refine r_iload_n dX11_asks_50 rfl ?_
        refine r_callV2f dX11_asks_51 cvX11_138 (mo_o hm) (c_X11_soundsAt hm hI hF _ (by omega) _) (by decide) (Nat.le_of_ble_eq_true rfl) od_le.rf (fun g51 f51 => ?_)
        exact r_iretq dX11_asks_54 rfl rfl ⟨by rw [od_ite_t ⟨by assumption, by assumption⟩]; unfold mAsks; rw [if_pos (by omega)], f51⟩
      · refine r_aload_n dX11_asks_55 rfl ?_
        refine r_iconst dX11_asks_56 li_2 ?_
        refine r_iload_n dX11_asks_57 rfl ?_
        refine r_iload_n dX11_asks_58 rfl ?_
        refine r_callV3g dX11_asks_59 cvX11_142 (mo_o hm) (c_X11_isNow hm hI hF _ _ (by omega) _) (by decide) (Nat.le_of_ble_eq_true rfl) od_le.rf (fun q59 g59 f59 => ?_) (fun q59 g59 f59 => ?_)
        · refine r_if_eq (tgt := 69) dX11_asks_62 rfl (fun h => absurd h (by decide)) (fun _ => ?_)
          refine r_iconst dX11_asks_65 li_1 ?_
          refine r_goto (tgt := 70) dX11_asks_66 rfl ?_
          exact r_iretq dX11_asks_70 rfl rfl ⟨by rw [od_ite_t ⟨by assumption, by assumption⟩]; unfold mAsks; rw [if_neg (by omega), if_pos (by omega)]; first | rw [od_b_t (by assumption)] | rw [od_b_f (by assumption)], f59⟩
        · refine r_if_eq (tgt := 69) dX11_asks_62 rfl (fun _ => ?_) (fun h => absurd h (by decide))
          refine r_iconst dX11_asks_69 li_0 ?_
          exact r_iretq dX11_asks_70 rfl rfl ⟨by rw [od_ite_t ⟨by assumption, by assumption⟩]; unfold mAsks; rw [if_neg (by omega), if_pos (by omega)]; first | rw [od_b_t (by assumption)] | rw [od_b_f (by assumption)], f59⟩
      · refine r_aload_n dX11_asks_71 rfl ?_
        refine r_iconst dX11_asks_72 li_3 ?_
        refine r_iload_n dX11_asks_73 rfl ?_
        refine r_iload_n dX11_asks_74 rfl ?_
        refine r_callV3g dX11_asks_75 cvX11_142 (mo_o hm) (c_X11_isNow hm hI hF _ _ (by omega) _) (by decide) (Nat.le_of_ble_eq_true rfl) od_le.rf (fun q75 g75 f75 => ?_) (fun q75 g75 f75 => ?_)
        · refine r_if_eq (tgt := 85) dX11_asks_78 rfl (fun h => absurd h (by decide)) (fun _ => ?_)
          refine r_iconst dX11_asks_81 li_1 ?_
          refine r_goto (tgt := 86) dX11_asks_82 rfl ?_
          exact r_iretq dX11_asks_86 rfl rfl ⟨by rw [od_ite_t ⟨by assumption, by assumption⟩]; unfold mAsks; rw [if_neg (by omega), if_neg (by omega), if_pos (by omega)]; first | rw [od_b_t (by assumption)] | rw [od_b_f (by assumption)], f75⟩
        · refine r_if_eq (tgt := 85) dX11_asks_78 rfl (fun _ => ?_) (fun h => absurd h (by decide))
          refine r_iconst dX11_asks_85 li_0 ?_
          exact r_iretq dX11_asks_86 rfl rfl ⟨by rw [od_ite_t ⟨by assumption, by assumption⟩]; unfold mAsks; rw [if_neg (by omega), if_neg (by omega), if_pos (by omega)]; first | rw [od_b_t (by assumption)] | rw [od_b_f (by assumption)], f75⟩
      · refine r_iconst dX11_asks_87 li_m1 ?_
        exact r_iretq dX11_asks_88 rfl rfl ⟨by rw [od_ite_t ⟨by assumption, by assumption⟩]; unfold mAsks; rw [if_neg (by omega), if_neg (by omega), if_neg (by omega)], od_fr.rf⟩
    · refine r_if_ne (tgt := 19) dX11_asks_14 rfl (fun h => absurd h (by decide)) (fun _ => ?_)
      refine r_iconst dX11_asks_17 li_m1 ?_
      first
      | exact r_iretq dX11_asks_18 rfl rfl ⟨by rw [od_ite_f (fun z => absurd z.2 (by assumption))], od_fr.rf⟩
      | exact r_iretq dX11_asks_18 rfl rfl ⟨by rw [od_ite_f (fun z => absurd z.1 (by assumption))], od_fr.rf⟩
  · refine r_if_eq (tgt := 17) dX11_asks_5 rfl (fun _ => ?_) (fun h => absurd h (by decide))
    refine r_iconst dX11_asks_17 li_m1 ?_
    first
    | exact r_iretq dX11_asks_18 rfl rfl ⟨by rw [od_ite_f (fun z => absurd z.2 (by assumption))], od_fr.rf⟩
    | exact r_iretq dX11_asks_18 rfl rfl ⟨by rw [od_ite_f (fun z => absurd z.1 (by assumption))], od_fr.rf⟩
set_option maxRecDepth 10000 in
theorem lp_X11_strn {E : od_E} {g : od_G} {M : Int} (hm : MoAt E M) (hI : MI g M) : ∀ (m : Nat) (s d : Int), (0 ≤ d ∧ d ≤ g (M + 2) 45 ∧ s = od_sum (mStr g M) d.toNat) → ((g (M + 2) 45 - d).toNat) < m → od_R 4 mX11_strikingNow od_Z0 E (some (0, mStrN g M), E, g) 4 [some (2, M), some (0, s), some (0, d)] [] E g := by
  intro m
  induction m with
  | zero => intro s d hi hM; exact absurd hM (Nat.not_lt_zero _)
  | succ m ih =>
    intro s d hi hM
    obtain ⟨hi0, hi1, hsm⟩ := hi
    have i45 := hI.1
    have hb := od_sum_b (f := mStr g M) (m := 1) d.toNat (fun i _ _ => mStr_b g M i)
    have hs1 := od_sum_s (mStr g M) hi0
    have hl : d < g (M + 2) 45 → 1 ≤ g (M + 2) (19 + d) := fun z => (hI.2 d hi0 z).1
    refine r_iload_n dX11_strikingNow_4 rfl ?_
    refine r_aload_n dX11_strikingNow_5 rfl ?_
    refine r_callV0i dX11_strikingNow_6 cvX11_112 (mo_o hm) (c_X11_drumMany hm) (by decide) (Nat.le_of_ble_eq_true rfl) od_le.rf ?_
    refine r_icmp_ge (tgt := 35) dX11_strikingNow_9 rfl (fun c9 => ?_) (fun c9 => ?_)
    · refine r_iload_n dX11_strikingNow_35 rfl ?_
      exact r_iret dX11_strikingNow_36 rfl (by unfold mStrN; rw [hsm, show d = g (M + 2) 45 by omega])
    · refine r_iload_n dX11_strikingNow_12 rfl ?_
      refine r_aload_n dX11_strikingNow_13 rfl ?_
      refine r_iload_n dX11_strikingNow_14 rfl ?_
      refine r_iconst dX11_strikingNow_15 li_0 ?_
      refine r_callV2b dX11_strikingNow_16 cvX11_132 (mo_o hm) (c_X11_strikes hm _ (by omega) (hl (by omega)) _) (by decide) (Nat.le_of_ble_eq_true rfl) od_le.rf (fun q16 => ?_) (fun q16 => ?_)
      · refine r_if_eq (tgt := 26) dX11_strikingNow_19 rfl (fun h => absurd h (by decide)) (fun _ => ?_)
        refine r_iconst dX11_strikingNow_22 li_1 ?_
        refine r_goto (tgt := 27) dX11_strikingNow_23 rfl ?_
        refine r_iaddE dX11_strikingNow_27 (by first | exact od_w0 (by omega) (by omega) | exact od_wI (by omega) (by omega) | rfl) ?_
        refine r_istore_n dX11_strikingNow_28 (by decide) rfl ?_
        refine r_iincE dX11_strikingNow_29 rfl (by decide) (by first | exact od_w0 (by omega) (by omega) | exact od_wI (by omega) (by omega) | rfl) rfl ?_
        refine r_goto (tgt := 4) dX11_strikingNow_32 rfl ?_
        first
        | (have e := mStr_t q16
           exact ih _ _ ⟨by omega, by omega, by rw [hs1]; omega⟩ (by omega))
        | (have e := mStr_f q16
           exact ih _ _ ⟨by omega, by omega, by rw [hs1]; omega⟩ (by omega))
      · refine r_if_eq (tgt := 26) dX11_strikingNow_19 rfl (fun _ => ?_) (fun h => absurd h (by decide))
        refine r_iconst dX11_strikingNow_26 li_0 ?_
        refine r_iaddE dX11_strikingNow_27 (by first | exact od_w0 (by omega) (by omega) | exact od_wI (by omega) (by omega) | rfl) ?_
        refine r_istore_n dX11_strikingNow_28 (by decide) rfl ?_
        refine r_iincE dX11_strikingNow_29 rfl (by decide) (by first | exact od_w0 (by omega) (by omega) | exact od_wI (by omega) (by omega) | rfl) rfl ?_
        refine r_goto (tgt := 4) dX11_strikingNow_32 rfl ?_
        first
        | (have e := mStr_t q16
           exact ih _ _ ⟨by omega, by omega, by rw [hs1]; omega⟩ (by omega))
        | (have e := mStr_f q16
           exact ih _ _ ⟨by omega, by omega, by rw [hs1]; omega⟩ (by omega))
set_option maxRecDepth 10000 in
theorem c_X11_strikingNow {E : od_E} {g : od_G} {M : Int} (hm : MoAt E M) (hI : MI g M) : od_Ct 4 mX11_strikingNow [(2, M)] E g (some (0, mStrN g M), E, g) := by
  refine od_ctI pnX11 rfl (Nat.le_of_ble_eq_true rfl) od_le.rf ?_
  show od_R _ _ _ _ _ 0 [some (2, M), none, none] [] E g
  refine r_iconst dX11_strikingNow_0 li_0 ?_
  refine r_istore_n dX11_strikingNow_1 (by decide) rfl ?_
  refine r_iconst dX11_strikingNow_2 li_0 ?_
  refine r_istore_n dX11_strikingNow_3 (by decide) rfl ?_
  exact lp_X11_strn hm hI _ _ _ ⟨by omega, hI.1.1, rfl⟩ (Nat.lt_succ_self _)
set_option maxRecDepth 10000 in
theorem c_X11_count {E : od_E} {g : od_G} {M : Int} (hm : MoAt E M) (hI : MI g M) (k : Int) : od_Ct 5 mX11_count [(2, M), (0, k)] E g (some (0, mCount g M k), E, g) := by
  refine od_ctI pnX11 rfl (Nat.le_of_ble_eq_true rfl) od_le.rf ?_
  show od_R _ _ _ _ _ 0 [some (2, M), some (0, k)] [] E g
  refine r_iload_n dX11_count_0 rfl ?_
  refine r_sw16 (t0 := 80) (t1 := 85) (t2 := 90) (t3 := 95) (t4 := 103) (t5 := 111) (t6 := 116) (t7 := 121) (t8 := 121) (t9 := 121) (t10 := 131) (t11 := 138) (t12 := 146) (t13 := 154) (t14 := 154) (t15 := 154) (td := 167) dX11_count_1 (by decide) rfl rfl rfl rfl rfl rfl rfl rfl rfl rfl rfl rfl rfl rfl rfl rfl rfl (fun c1 => ?_) (fun c1 => ?_) (fun c1 => ?_) (fun c1 => ?_) (fun c1 => ?_) (fun c1 => ?_) (fun c1 => ?_) (fun c1 => ?_) (fun c1 => ?_) (fun c1 => ?_) (fun c1 => ?_) (fun c1 => ?_) (fun c1 => ?_) (fun c1 => ?_) (fun c1 => ?_) (fun c1 => ?_) (fun c1 => ?_)
  · refine r_aload_n dX11_count_80 rfl ?_
    refine r_callV0i dX11_count_81 cvX11_112 (mo_o hm) (c_X11_drumMany hm) (by decide) (Nat.le_of_ble_eq_true rfl) od_le.rf ?_
    exact r_iret dX11_count_84 rfl (by unfold mCount; rw [if_pos (by omega)])
  · refine r_aload_n dX11_count_85 rfl ?_
    refine r_callV0i dX11_count_86 cvX11_477 (mo_o hm) (c_X11_strikingNow hm hI) (by decide) (Nat.le_of_ble_eq_true rfl) od_le.rf ?_
    exact r_iret dX11_count_89 rfl (by unfold mCount; rw [if_neg (by omega), if_pos (by omega)])
  · refine r_aload_n dX11_count_90 rfl ?_
    refine r_callV0i dX11_count_91 cvX11_311 (mo_o hm) (c_X11_pinMany hm hI.1) (by decide) (Nat.le_of_ble_eq_true rfl) od_le.rf ?_
    exact r_iret dX11_count_94 rfl (by unfold mCount; rw [if_neg (by omega), if_neg (by omega), if_pos (by omega)])
  · refine r_aload_n dX11_count_95 rfl ?_
    refine r_getR dX11_count_96 fkX11_28 gf11_2 (mo_o hm) (mo_r2 hm) ?_
    refine r_bipush dX11_count_99 lb_46 ?_
    refine r_iald dX11_count_101 (mo_k2 hm) (by omega) rfl ?_
    exact r_iret dX11_count_102 rfl (by unfold mCount; rw [if_neg (by omega), if_neg (by omega), if_neg (by omega), if_pos (by omega)])
  · refine r_aload_n dX11_count_103 rfl ?_
    refine r_getR dX11_count_104 fkX11_28 gf11_2 (mo_o hm) (mo_r2 hm) ?_
    refine r_bipush dX11_count_107 lb_47 ?_
    refine r_iald dX11_count_109 (mo_k2 hm) (by omega) rfl ?_
    exact r_iret dX11_count_110 rfl (by unfold mCount; rw [if_neg (by omega), if_neg (by omega), if_neg (by omega), if_neg (by omega), if_pos (by omega)])
  · refine r_aload_n dX11_count_111 rfl ?_
    refine r_getIj (j := 33) rfl dX11_count_112 fkX11_11 gf11_33 (mo_o hm) rfl ?_
    exact r_iret dX11_count_115 rfl (by unfold mCount; rw [if_neg (by omega), if_neg (by omega), if_neg (by omega), if_neg (by omega), if_neg (by omega), if_pos (by omega)])
  · refine r_aload_n dX11_count_116 rfl ?_
    refine r_getIj (j := 13) rfl dX11_count_117 fkX11_151 gf11_13 (mo_o hm) rfl ?_
    exact r_iret dX11_count_120 rfl (by unfold mCount; rw [if_neg (by omega), if_neg (by omega), if_neg (by omega), if_neg (by omega), if_neg (by omega), if_neg (by omega), if_pos (by omega)])
  · refine r_aload_n dX11_count_121 rfl ?_
    refine r_getR dX11_count_122 fkX11_7 gf11_1 (mo_o hm) (mo_r1 hm) ?_
    refine r_iload_n dX11_count_125 rfl ?_
    refine r_bipush dX11_count_126 lb_6 ?_
    refine r_isubE dX11_count_128 (by first | exact od_w0 (by omega) (by omega) | exact od_wI (by omega) (by omega) | rfl) ?_
    refine r_iald dX11_count_129 (mo_k1 hm) (by omega) rfl ?_
    first
    | exact r_iret dX11_count_130 rfl (by unfold mCount; rw [if_neg (by omega), if_neg (by omega), if_neg (by omega), if_neg (by omega), if_neg (by omega), if_neg (by omega), if_neg (by omega), if_pos (by omega)]; rw [show k - 6 = 1 by omega])
    | exact r_iret dX11_count_130 rfl (by unfold mCount; rw [if_neg (by omega), if_neg (by omega), if_neg (by omega), if_neg (by omega), if_neg (by omega), if_neg (by omega), if_neg (by omega), if_neg (by omega), if_pos (by omega)]; rw [show k - 6 = 2 by omega])
    | exact r_iret dX11_count_130 rfl (by unfold mCount; rw [if_neg (by omega), if_neg (by omega), if_neg (by omega), if_neg (by omega), if_neg (by omega), if_neg (by omega), if_neg (by omega), if_neg (by omega), if_neg (by omega), if_pos (by omega)]; rw [show k - 6 = 3 by omega])
  · refine r_aload_n dX11_count_121 rfl ?_
    refine r_getR dX11_count_122 fkX11_7 gf11_1 (mo_o hm) (mo_r1 hm) ?_
    refine r_iload_n dX11_count_125 rfl ?_
    refine r_bipush dX11_count_126 lb_6 ?_
    refine r_isubE dX11_count_128 (by first | exact od_w0 (by omega) (by omega) | exact od_wI (by omega) (by omega) | rfl) ?_
    refine r_iald dX11_count_129 (mo_k1 hm) (by omega) rfl ?_
    first
    | exact r_iret dX11_count_130 rfl (by unfold mCount; rw [if_neg (by omega), if_neg (by omega), if_neg (by omega), if_neg (by omega), if_neg (by omega), if_neg (by omega), if_neg (by omega), if_pos (by omega)]; rw [show k - 6 = 1 by omega])
    | exact r_iret dX11_count_130 rfl (by unfold mCount; rw [if_neg (by omega), if_neg (by omega), if_neg (by omega), if_neg (by omega), if_neg (by omega), if_neg (by omega), if_neg (by omega), if_neg (by omega), if_pos (by omega)]; rw [show k - 6 = 2 by omega])
    | exact r_iret dX11_count_130 rfl (by unfold mCount; rw [if_neg (by omega), if_neg (by omega), if_neg (by omega), if_neg (by omega), if_neg (by omega), if_neg (by omega), if_neg (by omega), if_neg (by omega), if_neg (by omega), if_pos (by omega)]; rw [show k - 6 = 3 by omega])
  · refine r_aload_n dX11_count_121 rfl ?_
    refine r_getR dX11_count_122 fkX11_7 gf11_1 (mo_o hm) (mo_r1 hm) ?_
    refine r_iload_n dX11_count_125 rfl ?_
    refine r_bipush dX11_count_126 lb_6 ?_
    refine r_isubE dX11_count_128 (by first | exact od_w0 (by omega) (by omega) | exact od_wI (by omega) (by omega) | rfl) ?_
    refine r_iald dX11_count_129 (mo_k1 hm) (by omega) rfl ?_
    first
    | exact r_iret dX11_count_130 rfl (by unfold mCount; rw [if_neg (by omega), if_neg (by omega), if_neg (by omega), if_neg (by omega), if_neg (by omega), if_neg (by omega), if_neg (by omega), if_pos (by omega)]; rw [show k - 6 = 1 by omega])
    | exact r_iret dX11_count_130 rfl (by unfold mCount; rw [if_neg (by omega), if_neg (by omega), if_neg (by omega), if_neg (by omega), if_neg (by omega), if_neg (by omega), if_neg (by omega), if_neg (by omega), if_pos (by omega)]; rw [show k - 6 = 2 by omega])
    | exact r_iret dX11_count_130 rfl (by unfold mCount; rw [if_neg (by omega), if_neg (by omega), if_neg (by omega), if_neg (by omega), if_neg (by omega), if_neg (by omega), if_neg (by omega), if_neg (by omega), if_neg (by omega), if_pos (by omega)]; rw [show k - 6 = 3 by omega])
  · refine r_aload_n dX11_count_131 rfl ?_
    refine r_getR dX11_count_132 fkX11_7 gf11_1 (mo_o hm) (mo_r1 hm) ?_
    refine r_iconst dX11_count_135 li_5 ?_
    refine r_iald dX11_count_136 (mo_k1 hm) (by omega) rfl ?_
    exact r_iret dX11_count_137 rfl (by unfold mCount; rw [if_neg (by omega), if_neg (by omega), if_neg (by omega), if_neg (by omega), if_neg (by omega), if_neg (by omega), if_neg (by omega), if_neg (by omega), if_neg (by omega), if_neg (by omega), if_pos (by omega)])
  · refine r_aload_n dX11_count_138 rfl ?_
    refine r_getR dX11_count_139 fkX11_7 gf11_1 (mo_o hm) (mo_r1 hm) ?_
    refine r_bipush dX11_count_142 lb_6 ?_
    refine r_iald dX11_count_144 (mo_k1 hm) (by omega) rfl ?_
    exact r_iret dX11_count_145 rfl (by unfold mCount; rw [if_neg (by omega), if_neg (by omega), if_neg (by omega), if_neg (by omega), if_neg (by omega), if_neg (by omega), if_neg (by omega), if_neg (by omega), if_neg (by omega), if_neg (by omega), if_neg (by omega), if_pos (by omega)])
  · refine r_aload_n dX11_count_146 rfl ?_
    refine r_getR dX11_count_147 fkX11_28 gf11_2 (mo_o hm) (mo_r2 hm) ?_
    refine r_bipush dX11_count_150 lb_48 ?_
    refine r_iald dX11_count_152 (mo_k2 hm) (by omega) rfl ?_
    exact r_iret dX11_count_153 rfl (by unfold mCount; rw [if_neg (by omega), if_neg (by omega), if_neg (by omega), if_neg (by omega), if_neg (by omega), if_neg (by omega), if_neg (by omega), if_neg (by omega), if_neg (by omega), if_neg (by omega), if_neg (by omega), if_neg (by omega), if_pos (by omega)])
  · refine r_aload_n dX11_count_154 rfl ?_
    refine r_getR dX11_count_155 fkX11_28 gf11_2 (mo_o hm) (mo_r2 hm) ?_
    refine r_iload_n dX11_count_158 rfl ?_
    refine r_bipush dX11_count_159 lb_13 ?_
    refine r_isubE dX11_count_161 (by first | exact od_w0 (by omega) (by omega) | exact od_wI (by omega) (by omega) | rfl) ?_
    refine r_callS1i dX11_count_162 csX11_148 (c_X11_termAt _) (by decide) (Nat.le_of_ble_eq_true rfl) od_le.rf ?_
    have tA : 0 ≤ mTermAt (k - 13) ∧ mTermAt (k - 13) < 5656 := mTermAt_b _
    refine r_iald dX11_count_165 (mo_k2 hm) (by omega) rfl ?_
    first
    | exact r_iret dX11_count_166 rfl (by unfold mCount; rw [if_neg (by omega), if_neg (by omega), if_neg (by omega), if_neg (by omega), if_neg (by omega), if_neg (by omega), if_neg (by omega), if_neg (by omega), if_neg (by omega), if_neg (by omega), if_neg (by omega), if_neg (by omega), if_neg (by omega), if_pos (by omega)]; rw [show k - 13 = 0 by omega])
    | exact r_iret dX11_count_166 rfl (by unfold mCount; rw [if_neg (by omega), if_neg (by omega), if_neg (by omega), if_neg (by omega), if_neg (by omega), if_neg (by omega), if_neg (by omega), if_neg (by omega), if_neg (by omega), if_neg (by omega), if_neg (by omega), if_neg (by omega), if_neg (by omega), if_neg (by omega), if_pos (by omega)]; rw [show k - 13 = 1 by omega])
    | exact r_iret dX11_count_166 rfl (by unfold mCount; rw [if_neg (by omega), if_neg (by omega), if_neg (by omega), if_neg (by omega), if_neg (by omega), if_neg (by omega), if_neg (by omega), if_neg (by omega), if_neg (by omega), if_neg (by omega), if_neg (by omega), if_neg (by omega), if_neg (by omega), if_neg (by omega), if_neg (by omega), if_pos (by omega)]; rw [show k - 13 = 2 by omega])
  · refine r_aload_n dX11_count_154 rfl ?_
    refine r_getR dX11_count_155 fkX11_28 gf11_2 (mo_o hm) (mo_r2 hm) ?_
    refine r_iload_n dX11_count_158 rfl ?_
    refine r_bipush dX11_count_159 lb_13 ?_
    refine r_isubE dX11_count_161 (by first | exact od_w0 (by omega) (by omega) | exact od_wI (by omega) (by omega) | rfl) ?_
    refine r_callS1i dX11_count_162 csX11_148 (c_X11_termAt _) (by decide) (Nat.le_of_ble_eq_true rfl) od_le.rf ?_
    have tA : 0 ≤ mTermAt (k - 13) ∧ mTermAt (k - 13) < 5656 := mTermAt_b _
    refine r_iald dX11_count_165 (mo_k2 hm) (by omega) rfl ?_
    first
    | exact r_iret dX11_count_166 rfl (by unfold mCount; rw [if_neg (by omega), if_neg (by omega), if_neg (by omega), if_neg (by omega), if_neg (by omega), if_neg (by omega), if_neg (by omega), if_neg (by omega), if_neg (by omega), if_neg (by omega), if_neg (by omega), if_neg (by omega), if_neg (by omega), if_pos (by omega)]; rw [show k - 13 = 0 by omega])
    | exact r_iret dX11_count_166 rfl (by unfold mCount; rw [if_neg (by omega), if_neg (by omega), if_neg (by omega), if_neg (by omega), if_neg (by omega), if_neg (by omega), if_neg (by omega), if_neg (by omega), if_neg (by omega), if_neg (by omega), if_neg (by omega), if_neg (by omega), if_neg (by omega), if_neg (by omega), if_pos (by omega)]; rw [show k - 13 = 1 by omega])
    | exact r_iret dX11_count_166 rfl (by unfold mCount; rw [if_neg (by omega), if_neg (by omega), if_neg (by omega), if_neg (by omega), if_neg (by omega), if_neg (by omega), if_neg (by omega), if_neg (by omega), if_neg (by omega), if_neg (by omega), if_neg (by omega), if_neg (by omega), if_neg (by omega), if_neg (by omega), if_neg (by omega), if_pos (by omega)]; rw [show k - 13 = 2 by omega])
  · refine r_aload_n dX11_count_154 rfl ?_
    refine r_getR dX11_count_155 fkX11_28 gf11_2 (mo_o hm) (mo_r2 hm) ?_
    refine r_iload_n dX11_count_158 rfl ?_
    refine r_bipush dX11_count_159 lb_13 ?_
    refine r_isubE dX11_count_161 (by first | exact od_w0 (by omega) (by omega) | exact od_wI (by omega) (by omega) | rfl) ?_
    refine r_callS1i dX11_count_162 csX11_148 (c_X11_termAt _) (by decide) (Nat.le_of_ble_eq_true rfl) od_le.rf ?_
    have tA : 0 ≤ mTermAt (k - 13) ∧ mTermAt (k - 13) < 5656 := mTermAt_b _
    refine r_iald dX11_count_165 (mo_k2 hm) (by omega) rfl ?_
    first
    | exact r_iret dX11_count_166 rfl (by unfold mCount; rw [if_neg (by omega), if_neg (by omega), if_neg (by omega), if_neg (by omega), if_neg (by omega), if_neg (by omega), if_neg (by omega), if_neg (by omega), if_neg (by omega), if_neg (by omega), if_neg (by omega), if_neg (by omega), if_neg (by omega), if_pos (by omega)]; rw [show k - 13 = 0 by omega])
    | exact r_iret dX11_count_166 rfl (by unfold mCount; rw [if_neg (by omega), if_neg (by omega), if_neg (by omega), if_neg (by omega), if_neg (by omega), if_neg (by omega), if_neg (by omega), if_neg (by omega), if_neg (by omega), if_neg (by omega), if_neg (by omega), if_neg (by omega), if_neg (by omega), if_neg (by omega), if_pos (by omega)]; rw [show k - 13 = 1 by omega])
    | exact r_iret dX11_count_166 rfl (by unfold mCount; rw [if_neg (by omega), if_neg (by omega), if_neg (by omega), if_neg (by omega), if_neg (by omega), if_neg (by omega), if_neg (by omega), if_neg (by omega), if_neg (by omega), if_neg (by omega), if_neg (by omega), if_neg (by omega), if_neg (by omega), if_neg (by omega), if_neg (by omega), if_pos (by omega)]; rw [show k - 13 = 2 by omega])
  · refine r_iconst dX11_count_167 li_m1 ?_
    exact r_iret dX11_count_168 rfl (by unfold mCount; rw [if_neg (by omega), if_neg (by omega), if_neg (by omega), if_neg (by omega), if_neg (by omega), if_neg (by omega), if_neg (by omega), if_neg (by omega), if_neg (by omega), if_neg (by omega), if_neg (by omega), if_neg (by omega), if_neg (by omega), if_neg (by omega), if_neg (by omega), if_neg (by omega)])
