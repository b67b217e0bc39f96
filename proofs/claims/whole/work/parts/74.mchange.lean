/-! the reference: the four changes -/
theorem od_fr.upc {X : Int → Int → Prop} {g g' : od_G} {a j v v' : Int} (h : od_fr X g g') (e : v' = v) : od_fr X (od_up g a j v) (od_up g' a j v') := fun x y hx => by unfold od_up; rw [e, h x y hx]
theorem od_fr.cqc {X : Int → Int → Prop} {g g' : od_G} {a o b f n : Int} (h : od_fr X g g') (e : g' b = g b) : od_fr X (od_cq g a o b f n) (od_cq g' a o b f n) := fun x y hx => by unfold od_cq; rw [e, h x y hx]
def SQ (M : Int) : Int → Int → Prop := fun x y => (x = M ∧ 22 ≤ y ∧ y ≤ 25) ∨ x = M + 12 ∨ x = M + 13
theorem XQ_SQ {M x y : Int} (h : XQ M x y) : SQ M x y := by unfold XQ at h; unfold SQ; omega
/-- X lets alone what hands work on -/
def XOk (M : Int) (X : Int → Int → Prop) : Prop := (∀ y, ¬ X (M + 2) y) ∧ (∀ y, ¬ X (M + 14) y) ∧ ¬ X M 33 ∧ (∀ y, ¬ X (M + 1) y) ∧ ¬ X M 0
theorem SQ_ok (M : Int) : XOk M (SQ M) := by
  unfold XOk SQ
  refine ⟨fun y => ?_, fun y => ?_, ?_, fun y => ?_, ?_⟩ <;> omega
theorem mKp0_c {X : Int → Int → Prop} {g g' : od_G} {M : Int} (hX : XOk M X) (h : od_fr X g g') : od_fr X (mKp0 g M) (mKp0 g' M) := by
  unfold mKp0
  rw [h M 33 hX.2.2.1]
  split
  · exact (h.cqc (h.row hX.2.1)).upc rfl
  · exact h
theorem mKp_c {X : Int → Int → Prop} {g g' : od_G} {M k : Int} (hX : XOk M X) (h : od_fr X g g') : od_fr X (mKp g M k) (mKp g' M k) := by
  have h0 := mKp0_c hX h
  unfold mKp mKp1
  rw [h0 M 33 hX.2.2.1]
  exact ((h0.cqc (h0.row hX.1)).upc rfl).upc rfl
theorem mTurn_c {X : Int → Int → Prop} {g g' : od_G} {M d b : Int} (hX : XOk M X) (h : od_fr X g g') : od_fr X (mTurn g M d b) (mTurn g' M d b) := by
  unfold mTurn
  rw [h.row hX.1]
  exact h.upc rfl
theorem mRef_c {X : Int → Int → Prop} {g g' : od_G} {M k : Int} (hX : XOk M X) (h : od_fr X g g') : od_fr X (mRef g M k) (mRef g' M k) := by
  unfold mRef
  rw [h.row hX.2.2.2.1]
  exact (h.upc rfl).upc rfl
theorem mGood_c {X : Int → Int → Prop} {g g' : od_G} {M : Int} (h : od_fr X g g') : od_fr X (mGood g M) (mGood g' M) := by
  unfold mGood
  exact h.upc rfl
theorem mGoodOr_c {X : Int → Int → Prop} {g g' : od_G} {M v : Int} (hX : XOk M X) (h : od_fr X g g') : od_fr X (mGoodOr g M v) (mGoodOr g' M v) := by
  unfold mGoodOr
  split
  · exact mRef_c hX h
  · exact mGood_c h
theorem mKp_2 (g : od_G) (M k : Int) : mKp g M k (M + 2) = g (M + 2) := (mKp_fr g M k).row (fun y => by unfold KQ; omega)
theorem mPin_e {g g' : od_G} {M : Int} (e : g' (M + 2) = g (M + 2)) (d b : Int) : mPin g' M d b = mPin g M d b := by unfold mPin; rw [e]
theorem mLd_e {g g' : od_G} {M : Int} (e : g' (M + 2) = g (M + 2)) (pl : Int → Int) (C h : Int) : mLd g' M pl C h = mLd g M pl C h := by funext d; unfold mLd; rw [mStrikes_e e, mBeat_e e, e]
theorem mLoud_e {g g' : od_G} {M : Int} (e : g' (M + 2) = g (M + 2)) (pl : Int → Int) (C h : Int) : mLoud g' M pl C h = mLoud g M pl C h := by unfold mLoud; rw [mLd_e e, e]
theorem mHp_e {g g' : od_G} {M : Int} (e : g' (M + 2) = g (M + 2)) (pl : Int → Int) (C : Int) : mHp g' M pl C = mHp g M pl C := by
  unfold mHp mHk mDrop
  simp only [mStrikes_e e, mBeat_e e, e]
theorem mLoud_b (g : od_G) (M : Int) (pl : Int → Int) (C h : Int) : 0 ≤ mLoud g M pl C h := (od_sum_b (m := 9) _ (fun i _ _ => mLd_b g M pl C h i)).1
/-- where drums stand, and which are stopped -/
def MJ (g : od_G) (M : Int) : Prop := ∀ d : Int, 0 ≤ d → d < g (M + 2) 45 → (0 ≤ g (M + 2) (6 + d) ∧ g (M + 2) (6 + d) < g (M + 2) (19 + d)) ∧ (g (M + 2) (12 + d) = 0 ∨ g (M + 2) (12 + d) = 1)
def mRow (g : od_G) (a : Int) (r : Int → Int) : od_G := fun x y => if x = a then r y else g x y
noncomputable def mPinK (g : od_G) (M : Int) (pl : Int → Int) (C d b : Int) : Int × od_G := od_ip (mLies b 0 11) (od_ip (mDr g M d) (od_ip (mBeatL g M d b ∧ (mPin g M d b ∨ ¬ mNow (g (M + 2)) pl C 2 d b)) (od_ite (mPin (mTurn (mKp g M 0) M d b) M d b) 1 0, mTurn (mKp g M 0) M d b) (-3, g)) (-2, g)) (-1, g)
noncomputable def mShK (g : od_G) (M d n : Int) : Int × od_G := od_ip (mLies n 1 11) (od_ip (mDr g M d) ((g (M + 2) (6 + d) + n).tmod (g (M + 2) (19 + d)), od_up (mKp g M 1) (M + 2) (6 + d) ((g (M + 2) (6 + d) + n).tmod (g (M + 2) (19 + d)))) (-2, g)) (-1, g)
noncomputable def mStK (g : od_G) (M d : Int) : Int × od_G := od_ip (mDr g M d) (1 - g (M + 2) (12 + d), od_up (mKp g M 2) (M + 2) (12 + d) (1 - g (M + 2) (12 + d))) (-2, g)
noncomputable def mPaK (g : od_G) (M : Int) (pl : Int → Int) (C : Int) : Int × od_G := od_ip (g (M + 2) 18 = 999) (-3, g) (mLoud g M pl C 0, mRow (mKp g M 3) (M + 2) (mHp g M pl C))
theorem od_ip_b {P : Prop} {x y : Int × od_G} {l : Int} (hx : P → l ≤ x.1) (hy : l ≤ y.1) : l ≤ (od_ip P x y).1 := by
  by_cases c : P
  · rw [od_ip_t c]; exact hx c
  · rw [od_ip_f c]; exact hy
theorem mPinK_b (g : od_G) (M : Int) (pl : Int → Int) (C d b : Int) : -6 ≤ (mPinK g M pl C d b).1 := by
  unfold mPinK
  refine od_ip_b (fun _ => od_ip_b (fun _ => od_ip_b (fun _ => ?_) (by show (-6 : Int) ≤ _; omega)) (by show (-6 : Int) ≤ _; omega)) (by show (-6 : Int) ≤ _; omega)
  by_cases c : mPin (mTurn (mKp g M 0) M d b) M d b
  · rw [od_ite_t c]; show (-6 : Int) ≤ _; omega
  · rw [od_ite_f c]; show (-6 : Int) ≤ _; omega
theorem mShK_b {g : od_G} {M : Int} (hJ : MJ g M) (d n : Int) : -6 ≤ (mShK g M d n).1 := by
  unfold mShK
  refine od_ip_b (fun h1 => od_ip_b (fun h2 => ?_) (by show (-6 : Int) ≤ _; omega)) (by show (-6 : Int) ≤ _; omega)
  unfold mLies at h1
  unfold mDr mLies at h2
  have z := hJ d (by omega) (by omega)
  have := Int.tmod_nonneg (g (M + 2) (19 + d)) (show 0 ≤ g (M + 2) (6 + d) + n by omega)
  show -6 ≤ (g (M + 2) (6 + d) + n).tmod (g (M + 2) (19 + d))
  omega
theorem mStK_b {g : od_G} {M : Int} (hJ : MJ g M) (d : Int) : -6 ≤ (mStK g M d).1 := by
  unfold mStK
  refine od_ip_b (fun h2 => ?_) (by show (-6 : Int) ≤ _; omega)
  unfold mDr mLies at h2
  have z := hJ d (by omega) (by omega)
  show -6 ≤ 1 - g (M + 2) (12 + d)
  omega
theorem mPaK_b (g : od_G) (M : Int) (pl : Int → Int) (C : Int) : -6 ≤ (mPaK g M pl C).1 := by
  unfold mPaK
  refine od_ip_b (fun _ => by show (-6 : Int) ≤ -3; omega) ?_
  have := mLoud_b g M pl C 0
  show -6 ≤ mLoud g M pl C 0
  omega
set_option maxRecDepth 10000 in
theorem c_X11_pinsKept {E : od_E} {g : od_G} {M : Int} (hm : MoAt E M) {pl : Int → Int} {C : Int} (hI : MI g M) (hF : LwF (g (M + 2)) pl C) (hU : 0 ≤ g M 33 ∧ g M 33 ≤ 16) (d b : Int) : od_Cw 48 mX11_pinsKept [(2, M), (0, d), (0, b)] E g (some (0, (mPinK g M pl C d b).1)) (SQ M) ((mPinK g M pl C d b).2) := by
  refine od_cqI pnX11 rfl (Nat.le_of_ble_eq_true rfl) od_le.rf ?_
  show od_Rf 48 mX11_pinsKept od_Z0 E (some (0, (mPinK g M pl C d b).1)) (SQ M) ((mPinK g M pl C d b).2) 0 [some (2, M), some (0, d), some (0, b)] [] E g
  refine r_iload_n dX11_pinsKept_0 rfl ?_
  refine r_iconst dX11_pinsKept_1 li_0 ?_
  refine r_bipush dX11_pinsKept_2 lb_11 ?_
  refine r_callS3b dX11_pinsKept_4 csX11_18 (c_X11_lies _ _ _) (by decide) (Nat.le_of_ble_eq_true rfl) od_le.rf (fun q4 => ?_) (fun q4 => ?_)
  · refine r_if_ne (tgt := 12) dX11_pinsKept_7 rfl (fun _ => ?_) (fun h => absurd h (by decide))
    refine r_aload_n dX11_pinsKept_12 rfl ?_
    refine r_iload_n dX11_pinsKept_13 rfl ?_
    refine r_callV1b dX11_pinsKept_14 cvX11_128 (mo_o hm) (c_X11_isDrum hm hI.1 _) (by decide) (Nat.le_of_ble_eq_true rfl) od_le.rf (fun q14 => ?_) (fun q14 => ?_)
    · refine r_if_ne (tgt := 23) dX11_pinsKept_17 rfl (fun _ => ?_) (fun h => absurd h (by decide))
      have u14 := q14
      unfold mDr mLies at u14
      have i45 := hI.1
      refine r_aload_n dX11_pinsKept_23 rfl ?_
      refine r_iload_n dX11_pinsKept_24 rfl ?_
      refine r_iload_n dX11_pinsKept_25 rfl ?_
      refine r_callV2g dX11_pinsKept_26 cvX11_353 (mo_o hm) (c_X11_canPin hm hI hF _ (by omega) _) (by decide) (Nat.le_of_ble_eq_true rfl) od_le.rf (fun q26 g26 f26 => ?_) (fun q26 g26 f26 => ?_)
      · refine r_if_ne (tgt := 35) dX11_pinsKept_29 rfl (fun _ => ?_) (fun h => absurd h (by decide))
        have u33 := f26 M 33 (by unfold XQ; omega)
        refine r_aload_n dX11_pinsKept_35 rfl ?_
        refine r_iconst dX11_pinsKept_36 li_0 ?_
        refine r_callV1v dX11_pinsKept_37 cvX11_356 (mo_o hm) (c_X11_keeps hm (by omega) _) (by decide) (Nat.le_of_ble_eq_true rfl) od_le.rf ?_
        refine r_aload_n dX11_pinsKept_40 rfl ?_
        refine r_iload_n dX11_pinsKept_41 rfl ?_
        refine r_iload_n dX11_pinsKept_42 rfl ?_
        refine r_callV2v dX11_pinsKept_43 cvX11_350 (mo_o hm) (c_X11_turnsPin hm _ (by omega) _) (by decide) (Nat.le_of_ble_eq_true rfl) od_le.rf ?_
        refine r_aload_n dX11_pinsKept_46 rfl ?_
        refine r_iload_n dX11_pinsKept_47 rfl ?_
        refine r_iload_n dX11_pinsKept_48 rfl ?_
        refine r_callV2b dX11_pinsKept_49 cvX11_341 (mo_o hm) (c_X11_hasPin hm _ (by omega) _) (by decide) (Nat.le_of_ble_eq_true rfl) od_le.rf (fun q49 => ?_) (fun q49 => ?_)
        · refine r_if_eq (tgt := 59) dX11_pinsKept_52 rfl (fun h => absurd h (by decide)) (fun _ => ?_)
          refine r_iconst dX11_pinsKept_55 li_1 ?_
          refine r_goto (tgt := 60) dX11_pinsKept_56 rfl ?_
          have fS : od_fr (SQ M) g g26 := f26.mo (fun _ _ => XQ_SQ)
          have fT : od_fr (SQ M) (mTurn (mKp g M 0) M d b) (mTurn (mKp g26 M 0) M d b) := mTurn_c (SQ_ok M) (mKp_c (SQ_ok M) fS)
          have eP := mPin_e (fT.row (SQ_ok M).1) d b
          rw [eP] at q49
          refine r_iretq dX11_pinsKept_60 rfl rfl ⟨?_, ?_⟩
          · unfold mPinK
            rw [od_ip_t q4, od_ip_t q14, od_ip_t q26]
            first
            | (show _ = some (0, od_ite _ 1 0); rw [od_ite_t q49])
            | (show _ = some (0, od_ite _ 1 0); rw [od_ite_f q49])
          · unfold mPinK
            rw [od_ip_t q4, od_ip_t q14, od_ip_t q26]
            exact fT
        · refine r_if_eq (tgt := 59) dX11_pinsKept_52 rfl (fun _ => ?_) (fun h => absurd h (by decide))
          refine r_iconst dX11_pinsKept_59 li_0 ?_
          have fS : od_fr (SQ M) g g26 := f26.mo (fun _ _ => XQ_SQ)
          have fT : od_fr (SQ M) (mTurn (mKp g M 0) M d b) (mTurn (mKp g26 M 0) M d b) := mTurn_c (SQ_ok M) (mKp_c (SQ_ok M) fS)
          have eP := mPin_e (fT.row (SQ_ok M).1) d b
          rw [eP] at q49
          refine r_iretq dX11_pinsKept_60 rfl rfl ⟨?_, ?_⟩
          · unfold mPinK
            rw [od_ip_t q4, od_ip_t q14, od_ip_t q26]
            first
            | (show _ = some (0, od_ite _ 1 0); rw [od_ite_t q49])
            | (show _ = some (0, od_ite _ 1 0); rw [od_ite_f q49])
          · unfold mPinK
            rw [od_ip_t q4, od_ip_t q14, od_ip_t q26]
            exact fT
      · refine r_if_ne (tgt := 35) dX11_pinsKept_29 rfl (fun h => absurd h (by decide)) (fun _ => ?_)
        refine r_bipush dX11_pinsKept_32 lb_m3 ?_
        refine r_iretq dX11_pinsKept_34 rfl rfl ⟨?_, ?_⟩
        · unfold mPinK
          rw [od_ip_t q4, od_ip_t q14, od_ip_f q26]
        · unfold mPinK
          rw [od_ip_t q4, od_ip_t q14, od_ip_f q26]
          exact f26.mo (fun _ _ => XQ_SQ)
    · refine r_if_ne (tgt := 23) dX11_pinsKept_17 rfl (fun h => absurd h (by decide)) (fun _ => ?_)
      refine r_bipush dX11_pinsKept_20 lb_m2 ?_
      refine r_iretq dX11_pinsKept_22 rfl rfl ⟨?_, ?_⟩
      · unfold mPinK
        rw [od_ip_t q4, od_ip_f q14]
      · unfold mPinK
        rw [od_ip_t q4, od_ip_f q14]
        exact od_fr.rf
  · refine r_if_ne (tgt := 12) dX11_pinsKept_7 rfl (fun h => absurd h (by decide)) (fun _ => ?_)
    refine r_iconst dX11_pinsKept_10 li_m1 ?_
    refine r_iretq dX11_pinsKept_11 rfl rfl ⟨?_, ?_⟩
    · unfold mPinK
      rw [od_ip_f q4]
    · unfold mPinK
      rw [od_ip_f q4]
      exact od_fr.rf
set_option maxRecDepth 10000 in
theorem c_X11_shiftsKept {E : od_E} {g : od_G} {M : Int} (hm : MoAt E M) (hI : MI g M) (hJ : MJ g M) (hU : 0 ≤ g M 33 ∧ g M 33 ≤ 16) (d n : Int) : od_Ct 3 mX11_shiftsKept [(2, M), (0, d), (0, n)] E g (some (0, (mShK g M d n).1), E, (mShK g M d n).2) := by
  refine od_ctI pnX11 rfl (Nat.le_of_ble_eq_true rfl) od_le.rf ?_
  show od_R _ _ _ _ _ 0 [some (2, M), some (0, d), some (0, n)] [] E g
  refine r_iload_n dX11_shiftsKept_0 rfl ?_
  refine r_iconst dX11_shiftsKept_1 li_1 ?_
  refine r_bipush dX11_shiftsKept_2 lb_11 ?_
  refine r_callS3b dX11_shiftsKept_4 csX11_18 (c_X11_lies _ _ _) (by decide) (Nat.le_of_ble_eq_true rfl) od_le.rf (fun q4 => ?_) (fun q4 => ?_)
  · refine r_if_ne (tgt := 12) dX11_shiftsKept_7 rfl (fun _ => ?_) (fun h => absurd h (by decide))
    refine r_aload_n dX11_shiftsKept_12 rfl ?_
    refine r_iload_n dX11_shiftsKept_13 rfl ?_
    refine r_callV1b dX11_shiftsKept_14 cvX11_128 (mo_o hm) (c_X11_isDrum hm hI.1 _) (by decide) (Nat.le_of_ble_eq_true rfl) od_le.rf (fun q14 => ?_) (fun q14 => ?_)
    · refine r_if_ne (tgt := 23) dX11_shiftsKept_17 rfl (fun _ => ?_) (fun h => absurd h (by decide))
      have u14 := q14
      unfold mDr mLies at u14
      have i45 := hI.1
      have u4 := q4
      unfold mLies at u4
      have j := hJ d (by omega) (by omega)
      have l := hI.2 d (by omega) (by omega)
      have eK := mKp_2 g M 1
      refine r_aload_n dX11_shiftsKept_23 rfl ?_
      refine r_iconst dX11_shiftsKept_24 li_1 ?_
      refine r_callV1v dX11_shiftsKept_25 cvX11_356 (mo_o hm) (c_X11_keeps hm (by omega) _) (by decide) (Nat.le_of_ble_eq_true rfl) od_le.rf ?_
      refine r_aload_n dX11_shiftsKept_28 rfl ?_
      refine r_getR dX11_shiftsKept_29 fkX11_28 gf11_2 (mo_o hm) (mo_r2 hm) ?_
      refine r_bipush dX11_shiftsKept_32 lb_6 ?_
      refine r_iload_n dX11_shiftsKept_34 rfl ?_
      refine r_iaddE dX11_shiftsKept_35 (by first | exact od_w0 (by omega) (by omega) | exact od_wI (by omega) (by omega) | rfl) ?_
      refine r_aload_n dX11_shiftsKept_36 rfl ?_
      refine r_getR dX11_shiftsKept_37 fkX11_28 gf11_2 (mo_o hm) (mo_r2 hm) ?_
      refine r_bipush dX11_shiftsKept_40 lb_6 ?_
      refine r_iload_n dX11_shiftsKept_42 rfl ?_
      refine r_iaddE dX11_shiftsKept_43 (by first | exact od_w0 (by omega) (by omega) | exact od_wI (by omega) (by omega) | rfl) ?_
      refine r_iald dX11_shiftsKept_44 (mo_k2 hm) (by omega) (by first | exact congrFun eK _ | exact od_up_i | rfl) ?_
      refine r_iload_n dX11_shiftsKept_45 rfl ?_
      refine r_iaddE dX11_shiftsKept_46 (by first | exact od_w0 (by omega) (by omega) | exact od_wI (by omega) (by omega) | rfl) ?_
      refine r_aload_n dX11_shiftsKept_47 rfl ?_
      refine r_getR dX11_shiftsKept_48 fkX11_28 gf11_2 (mo_o hm) (mo_r2 hm) ?_
      refine r_bipush dX11_shiftsKept_51 lb_19 ?_
      refine r_iload_n dX11_shiftsKept_53 rfl ?_
      refine r_iaddE dX11_shiftsKept_54 (by first | exact od_w0 (by omega) (by omega) | exact od_wI (by omega) (by omega) | rfl) ?_
      refine r_iald dX11_shiftsKept_55 (mo_k2 hm) (by omega) (by first | exact congrFun eK _ | exact od_up_i | rfl) ?_
      refine r_irem dX11_shiftsKept_56 (by first | decide | omega) ?_
      refine r_iast dX11_shiftsKept_57 (mo_k2 hm) (by omega) ?_
      refine r_aload_n dX11_shiftsKept_58 rfl ?_
      refine r_getR dX11_shiftsKept_59 fkX11_28 gf11_2 (mo_o hm) (mo_r2 hm) ?_
      refine r_bipush dX11_shiftsKept_62 lb_6 ?_
      refine r_iload_n dX11_shiftsKept_64 rfl ?_
      refine r_iaddE dX11_shiftsKept_65 (by first | exact od_w0 (by omega) (by omega) | exact od_wI (by omega) (by omega) | rfl) ?_
      refine r_iald dX11_shiftsKept_66 (mo_k2 hm) (by omega) (by first | exact congrFun eK _ | exact od_up_i | rfl) ?_
      exact r_iret dX11_shiftsKept_67 rfl (by unfold mShK; first | rw [od_ip_f (by assumption)] | rw [od_ip_t (by assumption), od_ip_f (by assumption)] | rw [od_ip_t (by assumption), od_ip_t (by assumption)])
    · refine r_if_ne (tgt := 23) dX11_shiftsKept_17 rfl (fun h => absurd h (by decide)) (fun _ => ?_)
      refine r_bipush dX11_shiftsKept_20 lb_m2 ?_
      exact r_iret dX11_shiftsKept_22 rfl (by unfold mShK; first | rw [od_ip_f (by assumption)] | rw [od_ip_t (by assumption), od_ip_f (by assumption)] | rw [od_ip_t (by assumption), od_ip_t (by assumption)])
  · refine r_if_ne (tgt := 12) dX11_shiftsKept_7 rfl (fun h => absurd h (by decide)) (fun _ => ?_)
    refine r_iconst dX11_shiftsKept_10 li_m1 ?_
    exact r_iret dX11_shiftsKept_11 rfl (by unfold mShK; first | rw [od_ip_f (by assumption)] | rw [od_ip_t (by assumption), od_ip_f (by assumption)] | rw [od_ip_t (by assumption), od_ip_t (by assumption)])
set_option maxRecDepth 10000 in
theorem c_X11_stopsKept {E : od_E} {g : od_G} {M : Int} (hm : MoAt E M) (hI : MI g M) (hJ : MJ g M) (hU : 0 ≤ g M 33 ∧ g M 33 ≤ 16) (d : Int) : od_Ct 3 mX11_stopsKept [(2, M), (0, d)] E g (some (0, (mStK g M d).1), E, (mStK g M d).2) := by
  refine od_ctI pnX11 rfl (Nat.le_of_ble_eq_true rfl) od_le.rf ?_
  show od_R _ _ _ _ _ 0 [some (2, M), some (0, d)] [] E g
  refine r_aload_n dX11_stopsKept_0 rfl ?_
  refine r_iload_n dX11_stopsKept_1 rfl ?_
  refine r_callV1b dX11_stopsKept_2 cvX11_128 (mo_o hm) (c_X11_isDrum hm hI.1 _) (by decide) (Nat.le_of_ble_eq_true rfl) od_le.rf (fun q2 => ?_) (fun q2 => ?_)
  · refine r_if_ne (tgt := 11) dX11_stopsKept_5 rfl (fun _ => ?_) (fun h => absurd h (by decide))
    have u14 := q2
    unfold mDr mLies at u14
    have i45 := hI.1
    have j := hJ d (by omega) (by omega)
    have eK := mKp_2 g M 2
    refine r_aload_n dX11_stopsKept_11 rfl ?_
    refine r_iconst dX11_stopsKept_12 li_2 ?_
    refine r_callV1v dX11_stopsKept_13 cvX11_356 (mo_o hm) (c_X11_keeps hm (by omega) _) (by decide) (Nat.le_of_ble_eq_true rfl) od_le.rf ?_
    refine r_aload_n dX11_stopsKept_16 rfl ?_
    refine r_getR dX11_stopsKept_17 fkX11_28 gf11_2 (mo_o hm) (mo_r2 hm) ?_
    refine r_bipush dX11_stopsKept_20 lb_12 ?_
    refine r_iload_n dX11_stopsKept_22 rfl ?_
    refine r_iaddE dX11_stopsKept_23 (by first | exact od_w0 (by omega) (by omega) | exact od_wI (by omega) (by omega) | rfl) ?_
    refine r_iconst dX11_stopsKept_24 li_1 ?_
    refine r_aload_n dX11_stopsKept_25 rfl ?_
    refine r_getR dX11_stopsKept_26 fkX11_28 gf11_2 (mo_o hm) (mo_r2 hm) ?_
    refine r_bipush dX11_stopsKept_29 lb_12 ?_
    refine r_iload_n dX11_stopsKept_31 rfl ?_
    refine r_iaddE dX11_stopsKept_32 (by first | exact od_w0 (by omega) (by omega) | exact od_wI (by omega) (by omega) | rfl) ?_
    refine r_iald dX11_stopsKept_33 (mo_k2 hm) (by omega) (by first | exact congrFun eK _ | exact od_up_i | rfl) ?_
    refine r_isubE dX11_stopsKept_34 (by first | exact od_w0 (by omega) (by omega) | exact od_wI (by omega) (by omega) | rfl) ?_
    refine r_iast dX11_stopsKept_35 (mo_k2 hm) (by omega) ?_
    refine r_aload_n dX11_stopsKept_36 rfl ?_
    refine r_getR dX11_stopsKept_37 fkX11_28 gf11_2 (mo_o hm) (mo_r2 hm) ?_
    refine r_bipush dX11_stopsKept_40 lb_12 ?_
    refine r_iload_n dX11_stopsKept_42 rfl ?_
    refine r_iaddE dX11_stopsKept_43 (by first | exact od_w0 (by omega) (by omega) | exact od_wI (by omega) (by omega) | rfl) ?_
    refine r_iald dX11_stopsKept_44 (mo_k2 hm) (by omega) (by first | exact congrFun eK _ | exact od_up_i | rfl) ?_
    exact r_iret dX11_stopsKept_45 rfl (by unfold mStK; first | rw [od_ip_f (by assumption)] | rw [od_ip_t (by assumption)])
  · refine r_if_ne (tgt := 11) dX11_stopsKept_5 rfl (fun h => absurd h (by decide)) (fun _ => ?_)
    refine r_bipush dX11_stopsKept_8 lb_m2 ?_
    exact r_iret dX11_stopsKept_10 rfl (by unfold mStK; first | rw [od_ip_f (by assumption)] | rw [od_ip_t (by assumption)])
set_option maxRecDepth 10000 in
theorem c_X11_passesKept {E : od_E} {g : od_G} {M : Int} (hm : MoAt E M) {pl : Int → Int} {C : Int} (hI : MI g M) (hF : LwF (g (M + 2)) pl C) (h18 : 0 ≤ g (M + 2) 18 ∧ g (M + 2) 18 ≤ 999) (hU : 0 ≤ g M 33 ∧ g M 33 ≤ 16) : od_Cw 48 mX11_passesKept [(2, M)] E g (some (0, (mPaK g M pl C).1)) (SQ M) ((mPaK g M pl C).2) := by
  refine od_cqI pnX11 rfl (Nat.le_of_ble_eq_true rfl) od_le.rf ?_
  show od_Rf 48 mX11_passesKept od_Z0 E (some (0, (mPaK g M pl C).1)) (SQ M) ((mPaK g M pl C).2) 0 [some (2, M)] [] E g
  refine r_aload_n dX11_passesKept_0 rfl ?_
  refine r_getR dX11_passesKept_1 fkX11_28 gf11_2 (mo_o hm) (mo_r2 hm) ?_
  refine r_bipush dX11_passesKept_4 lb_18 ?_
  refine r_iald dX11_passesKept_6 (mo_k2 hm) (by omega) rfl ?_
  refine r_sipush dX11_passesKept_7 ls_999 ?_
  refine r_icmp_ne (tgt := 16) dX11_passesKept_10 rfl (fun c10 => ?_) (fun c10 => ?_)
  · refine r_aload_n dX11_passesKept_16 rfl ?_
    refine r_iconst dX11_passesKept_17 li_3 ?_
    refine r_callV1v dX11_passesKept_18 cvX11_356 (mo_o hm) (c_X11_keeps hm (by omega) _) (by decide) (Nat.le_of_ble_eq_true rfl) od_le.rf ?_
    have eK := mKp_2 g M 3
    refine r_aload_n dX11_passesKept_21 rfl ?_
    refine r_callV0p dX11_passesKept_22 cvX11_359 (mo_o hm) (c_X11_hourPasses hm (hI.e eK) (hF.e eK) (by rw [eK]; omega)) (by decide) (Nat.le_of_ble_eq_true rfl) od_le.rf (fun r22 g22 h22 => ?_)
    obtain ⟨rfl, f22, k22⟩ := h22
    show od_Rq _ _ _ _ _ _ _ ((0, _) :: _) _ _
    refine r_iretq dX11_passesKept_25 rfl rfl ⟨?_, ?_⟩
    · unfold mPaK
      rw [od_ip_f (by assumption), mLoud_e eK]
    · unfold mPaK
      rw [od_ip_f (by assumption)]
      intro x y hx
      show g22 x y = if x = M + 2 then mHp g M pl C y else mKp g M 3 x y
      by_cases c : x = M + 2
      · rw [if_pos c, c, k22, mHp_e eK]
      · rw [if_neg c]
        exact f22 x y (by unfold SQ at hx; unfold HQ XQ; omega)
  · refine r_bipush dX11_passesKept_13 lb_m3 ?_
    refine r_iretq dX11_passesKept_15 rfl rfl ⟨?_, ?_⟩
    · unfold mPaK
      rw [od_ip_t (by assumption)]
    · unfold mPaK
      rw [od_ip_t (by assumption)]
      exact od_fr.rf
set_option maxRecDepth 10000 in
theorem c_X11_pin {E : od_E} {g : od_G} {M : Int} (hm : MoAt E M) {pl : Int → Int} {C : Int} (hI : MI g M) (hF : LwF (g (M + 2)) pl C) (hU : 0 ≤ g M 33 ∧ g M 33 ≤ 16) (d b : Int) : od_Cw 49 mX11_pin [(2, M), (0, d), (0, b)] E g (some (0, (mPinK g M pl C d b).1)) (SQ M) (mGoodOr (mPinK g M pl C d b).2 M (mPinK g M pl C d b).1) := by
  refine od_cqI pnX11 rfl (Nat.le_of_ble_eq_true rfl) od_le.rf ?_
  show od_Rf 49 mX11_pin od_Z0 E (some (0, (mPinK g M pl C d b).1)) (SQ M) (mGoodOr (mPinK g M pl C d b).2 M (mPinK g M pl C d b).1) 0 [some (2, M), some (0, d), some (0, b)] [] E g
  refine r_aload_n dX11_pin_0 rfl ?_
  refine r_aload_n dX11_pin_1 rfl ?_
  refine r_iload_n dX11_pin_2 rfl ?_
  refine r_iload_n dX11_pin_3 rfl ?_
  refine r_callV2x dX11_pin_4 cvX11_362 (mo_o hm) (c_X11_pinsKept hm hI hF hU _ _) (by decide) (Nat.le_of_ble_eq_true rfl) od_le.rf (fun g4 f4 => ?_)
  have vb := mPinK_b g M pl C d b
  refine r_callV1i dX11_pin_7 cvX11_365 (mo_o hm) (c_X11_goodOr hm _ vb) (by decide) (Nat.le_of_ble_eq_true rfl) od_le.rf ?_
  exact r_iretq dX11_pin_10 rfl rfl ⟨rfl, mGoodOr_c (SQ_ok M) f4⟩
set_option maxRecDepth 10000 in
theorem c_X11_shift {E : od_E} {g : od_G} {M : Int} (hm : MoAt E M) (hI : MI g M) (hJ : MJ g M) (hU : 0 ≤ g M 33 ∧ g M 33 ≤ 16) (d n : Int) : od_Ct 4 mX11_shift [(2, M), (0, d), (0, n)] E g (some (0, (mShK g M d n).1), E, mGoodOr (mShK g M d n).2 M (mShK g M d n).1) := by
  refine od_ctI pnX11 rfl (Nat.le_of_ble_eq_true rfl) od_le.rf ?_
  show od_R _ _ _ _ _ 0 [some (2, M), some (0, d), some (0, n)] [] E g
  refine r_aload_n dX11_shift_0 rfl ?_
  refine r_aload_n dX11_shift_1 rfl ?_
  refine r_iload_n dX11_shift_2 rfl ?_
  refine r_iload_n dX11_shift_3 rfl ?_
  have vb := mShK_b hJ d n
  refine r_callV2i dX11_shift_4 cvX11_368 (mo_o hm) (c_X11_shiftsKept hm hI hJ hU _ _) (by decide) (Nat.le_of_ble_eq_true rfl) od_le.rf ?_
  refine r_callV1i dX11_shift_7 cvX11_365 (mo_o hm) (c_X11_goodOr hm _ vb) (by decide) (Nat.le_of_ble_eq_true rfl) od_le.rf ?_
  exact r_iret dX11_shift_10 rfl (by rfl)
set_option maxRecDepth 10000 in
theorem c_X11_stop {E : od_E} {g : od_G} {M : Int} (hm : MoAt E M) (hI : MI g M) (hJ : MJ g M) (hU : 0 ≤ g M 33 ∧ g M 33 ≤ 16) (d : Int) : od_Ct 4 mX11_stop [(2, M), (0, d)] E g (some (0, (mStK g M d).1), E, mGoodOr (mStK g M d).2 M (mStK g M d).1) := by
  refine od_ctI pnX11 rfl (Nat.le_of_ble_eq_true rfl) od_le.rf ?_
  show od_R _ _ _ _ _ 0 [some (2, M), some (0, d)] [] E g
  refine r_aload_n dX11_stop_0 rfl ?_
  refine r_aload_n dX11_stop_1 rfl ?_
  refine r_iload_n dX11_stop_2 rfl ?_
  have vb := mStK_b hJ d
  refine r_callV1i dX11_stop_3 cvX11_371 (mo_o hm) (c_X11_stopsKept hm hI hJ hU _) (by decide) (Nat.le_of_ble_eq_true rfl) od_le.rf ?_
  refine r_callV1i dX11_stop_6 cvX11_365 (mo_o hm) (c_X11_goodOr hm _ vb) (by decide) (Nat.le_of_ble_eq_true rfl) od_le.rf ?_
  exact r_iret dX11_stop_9 rfl (by rfl)
set_option maxRecDepth 10000 in
theorem c_X11_pass {E : od_E} {g : od_G} {M : Int} (hm : MoAt E M) {pl : Int → Int} {C : Int} (hI : MI g M) (hF : LwF (g (M + 2)) pl C) (h18 : 0 ≤ g (M + 2) 18 ∧ g (M + 2) 18 ≤ 999) (hU : 0 ≤ g M 33 ∧ g M 33 ≤ 16) : od_Cw 49 mX11_pass [(2, M)] E g (some (0, (mPaK g M pl C).1)) (SQ M) (mGoodOr (mPaK g M pl C).2 M (mPaK g M pl C).1) := by
  refine od_cqI pnX11 rfl (Nat.le_of_ble_eq_true rfl) od_le.rf ?_
  show od_Rf 49 mX11_pass od_Z0 E (some (0, (mPaK g M pl C).1)) (SQ M) (mGoodOr (mPaK g M pl C).2 M (mPaK g M pl C).1) 0 [some (2, M)] [] E g
  refine r_aload_n dX11_pass_0 rfl ?_
  refine r_aload_n dX11_pass_1 rfl ?_
  refine r_callV0x dX11_pass_2 cvX11_374 (mo_o hm) (c_X11_passesKept hm hI hF h18 hU) (by decide) (Nat.le_of_ble_eq_true rfl) od_le.rf (fun g2 f2 => ?_)
  have vb := mPaK_b g M pl C
  refine r_callV1i dX11_pass_5 cvX11_365 (mo_o hm) (c_X11_goodOr hm _ vb) (by decide) (Nat.le_of_ble_eq_true rfl) od_le.rf ?_
  exact r_iretq dX11_pass_8 rfl rfl ⟨rfl, mGoodOr_c (SQ_ok M) f2⟩
