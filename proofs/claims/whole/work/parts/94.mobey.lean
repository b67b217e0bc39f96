/-! the reference: obeys -/
noncomputable def mOb (g : od_G) (M : Int) (pl : Int → Int) (C : Int) : Int × od_G :=
  if g M 44 = 21 then mShK g M (mSml (g (M + 22) 0)) (mSml (g (M + 22) 1))
  else if g M 44 = 23 then mStK g M (mSml (g (M + 22) 0))
  else if g M 44 = 24 then ((mPaK g M pl C).1, od_up (mPaK g M pl C).2 M 28 (if (mPaK g M pl C).1 < 0 then (mPaK g M pl C).2 M 28 else (mPaK g M pl C).1))
  else mPinK g M pl C (mSml (g (M + 22) 0)) (mSml (g (M + 22) 1))
set_option maxRecDepth 10000 in
theorem c_X11_obeys {E : od_E} {g : od_G} {M : Int} (hm : MoAt E M) {pl : Int → Int} {C : Int} (hI : MI g M) (hJ : MJ g M) (hF : LwF (g (M + 2)) pl C) (h18 : 0 ≤ g (M + 2) 18 ∧ g (M + 2) 18 ≤ 999) (hU : 0 ≤ g M 33 ∧ g M 33 ≤ 16) : od_Cw 49 mX11_obeys [(2, M)] E g (some (0, (mOb g M pl C).1)) (SQ M) ((mOb g M pl C).2) := by
  refine od_cqI pnX11 rfl (Nat.le_of_ble_eq_true rfl) od_le.rf ?_
  show od_Rf 49 mX11_obeys od_Z0 E (some (0, (mOb g M pl C).1)) (SQ M) ((mOb g M pl C).2) 0 [some (2, M), none, none] [] E g
  refine r_aload_n dX11_obeys_0 rfl ?_
  refine r_getR dX11_obeys_1 fkX11_97 gf11_47 (mo_o hm) (mo_r47 hm) ?_
  refine r_iconst dX11_obeys_4 li_0 ?_
  refine r_lald dX11_obeys_5 (mo_k47 hm) (by omega) rfl ?_
  refine r_callS1i dX11_obeys_6 csX11_454 (c_X11_small _) (by decide) (Nat.le_of_ble_eq_true rfl) od_le.rf ?_
  refine r_istore_n dX11_obeys_9 (by decide) rfl ?_
  refine r_aload_n dX11_obeys_10 rfl ?_
  refine r_getIj (j := 44) rfl dX11_obeys_11 fkX11_440 gf11_44 (mo_o hm) rfl ?_
  refine r_sw4 (t0 := 44) (t1 := 88) (t2 := 59) (t3 := 65) (td := 88) dX11_obeys_14 (by decide) rfl rfl rfl rfl rfl (fun c14 => ?_) (fun c14 => ?_) (fun c14 => ?_) (fun c14 => ?_) (fun c14 => ?_)
  · refine r_aload_n dX11_obeys_44 rfl ?_
    refine r_iload_n dX11_obeys_45 rfl ?_
    refine r_aload_n dX11_obeys_46 rfl ?_
    refine r_getR dX11_obeys_47 fkX11_97 gf11_47 (mo_o hm) (mo_r47 hm) ?_
    refine r_iconst dX11_obeys_50 li_1 ?_
    refine r_lald dX11_obeys_51 (mo_k47 hm) (by omega) rfl ?_
    refine r_callS1i dX11_obeys_52 csX11_454 (c_X11_small _) (by decide) (Nat.le_of_ble_eq_true rfl) od_le.rf ?_
    refine r_callV2i dX11_obeys_55 cvX11_368 (mo_o hm) (c_X11_shiftsKept hm hI hJ hU _ _) (by decide) (Nat.le_of_ble_eq_true rfl) od_le.rf ?_
    exact r_iretq dX11_obeys_58 rfl rfl ⟨by unfold mOb; rw [if_pos (by omega)], by unfold mOb; rw [if_pos (by omega)]; exact od_fr.rf⟩
  · refine r_aload_n dX11_obeys_88 rfl ?_
    refine r_iload_n dX11_obeys_89 rfl ?_
    refine r_aload_n dX11_obeys_90 rfl ?_
    refine r_getR dX11_obeys_91 fkX11_97 gf11_47 (mo_o hm) (mo_r47 hm) ?_
    refine r_iconst dX11_obeys_94 li_1 ?_
    refine r_lald dX11_obeys_95 (mo_k47 hm) (by omega) rfl ?_
    refine r_callS1i dX11_obeys_96 csX11_454 (c_X11_small _) (by decide) (Nat.le_of_ble_eq_true rfl) od_le.rf ?_
    refine r_callV2x dX11_obeys_99 cvX11_362 (mo_o hm) (c_X11_pinsKept hm hI hF hU _ _) (by decide) (Nat.le_of_ble_eq_true rfl) od_le.rf (fun g99 f99 => ?_)
    exact r_iretq dX11_obeys_102 rfl rfl ⟨by unfold mOb; rw [if_neg (by omega), if_neg (by omega), if_neg (by omega)], by unfold mOb; rw [if_neg (by omega), if_neg (by omega), if_neg (by omega)]; exact f99⟩
  · refine r_aload_n dX11_obeys_59 rfl ?_
    refine r_iload_n dX11_obeys_60 rfl ?_
    refine r_callV1i dX11_obeys_61 cvX11_371 (mo_o hm) (c_X11_stopsKept hm hI hJ hU _) (by decide) (Nat.le_of_ble_eq_true rfl) od_le.rf ?_
    exact r_iretq dX11_obeys_64 rfl rfl ⟨by unfold mOb; rw [if_neg (by omega), if_pos (by omega)], by unfold mOb; rw [if_neg (by omega), if_pos (by omega)]; exact od_fr.rf⟩
  · refine r_aload_n dX11_obeys_65 rfl ?_
    refine r_callV0x dX11_obeys_66 cvX11_374 (mo_o hm) (c_X11_passesKept hm hI hF h18 hU) (by decide) (Nat.le_of_ble_eq_true rfl) od_le.rf (fun g66 f66 => ?_)
    refine r_istore_n dX11_obeys_69 (by decide) rfl ?_
    refine r_aload_n dX11_obeys_70 rfl ?_
    refine r_iload_n dX11_obeys_71 rfl ?_
    refine r_if_ge (tgt := 82) dX11_obeys_72 rfl (fun c72 => ?_) (fun c72 => ?_)
    · refine r_iload_n dX11_obeys_82 rfl ?_
      refine r_putIj (j := 28) rfl dX11_obeys_83 fkX11_305 gf11_28 pf11_28 (mo_o hm) ?_
      refine r_iload_n dX11_obeys_86 rfl ?_
      first
      | exact r_iretq dX11_obeys_87 rfl rfl ⟨by unfold mOb; rw [if_neg (by omega), if_neg (by omega), if_pos (by omega)], by unfold mOb; rw [if_neg (by omega), if_neg (by omega), if_pos (by omega), if_pos (by omega)]; exact f66.upc (f66 _ _ (by unfold SQ; omega))⟩
      | exact r_iretq dX11_obeys_87 rfl rfl ⟨by unfold mOb; rw [if_neg (by omega), if_neg (by omega), if_pos (by omega)], by unfold mOb; rw [if_neg (by omega), if_neg (by omega), if_pos (by omega), if_neg (by omega)]; exact f66.upc rfl⟩
    · refine r_aload_n dX11_obeys_75 rfl ?_
      refine r_getIj (j := 28) rfl dX11_obeys_76 fkX11_305 gf11_28 (mo_o hm) rfl ?_
      refine r_goto (tgt := 83) dX11_obeys_79 rfl ?_
      refine r_putIj (j := 28) rfl dX11_obeys_83 fkX11_305 gf11_28 pf11_28 (mo_o hm) ?_
      refine r_iload_n dX11_obeys_86 rfl ?_
      first
      | exact r_iretq dX11_obeys_87 rfl rfl ⟨by unfold mOb; rw [if_neg (by omega), if_neg (by omega), if_pos (by omega)], by unfold mOb; rw [if_neg (by omega), if_neg (by omega), if_pos (by omega), if_pos (by omega)]; exact f66.upc (f66 _ _ (by unfold SQ; omega))⟩
      | exact r_iretq dX11_obeys_87 rfl rfl ⟨by unfold mOb; rw [if_neg (by omega), if_neg (by omega), if_pos (by omega)], by unfold mOb; rw [if_neg (by omega), if_neg (by omega), if_pos (by omega), if_neg (by omega)]; exact f66.upc rfl⟩
  · refine r_aload_n dX11_obeys_88 rfl ?_
    refine r_iload_n dX11_obeys_89 rfl ?_
    refine r_aload_n dX11_obeys_90 rfl ?_
    refine r_getR dX11_obeys_91 fkX11_97 gf11_47 (mo_o hm) (mo_r47 hm) ?_
    refine r_iconst dX11_obeys_94 li_1 ?_
    refine r_lald dX11_obeys_95 (mo_k47 hm) (by omega) rfl ?_
    refine r_callS1i dX11_obeys_96 csX11_454 (c_X11_small _) (by decide) (Nat.le_of_ble_eq_true rfl) od_le.rf ?_
    refine r_callV2x dX11_obeys_99 cvX11_362 (mo_o hm) (c_X11_pinsKept hm hI hF hU _ _) (by decide) (Nat.le_of_ble_eq_true rfl) od_le.rf (fun g99 f99 => ?_)
    exact r_iretq dX11_obeys_102 rfl rfl ⟨by unfold mOb; rw [if_neg (by omega), if_neg (by omega), if_neg (by omega)], by unfold mOb; rw [if_neg (by omega), if_neg (by omega), if_neg (by omega)]; exact f99⟩
