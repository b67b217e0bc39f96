/-! the reference: never -/
noncomputable def mNvr (T : Int → Prop) : Nat → Int
  | 0 => -1
  | n + 1 => od_ite (¬ T ((n : Int) + 1) ∧ (mNvr T n = -1 ∨ mOnes ((n : Int) + 1) 12 < mOnes (mNvr T n) 12)) ((n : Int) + 1) (mNvr T n)
theorem od_sh7b : ∀ m : Fin 7, 1 ≤ od_shl 1 (m.val : Int) ∧ od_shl 1 (m.val : Int) ≤ 64 := by decide +kernel
theorem od_sh_b {m : Int} (h : 0 ≤ m ∧ m ≤ 6) : 1 ≤ od_shl 1 m ∧ od_shl 1 m ≤ 64 := by
  have z := od_sh7b ⟨m.toNat, by omega⟩
  simp only [show ((m.toNat : Nat) : Int) = m by omega] at z
  exact z
noncomputable def mNvA (x w : Int) : Int := if x = -1 ∨ w = 1 then x else mOnes x 12
noncomputable def mNever (g : od_G) (M w : Int) : Int := mNvA (mNvr (mClo g M 6) (od_shl 1 (g (M + 2) 45) - 1).toNat) w
set_option maxRecDepth 10000 in
theorem lp_X11_never {E : od_E} {g gw : od_G} {M : Int} (hm : MoAt E M) (hI : MI g M) (hfr : od_fr (SK M) g gw) (hS : ∀ s : Int, 0 ≤ s → s < 64 → gw (M + 19) s = od_b (mClo g M 6 s)) (w : Int) : ∀ (m : Nat) (b s : Int), (1 ≤ s ∧ s ≤ od_shl 1 (g (M + 2) 45) ∧ b = mNvr (mClo g M 6) (s - 1).toNat) → ((od_shl 1 (g (M + 2) 45) - s).toNat) < m → od_Rf 6 mX11_never od_Z0 E (some (0, mNever g M w)) (SK M) g 17 [some (2, M), some (0, w), some (0, b), some (0, s)] [] E gw := by
  intro m
  induction m with
  | zero => intro b s hi hM; exact absurd hM (Nat.not_lt_zero _)
  | succ m ih =>
    intro b s hi hM
    obtain ⟨hi0, hi1, hb⟩ := hi
    have i45 := hI.1
    have e2 : gw (M + 2) = g (M + 2) := hfr.row (fun y => by unfold SK LR; omega)
    have hK := od_sh_b i45
    have hs : mNvr (mClo g M 6) (s + 1 - 1).toNat = od_ite (¬ mClo g M 6 s ∧ (b = -1 ∨ mOnes s 12 < mOnes b 12)) s b := by
      rw [show (s + 1 - 1).toNat = (s - 1).toNat + 1 by omega]
      simp only [mNvr]
      rw [show (((s - 1).toNat : Nat) : Int) + 1 = s by omega, ← hb]
    refine r_iload_n dX11_never_17 rfl ?_
    refine r_iconst dX11_never_18 li_1 ?_
    refine r_aload_n dX11_never_19 rfl ?_
    refine r_callV0i dX11_never_20 cvX11_112 (mo_o hm) (c_X11_drumMany hm) (by decide) (Nat.le_of_ble_eq_true rfl) od_le.rf ?_
    rw [e2]
    refine r_ishl dX11_never_23 ?_
    refine r_icmp_ge (tgt := 60) dX11_never_24 rfl (fun c24 => ?_) (fun c24 => ?_)
    · refine r_iload_n dX11_never_60 rfl ?_
      refine r_iconst dX11_never_61 li_m1 ?_
      refine r_icmp_eq (tgt := 70) dX11_never_62 rfl (fun c62 => ?_) (fun c62 => ?_)
      · refine r_iload_n dX11_never_70 rfl ?_
        refine r_goto (tgt := 78) dX11_never_71 rfl ?_
        exact r_iretq dX11_never_78 rfl rfl ⟨by unfold mNever mNvA; rw [show od_shl 1 (g (M + 2) 45) = s by omega, ← hb]; first | rw [if_pos (by omega)] | rw [if_neg (by omega)], hfr⟩
      · refine r_iload_n dX11_never_65 rfl ?_
        refine r_iconst dX11_never_66 li_1 ?_
        refine r_icmp_ne (tgt := 74) dX11_never_67 rfl (fun c67 => ?_) (fun c67 => ?_)
        · refine r_iload_n dX11_never_74 rfl ?_
          refine r_callS1i dX11_never_75 csX11_299 (c_X11_ones _) (by decide) (Nat.le_of_ble_eq_true rfl) od_le.rf ?_
          exact r_iretq dX11_never_78 rfl rfl ⟨by unfold mNever mNvA; rw [show od_shl 1 (g (M + 2) 45) = s by omega, ← hb]; first | rw [if_pos (by omega)] | rw [if_neg (by omega)], hfr⟩
        · refine r_iload_n dX11_never_70 rfl ?_
          refine r_goto (tgt := 78) dX11_never_71 rfl ?_
          exact r_iretq dX11_never_78 rfl rfl ⟨by unfold mNever mNvA; rw [show od_shl 1 (g (M + 2) 45) = s by omega, ← hb]; first | rw [if_pos (by omega)] | rw [if_neg (by omega)], hfr⟩
    · refine r_aload_n dX11_never_27 rfl ?_
      refine r_getR dX11_never_28 fkX11_84 gf11_38 (mo_o hm) (mo_r38 hm) ?_
      refine r_iload_n dX11_never_31 rfl ?_
      refine r_zald dX11_never_32 (mo_k38 hm) (by omega) (by first | exact hS s (by omega) (by omega) | rfl) ?_
      refine r_if_ne (tgt := 54) dX11_never_33 rfl (fun c33 => ?_) (fun c33 => ?_)
      · refine r_iincE dX11_never_54 rfl (by decide) (by first | exact od_w0 (by omega) (by omega) | exact od_wI (by omega) (by omega) | rfl) rfl ?_
        refine r_goto (tgt := 17) dX11_never_57 rfl ?_
        first
        | (have z1 : od_b (mClo g M 6 s) ≠ 0 := by assumption
           rw [od_ite_f (fun z => z.1 (od_b_y z1))] at hs
           exact ih _ _ ⟨by omega, by omega, hs.symm⟩ (by omega))
        | (have z1 : od_b (mClo g M 6 s) = 0 := by assumption
           have z2 : b = -1 ∨ mOnes s 12 < mOnes b 12 := by omega
           rw [od_ite_t ⟨od_b_n z1, z2⟩] at hs
           exact ih _ _ ⟨by omega, by omega, hs.symm⟩ (by omega))
        | (have z2 : ¬ (b = -1 ∨ mOnes s 12 < mOnes b 12) := by omega
           rw [od_ite_f (fun z => z2 z.2)] at hs
           exact ih _ _ ⟨by omega, by omega, hs.symm⟩ (by omega))
      · refine r_iload_n dX11_never_36 rfl ?_
        refine r_iconst dX11_never_37 li_m1 ?_
        refine r_icmp_eq (tgt := 52) dX11_never_38 rfl (fun c38 => ?_) (fun c38 => ?_)
        · refine r_iload_n dX11_never_52 rfl ?_
          refine r_istore_n dX11_never_53 (by decide) rfl ?_
          refine r_iincE dX11_never_54 rfl (by decide) (by first | exact od_w0 (by omega) (by omega) | exact od_wI (by omega) (by omega) | rfl) rfl ?_
          refine r_goto (tgt := 17) dX11_never_57 rfl ?_
          first
          | (have z1 : od_b (mClo g M 6 s) ≠ 0 := by assumption
             rw [od_ite_f (fun z => z.1 (od_b_y z1))] at hs
             exact ih _ _ ⟨by omega, by omega, hs.symm⟩ (by omega))
          | (have z1 : od_b (mClo g M 6 s) = 0 := by assumption
             have z2 : b = -1 ∨ mOnes s 12 < mOnes b 12 := by omega
             rw [od_ite_t ⟨od_b_n z1, z2⟩] at hs
             exact ih _ _ ⟨by omega, by omega, hs.symm⟩ (by omega))
          | (have z2 : ¬ (b = -1 ∨ mOnes s 12 < mOnes b 12) := by omega
             rw [od_ite_f (fun z => z2 z.2)] at hs
             exact ih _ _ ⟨by omega, by omega, hs.symm⟩ (by omega))
        · refine r_iload_n dX11_never_41 rfl ?_
          refine r_callS1i dX11_never_42 csX11_299 (c_X11_ones _) (by decide) (Nat.le_of_ble_eq_true rfl) od_le.rf ?_
          refine r_iload_n dX11_never_45 rfl ?_
          refine r_callS1i dX11_never_46 csX11_299 (c_X11_ones _) (by decide) (Nat.le_of_ble_eq_true rfl) od_le.rf ?_
          refine r_icmp_ge (tgt := 54) dX11_never_49 rfl (fun c49 => ?_) (fun c49 => ?_)
          · refine r_iincE dX11_never_54 rfl (by decide) (by first | exact od_w0 (by omega) (by omega) | exact od_wI (by omega) (by omega) | rfl) rfl ?_
            refine r_goto (tgt := 17) dX11_never_57 rfl ?_
            first
            | (have z1 : od_b (mClo g M 6 s) ≠ 0 := by assumption
               rw [od_ite_f (fun z => z.1 (od_b_y z1))] at hs
               exact ih _ _ ⟨by omega, by omega, hs.symm⟩ (by omega))
            | (have z1 : od_b (mClo g M 6 s) = 0 := by assumption
               have z2 : b = -1 ∨ mOnes s 12 < mOnes b 12 := by omega
               rw [od_ite_t ⟨od_b_n z1, z2⟩] at hs
               exact ih _ _ ⟨by omega, by omega, hs.symm⟩ (by omega))
            | (have z2 : ¬ (b = -1 ∨ mOnes s 12 < mOnes b 12) := by omega
               rw [od_ite_f (fun z => z2 z.2)] at hs
               exact ih _ _ ⟨by omega, by omega, hs.symm⟩ (by omega))
          · refine r_iload_n dX11_never_52 rfl ?_
            refine r_istore_n dX11_never_53 (by decide) rfl ?_
            refine r_iincE dX11_never_54 rfl (by decide) (by first | exact od_w0 (by omega) (by omega) | exact od_wI (by omega) (by omega) | rfl) rfl ?_
            refine r_goto (tgt := 17) dX11_never_57 rfl ?_
            first
            | (have z1 : od_b (mClo g M 6 s) ≠ 0 := by assumption
               rw [od_ite_f (fun z => z.1 (od_b_y z1))] at hs
               exact ih _ _ ⟨by omega, by omega, hs.symm⟩ (by omega))
            | (have z1 : od_b (mClo g M 6 s) = 0 := by assumption
               have z2 : b = -1 ∨ mOnes s 12 < mOnes b 12 := by omega
               rw [od_ite_t ⟨od_b_n z1, z2⟩] at hs
               exact ih _ _ ⟨by omega, by omega, hs.symm⟩ (by omega))
            | (have z2 : ¬ (b = -1 ∨ mOnes s 12 < mOnes b 12) := by omega
               rw [od_ite_f (fun z => z2 z.2)] at hs
               exact ih _ _ ⟨by omega, by omega, hs.symm⟩ (by omega))
set_option maxRecDepth 10000 in
theorem c_X11_never {E : od_E} {g : od_G} {M : Int} (hm : MoAt E M) (hI : MI g M) (w : Int) : od_Cf 6 mX11_never [(2, M), (0, w)] E g (some (0, od_ite (mLies w 0 1) (mNever g M w) (-1))) (SK M) := by
  refine od_cqI pnX11 rfl (Nat.le_of_ble_eq_true rfl) od_le.rf ?_
  show od_Rf 6 mX11_never od_Z0 E (some (0, od_ite (mLies w 0 1) (mNever g M w) (-1))) (SK M) g 0 [some (2, M), some (0, w), none, none] [] E g
  refine r_iload_n dX11_never_0 rfl ?_
  refine r_callS1b dX11_never_1 csX11_392 (c_X11_isBit _) (by decide) (Nat.le_of_ble_eq_true rfl) od_le.rf (fun q1 => ?_) (fun q1 => ?_)
  · refine r_if_ne (tgt := 9) dX11_never_4 rfl (fun _ => ?_) (fun h => absurd h (by decide))
    refine r_aload_n dX11_never_9 rfl ?_
    refine r_callV0p dX11_never_10 cvX11_401 (mo_o hm) (c_X11_laysStrike hm hI) (by decide) (Nat.le_of_ble_eq_true rfl) od_le.rf (fun r10 g10 h10 => ?_)
    obtain ⟨rfl, f10, k10, s10⟩ := h10
    show od_Rq _ _ _ _ _ _ _ [] _ _
    refine r_iconst dX11_never_13 li_m1 ?_
    refine r_istore_n dX11_never_14 (by decide) rfl ?_
    refine r_iconst dX11_never_15 li_1 ?_
    refine r_istore_n dX11_never_16 (by decide) rfl ?_
    have hK := od_sh_b hI.1
    rw [od_ite_t (by assumption)]
    exact lp_X11_never hm hI f10 s10 w _ _ _ ⟨by omega, by omega, rfl⟩ (Nat.lt_succ_self _)
  · refine r_if_ne (tgt := 9) dX11_never_4 rfl (fun h => absurd h (by decide)) (fun _ => ?_)
    refine r_iconst dX11_never_7 li_m1 ?_
    exact r_iretq dX11_never_8 rfl rfl ⟨by rw [od_ite_f (by assumption)], od_fr.rf⟩
