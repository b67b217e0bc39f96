/-- what the reference's streets always keep to -/
def MI (g : od_G) (M : Int) : Prop := (0 ≤ g (M + 2) 45 ∧ g (M + 2) 45 ≤ 6) ∧ ∀ d : Int, 0 ≤ d → d < g (M + 2) 45 → 1 ≤ g (M + 2) (19 + d) ∧ g (M + 2) (19 + d) ≤ 12
def mFine (g : od_G) (M : Int) : Prop := g M 21 = -1
noncomputable def mFaults (g : od_G) (M : Int) : od_G := if g M 21 = -1 then od_up g M 21 (g (M + 11) (g M 19)) else g
def mTk (g : od_G) (M c : Int) : Prop := g M 21 = -1 ∧ g (M + 9) (g M 19) = c
def mNext (g : od_G) (M : Int) : od_G := od_up g M 19 (g M 19 + 1)
noncomputable def mTakes (g : od_G) (M c : Int) : Int × od_G := od_ip (mTk g M c) (1, mNext g M) (0, g)
noncomputable def mMust (g : od_G) (M c : Int) : od_G := (od_ip (mTk g M c) (1, mNext g M) (0, mFaults g M)).2
def mIsLaw (g : od_G) (M l : Int) : Prop := mLies l (-1) (g (M + 2) 47 - 1)
noncomputable def mForce (g : od_G) (M l : Int) : Int × od_G := od_ip (mIsLaw g M l) (g (M + 2) 48, mGood (od_up g (M + 2) 48 l) M) (-2, mRef g M (-2))
def mForget (g : od_G) (M : Int) : od_G := od_up g (M + 2) 46 0
noncomputable def mHeard (g : od_G) (M h i : Int) : Int × od_G := od_ip (mLies h 0 99 ∧ mLies i 0 1) (od_ip (g (M + 2) 46 = 6) (-5, mRef g M (-5)) (g (M + 2) 46 + 1, mGood (od_up (od_up (od_up g (M + 2) (31 + 2 * g (M + 2) 46) h) (M + 2) (31 + 2 * g (M + 2) 46 + 1) i) (M + 2) 46 (g (M + 2) 46 + 1)) M)) (-1, mRef g M (-1))
def mLay (g : od_G) (M k : Int) : od_G := od_cq g (M + 5) (19 * k) (M + 2) 0 19
def mTake (g : od_G) (M k : Int) : od_G := od_cq g (M + 2) 0 (M + 5) (19 * k) 19
noncomputable def mImage (g : od_G) (M k : Int) : Int × od_G := od_ip (mLies k 0 1) (0, mGood (od_up (od_cq g (M + 3) (5656 * k) (M + 2) 0 5656) (M + 4) k 1) M) (-1, mRef g M (-1))
noncomputable def mBack (g : od_G) (M k : Int) : Int × od_G := od_ip (mLies k 0 1) (od_ip (g (M + 4) k = 0) (-2, mRef g M (-2)) (0, mSet (od_cq g (M + 2) 0 (M + 3) (5656 * k) 5656) M)) (-1, mRef g M (-1))
theorem od_cq_s (g : od_G) {a o b f i : Int} (h0 : 0 ≤ i) (hab : a ≠ b) : od_up (od_cq g a o b f i) a (o + i) (od_cq g a o b f i b (f + i)) = od_cq g a o b f (i + 1) := by
  funext x y
  simp only [od_up, od_cq]
  grind (splits := 30)
set_option maxRecDepth 10000 in
theorem c_X11_isSmall {E : od_E} {g : od_G} (b : Int) : od_Ct 1 mX11_isSmall [(0, b)] E g (some (0, od_b (97 ≤ b ∧ b ≤ 122)), E, g) := by
  refine od_ctI pnX11 rfl (Nat.le_of_ble_eq_true rfl) od_le.rf ?_
  show od_R _ _ _ _ _ 0 [some (0, b)] [] E g
  refine r_iload_n dX11_isSmall_0 rfl ?_
  refine r_bipush dX11_isSmall_1 lb_97 ?_
  refine r_icmp_lt (tgt := 16) dX11_isSmall_3 rfl (fun c3 => ?_) (fun c3 => ?_)
  · refine r_iconst dX11_isSmall_16 li_0 ?_
    exact r_zret (v := 0) dX11_isSmall_17 rfl od_nz0 (od_lt0 (by omega))
  · refine r_iload_n dX11_isSmall_6 rfl ?_
    refine r_bipush dX11_isSmall_7 lb_122 ?_
    refine r_icmp_gt (tgt := 16) dX11_isSmall_9 rfl (fun c9 => ?_) (fun c9 => ?_)
    · refine r_iconst dX11_isSmall_16 li_0 ?_
      exact r_zret (v := 0) dX11_isSmall_17 rfl od_nz0 (od_lt0 (by omega))
    · refine r_iconst dX11_isSmall_12 li_1 ?_
      refine r_goto (tgt := 17) dX11_isSmall_13 rfl ?_
      exact r_zret (v := 1) dX11_isSmall_17 rfl od_nz1 (od_lt1 (by omega))
set_option maxRecDepth 10000 in
theorem c_X11_isDigit {E : od_E} {g : od_G} (b : Int) : od_Ct 1 mX11_isDigit [(0, b)] E g (some (0, od_b (48 ≤ b ∧ b ≤ 57)), E, g) := by
  refine od_ctI pnX11 rfl (Nat.le_of_ble_eq_true rfl) od_le.rf ?_
  show od_R _ _ _ _ _ 0 [some (0, b)] [] E g
  refine r_iload_n dX11_isDigit_0 rfl ?_
  refine r_bipush dX11_isDigit_1 lb_48 ?_
  refine r_icmp_lt (tgt := 16) dX11_isDigit_3 rfl (fun c3 => ?_) (fun c3 => ?_)
  · refine r_iconst dX11_isDigit_16 li_0 ?_
    exact r_zret (v := 0) dX11_isDigit_17 rfl od_nz0 (od_lt0 (by omega))
  · refine r_iload_n dX11_isDigit_6 rfl ?_
    refine r_bipush dX11_isDigit_7 lb_57 ?_
    refine r_icmp_gt (tgt := 16) dX11_isDigit_9 rfl (fun c9 => ?_) (fun c9 => ?_)
    · refine r_iconst dX11_isDigit_16 li_0 ?_
      exact r_zret (v := 0) dX11_isDigit_17 rfl od_nz0 (od_lt0 (by omega))
    · refine r_iconst dX11_isDigit_12 li_1 ?_
      refine r_goto (tgt := 17) dX11_isDigit_13 rfl ?_
      exact r_zret (v := 1) dX11_isDigit_17 rfl od_nz1 (od_lt1 (by omega))
set_option maxRecDepth 10000 in
theorem c_X11_fine {E : od_E} {g : od_G} {M : Int} (hm : MoAt E M) : od_Ct 1 mX11_fine [(2, M)] E g (some (0, od_b (mFine g M)), E, g) := by
  refine od_ctI pnX11 rfl (Nat.le_of_ble_eq_true rfl) od_le.rf ?_
  show od_R _ _ _ _ _ 0 [some (2, M)] [] E g
  refine r_aload_n dX11_fine_0 rfl ?_
  refine r_getIj (j := 21) rfl dX11_fine_1 fkX11_170 gf11_21 (mo_o hm) (by (repeat (first | rewrite [od_upn (by omega)] | rewrite [od_up_at, if_pos (by omega)] | rewrite [od_up_at, if_neg (by omega)])); rfl) ?_
  refine r_iconst dX11_fine_4 li_m1 ?_
  refine r_icmp_ne (tgt := 12) dX11_fine_5 rfl (fun c5 => ?_) (fun c5 => ?_)
  · refine r_iconst dX11_fine_12 li_0 ?_
    exact r_zret (v := 0) dX11_fine_13 rfl od_nz0 (od_lt0 (by unfold mFine; assumption))
  · refine r_iconst dX11_fine_8 li_1 ?_
    refine r_goto (tgt := 13) dX11_fine_9 rfl ?_
    exact r_zret (v := 1) dX11_fine_13 rfl od_nz1 (od_lt1 (by unfold mFine; assumption))
set_option maxRecDepth 10000 in
theorem c_X11_faults {E : od_E} {g : od_G} {M : Int} (hm : MoAt E M) (ht : 0 ≤ g M 19 ∧ g M 19 ≤ 400) : od_Ct 2 mX11_faults [(2, M)] E g (none, E, mFaults g M) := by
  refine od_ctI pnX11 rfl (Nat.le_of_ble_eq_true rfl) od_le.rf ?_
  show od_R _ _ _ _ _ 0 [some (2, M)] [] E g
  refine r_aload_n dX11_faults_0 rfl ?_
  refine r_callV0b dX11_faults_1 cvX11_173 (mo_o hm) (c_X11_fine hm) (by decide) (Nat.le_of_ble_eq_true rfl) od_le.rf (fun q1 => ?_) (fun q1 => ?_)
  · refine r_if_eq (tgt := 20) dX11_faults_4 rfl (fun h => absurd h (by decide)) (fun _ => ?_)
    refine r_aload_n dX11_faults_7 rfl ?_
    refine r_aload_n dX11_faults_8 rfl ?_
    refine r_getR dX11_faults_9 fkX11_60 gf11_17 (mo_o hm) (mo_r17 hm) ?_
    refine r_aload_n dX11_faults_12 rfl ?_
    refine r_getIj (j := 19) rfl dX11_faults_13 fkX11_177 gf11_19 (mo_o hm) (by (repeat (first | rewrite [od_upn (by omega)] | rewrite [od_up_at, if_pos (by omega)] | rewrite [od_up_at, if_neg (by omega)])); rfl) ?_
    refine r_iald dX11_faults_16 (mo_k17 hm) (by omega) (by (repeat (first | rewrite [od_upn (by omega)] | rewrite [od_up_at, if_pos (by omega)] | rewrite [od_up_at, if_neg (by omega)])); rfl) ?_
    refine r_putIj (j := 21) rfl dX11_faults_17 fkX11_170 gf11_21 pf11_21 (mo_o hm) ?_
    exact r_vret dX11_faults_20 rfl (by unfold mFaults mFine at *; first | rw [if_pos (by assumption)] | rw [if_neg (by assumption)])
  · refine r_if_eq (tgt := 20) dX11_faults_4 rfl (fun _ => ?_) (fun h => absurd h (by decide))
    exact r_vret dX11_faults_20 rfl (by unfold mFaults mFine at *; first | rw [if_pos (by assumption)] | rw [if_neg (by assumption)])
set_option maxRecDepth 10000 in
theorem c_X11_takes0 {E : od_E} {g : od_G} {M : Int} (hm : MoAt E M) (ht : 0 ≤ g M 19 ∧ g M 19 ≤ 400) (c : Int) : od_Ct 2 mX11_takes0 [(2, M), (0, c)] E g (some (0, (mTakes g M c).1), E, (mTakes g M c).2) := by
  refine od_ctI pnX11 rfl (Nat.le_of_ble_eq_true rfl) od_le.rf ?_
  show od_R _ _ _ _ _ 0 [some (2, M), some (0, c), none] [] E g
  refine r_aload_n dX11_takes0_0 rfl ?_
  refine r_callV0b dX11_takes0_1 cvX11_173 (mo_o hm) (c_X11_fine hm) (by decide) (Nat.le_of_ble_eq_true rfl) od_le.rf (fun q1 => ?_) (fun q1 => ?_)
  · refine r_if_eq (tgt := 24) dX11_takes0_4 rfl (fun h => absurd h (by decide)) (fun _ => ?_)
    refine r_aload_n dX11_takes0_7 rfl ?_
    refine r_getR dX11_takes0_8 fkX11_54 gf11_15 (mo_o hm) (mo_r15 hm) ?_
    refine r_aload_n dX11_takes0_11 rfl ?_
    refine r_getIj (j := 19) rfl dX11_takes0_12 fkX11_177 gf11_19 (mo_o hm) (by (repeat (first | rewrite [od_upn (by omega)] | rewrite [od_up_at, if_pos (by omega)] | rewrite [od_up_at, if_neg (by omega)])); rfl) ?_
    refine r_iald dX11_takes0_15 (mo_k15 hm) (by omega) (by (repeat (first | rewrite [od_upn (by omega)] | rewrite [od_up_at, if_pos (by omega)] | rewrite [od_up_at, if_neg (by omega)])); rfl) ?_
    refine r_iload_n dX11_takes0_16 rfl ?_
    refine r_icmp_ne (tgt := 24) dX11_takes0_17 rfl (fun c17 => ?_) (fun c17 => ?_)
    · refine r_iconst dX11_takes0_24 li_0 ?_
      refine r_istore_n dX11_takes0_25 (by decide) rfl ?_
      refine r_iload_n dX11_takes0_26 rfl ?_
      refine r_if_eq (tgt := 40) dX11_takes0_27 rfl (fun _ => ?_) (fun h => absurd h (by decide))
      refine r_iload_n dX11_takes0_40 rfl ?_
      exact r_zret dX11_takes0_41 rfl od_nz0 (by unfold mTakes mTk mFine at *; first | rw [od_ip_f (by grind)] | (rw [od_ip_t (by grind)]; rfl))
    · refine r_iconst dX11_takes0_20 li_1 ?_
      refine r_goto (tgt := 25) dX11_takes0_21 rfl ?_
      refine r_istore_n dX11_takes0_25 (by decide) rfl ?_
      refine r_iload_n dX11_takes0_26 rfl ?_
      refine r_if_eq (tgt := 40) dX11_takes0_27 rfl (fun h => absurd h (by decide)) (fun _ => ?_)
      refine r_aload_n dX11_takes0_30 rfl ?_
      refine r_dup dX11_takes0_31 (by first | exact od_ne2 | exact od_ne0) ?_
      refine r_getIj (j := 19) rfl dX11_takes0_32 fkX11_177 gf11_19 (mo_o hm) (by (repeat (first | rewrite [od_upn (by omega)] | rewrite [od_up_at, if_pos (by omega)] | rewrite [od_up_at, if_neg (by omega)])); rfl) ?_
      refine r_iconst dX11_takes0_35 li_1 ?_
      refine r_iaddE dX11_takes0_36 (by first | exact od_w0 (by omega) (by omega) | exact od_wI (by omega) (by omega) | rfl) ?_
      refine r_putIj (j := 19) rfl dX11_takes0_37 fkX11_177 gf11_19 pf11_19 (mo_o hm) ?_
      refine r_iload_n dX11_takes0_40 rfl ?_
      exact r_zret dX11_takes0_41 rfl od_nz1 (by unfold mTakes mTk mFine at *; first | rw [od_ip_f (by grind)] | (rw [od_ip_t (by grind)]; rfl))
  · refine r_if_eq (tgt := 24) dX11_takes0_4 rfl (fun _ => ?_) (fun h => absurd h (by decide))
    refine r_iconst dX11_takes0_24 li_0 ?_
    refine r_istore_n dX11_takes0_25 (by decide) rfl ?_
    refine r_iload_n dX11_takes0_26 rfl ?_
    refine r_if_eq (tgt := 40) dX11_takes0_27 rfl (fun _ => ?_) (fun h => absurd h (by decide))
    refine r_iload_n dX11_takes0_40 rfl ?_
    exact r_zret dX11_takes0_41 rfl od_nz0 (by unfold mTakes mTk mFine at *; first | rw [od_ip_f (by grind)] | (rw [od_ip_t (by grind)]; rfl))
set_option maxRecDepth 10000 in
theorem c_X11_isLaw {E : od_E} {g : od_G} {M : Int} (hm : MoAt E M) (h47 : 0 ≤ g (M + 2) 47 ∧ g (M + 2) 47 ≤ 6) (l : Int) : od_Ct 2 mX11_isLaw [(2, M), (0, l)] E g (some (0, od_b (mIsLaw g M l)), E, g) := by
  refine od_ctI pnX11 rfl (Nat.le_of_ble_eq_true rfl) od_le.rf ?_
  show od_R _ _ _ _ _ 0 [some (2, M), some (0, l)] [] E g
  refine r_iload_n dX11_isLaw_0 rfl ?_
  refine r_iconst dX11_isLaw_1 li_m1 ?_
  refine r_aload_n dX11_isLaw_2 rfl ?_
  refine r_getR dX11_isLaw_3 fkX11_28 gf11_2 (mo_o hm) (mo_r2 hm) ?_
  refine r_bipush dX11_isLaw_6 lb_47 ?_
  refine r_iald dX11_isLaw_8 (mo_k2 hm) (by omega) (by (repeat (first | rewrite [od_upn (by omega)] | rewrite [od_up_at, if_pos (by omega)] | rewrite [od_up_at, if_neg (by omega)])); rfl) ?_
  refine r_iconst dX11_isLaw_9 li_1 ?_
  refine r_isubE dX11_isLaw_10 (by first | exact od_w0 (by omega) (by omega) | exact od_wI (by omega) (by omega) | rfl) ?_
  refine r_callS3b dX11_isLaw_11 csX11_18 (c_X11_lies _ _ _) (by decide) (Nat.le_of_ble_eq_true rfl) od_le.rf (fun q11 => ?_) (fun q11 => ?_)
  · exact r_zret (v := 1) dX11_isLaw_14 rfl od_nz1 (od_lt1 (by unfold mIsLaw; assumption))
  · exact r_zret (v := 0) dX11_isLaw_14 rfl od_nz0 (od_lt0 (by unfold mIsLaw; assumption))
set_option maxRecDepth 10000 in
theorem c_X11_force {E : od_E} {g : od_G} {M : Int} (hm : MoAt E M) (h47 : 0 ≤ g (M + 2) 47 ∧ g (M + 2) 47 ≤ 6) (l : Int) : od_Ct 3 mX11_force [(2, M), (0, l)] E g (some (0, (mForce g M l).1), E, (mForce g M l).2) := by
  refine od_ctI pnX11 rfl (Nat.le_of_ble_eq_true rfl) od_le.rf ?_
  show od_R _ _ _ _ _ 0 [some (2, M), some (0, l), none] [] E g
  refine r_aload_n dX11_force_0 rfl ?_
  refine r_iload_n dX11_force_1 rfl ?_
  refine r_callV1b dX11_force_2 cvX11_257 (mo_o hm) (c_X11_isLaw hm (by assumption) _) (by decide) (Nat.le_of_ble_eq_true rfl) od_le.rf (fun q2 => ?_) (fun q2 => ?_)
  · refine r_if_ne (tgt := 15) dX11_force_5 rfl (fun _ => ?_) (fun h => absurd h (by decide))
    refine r_aload_n dX11_force_15 rfl ?_
    refine r_getR dX11_force_16 fkX11_28 gf11_2 (mo_o hm) (mo_r2 hm) ?_
    refine r_bipush dX11_force_19 lb_48 ?_
    refine r_iald dX11_force_21 (mo_k2 hm) (by omega) (by (repeat (first | rewrite [od_upn (by omega)] | rewrite [od_up_at, if_pos (by omega)] | rewrite [od_up_at, if_neg (by omega)])); rfl) ?_
    refine r_istore_n dX11_force_22 (by decide) rfl ?_
    refine r_aload_n dX11_force_23 rfl ?_
    refine r_getR dX11_force_24 fkX11_28 gf11_2 (mo_o hm) (mo_r2 hm) ?_
    refine r_bipush dX11_force_27 lb_48 ?_
    refine r_iload_n dX11_force_29 rfl ?_
    refine r_iast dX11_force_30 (mo_k2 hm) (by omega) ?_
    refine r_aload_n dX11_force_31 rfl ?_
    refine r_iload_n dX11_force_32 rfl ?_
    refine r_callV1i dX11_force_33 cvX11_14 (mo_o hm) (c_X11_good hm _) (by decide) (Nat.le_of_ble_eq_true rfl) od_le.rf ?_
    exact r_iret dX11_force_36 rfl (by unfold mForce; first | rw [od_ip_f (by assumption)] | rw [od_ip_t (by assumption)])
  · refine r_if_ne (tgt := 15) dX11_force_5 rfl (fun h => absurd h (by decide)) (fun _ => ?_)
    refine r_aload_n dX11_force_8 rfl ?_
    refine r_bipush dX11_force_9 lb_m2 ?_
    refine r_callV1i dX11_force_11 cvX11_106 (mo_o hm) (c_X11_refuses hm _ (by omega)) (by decide) (Nat.le_of_ble_eq_true rfl) od_le.rf ?_
    exact r_iret dX11_force_14 rfl (by unfold mForce; first | rw [od_ip_f (by assumption)] | rw [od_ip_t (by assumption)])
set_option maxRecDepth 10000 in
theorem c_X11_forget {E : od_E} {g : od_G} {M : Int} (hm : MoAt E M) : od_Ct 1 mX11_forget [(2, M)] E g (some (0, g (M + 2) 46), E, mForget g M) := by
  refine od_ctI pnX11 rfl (Nat.le_of_ble_eq_true rfl) od_le.rf ?_
  show od_R _ _ _ _ _ 0 [some (2, M), none] [] E g
  refine r_aload_n dX11_forget_0 rfl ?_
  refine r_getR dX11_forget_1 fkX11_28 gf11_2 (mo_o hm) (mo_r2 hm) ?_
  refine r_bipush dX11_forget_4 lb_46 ?_
  refine r_iald dX11_forget_6 (mo_k2 hm) (by omega) (by (repeat (first | rewrite [od_upn (by omega)] | rewrite [od_up_at, if_pos (by omega)] | rewrite [od_up_at, if_neg (by omega)])); rfl) ?_
  refine r_istore_n dX11_forget_7 (by decide) rfl ?_
  refine r_aload_n dX11_forget_8 rfl ?_
  refine r_getR dX11_forget_9 fkX11_28 gf11_2 (mo_o hm) (mo_r2 hm) ?_
  refine r_bipush dX11_forget_12 lb_46 ?_
  refine r_iconst dX11_forget_14 li_0 ?_
  refine r_iast dX11_forget_15 (mo_k2 hm) (by omega) ?_
  refine r_iload_n dX11_forget_16 rfl ?_
  exact r_iret dX11_forget_17 rfl (by rfl)
set_option maxRecDepth 10000 in
theorem c_X11_heard {E : od_E} {g : od_G} {M : Int} (hm : MoAt E M) (h46 : 0 ≤ g (M + 2) 46 ∧ g (M + 2) 46 ≤ 6) (h i : Int) : od_Ct 3 mX11_heard [(2, M), (0, h), (0, i)] E g (some (0, (mHeard g M h i).1), E, (mHeard g M h i).2) := by
  refine od_ctI pnX11 rfl (Nat.le_of_ble_eq_true rfl) od_le.rf ?_
  show od_R _ _ _ _ _ 0 [some (2, M), some (0, h), some (0, i), none] [] E g
  refine r_iload_n dX11_heard_0 rfl ?_
  refine r_iconst dX11_heard_1 li_0 ?_
  refine r_bipush dX11_heard_2 lb_99 ?_
  refine r_callS3b dX11_heard_4 csX11_18 (c_X11_lies _ _ _) (by decide) (Nat.le_of_ble_eq_true rfl) od_le.rf (fun q4 => ?_) (fun q4 => ?_)
  · refine r_if_eq (tgt := 17) dX11_heard_7 rfl (fun h => absurd h (by decide)) (fun _ => ?_)
    refine r_iload_n dX11_heard_10 rfl ?_
    refine r_callS1b dX11_heard_11 csX11_392 (c_X11_isBit _) (by decide) (Nat.le_of_ble_eq_true rfl) od_le.rf (fun q11 => ?_) (fun q11 => ?_)
    · refine r_if_ne (tgt := 23) dX11_heard_14 rfl (fun _ => ?_) (fun h => absurd h (by decide))
      refine r_bipush dX11_heard_23 lb_31 ?_
      refine r_iconst dX11_heard_25 li_2 ?_
      refine r_aload_n dX11_heard_26 rfl ?_
      refine r_getR dX11_heard_27 fkX11_28 gf11_2 (mo_o hm) (mo_r2 hm) ?_
      refine r_bipush dX11_heard_30 lb_46 ?_
      refine r_iald dX11_heard_32 (mo_k2 hm) (by omega) (by (repeat (first | rewrite [od_upn (by omega)] | rewrite [od_up_at, if_pos (by omega)] | rewrite [od_up_at, if_neg (by omega)])); rfl) ?_
      refine r_imulE dX11_heard_33 (by first | exact od_w0 (by omega) (by omega) | exact od_wI (by omega) (by omega) | rfl) ?_
      refine r_iaddE dX11_heard_34 (by first | exact od_w0 (by omega) (by omega) | exact od_wI (by omega) (by omega) | rfl) ?_
      refine r_istore_n dX11_heard_35 (by decide) rfl ?_
      refine r_aload_n dX11_heard_36 rfl ?_
      refine r_getR dX11_heard_37 fkX11_28 gf11_2 (mo_o hm) (mo_r2 hm) ?_
      refine r_bipush dX11_heard_40 lb_46 ?_
      refine r_iald dX11_heard_42 (mo_k2 hm) (by omega) (by (repeat (first | rewrite [od_upn (by omega)] | rewrite [od_up_at, if_pos (by omega)] | rewrite [od_up_at, if_neg (by omega)])); rfl) ?_
      refine r_bipush dX11_heard_43 lb_6 ?_
      refine r_icmp_ne (tgt := 55) dX11_heard_45 rfl (fun c45 => ?_) (fun c45 => ?_)
      · refine r_aload_n dX11_heard_55 rfl ?_
        refine r_getR dX11_heard_56 fkX11_28 gf11_2 (mo_o hm) (mo_r2 hm) ?_
        refine r_iload_n dX11_heard_59 rfl ?_
        refine r_iload_n dX11_heard_60 rfl ?_
        refine r_iast dX11_heard_61 (mo_k2 hm) (by omega) ?_
        refine r_aload_n dX11_heard_62 rfl ?_
        refine r_getR dX11_heard_63 fkX11_28 gf11_2 (mo_o hm) (mo_r2 hm) ?_
        refine r_iload_n dX11_heard_66 rfl ?_
        refine r_iconst dX11_heard_67 li_1 ?_
        refine r_iaddE dX11_heard_68 (by first | exact od_w0 (by omega) (by omega) | exact od_wI (by omega) (by omega) | rfl) ?_
        refine r_iload_n dX11_heard_69 rfl ?_
        refine r_iast dX11_heard_70 (mo_k2 hm) (by omega) ?_
        refine r_aload_n dX11_heard_71 rfl ?_
        refine r_getR dX11_heard_72 fkX11_28 gf11_2 (mo_o hm) (mo_r2 hm) ?_
        refine r_bipush dX11_heard_75 lb_46 ?_
        refine r_dup2 dX11_heard_77 (by first | exact od_ne2 | exact od_ne0) (by first | exact od_ne2 | exact od_ne0) ?_
        refine r_iald dX11_heard_78 (mo_k2 hm) (by omega) (by (repeat (first | rewrite [od_upn (by omega)] | rewrite [od_up_at, if_pos (by omega)] | rewrite [od_up_at, if_neg (by omega)])); rfl) ?_
        refine r_iconst dX11_heard_79 li_1 ?_
        refine r_iaddE dX11_heard_80 (by first | exact od_w0 (by omega) (by omega) | exact od_wI (by omega) (by omega) | rfl) ?_
        refine r_iast dX11_heard_81 (mo_k2 hm) (by omega) ?_
        refine r_aload_n dX11_heard_82 rfl ?_
        refine r_aload_n dX11_heard_83 rfl ?_
        refine r_getR dX11_heard_84 fkX11_28 gf11_2 (mo_o hm) (mo_r2 hm) ?_
        refine r_bipush dX11_heard_87 lb_46 ?_
        refine r_iald dX11_heard_89 (mo_k2 hm) (by omega) (by (repeat (first | rewrite [od_upn (by omega)] | rewrite [od_up_at, if_pos (by omega)] | rewrite [od_up_at, if_neg (by omega)])); rfl) ?_
        refine r_callV1i dX11_heard_90 cvX11_14 (mo_o hm) (c_X11_good hm _) (by decide) (Nat.le_of_ble_eq_true rfl) od_le.rf ?_
        exact r_iret dX11_heard_93 rfl (by unfold mHeard; first | rw [od_ip_f (by grind)] | rw [od_ip_t ⟨by assumption, by assumption⟩, od_ip_t (by assumption)] | rw [od_ip_t ⟨by assumption, by assumption⟩, od_ip_f (by assumption)])
      · refine r_aload_n dX11_heard_48 rfl ?_
        refine r_bipush dX11_heard_49 lb_m5 ?_
        refine r_callV1i dX11_heard_51 cvX11_106 (mo_o hm) (c_X11_refuses hm _ (by omega)) (by decide) (Nat.le_of_ble_eq_true rfl) od_le.rf ?_
        exact r_iret dX11_heard_54 rfl (by unfold mHeard; first | rw [od_ip_f (by grind)] | rw [od_ip_t ⟨by assumption, by assumption⟩, od_ip_t (by assumption)] | rw [od_ip_t ⟨by assumption, by assumption⟩, od_ip_f (by assumption)])
    · refine r_if_ne (tgt := 23) dX11_heard_14 rfl (fun h => absurd h (by decide)) (fun _ => ?_)
      refine r_aload_n dX11_heard_17 rfl ?_
      refine r_iconst dX11_heard_18 li_m1 ?_
      refine r_callV1i dX11_heard_19 cvX11_106 (mo_o hm) (c_X11_refuses hm _ (by omega)) (by decide) (Nat.le_of_ble_eq_true rfl) od_le.rf ?_
      exact r_iret dX11_heard_22 rfl (by unfold mHeard; first | rw [od_ip_f (by grind)] | rw [od_ip_t ⟨by assumption, by assumption⟩, od_ip_t (by assumption)] | rw [od_ip_t ⟨by assumption, by assumption⟩, od_ip_f (by assumption)])
  · refine r_if_eq (tgt := 17) dX11_heard_7 rfl (fun _ => ?_) (fun h => absurd h (by decide))
    refine r_aload_n dX11_heard_17 rfl ?_
    refine r_iconst dX11_heard_18 li_m1 ?_
    refine r_callV1i dX11_heard_19 cvX11_106 (mo_o hm) (c_X11_refuses hm _ (by omega)) (by decide) (Nat.le_of_ble_eq_true rfl) od_le.rf ?_
    exact r_iret dX11_heard_22 rfl (by unfold mHeard; first | rw [od_ip_f (by grind)] | rw [od_ip_t ⟨by assumption, by assumption⟩, od_ip_t (by assumption)] | rw [od_ip_t ⟨by assumption, by assumption⟩, od_ip_f (by assumption)])
set_option maxRecDepth 10000 in
theorem lp_X11_lay {E : od_E} {g : od_G} {rs : od_Rs} {M : Int} (hm : MoAt E M) (k : Int) (hk : 0 ≤ k ∧ k ≤ 1) (hx : od_R 1 mX11_laysAside od_Z0 E rs 31 [some (2, M), some (0, k), some (0, 19)] [] E (od_cq g (M + 5) (19 * k) (M + 2) (0) 19)) : ∀ (m : Nat) (i : Int) (gw : od_G), (0 ≤ i ∧ i ≤ 19 ∧ gw = od_cq g (M + 5) (19 * k) (M + 2) (0) i) → ((19 - i).toNat) < m → od_R 1 mX11_laysAside od_Z0 E rs 2 [some (2, M), some (0, k), some (0, i)] [] E gw := by
  intro m
  induction m with
  | zero => intro i gw hi hM; exact absurd hM (Nat.not_lt_zero _)
  | succ m ih =>
    intro i gw hi hM
    obtain ⟨hi0, hi6, rfl⟩ := hi
    refine r_iload_n dX11_laysAside_2 rfl ?_
    refine r_bipush dX11_laysAside_3 lb_19 ?_
    refine r_icmp_ge (tgt := 31) dX11_laysAside_5 rfl (fun c5 => ?_) (fun c5 => ?_)
    · rw [show i = 19 by omega]
      exact hx
    · refine r_aload_n dX11_laysAside_8 rfl ?_
      refine r_getR dX11_laysAside_9 fkX11_38 gf11_5 (mo_o hm) (mo_r5 hm) ?_
      refine r_bipush dX11_laysAside_12 lb_19 ?_
      refine r_iload_n dX11_laysAside_14 rfl ?_
      refine r_imulE dX11_laysAside_15 (by first | exact od_w0 (by omega) (by omega) | exact od_wI (by omega) (by omega) | rfl) ?_
      refine r_iload_n dX11_laysAside_16 rfl ?_
      refine r_iaddE dX11_laysAside_17 (by first | exact od_w0 (by omega) (by omega) | exact od_wI (by omega) (by omega) | rfl) ?_
      refine r_aload_n dX11_laysAside_18 rfl ?_
      refine r_getR dX11_laysAside_19 fkX11_28 gf11_2 (mo_o hm) (mo_r2 hm) ?_
      refine r_iload_n dX11_laysAside_22 rfl ?_
      refine r_iald dX11_laysAside_23 (mo_k2 hm) (by omega) rfl ?_
      refine r_iast dX11_laysAside_24 (mo_k5 hm) (by omega) ?_
      refine r_iincE dX11_laysAside_25 rfl (by decide) (by first | exact od_w0 (by omega) (by omega) | exact od_wI (by omega) (by omega) | rfl) rfl ?_
      refine r_goto (tgt := 2) dX11_laysAside_28 rfl ?_
      refine ih (i + 1) _ ⟨by omega, by omega, ?_⟩ (by omega)
      rw [← od_cq_s g (a := M + 5) (o := 19 * k) (b := M + 2) (f := 0) hi0 (by omega)]
      (try rw [Int.zero_add])
set_option maxRecDepth 10000 in
theorem lp_X11_tak {E : od_E} {g : od_G} {rs : od_Rs} {M : Int} (hm : MoAt E M) (k : Int) (hk : 0 ≤ k ∧ k ≤ 1) (hx : od_R 1 mX11_takesBack od_Z0 E rs 31 [some (2, M), some (0, k), some (0, 19)] [] E (od_cq g (M + 2) (0) (M + 5) (19 * k) 19)) : ∀ (m : Nat) (i : Int) (gw : od_G), (0 ≤ i ∧ i ≤ 19 ∧ gw = od_cq g (M + 2) (0) (M + 5) (19 * k) i) → ((19 - i).toNat) < m → od_R 1 mX11_takesBack od_Z0 E rs 2 [some (2, M), some (0, k), some (0, i)] [] E gw := by
  intro m
  induction m with
  | zero => intro i gw hi hM; exact absurd hM (Nat.not_lt_zero _)
  | succ m ih =>
    intro i gw hi hM
    obtain ⟨hi0, hi6, rfl⟩ := hi
    refine r_iload_n dX11_takesBack_2 rfl ?_
    refine r_bipush dX11_takesBack_3 lb_19 ?_
    refine r_icmp_ge (tgt := 31) dX11_takesBack_5 rfl (fun c5 => ?_) (fun c5 => ?_)
    · rw [show i = 19 by omega]
      exact hx
    · refine r_aload_n dX11_takesBack_8 rfl ?_
      refine r_getR dX11_takesBack_9 fkX11_28 gf11_2 (mo_o hm) (mo_r2 hm) ?_
      refine r_iload_n dX11_takesBack_12 rfl ?_
      refine r_aload_n dX11_takesBack_13 rfl ?_
      refine r_getR dX11_takesBack_14 fkX11_38 gf11_5 (mo_o hm) (mo_r5 hm) ?_
      refine r_bipush dX11_takesBack_17 lb_19 ?_
      refine r_iload_n dX11_takesBack_19 rfl ?_
      refine r_imulE dX11_takesBack_20 (by first | exact od_w0 (by omega) (by omega) | exact od_wI (by omega) (by omega) | rfl) ?_
      refine r_iload_n dX11_takesBack_21 rfl ?_
      refine r_iaddE dX11_takesBack_22 (by first | exact od_w0 (by omega) (by omega) | exact od_wI (by omega) (by omega) | rfl) ?_
      refine r_iald dX11_takesBack_23 (mo_k5 hm) (by omega) rfl ?_
      refine r_iast dX11_takesBack_24 (mo_k2 hm) (by omega) ?_
      refine r_iincE dX11_takesBack_25 rfl (by decide) (by first | exact od_w0 (by omega) (by omega) | exact od_wI (by omega) (by omega) | rfl) rfl ?_
      refine r_goto (tgt := 2) dX11_takesBack_28 rfl ?_
      refine ih (i + 1) _ ⟨by omega, by omega, ?_⟩ (by omega)
      rw [← od_cq_s g (a := M + 2) (o := 0) (b := M + 5) (f := 19 * k) hi0 (by omega)]
      (try rw [Int.zero_add])
set_option maxRecDepth 10000 in
theorem lp_X11_ima {E : od_E} {g : od_G} {rs : od_Rs} {M : Int} (hm : MoAt E M) (k : Int) (hk : 0 ≤ k ∧ k ≤ 1) (hx : od_R 3 mX11_image od_Z0 E rs 48 [some (2, M), some (0, k), some (0, 5656)] [] E (od_cq g (M + 3) (5656 * k) (M + 2) (0) 5656)) : ∀ (m : Nat) (i : Int) (gw : od_G), (0 ≤ i ∧ i ≤ 5656 ∧ gw = od_cq g (M + 3) (5656 * k) (M + 2) (0) i) → ((5656 - i).toNat) < m → od_R 3 mX11_image od_Z0 E rs 17 [some (2, M), some (0, k), some (0, i)] [] E gw := by
  intro m
  induction m with
  | zero => intro i gw hi hM; exact absurd hM (Nat.not_lt_zero _)
  | succ m ih =>
    intro i gw hi hM
    obtain ⟨hi0, hi6, rfl⟩ := hi
    refine r_iload_n dX11_image_17 rfl ?_
    refine r_sipush dX11_image_18 ls_5656 ?_
    refine r_icmp_ge (tgt := 48) dX11_image_21 rfl (fun c21 => ?_) (fun c21 => ?_)
    · rw [show i = 5656 by omega]
      exact hx
    · refine r_aload_n dX11_image_24 rfl ?_
      refine r_getR dX11_image_25 fkX11_31 gf11_3 (mo_o hm) (mo_r3 hm) ?_
      refine r_sipush dX11_image_28 ls_5656 ?_
      refine r_iload_n dX11_image_31 rfl ?_
      refine r_imulE dX11_image_32 (by first | exact od_w0 (by omega) (by omega) | exact od_wI (by omega) (by omega) | rfl) ?_
      refine r_iload_n dX11_image_33 rfl ?_
      refine r_iaddE dX11_image_34 (by first | exact od_w0 (by omega) (by omega) | exact od_wI (by omega) (by omega) | rfl) ?_
      refine r_aload_n dX11_image_35 rfl ?_
      refine r_getR dX11_image_36 fkX11_28 gf11_2 (mo_o hm) (mo_r2 hm) ?_
      refine r_iload_n dX11_image_39 rfl ?_
      refine r_iald dX11_image_40 (mo_k2 hm) (by omega) rfl ?_
      refine r_iast dX11_image_41 (mo_k3 hm) (by omega) ?_
      refine r_iincE dX11_image_42 rfl (by decide) (by first | exact od_w0 (by omega) (by omega) | exact od_wI (by omega) (by omega) | rfl) rfl ?_
      refine r_goto (tgt := 17) dX11_image_45 rfl ?_
      refine ih (i + 1) _ ⟨by omega, by omega, ?_⟩ (by omega)
      rw [← od_cq_s g (a := M + 3) (o := 5656 * k) (b := M + 2) (f := 0) hi0 (by omega)]
      (try rw [Int.zero_add])
set_option maxRecDepth 10000 in
theorem lp_X11_bac {E : od_E} {g : od_G} {rs : od_Rs} {M : Int} (hm : MoAt E M) (k : Int) (hk : 0 ≤ k ∧ k ≤ 1) (hx : od_R 3 mX11_back od_Z0 E rs 64 [some (2, M), some (0, k), some (0, 5656)] [] E (od_cq g (M + 2) (0) (M + 3) (5656 * k) 5656)) : ∀ (m : Nat) (i : Int) (gw : od_G), (0 ≤ i ∧ i ≤ 5656 ∧ gw = od_cq g (M + 2) (0) (M + 3) (5656 * k) i) → ((5656 - i).toNat) < m → od_R 3 mX11_back od_Z0 E rs 33 [some (2, M), some (0, k), some (0, i)] [] E gw := by
  intro m
  induction m with
  | zero => intro i gw hi hM; exact absurd hM (Nat.not_lt_zero _)
  | succ m ih =>
    intro i gw hi hM
    obtain ⟨hi0, hi6, rfl⟩ := hi
    refine r_iload_n dX11_back_33 rfl ?_
    refine r_sipush dX11_back_34 ls_5656 ?_
    refine r_icmp_ge (tgt := 64) dX11_back_37 rfl (fun c37 => ?_) (fun c37 => ?_)
    · rw [show i = 5656 by omega]
      exact hx
    · refine r_aload_n dX11_back_40 rfl ?_
      refine r_getR dX11_back_41 fkX11_28 gf11_2 (mo_o hm) (mo_r2 hm) ?_
      refine r_iload_n dX11_back_44 rfl ?_
      refine r_aload_n dX11_back_45 rfl ?_
      refine r_getR dX11_back_46 fkX11_31 gf11_3 (mo_o hm) (mo_r3 hm) ?_
      refine r_sipush dX11_back_49 ls_5656 ?_
      refine r_iload_n dX11_back_52 rfl ?_
      refine r_imulE dX11_back_53 (by first | exact od_w0 (by omega) (by omega) | exact od_wI (by omega) (by omega) | rfl) ?_
      refine r_iload_n dX11_back_54 rfl ?_
      refine r_iaddE dX11_back_55 (by first | exact od_w0 (by omega) (by omega) | exact od_wI (by omega) (by omega) | rfl) ?_
      refine r_iald dX11_back_56 (mo_k3 hm) (by omega) rfl ?_
      refine r_iast dX11_back_57 (mo_k2 hm) (by omega) ?_
      refine r_iincE dX11_back_58 rfl (by decide) (by first | exact od_w0 (by omega) (by omega) | exact od_wI (by omega) (by omega) | rfl) rfl ?_
      refine r_goto (tgt := 33) dX11_back_61 rfl ?_
      refine ih (i + 1) _ ⟨by omega, by omega, ?_⟩ (by omega)
      rw [← od_cq_s g (a := M + 2) (o := 0) (b := M + 3) (f := 5656 * k) hi0 (by omega)]
      (try rw [Int.zero_add])
set_option maxRecDepth 10000 in
theorem c_X11_laysAside {E : od_E} {g : od_G} {M : Int} (hm : MoAt E M) (k : Int) (hk : 0 ≤ k ∧ k ≤ 1) : od_Ct 1 mX11_laysAside [(2, M), (0, k)] E g (none, E, mLay g M k) := by
  refine od_ctI pnX11 rfl (Nat.le_of_ble_eq_true rfl) od_le.rf ?_
  show od_R _ _ _ _ _ 0 [some (2, M), some (0, k), none] [] E g
  refine r_iconst dX11_laysAside_0 li_0 ?_
  refine r_istore_n dX11_laysAside_1 (by decide) rfl ?_
  refine lp_X11_lay hm k hk ?_ _ _ _ ⟨by omega, by omega, (od_cq_0 _ _ _ _ _).symm⟩ (Nat.lt_succ_self _)
  exact r_vret dX11_laysAside_31 rfl (by rfl)
set_option maxRecDepth 10000 in
theorem c_X11_takesBack {E : od_E} {g : od_G} {M : Int} (hm : MoAt E M) (k : Int) (hk : 0 ≤ k ∧ k ≤ 1) : od_Ct 1 mX11_takesBack [(2, M), (0, k)] E g (none, E, mTake g M k) := by
  refine od_ctI pnX11 rfl (Nat.le_of_ble_eq_true rfl) od_le.rf ?_
  show od_R _ _ _ _ _ 0 [some (2, M), some (0, k), none] [] E g
  refine r_iconst dX11_takesBack_0 li_0 ?_
  refine r_istore_n dX11_takesBack_1 (by decide) rfl ?_
  refine lp_X11_tak hm k hk ?_ _ _ _ ⟨by omega, by omega, (od_cq_0 _ _ _ _ _).symm⟩ (Nat.lt_succ_self _)
  exact r_vret dX11_takesBack_31 rfl (by rfl)
set_option maxRecDepth 10000 in
theorem c_X11_image {E : od_E} {g : od_G} {M : Int} (hm : MoAt E M) (k : Int) : od_Ct 3 mX11_image [(2, M), (0, k)] E g (some (0, (mImage g M k).1), E, (mImage g M k).2) := by
  refine od_ctI pnX11 rfl (Nat.le_of_ble_eq_true rfl) od_le.rf ?_
  show od_R _ _ _ _ _ 0 [some (2, M), some (0, k), none] [] E g
  refine r_iload_n dX11_image_0 rfl ?_
  refine r_iconst dX11_image_1 li_0 ?_
  refine r_iconst dX11_image_2 li_1 ?_
  refine r_callS3b dX11_image_3 csX11_18 (c_X11_lies _ _ _) (by decide) (Nat.le_of_ble_eq_true rfl) od_le.rf (fun q3 => ?_) (fun q3 => ?_)
  · refine r_if_ne (tgt := 15) dX11_image_6 rfl (fun _ => ?_) (fun h => absurd h (by decide))
    have u3 := q3; unfold mLies at u3
    refine r_iconst dX11_image_15 li_0 ?_
    refine r_istore_n dX11_image_16 (by decide) rfl ?_
    refine lp_X11_ima hm k (by omega) ?_ _ _ _ ⟨by omega, by omega, (od_cq_0 _ _ _ _ _).symm⟩ (Nat.lt_succ_self _)
    refine r_aload_n dX11_image_48 rfl ?_
    refine r_getR dX11_image_49 fkX11_34 gf11_4 (mo_o hm) (mo_r4 hm) ?_
    refine r_iload_n dX11_image_52 rfl ?_
    refine r_iconst dX11_image_53 li_1 ?_
    refine r_zast dX11_image_54 (by first | exact Or.inl rfl | exact Or.inr rfl | omega | assumption) (mo_k4 hm) (by omega) ?_
    refine r_aload_n dX11_image_55 rfl ?_
    refine r_iconst dX11_image_56 li_0 ?_
    refine r_callV1i dX11_image_57 cvX11_14 (mo_o hm) (c_X11_good hm _) (by decide) (Nat.le_of_ble_eq_true rfl) od_le.rf ?_
    exact r_iret dX11_image_60 rfl (by unfold mImage; first | rw [od_ip_f (by assumption)] | rw [od_ip_t (by assumption)])
  · refine r_if_ne (tgt := 15) dX11_image_6 rfl (fun h => absurd h (by decide)) (fun _ => ?_)
    refine r_aload_n dX11_image_9 rfl ?_
    refine r_iconst dX11_image_10 li_m1 ?_
    refine r_callV1i dX11_image_11 cvX11_106 (mo_o hm) (c_X11_refuses hm _ (by omega)) (by decide) (Nat.le_of_ble_eq_true rfl) od_le.rf ?_
    exact r_iret dX11_image_14 rfl (by unfold mImage; first | rw [od_ip_f (by assumption)] | rw [od_ip_t (by assumption)])
set_option maxRecDepth 10000 in
theorem c_X11_back {E : od_E} {g : od_G} {M : Int} (hm : MoAt E M) (k : Int) : od_Ct 3 mX11_back [(2, M), (0, k)] E g (some (0, (mBack g M k).1), E, (mBack g M k).2) := by
  refine od_ctI pnX11 rfl (Nat.le_of_ble_eq_true rfl) od_le.rf ?_
  show od_R _ _ _ _ _ 0 [some (2, M), some (0, k), none] [] E g
  refine r_iload_n dX11_back_0 rfl ?_
  refine r_iconst dX11_back_1 li_0 ?_
  refine r_iconst dX11_back_2 li_1 ?_
  refine r_callS3b dX11_back_3 csX11_18 (c_X11_lies _ _ _) (by decide) (Nat.le_of_ble_eq_true rfl) od_le.rf (fun q3 => ?_) (fun q3 => ?_)
  · refine r_if_ne (tgt := 15) dX11_back_6 rfl (fun _ => ?_) (fun h => absurd h (by decide))
    have u3 := q3; unfold mLies at u3
    refine r_aload_n dX11_back_15 rfl ?_
    refine r_getR dX11_back_16 fkX11_34 gf11_4 (mo_o hm) (mo_r4 hm) ?_
    refine r_iload_n dX11_back_19 rfl ?_
    refine r_zald dX11_back_20 (mo_k4 hm) (by omega) (by (repeat (first | rewrite [od_upn (by omega)] | rewrite [od_up_at, if_pos (by omega)] | rewrite [od_up_at, if_neg (by omega)])); rfl) ?_
    refine r_if_ne (tgt := 31) dX11_back_21 rfl (fun c21 => ?_) (fun c21 => ?_)
    · refine r_iconst dX11_back_31 li_0 ?_
      refine r_istore_n dX11_back_32 (by decide) rfl ?_
      refine lp_X11_bac hm k (by omega) ?_ _ _ _ ⟨by omega, by omega, (od_cq_0 _ _ _ _ _).symm⟩ (Nat.lt_succ_self _)
      refine r_aload_n dX11_back_64 rfl ?_
      refine r_iconst dX11_back_65 li_0 ?_
      refine r_callV1i dX11_back_66 cvX11_109 (mo_o hm) (c_X11_settled hm _) (by decide) (Nat.le_of_ble_eq_true rfl) od_le.rf ?_
      exact r_iret dX11_back_69 rfl (by unfold mBack; first | rw [od_ip_f (by assumption)] | rw [od_ip_t (by assumption), od_ip_t (by assumption)] | rw [od_ip_t (by assumption), od_ip_f (by assumption)])
    · refine r_aload_n dX11_back_24 rfl ?_
      refine r_bipush dX11_back_25 lb_m2 ?_
      refine r_callV1i dX11_back_27 cvX11_106 (mo_o hm) (c_X11_refuses hm _ (by omega)) (by decide) (Nat.le_of_ble_eq_true rfl) od_le.rf ?_
      exact r_iret dX11_back_30 rfl (by unfold mBack; first | rw [od_ip_f (by assumption)] | rw [od_ip_t (by assumption), od_ip_t (by assumption)] | rw [od_ip_t (by assumption), od_ip_f (by assumption)])
  · refine r_if_ne (tgt := 15) dX11_back_6 rfl (fun h => absurd h (by decide)) (fun _ => ?_)
    refine r_aload_n dX11_back_9 rfl ?_
    refine r_iconst dX11_back_10 li_m1 ?_
    refine r_callV1i dX11_back_11 cvX11_106 (mo_o hm) (c_X11_refuses hm _ (by omega)) (by decide) (Nat.le_of_ble_eq_true rfl) od_le.rf ?_
    exact r_iret dX11_back_14 rfl (by unfold mBack; first | rw [od_ip_f (by assumption)] | rw [od_ip_t (by assumption), od_ip_t (by assumption)] | rw [od_ip_t (by assumption), od_ip_f (by assumption)])
