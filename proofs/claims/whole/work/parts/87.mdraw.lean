/-! the reference: small, draws, drawn -/
def mSml (x : Int) : Int := if x < 0 ∨ 1000000 < x then -1 else x
def mDw (x : Int) : Int := (1103 * x + 12345).tmod 1000003
theorem mDw_b {x : Int} (h : 0 ≤ x) : 0 ≤ mDw x ∧ mDw x < 1000003 := by
  unfold mDw
  rw [Int.tmod_eq_emod_of_nonneg (by omega)]
  omega
def mDrawn (g : od_G) (M d k : Int) : Int := if k = 0 then g (M + 23) d else if k = 1 then g (M + 23) (6 + d) else g (M + 23) (12 + d)
set_option maxRecDepth 10000 in
theorem c_X11_small {E : od_E} {g : od_G} (x : Int) : od_Ct 1 mX11_small [(1, x)] E g (some (0, mSml x), E, g) := by
  refine od_ctI pnX11 rfl (Nat.le_of_ble_eq_true rfl) od_le.rf ?_
  show od_R _ _ _ _ _ 0 [some (1, x), none] [] E g
  refine r_lload_n dX11_small_0 rfl ?_
  refine r_lconst dX11_small_1 ll_0 ?_
  refine r_lcmp3 dX11_small_2 (fun c2 => ?_) (fun c2 => ?_) (fun c2 => ?_)
  · refine r_if_lt (tgt := 14) dX11_small_3 rfl (fun _ => ?_) (fun h => absurd h (by decide))
    refine r_iconst dX11_small_14 li_m1 ?_
    refine r_goto (tgt := 20) dX11_small_15 rfl ?_
    first | (exfalso; omega) | exact r_iret dX11_small_20 rfl (by unfold mSml; first | rw [if_pos (by omega)] | rw [if_neg (by omega)])
  · refine r_if_lt (tgt := 14) dX11_small_3 rfl (fun h => absurd h (by decide)) (fun _ => ?_)
    refine r_lload_n dX11_small_6 rfl ?_
    refine r_ldc2 dX11_small_7 kcX11_452 lk_X11_452 ?_
    refine r_lcmp3 dX11_small_10 (fun c10 => ?_) (fun c10 => ?_) (fun c10 => ?_)
    · refine r_if_le (tgt := 18) dX11_small_11 rfl (fun _ => ?_) (fun h => absurd h (by decide))
      refine r_lload_n dX11_small_18 rfl ?_
      refine r_l2iE dX11_small_19 (by first | exact od_w0 (by omega) (by omega) | exact od_wI (by omega) (by omega) | rfl) ?_
      first | (exfalso; omega) | exact r_iret dX11_small_20 rfl (by unfold mSml; first | rw [if_pos (by omega)] | rw [if_neg (by omega)])
    · refine r_if_le (tgt := 18) dX11_small_11 rfl (fun _ => ?_) (fun h => absurd h (by decide))
      refine r_lload_n dX11_small_18 rfl ?_
      refine r_l2iE dX11_small_19 (by first | exact od_w0 (by omega) (by omega) | exact od_wI (by omega) (by omega) | rfl) ?_
      first | (exfalso; omega) | exact r_iret dX11_small_20 rfl (by unfold mSml; first | rw [if_pos (by omega)] | rw [if_neg (by omega)])
    · refine r_if_le (tgt := 18) dX11_small_11 rfl (fun h => absurd h (by decide)) (fun _ => ?_)
      refine r_iconst dX11_small_14 li_m1 ?_
      refine r_goto (tgt := 20) dX11_small_15 rfl ?_
      first | (exfalso; omega) | exact r_iret dX11_small_20 rfl (by unfold mSml; first | rw [if_pos (by omega)] | rw [if_neg (by omega)])
  · refine r_if_lt (tgt := 14) dX11_small_3 rfl (fun h => absurd h (by decide)) (fun _ => ?_)
    refine r_lload_n dX11_small_6 rfl ?_
    refine r_ldc2 dX11_small_7 kcX11_452 lk_X11_452 ?_
    refine r_lcmp3 dX11_small_10 (fun c10 => ?_) (fun c10 => ?_) (fun c10 => ?_)
    · refine r_if_le (tgt := 18) dX11_small_11 rfl (fun _ => ?_) (fun h => absurd h (by decide))
      refine r_lload_n dX11_small_18 rfl ?_
      refine r_l2iE dX11_small_19 (by first | exact od_w0 (by omega) (by omega) | exact od_wI (by omega) (by omega) | rfl) ?_
      first | (exfalso; omega) | exact r_iret dX11_small_20 rfl (by unfold mSml; first | rw [if_pos (by omega)] | rw [if_neg (by omega)])
    · refine r_if_le (tgt := 18) dX11_small_11 rfl (fun _ => ?_) (fun h => absurd h (by decide))
      refine r_lload_n dX11_small_18 rfl ?_
      refine r_l2iE dX11_small_19 (by first | exact od_w0 (by omega) (by omega) | exact od_wI (by omega) (by omega) | rfl) ?_
      first | (exfalso; omega) | exact r_iret dX11_small_20 rfl (by unfold mSml; first | rw [if_pos (by omega)] | rw [if_neg (by omega)])
    · refine r_if_le (tgt := 18) dX11_small_11 rfl (fun h => absurd h (by decide)) (fun _ => ?_)
      refine r_iconst dX11_small_14 li_m1 ?_
      refine r_goto (tgt := 20) dX11_small_15 rfl ?_
      first | (exfalso; omega) | exact r_iret dX11_small_20 rfl (by unfold mSml; first | rw [if_pos (by omega)] | rw [if_neg (by omega)])
set_option maxRecDepth 10000 in
theorem c_X11_draws {E : od_E} {g : od_G} {M : Int} (hm : MoAt E M) (h50 : 0 ≤ g M 50 ∧ g M 50 ≤ 1000003) (n : Int) (hn : 1 ≤ n) : od_Ct 1 mX11_draws [(2, M), (0, n)] E g (some (0, (mDw (g M 50)).tmod n), E, od_up g M 50 (mDw (g M 50))) := by
  refine od_ctI pnX11 rfl (Nat.le_of_ble_eq_true rfl) od_le.rf ?_
  show od_R _ _ _ _ _ 0 [some (2, M), some (0, n)] [] E g
  have hb := mDw_b h50.1
  have hy : od_w ((1103 * g M 50 + 12345).tmod 1000003) = mDw (g M 50) := by unfold mDw at hb ⊢; exact od_wI (by omega) (by omega)
  refine r_aload_n dX11_draws_0 rfl ?_
  refine r_ldc2 dX11_draws_1 kcX11_465 lk_X11_465 ?_
  refine r_aload_n dX11_draws_4 rfl ?_
  refine r_getIj (j := 50) rfl dX11_draws_5 fkX11_467 gf11_50 (mo_o hm) (by first | exact od_up_i | rfl) ?_
  refine r_i2l dX11_draws_8 ?_
  refine r_lmulE dX11_draws_9 (by first | exact od_wlI (by omega) (by omega) | rfl) ?_
  refine r_ldc2 dX11_draws_10 kcX11_470 lk_X11_470 ?_
  refine r_laddE dX11_draws_13 (by first | exact od_wlI (by omega) (by omega) | rfl) ?_
  refine r_ldc2 dX11_draws_14 kcX11_472 lk_X11_472 ?_
  refine r_lrem dX11_draws_17 (by first | decide | omega) ?_
  refine r_l2iE dX11_draws_18 (by first | exact hy | exact od_w0 (by omega) (by omega) | exact od_wI (by omega) (by omega) | rfl) ?_
  refine r_putIj (j := 50) rfl dX11_draws_19 fkX11_467 gf11_50 pf11_50 (mo_o hm) ?_
  refine r_aload_n dX11_draws_22 rfl ?_
  refine r_getIj (j := 50) rfl dX11_draws_23 fkX11_467 gf11_50 (mo_o hm) (by first | exact od_up_i | rfl) ?_
  refine r_iload_n dX11_draws_26 rfl ?_
  refine r_irem dX11_draws_27 (by first | decide | omega) ?_
  exact r_iret dX11_draws_28 rfl (by rfl)
set_option maxRecDepth 10000 in
theorem c_X11_drawn {E : od_E} {g : od_G} {M : Int} (hm : MoAt E M) (h49 : 0 ≤ g M 49 ∧ g M 49 ≤ 6) (d k : Int) : od_Ct 2 mX11_drawn [(2, M), (0, d), (0, k)] E g (some (0, od_ite (mLies d 0 (g M 49 - 1) ∧ mLies k 0 2) (mDrawn g M d k) (-1)), E, g) := by
  refine od_ctI pnX11 rfl (Nat.le_of_ble_eq_true rfl) od_le.rf ?_
  show od_R _ _ _ _ _ 0 [some (2, M), some (0, d), some (0, k)] [] E g
  refine r_iload_n dX11_drawn_0 rfl ?_
  refine r_iconst dX11_drawn_1 li_0 ?_
  refine r_aload_n dX11_drawn_2 rfl ?_
  refine r_getIj (j := 49) rfl dX11_drawn_3 fkX11_103 gf11_49 (mo_o hm) rfl ?_
  refine r_iconst dX11_drawn_6 li_1 ?_
  refine r_isubE dX11_drawn_7 (by first | exact od_w0 (by omega) (by omega) | exact od_wI (by omega) (by omega) | rfl) ?_
  refine r_callS3b dX11_drawn_8 csX11_18 (c_X11_lies _ _ _) (by decide) (Nat.le_of_ble_eq_true rfl) od_le.rf (fun q8 => ?_) (fun q8 => ?_)
  · refine r_if_eq (tgt := 23) dX11_drawn_11 rfl (fun h => absurd h (by decide)) (fun _ => ?_)
    refine r_iload_n dX11_drawn_14 rfl ?_
    refine r_iconst dX11_drawn_15 li_0 ?_
    refine r_iconst dX11_drawn_16 li_2 ?_
    refine r_callS3b dX11_drawn_17 csX11_18 (c_X11_lies _ _ _) (by decide) (Nat.le_of_ble_eq_true rfl) od_le.rf (fun q17 => ?_) (fun q17 => ?_)
    · refine r_if_ne (tgt := 25) dX11_drawn_20 rfl (fun _ => ?_) (fun h => absurd h (by decide))
      have u8 := q8
      unfold mLies at u8
      refine r_aload_n dX11_drawn_25 rfl ?_
      refine r_getR dX11_drawn_26 fkX11_100 gf11_48 (mo_o hm) (mo_r48 hm) ?_
      refine r_iload_n dX11_drawn_29 rfl ?_
      refine r_if_ne (tgt := 37) dX11_drawn_30 rfl (fun c30 => ?_) (fun c30 => ?_)
      · refine r_iload_n dX11_drawn_37 rfl ?_
        refine r_iconst dX11_drawn_38 li_1 ?_
        refine r_icmp_ne (tgt := 47) dX11_drawn_39 rfl (fun c39 => ?_) (fun c39 => ?_)
        · refine r_bipush dX11_drawn_47 lb_12 ?_
          refine r_iload_n dX11_drawn_49 rfl ?_
          refine r_iaddE dX11_drawn_50 (by first | exact od_w0 (by omega) (by omega) | exact od_wI (by omega) (by omega) | rfl) ?_
          refine r_iald dX11_drawn_51 (mo_k48 hm) (by omega) rfl ?_
          exact r_iret dX11_drawn_52 rfl (by rw [od_ite_t ⟨by assumption, by assumption⟩]; unfold mDrawn; first | rw [if_pos (by assumption)] | rw [if_neg (by assumption), if_pos (by assumption)] | rw [if_neg (by assumption), if_neg (by assumption)])
        · refine r_bipush dX11_drawn_42 lb_6 ?_
          refine r_goto (tgt := 49) dX11_drawn_44 rfl ?_
          refine r_iload_n dX11_drawn_49 rfl ?_
          refine r_iaddE dX11_drawn_50 (by first | exact od_w0 (by omega) (by omega) | exact od_wI (by omega) (by omega) | rfl) ?_
          refine r_iald dX11_drawn_51 (mo_k48 hm) (by omega) rfl ?_
          exact r_iret dX11_drawn_52 rfl (by rw [od_ite_t ⟨by assumption, by assumption⟩]; unfold mDrawn; first | rw [if_pos (by assumption)] | rw [if_neg (by assumption), if_pos (by assumption)] | rw [if_neg (by assumption), if_neg (by assumption)])
      · refine r_iconst dX11_drawn_33 li_0 ?_
        refine r_goto (tgt := 49) dX11_drawn_34 rfl ?_
        refine r_iload_n dX11_drawn_49 rfl ?_
        refine r_iaddE dX11_drawn_50 (by first | exact od_w0 (by omega) (by omega) | exact od_wI (by omega) (by omega) | rfl) ?_
        refine r_iald dX11_drawn_51 (mo_k48 hm) (by omega) rfl ?_
        exact r_iret dX11_drawn_52 rfl (by rw [od_ite_t ⟨by assumption, by assumption⟩]; unfold mDrawn; first | rw [if_pos (by assumption)] | rw [if_neg (by assumption), if_pos (by assumption)] | rw [if_neg (by assumption), if_neg (by assumption)])
    · refine r_if_ne (tgt := 25) dX11_drawn_20 rfl (fun h => absurd h (by decide)) (fun _ => ?_)
      refine r_iconst dX11_drawn_23 li_m1 ?_
      first
      | exact r_iret dX11_drawn_24 rfl (by rw [od_ite_f (fun z => absurd z.2 (by assumption))])
      | exact r_iret dX11_drawn_24 rfl (by rw [od_ite_f (fun z => absurd z.1 (by assumption))])
  · refine r_if_eq (tgt := 23) dX11_drawn_11 rfl (fun _ => ?_) (fun h => absurd h (by decide))
    refine r_iconst dX11_drawn_23 li_m1 ?_
    first
    | exact r_iret dX11_drawn_24 rfl (by rw [od_ite_f (fun z => absurd z.2 (by assumption))])
    | exact r_iret dX11_drawn_24 rfl (by rw [od_ite_f (fun z => absurd z.1 (by assumption))])
