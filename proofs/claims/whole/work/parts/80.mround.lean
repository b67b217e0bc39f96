/-! the reference: who strikes in a round -/
theorem mRd_b {g : od_G} {M : Int} (hI : MI g M) : 1 ≤ mRd g M ∧ mRd g M ≤ 27720 := by
  have i45 := hI.1
  exact od_rd_le (fun e e0 e1 _ => hI.2 e e0 (by omega))
theorem mRd_e {g g' : od_G} {M : Int} (e : g' (M + 2) = g (M + 2)) : mRd g' M = mRd g M := by
  unfold mRd mStop
  rw [e]
noncomputable def mStB (g : od_G) (M h : Int) : Nat → Int
  | 0 => 0
  | n + 1 => od_or (mStB g M h n) (od_ite (mStrikes g M n h) (od_shl 1 n) 0)
noncomputable def mStN (g : od_G) (M h : Int) : Int := mStB g M h (g (M + 2) 45).toNat
theorem mStB_s (g : od_G) (M h : Int) {d : Int} (hd : 0 ≤ d) : mStB g M h (d + 1).toNat = od_or (mStB g M h d.toNat) (od_ite (mStrikes g M d h) (od_shl 1 d) 0) := by
  rw [show (d + 1).toNat = d.toNat + 1 by omega]
  show od_or (mStB g M h d.toNat) (od_ite (mStrikes g M (d.toNat : Nat) h) (od_shl 1 (d.toNat : Nat)) 0) = _
  rw [show ((d.toNat : Nat) : Int) = d by omega]
def LR (M : Int) : Int → Int → Prop := fun x y => x = M + 16 ∨ (x = M ∧ y = 37)
/-- the round is laid out -/
def LrQ (g g' : od_G) (M : Int) : Prop := g' M 37 = mRd g M ∧ ∀ j : Int, 0 ≤ j → j < mRd g M → g' (M + 16) j = mStN g M j
set_option maxRecDepth 10000 in
theorem lp_X11_lrB {E : od_E} {g : od_G} {Q : Option od_V → od_G → Prop} {M : Int} (hm : MoAt E M) (hI : MI g M) (h : Int) (hh : 0 ≤ h ∧ h < mRd g M) (hx : ∀ gw : od_G, od_fr (LR M) g gw → gw M 37 = mRd g M → (∀ j : Int, 0 ≤ j → j < h + 1 → gw (M + 16) j = mStN g M j) → od_Rq 4 mX11_laysRound od_Z0 E (E, Q) 66 [some (2, M), some (0, h), some (0, g (M + 2) 45)] [] E gw) : ∀ (m : Nat) (d : Int) (gw : od_G), (0 ≤ d ∧ d ≤ g (M + 2) 45 ∧ od_fr (LR M) g gw ∧ gw M 37 = mRd g M ∧ gw (M + 16) h = mStB g M h d.toNat ∧ (∀ j : Int, 0 ≤ j → j < h → gw (M + 16) j = mStN g M j)) → ((g (M + 2) 45 - d).toNat) < m → od_Rq 4 mX11_laysRound od_Z0 E (E, Q) 27 [some (2, M), some (0, h), some (0, d)] [] E gw := by
  intro m
  induction m with
  | zero => intro d gw hi hM; exact absurd hM (Nat.not_lt_zero _)
  | succ m ih =>
    intro d gw hi hM
    obtain ⟨hi0, hi1, hfr, e37, hc, hj⟩ := hi
    have e2 : gw (M + 2) = g (M + 2) := hfr.row (fun y => by unfold LR; omega)
    have i45 := hI.1
    have hR := mRd_b hI
    have hl : d < g (M + 2) 45 → 1 ≤ gw (M + 2) (19 + d) := fun z => by rw [e2]; exact (hI.2 d hi0 z).1
    have hs := mStB_s g M h hi0
    refine r_iload_n dX11_laysRound_27 rfl ?_
    refine r_aload_n dX11_laysRound_28 rfl ?_
    refine r_callV0i dX11_laysRound_29 cvX11_112 (mo_o hm) (c_X11_drumMany hm) (by decide) (Nat.le_of_ble_eq_true rfl) od_le.rf ?_
    rw [e2]
    refine r_icmp_ge (tgt := 66) dX11_laysRound_32 rfl (fun c32 => ?_) (fun c32 => ?_)
    · have hd9 : d = g (M + 2) 45 := by omega
      rw [hd9]
      refine hx gw hfr e37 (fun j h0 h1 => ?_)
      by_cases cj : j = h
      · rw [cj, hc, hd9]; rfl
      · exact hj j h0 (by omega)
    · refine r_aload_n dX11_laysRound_35 rfl ?_
      refine r_getR dX11_laysRound_36 fkX11_75 gf11_34 (mo_o hm) (mo_r34 hm) ?_
      refine r_iload_n dX11_laysRound_39 rfl ?_
      refine r_dup2 dX11_laysRound_40 (by first | exact od_ne2 | exact od_ne0) (by first | exact od_ne2 | exact od_ne0) ?_
      refine r_iald dX11_laysRound_41 (mo_k34 hm) (by omega) (by first | exact e37 | exact hc | rfl) ?_
      refine r_aload_n dX11_laysRound_42 rfl ?_
      refine r_iload_n dX11_laysRound_43 rfl ?_
      refine r_iload_n dX11_laysRound_44 rfl ?_
      refine r_callV2b dX11_laysRound_45 cvX11_132 (mo_o hm) (c_X11_strikes hm _ (by omega) (hl (by omega)) _) (by decide) (Nat.le_of_ble_eq_true rfl) od_le.rf (fun q45 => ?_) (fun q45 => ?_)
      · refine r_if_eq (tgt := 57) dX11_laysRound_48 rfl (fun h => absurd h (by decide)) (fun _ => ?_)
        refine r_iconst dX11_laysRound_51 li_1 ?_
        refine r_iload_n dX11_laysRound_52 rfl ?_
        refine r_ishl dX11_laysRound_53 ?_
        refine r_goto (tgt := 58) dX11_laysRound_54 rfl ?_
        refine r_ior dX11_laysRound_58 ?_
        refine r_iast dX11_laysRound_59 (mo_k34 hm) (by omega) ?_
        refine r_iincE dX11_laysRound_60 rfl (by decide) (by first | exact od_w0 (by omega) (by omega) | exact od_wI (by omega) (by omega) | rfl) rfl ?_
        refine r_goto (tgt := 27) dX11_laysRound_63 rfl ?_
        have q45x := q45
        rw [mStrikes_e e2] at q45x
        first
        | rw [od_ite_t q45x] at hs
        | rw [od_ite_f q45x] at hs
        refine ih _ _ ⟨by omega, by omega, hfr.up (Or.inl rfl), by rw [od_upn (by omega)]; exact e37, by rw [od_up_i, hs], fun j h0 h1 => ?_⟩ (by omega)
        rw [od_up_at, if_neg (by omega)]
        exact hj j h0 h1
      · refine r_if_eq (tgt := 57) dX11_laysRound_48 rfl (fun _ => ?_) (fun h => absurd h (by decide))
        refine r_iconst dX11_laysRound_57 li_0 ?_
        refine r_ior dX11_laysRound_58 ?_
        refine r_iast dX11_laysRound_59 (mo_k34 hm) (by omega) ?_
        refine r_iincE dX11_laysRound_60 rfl (by decide) (by first | exact od_w0 (by omega) (by omega) | exact od_wI (by omega) (by omega) | rfl) rfl ?_
        refine r_goto (tgt := 27) dX11_laysRound_63 rfl ?_
        have q45x := q45
        rw [mStrikes_e e2] at q45x
        first
        | rw [od_ite_t q45x] at hs
        | rw [od_ite_f q45x] at hs
        refine ih _ _ ⟨by omega, by omega, hfr.up (Or.inl rfl), by rw [od_upn (by omega)]; exact e37, by rw [od_up_i, hs], fun j h0 h1 => ?_⟩ (by omega)
        rw [od_up_at, if_neg (by omega)]
        exact hj j h0 h1
set_option maxRecDepth 10000 in
theorem lp_X11_lrA {E : od_E} {g : od_G} {M : Int} (hm : MoAt E M) (hI : MI g M) : ∀ (m : Nat) (h : Int) (x2 : Option od_V) (gw : od_G), (0 ≤ h ∧ h ≤ mRd g M ∧ od_fr (LR M) g gw ∧ gw M 37 = mRd g M ∧ (∀ j : Int, 0 ≤ j → j < h → gw (M + 16) j = mStN g M j)) → ((mRd g M - h).toNat) < m → od_Rq 4 mX11_laysRound od_Z0 E (E, fun w g' => w = none ∧ od_fr (LR M) g g' ∧ LrQ g g' M) 10 [some (2, M), some (0, h), x2] [] E gw := by
  intro m
  induction m with
  | zero => intro h x2 gw hi hM; exact absurd hM (Nat.not_lt_zero _)
  | succ m ih =>
    intro h x2 gw hi hM
    obtain ⟨hi0, hi1, hfr, e37, hj⟩ := hi
    have e2 : gw (M + 2) = g (M + 2) := hfr.row (fun y => by unfold LR; omega)
    have i45 := hI.1
    have hR := mRd_b hI
    refine r_iload_n dX11_laysRound_10 rfl ?_
    refine r_aload_n dX11_laysRound_11 rfl ?_
    refine r_getIj (j := 37) rfl dX11_laysRound_12 fkX11_380 gf11_37 (mo_o hm) (by first | exact e37 | rfl) ?_
    refine r_icmp_ge (tgt := 72) dX11_laysRound_15 rfl (fun c15 => ?_) (fun c15 => ?_)
    · exact r_vretq dX11_laysRound_72 rfl rfl ⟨rfl, hfr, e37, fun j h0 h1 => hj j h0 (by omega)⟩
    · refine r_aload_n dX11_laysRound_18 rfl ?_
      refine r_getR dX11_laysRound_19 fkX11_75 gf11_34 (mo_o hm) (mo_r34 hm) ?_
      refine r_iload_n dX11_laysRound_22 rfl ?_
      refine r_iconst dX11_laysRound_23 li_0 ?_
      refine r_iast dX11_laysRound_24 (mo_k34 hm) (by omega) ?_
      refine r_iconst dX11_laysRound_25 li_0 ?_
      refine r_istore_n dX11_laysRound_26 (by decide) rfl ?_
      refine lp_X11_lrB (g := g) hm hI h (by omega) (fun gx hgx e37x hjx => ?_) _ _ _ ⟨by omega, hI.1.1, hfr.up (Or.inl rfl), by rw [od_upn (by omega)]; exact e37, by rw [od_up_i]; rfl, fun j h0 h1 => by rw [od_up_at, if_neg (by omega)]; exact hj j h0 h1⟩ (Nat.lt_succ_self _)
      refine r_iincE dX11_laysRound_66 rfl (by decide) (by first | exact od_w0 (by omega) (by omega) | exact od_wI (by omega) (by omega) | rfl) rfl ?_
      refine r_goto (tgt := 10) dX11_laysRound_69 rfl ?_
      exact ih _ _ _ ⟨by omega, by omega, hgx, e37x, hjx⟩ (by omega)
set_option maxRecDepth 10000 in
theorem c_X11_laysRound {E : od_E} {g : od_G} {M : Int} (hm : MoAt E M) (hI : MI g M) : od_Cq 4 mX11_laysRound [(2, M)] E g (E, fun w g' => w = none ∧ od_fr (LR M) g g' ∧ LrQ g g' M) := by
  refine od_cqI pnX11 rfl (Nat.le_of_ble_eq_true rfl) od_le.rf ?_
  show od_Rq 4 mX11_laysRound od_Z0 E (E, fun w g' => w = none ∧ od_fr (LR M) g g' ∧ LrQ g g' M) 0 [some (2, M), none, none] [] E g
  refine r_aload_n dX11_laysRound_0 rfl ?_
  refine r_aload_n dX11_laysRound_1 rfl ?_
  refine r_callV0i dX11_laysRound_2 cvX11_377 (mo_o hm) (c_X11_round hm hI) (by decide) (Nat.le_of_ble_eq_true rfl) od_le.rf ?_
  refine r_putIj (j := 37) rfl dX11_laysRound_5 fkX11_380 gf11_37 pf11_37 (mo_o hm) ?_
  refine r_iconst dX11_laysRound_8 li_0 ?_
  refine r_istore_n dX11_laysRound_9 (by decide) rfl ?_
  have hR := mRd_b hI
  exact lp_X11_lrA hm hI _ _ _ _ ⟨by omega, by omega, od_fr.rf.up (Or.inr ⟨rfl, rfl⟩), od_up_i, fun j h0 h1 => by omega⟩ (Nat.lt_succ_self _)
