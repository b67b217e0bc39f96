/-! the reference: laysStrike -/
def SK (M : Int) : Int → Int → Prop := fun x y => LR M x y ∨ x = M + 19
theorem od_b_y {P : Prop} (h : od_b P ≠ 0) : P := Classical.byContradiction (fun z => h (od_b_f z))
theorem od_b_n {P : Prop} (h : od_b P = 0) : ¬ P := fun z => by rw [od_b_t z] at h; exact absurd h (by decide)
set_option maxRecDepth 10000 in
theorem lp_X11_lsA {E : od_E} {g : od_G} {Q : Option od_V → od_G → Prop} {M : Int} (hm : MoAt E M) (hI : MI g M) (hx : ∀ gw : od_G, od_fr (SK M) g gw → LrQ g gw M → (∀ j : Int, 0 ≤ j → j < 64 → gw (M + 19) j = 0) → od_Rq 5 mX11_laysStrike od_Z0 E (E, Q) 25 [some (2, M), some (0, 64), none] [] E gw) : ∀ (m : Nat) (i : Int) (gw : od_G), (0 ≤ i ∧ i ≤ 64 ∧ od_fr (SK M) g gw ∧ LrQ g gw M ∧ (∀ j : Int, 0 ≤ j → j < i → gw (M + 19) j = 0)) → ((64 - i).toNat) < m → od_Rq 5 mX11_laysStrike od_Z0 E (E, Q) 6 [some (2, M), some (0, i), none] [] E gw := by
  intro m
  induction m with
  | zero => intro i gw hi hM; exact absurd hM (Nat.not_lt_zero _)
  | succ m ih =>
    intro i gw hi hM
    obtain ⟨hi0, hi1, hfr, hL, hj⟩ := hi
    refine r_iload_n dX11_laysStrike_6 rfl ?_
    refine r_bipush dX11_laysStrike_7 lb_64 ?_
    refine r_icmp_ge (tgt := 25) dX11_laysStrike_9 rfl (fun c9 => ?_) (fun c9 => ?_)
    · have hi9 : i = 64 := by omega
      subst hi9
      exact hx gw hfr hL hj
    · refine r_aload_n dX11_laysStrike_12 rfl ?_
      refine r_getR dX11_laysStrike_13 fkX11_84 gf11_38 (mo_o hm) (mo_r38 hm) ?_
      refine r_iload_n dX11_laysStrike_16 rfl ?_
      refine r_iconst dX11_laysStrike_17 li_0 ?_
      refine r_zast dX11_laysStrike_18 (by first | exact Or.inl rfl | exact Or.inr rfl | omega | assumption) (mo_k38 hm) (by omega) ?_
      refine r_iincE dX11_laysStrike_19 rfl (by decide) (by first | exact od_w0 (by omega) (by omega) | exact od_wI (by omega) (by omega) | rfl) rfl ?_
      refine r_goto (tgt := 6) dX11_laysStrike_22 rfl ?_
      refine ih _ _ ⟨by omega, by omega, hfr.up (Or.inr rfl), hL.up (by omega) (by omega), fun j h0 h1 => ?_⟩ (by omega)
      rw [od_up_at]
      by_cases cj : j = i
      · rw [if_pos cj]
      · rw [if_neg cj]; exact hj j h0 (by omega)
set_option maxRecDepth 10000 in
theorem lp_X11_lsB {E : od_E} {g : od_G} {Q : Option od_V → od_G → Prop} {M : Int} (hm : MoAt E M) (hI : MI g M) (hx : ∀ (gw : od_G) (h : Int), od_fr (SK M) g gw → LrQ g gw M → (∀ s : Int, 0 ≤ s → s < 64 → gw (M + 19) s = od_b (∃ j : Int, 0 ≤ j ∧ j < mRd g M ∧ mStN g M j = s)) → od_Rq 5 mX11_laysStrike od_Z0 E (E, Q) 53 [some (2, M), some (0, h), none] [] E gw) : ∀ (m : Nat) (h : Int) (gw : od_G), (0 ≤ h ∧ h ≤ mRd g M ∧ od_fr (SK M) g gw ∧ LrQ g gw M ∧ (∀ s : Int, 0 ≤ s → s < 64 → gw (M + 19) s = od_b (∃ j : Int, 0 ≤ j ∧ j < h ∧ mStN g M j = s))) → ((mRd g M - h).toNat) < m → od_Rq 5 mX11_laysStrike od_Z0 E (E, Q) 27 [some (2, M), some (0, h), none] [] E gw := by
  intro m
  induction m with
  | zero => intro h gw hi hM; exact absurd hM (Nat.not_lt_zero _)
  | succ m ih =>
    intro h gw hi hM
    obtain ⟨hi0, hi1, hfr, hL, hj⟩ := hi
    have hR := mRd_b hI
    have e37 := hL.1
    have b64 := mStN_64 hI h
    refine r_iload_n dX11_laysStrike_27 rfl ?_
    refine r_aload_n dX11_laysStrike_28 rfl ?_
    refine r_getIj (j := 37) rfl dX11_laysStrike_29 fkX11_380 gf11_37 (mo_o hm) (by first | exact e37 | exact hL.2 _ hi0 (by omega) | rfl) ?_
    refine r_icmp_ge (tgt := 53) dX11_laysStrike_32 rfl (fun c32 => ?_) (fun c32 => ?_)
    · exact hx gw _ hfr hL (by rw [show mRd g M = h by omega]; exact hj)
    · refine r_aload_n dX11_laysStrike_35 rfl ?_
      refine r_getR dX11_laysStrike_36 fkX11_84 gf11_38 (mo_o hm) (mo_r38 hm) ?_
      refine r_aload_n dX11_laysStrike_39 rfl ?_
      refine r_getR dX11_laysStrike_40 fkX11_75 gf11_34 (mo_o hm) (mo_r34 hm) ?_
      refine r_iload_n dX11_laysStrike_43 rfl ?_
      refine r_iald dX11_laysStrike_44 (mo_k34 hm) (by omega) (by first | exact e37 | exact hL.2 _ hi0 (by omega) | rfl) ?_
      refine r_iconst dX11_laysStrike_45 li_1 ?_
      refine r_zast dX11_laysStrike_46 (by first | exact Or.inl rfl | exact Or.inr rfl | omega | assumption) (mo_k38 hm) (by omega) ?_
      refine r_iincE dX11_laysStrike_47 rfl (by decide) (by first | exact od_w0 (by omega) (by omega) | exact od_wI (by omega) (by omega) | rfl) rfl ?_
      refine r_goto (tgt := 27) dX11_laysStrike_50 rfl ?_
      refine ih _ _ ⟨by omega, by omega, hfr.up (Or.inr rfl), hL.up (by omega) (by omega), fun s s0 s1 => ?_⟩ (by omega)
      rw [od_up_at]
      by_cases cs : s = mStN g M h
      · rw [if_pos cs]
        exact (od_b_t ⟨h, hi0, by omega, cs.symm⟩).symm
      · rw [if_neg cs, hj s s0 s1]
        congr 1
        refine propext ⟨fun z => ?_, fun z => ?_⟩
        · obtain ⟨j, j0, j1, e⟩ := z
          exact ⟨j, j0, by omega, e⟩
        · obtain ⟨j, j0, j1, e⟩ := z
          by_cases cj : j = h
          · rw [cj] at e; exact absurd e.symm cs
          · exact ⟨j, j0, by omega, e⟩
set_option maxRecDepth 10000 in
theorem lp_X11_lsD {E : od_E} {g : od_G} {Q : Option od_V → od_G → Prop} {M : Int} (hm : MoAt E M) (hI : MI g M) (d : Int) (hd : 0 ≤ d ∧ d < 6) (hx : ∀ (gw : od_G) (x : Option od_V), od_fr (SK M) g gw → LrQ g gw M → (∀ s : Int, 0 ≤ s → s < 64 → gw (M + 19) s = od_b (mClo g M (d + 1) s)) → od_Rq 5 mX11_laysStrike od_Z0 E (E, Q) 108 [some (2, M), some (0, d), x] [] E gw) : ∀ (m : Nat) (s : Int) (gw : od_G), (0 ≤ s ∧ s ≤ 64 ∧ od_fr (SK M) g gw ∧ LrQ g gw M ∧ (∀ t : Int, 0 ≤ t → t < s → gw (M + 19) t = od_b (mClo g M (d + 1) t)) ∧ ∀ t : Int, s ≤ t → t < 64 → gw (M + 19) t = od_b (mClo g M d t)) → ((64 - s).toNat) < m → od_Rq 5 mX11_laysStrike od_Z0 E (E, Q) 63 [some (2, M), some (0, d), some (0, s)] [] E gw := by
  intro m
  induction m with
  | zero => intro s gw hi hM; exact absurd hM (Nat.not_lt_zero _)
  | succ m ih =>
    intro s gw hi hM
    obtain ⟨hi0, hi1, hfr, hL, hlt, hge⟩ := hi
    have ho : s < 64 → s ≤ od_or s (od_shl 1 d) ∧ od_or s (od_shl 1 d) < 64 := fun z => od_or_b ⟨hi0, z⟩ hd
    have hc := mClo_s (g := g) (M := M) (s := s) hd
    refine r_iload_n dX11_laysStrike_63 rfl ?_
    refine r_bipush dX11_laysStrike_64 lb_64 ?_
    refine r_icmp_ge (tgt := 108) dX11_laysStrike_66 rfl (fun c66 => ?_) (fun c66 => ?_)
    · exact hx gw _ hfr hL (fun t t0 t1 => hlt t t0 (by omega))
    · have ho1 := ho (by omega)
      refine r_aload_n dX11_laysStrike_69 rfl ?_
      refine r_getR dX11_laysStrike_70 fkX11_84 gf11_38 (mo_o hm) (mo_r38 hm) ?_
      refine r_iload_n dX11_laysStrike_73 rfl ?_
      refine r_aload_n dX11_laysStrike_74 rfl ?_
      refine r_getR dX11_laysStrike_75 fkX11_84 gf11_38 (mo_o hm) (mo_r38 hm) ?_
      refine r_iload_n dX11_laysStrike_78 rfl ?_
      refine r_zald dX11_laysStrike_79 (mo_k38 hm) (by omega) (by first | exact hge s (by omega) (by omega) | exact hge _ ho1.1 ho1.2 | rfl) ?_
      refine r_if_ne (tgt := 96) dX11_laysStrike_80 rfl (fun c80 => ?_) (fun c80 => ?_)
      · refine r_iconst dX11_laysStrike_96 li_1 ?_
        refine r_goto (tgt := 101) dX11_laysStrike_97 rfl ?_
        refine r_zast dX11_laysStrike_101 (by first | exact Or.inl rfl | exact Or.inr rfl | omega | assumption) (mo_k38 hm) (by omega) ?_
        refine r_iincE dX11_laysStrike_102 rfl (by decide) (by first | exact od_w0 (by omega) (by omega) | exact od_wI (by omega) (by omega) | rfl) rfl ?_
        refine r_goto (tgt := 63) dX11_laysStrike_105 rfl ?_
        refine ih _ _ ⟨by omega, by omega, hfr.up (Or.inr rfl), hL.up (by omega) (by omega), fun t t0 t1 => ?_, fun t t0 t1 => by rw [od_up_at, if_neg (by omega)]; exact hge t (by omega) t1⟩ (by omega)
        rw [od_up_at]
        by_cases ct : t = s
        · rw [if_pos ct, ct]
          first
          | (have z1 : od_b (mClo g M d s) = 0 := by assumption
             have z2 : od_b (mClo g M d (od_or s (od_shl 1 d))) = 0 := by assumption
             exact (od_b_f (fun z => by rcases hc.mp z with y | y; exact od_b_n z1 y; exact od_b_n z2 y)).symm)
          | (have z1 : od_b (mClo g M d s) ≠ 0 := by assumption
             exact (od_b_t (hc.mpr (Or.inl (od_b_y z1)))).symm)
          | (have z2 : od_b (mClo g M d (od_or s (od_shl 1 d))) ≠ 0 := by assumption
             exact (od_b_t (hc.mpr (Or.inr (od_b_y z2)))).symm)
        · rw [if_neg ct]
          exact hlt t t0 (by omega)
      · refine r_aload_n dX11_laysStrike_83 rfl ?_
        refine r_getR dX11_laysStrike_84 fkX11_84 gf11_38 (mo_o hm) (mo_r38 hm) ?_
        refine r_iload_n dX11_laysStrike_87 rfl ?_
        refine r_iconst dX11_laysStrike_88 li_1 ?_
        refine r_iload_n dX11_laysStrike_89 rfl ?_
        refine r_ishl dX11_laysStrike_90 ?_
        refine r_ior dX11_laysStrike_91 ?_
        refine r_zald dX11_laysStrike_92 (mo_k38 hm) (by omega) (by first | exact hge s (by omega) (by omega) | exact hge _ ho1.1 ho1.2 | rfl) ?_
        refine r_if_eq (tgt := 100) dX11_laysStrike_93 rfl (fun c93 => ?_) (fun c93 => ?_)
        · refine r_iconst dX11_laysStrike_100 li_0 ?_
          refine r_zast dX11_laysStrike_101 (by first | exact Or.inl rfl | exact Or.inr rfl | omega | assumption) (mo_k38 hm) (by omega) ?_
          refine r_iincE dX11_laysStrike_102 rfl (by decide) (by first | exact od_w0 (by omega) (by omega) | exact od_wI (by omega) (by omega) | rfl) rfl ?_
          refine r_goto (tgt := 63) dX11_laysStrike_105 rfl ?_
          refine ih _ _ ⟨by omega, by omega, hfr.up (Or.inr rfl), hL.up (by omega) (by omega), fun t t0 t1 => ?_, fun t t0 t1 => by rw [od_up_at, if_neg (by omega)]; exact hge t (by omega) t1⟩ (by omega)
          rw [od_up_at]
          by_cases ct : t = s
          · rw [if_pos ct, ct]
            first
            | (have z1 : od_b (mClo g M d s) = 0 := by assumption
               have z2 : od_b (mClo g M d (od_or s (od_shl 1 d))) = 0 := by assumption
               exact (od_b_f (fun z => by rcases hc.mp z with y | y; exact od_b_n z1 y; exact od_b_n z2 y)).symm)
            | (have z1 : od_b (mClo g M d s) ≠ 0 := by assumption
               exact (od_b_t (hc.mpr (Or.inl (od_b_y z1)))).symm)
            | (have z2 : od_b (mClo g M d (od_or s (od_shl 1 d))) ≠ 0 := by assumption
               exact (od_b_t (hc.mpr (Or.inr (od_b_y z2)))).symm)
          · rw [if_neg ct]
            exact hlt t t0 (by omega)
        · refine r_iconst dX11_laysStrike_96 li_1 ?_
          refine r_goto (tgt := 101) dX11_laysStrike_97 rfl ?_
          refine r_zast dX11_laysStrike_101 (by first | exact Or.inl rfl | exact Or.inr rfl | omega | assumption) (mo_k38 hm) (by omega) ?_
          refine r_iincE dX11_laysStrike_102 rfl (by decide) (by first | exact od_w0 (by omega) (by omega) | exact od_wI (by omega) (by omega) | rfl) rfl ?_
          refine r_goto (tgt := 63) dX11_laysStrike_105 rfl ?_
          refine ih _ _ ⟨by omega, by omega, hfr.up (Or.inr rfl), hL.up (by omega) (by omega), fun t t0 t1 => ?_, fun t t0 t1 => by rw [od_up_at, if_neg (by omega)]; exact hge t (by omega) t1⟩ (by omega)
          rw [od_up_at]
          by_cases ct : t = s
          · rw [if_pos ct, ct]
            first
            | (have z1 : od_b (mClo g M d s) = 0 := by assumption
               have z2 : od_b (mClo g M d (od_or s (od_shl 1 d))) = 0 := by assumption
               exact (od_b_f (fun z => by rcases hc.mp z with y | y; exact od_b_n z1 y; exact od_b_n z2 y)).symm)
            | (have z1 : od_b (mClo g M d s) ≠ 0 := by assumption
               exact (od_b_t (hc.mpr (Or.inl (od_b_y z1)))).symm)
            | (have z2 : od_b (mClo g M d (od_or s (od_shl 1 d))) ≠ 0 := by assumption
               exact (od_b_t (hc.mpr (Or.inr (od_b_y z2)))).symm)
          · rw [if_neg ct]
            exact hlt t t0 (by omega)
set_option maxRecDepth 10000 in
theorem lp_X11_lsC {E : od_E} {g : od_G} {M : Int} (hm : MoAt E M) (hI : MI g M) : ∀ (m : Nat) (d : Int) (x : Option od_V) (gw : od_G), (0 ≤ d ∧ d ≤ 6 ∧ od_fr (SK M) g gw ∧ LrQ g gw M ∧ (∀ s : Int, 0 ≤ s → s < 64 → gw (M + 19) s = od_b (mClo g M (d) s))) → ((6 - d).toNat) < m → od_Rq 5 mX11_laysStrike od_Z0 E (E, fun w g' => w = none ∧ od_fr (SK M) g g' ∧ LrQ g g' M ∧ ∀ s : Int, 0 ≤ s → s < 64 → g' (M + 19) s = od_b (mClo g M 6 s)) 55 [some (2, M), some (0, d), x] [] E gw := by
  intro m
  induction m with
  | zero => intro d x gw hi hM; exact absurd hM (Nat.not_lt_zero _)
  | succ m ih =>
    intro d x gw hi hM
    obtain ⟨hi0, hi1, hfr, hL, hj⟩ := hi
    refine r_iload_n dX11_laysStrike_55 rfl ?_
    refine r_bipush dX11_laysStrike_56 lb_6 ?_
    refine r_icmp_ge (tgt := 114) dX11_laysStrike_58 rfl (fun c58 => ?_) (fun c58 => ?_)
    · have hd9 : d = 6 := by omega
      subst hd9
      exact r_vretq dX11_laysStrike_114 rfl rfl ⟨rfl, hfr, hL, hj⟩
    · refine r_iconst dX11_laysStrike_61 li_0 ?_
      refine r_istore_n dX11_laysStrike_62 (by decide) rfl ?_
      refine lp_X11_lsD (g := g) hm hI d (by omega) (fun gx x hgx hLx hjx => ?_) _ _ _ ⟨by omega, by omega, hfr, hL, fun t t0 t1 => by omega, fun t t0 t1 => hj t t0 t1⟩ (Nat.lt_succ_self _)
      refine r_iincE dX11_laysStrike_108 rfl (by decide) (by first | exact od_w0 (by omega) (by omega) | exact od_wI (by omega) (by omega) | rfl) rfl ?_
      refine r_goto (tgt := 55) dX11_laysStrike_111 rfl ?_
      exact ih _ _ _ ⟨by omega, by omega, hgx, hLx, hjx⟩ (by omega)
set_option maxRecDepth 10000 in
theorem c_X11_laysStrike {E : od_E} {g : od_G} {M : Int} (hm : MoAt E M) (hI : MI g M) : od_Cq 5 mX11_laysStrike [(2, M)] E g (E, fun w g' => w = none ∧ od_fr (SK M) g g' ∧ LrQ g g' M ∧ ∀ s : Int, 0 ≤ s → s < 64 → g' (M + 19) s = od_b (mClo g M 6 s)) := by
  refine od_cqI pnX11 rfl (Nat.le_of_ble_eq_true rfl) od_le.rf ?_
  show od_Rq 5 mX11_laysStrike od_Z0 E (E, fun w g' => w = none ∧ od_fr (SK M) g g' ∧ LrQ g g' M ∧ ∀ s : Int, 0 ≤ s → s < 64 → g' (M + 19) s = od_b (mClo g M 6 s)) 0 [some (2, M), none, none] [] E g
  refine r_aload_n dX11_laysStrike_0 rfl ?_
  refine r_callV0p dX11_laysStrike_1 cvX11_383 (mo_o hm) (c_X11_laysRound hm hI) (by decide) (Nat.le_of_ble_eq_true rfl) od_le.rf (fun r1 g1 h1 => ?_)
  obtain ⟨rfl, f1, k1⟩ := h1
  show od_Rq _ _ _ _ _ _ _ [] _ _
  refine r_iconst dX11_laysStrike_4 li_0 ?_
  refine r_istore_n dX11_laysStrike_5 (by decide) rfl ?_
  refine lp_X11_lsA (g := g) hm hI (fun gx hgx hLx hjx => ?_) _ _ _ ⟨by omega, by omega, f1.mo (fun _ _ z => Or.inl z), k1, fun j h0 h1 => by omega⟩ (Nat.lt_succ_self _)
  have hR := mRd_b hI
  refine r_iconst dX11_laysStrike_25 li_0 ?_
  refine r_istore_n dX11_laysStrike_26 (by decide) rfl ?_
  refine lp_X11_lsB (g := g) hm hI (fun gy hy hgy hLy hjy => ?_) _ _ _ ⟨by omega, by omega, hgx, hLx, fun s s0 s1 => by rw [hjx s s0 s1]; exact (od_b_f (fun z => by obtain ⟨j, j0, j1, _⟩ := z; omega)).symm⟩ (Nat.lt_succ_self _)
  refine r_iconst dX11_laysStrike_53 li_0 ?_
  refine r_istore_n dX11_laysStrike_54 (by decide) rfl ?_
  exact lp_X11_lsC hm hI _ _ _ _ ⟨by omega, by omega, hgy, hLy, fun s s0 s1 => by rw [hjy s s0 s1, propext (mClo_0 hI ⟨s0, s1⟩)]⟩ (Nat.lt_succ_self _)
