/-! the reference: how loud a round is -/
theorem mBeat_r {g : od_G} {M d h : Int} (hI : MI g M) (hJ : MJ g M) (hd : 0 ≤ d ∧ d < g (M + 2) 45) (hh : 0 ≤ h ∧ h ≤ 30000) : 0 ≤ mBeat g M d h ∧ mBeat g M d h < g (M + 2) (19 + d) := by
  have j := hJ d hd.1 hd.2
  have l := hI.2 d hd.1 hd.2
  unfold mBeat
  by_cases c : mStop g M d
  · rw [od_ite_t c]
    exact j.1
  · rw [od_ite_f c, od_wI (by omega) (by omega), Int.tmod_eq_emod_of_nonneg (by omega)]
    exact ⟨Int.emod_nonneg _ (by omega), Int.emod_lt_of_pos _ (by omega)⟩
noncomputable def mNd (g : od_G) (M : Int) (pl : Int → Int) (C h d : Int) : Int := od_ite (mIn (mStN g M h) d) (mSnd (g (M + 2)) pl C d (mBeat g M d h)) 0
noncomputable def mNz (g : od_G) (M : Int) (pl : Int → Int) (C h : Int) : Int := od_sum (mNd g M pl C h) (g (M + 2) 45).toNat
theorem mSnd_9 (row pl : Int → Int) (C d bt : Int) : 0 ≤ mSnd row pl C d bt ∧ mSnd row pl C d bt ≤ 9 := mTl_9 (by omega)
theorem mNd_b (g : od_G) (M : Int) (pl : Int → Int) (C h d : Int) : 0 ≤ mNd g M pl C h d ∧ mNd g M pl C h d ≤ 9 := by
  unfold mNd
  by_cases c : mIn (mStN g M h) d
  · rw [od_ite_t c]; exact mSnd_9 _ _ _ _ _
  · rw [od_ite_f c]; omega
def NQ (M : Int) : Int → Int → Prop := fun x y => LR M x y ∨ XQ M x y ∨ x = M + 17 ∨ x = M + 18
/-- the sounds are laid out for drums under n -/
def SdQ (g g' : od_G) (M : Int) (pl : Int → Int) (C n : Int) : Prop := ∀ e b : Int, 0 ≤ e → e < n → 0 ≤ b → b < g (M + 2) (19 + e) → g' (M + 18) (12 * e + b) = mSnd (g (M + 2)) pl C e b
def NzQ (g g' : od_G) (M : Int) (pl : Int → Int) (C : Int) : Prop := LrQ g g' M ∧ ∀ j : Int, 0 ≤ j → j < mRd g M → g' (M + 17) j = mNz g M pl C j
theorem LrQ.up {g g' : od_G} {M a j v : Int} (h : LrQ g g' M) (h1 : M ≠ a) (h2 : M + 16 ≠ a) : LrQ g (od_up g' a j v) M := ⟨by rw [od_upn h1]; exact h.1, fun i h0 hi => by rw [od_upn h2]; exact h.2 i h0 hi⟩
theorem LrQ.fr {g g' g'' : od_G} {M : Int} {X : Int → Int → Prop} (h : LrQ g g' M) (f : od_fr X g' g'') (h1 : ¬ X M 37) (h2 : ∀ y, ¬ X (M + 16) y) : LrQ g g'' M := ⟨by rw [f _ _ h1]; exact h.1, fun i h0 hi => by rw [f _ _ (h2 i)]; exact h.2 i h0 hi⟩
set_option maxRecDepth 10000 in
theorem lp_X11_lnB {E : od_E} {g : od_G} {Q : Option od_V → od_G → Prop} {M : Int} (hm : MoAt E M) {pl : Int → Int} {C : Int} (hI : MI g M) (hJ : MJ g M) (hF : LwF (g (M + 2)) pl C) (d : Int) (hd : 0 ≤ d ∧ d < g (M + 2) 45) (hx : ∀ (gw : od_G) (x : Option od_V), od_fr (NQ M) g gw → LrQ g gw M → SdQ g gw M pl C (d + 1) → od_Rq 46 mX11_laysNoise od_Z0 E (E, Q) 52 [some (2, M), some (0, d), x] [] E gw) : ∀ (m : Nat) (b : Int) (gw : od_G), (0 ≤ b ∧ b ≤ g (M + 2) (19 + d) ∧ od_fr (NQ M) g gw ∧ LrQ g gw M ∧ SdQ g gw M pl C d ∧ ∀ j : Int, 0 ≤ j → j < b → gw (M + 18) (12 * d + j) = mSnd (g (M + 2)) pl C d j) → ((g (M + 2) (19 + d) - b).toNat) < m → od_Rq 46 mX11_laysNoise od_Z0 E (E, Q) 16 [some (2, M), some (0, d), some (0, b)] [] E gw := by
  intro m
  induction m with
  | zero => intro b gw hi hM; exact absurd hM (Nat.not_lt_zero _)
  | succ m ih =>
    intro b gw hi hM
    obtain ⟨hi0, hi1, hfr, hL, hS, hj⟩ := hi
    have e2 : gw (M + 2) = g (M + 2) := hfr.row (fun y => by unfold NQ LR XQ; omega)
    have hIw := hI.e e2
    have hFw := hF.e e2
    have i45 := hI.1
    have hR := mRd_b hI
    have e37 := hL.1
    have l := hI.2 d hd.1 hd.2
    have e19 : gw (M + 2) (19 + d) = g (M + 2) (19 + d) := by rw [e2]
    refine r_iload_n dX11_laysNoise_16 rfl ?_
    refine r_aload_n dX11_laysNoise_17 rfl ?_
    refine r_getR dX11_laysNoise_18 fkX11_28 gf11_2 (mo_o hm) (mo_r2 hm) ?_
    refine r_bipush dX11_laysNoise_21 lb_19 ?_
    refine r_iload_n dX11_laysNoise_23 rfl ?_
    refine r_iaddE dX11_laysNoise_24 (by first | exact od_w0 (by omega) (by omega) | exact od_wI (by omega) (by omega) | rfl) ?_
    refine r_iald dX11_laysNoise_25 (mo_k2 hm) (by omega) (by first | exact e19 | rfl) ?_
    refine r_icmp_ge (tgt := 52) dX11_laysNoise_26 rfl (fun c26 => ?_) (fun c26 => ?_)
    · refine hx gw _ hfr hL (fun e b' e0 e1 b0 b1 => ?_)
      by_cases ce : e = d
      · rw [ce]; rw [ce] at b1; exact hj b' b0 (by omega)
      · exact hS e b' e0 (by omega) b0 b1
    · refine r_aload_n dX11_laysNoise_29 rfl ?_
      refine r_getR dX11_laysNoise_30 fkX11_81 gf11_36 (mo_o hm) (mo_r36 hm) ?_
      refine r_bipush dX11_laysNoise_33 lb_12 ?_
      refine r_iload_n dX11_laysNoise_35 rfl ?_
      refine r_imulE dX11_laysNoise_36 (by first | exact od_w0 (by omega) (by omega) | exact od_wI (by omega) (by omega) | rfl) ?_
      refine r_iload_n dX11_laysNoise_37 rfl ?_
      refine r_iaddE dX11_laysNoise_38 (by first | exact od_w0 (by omega) (by omega) | exact od_wI (by omega) (by omega) | rfl) ?_
      refine r_aload_n dX11_laysNoise_39 rfl ?_
      refine r_iload_n dX11_laysNoise_40 rfl ?_
      refine r_iload_n dX11_laysNoise_41 rfl ?_
      refine r_callV2f dX11_laysNoise_42 cvX11_138 (mo_o hm) (c_X11_soundsAt hm hIw hFw _ (by omega) _) (by decide) (Nat.le_of_ble_eq_true rfl) od_le.rf (fun g42 f42 => ?_)
      rw [e2]
      refine r_iast dX11_laysNoise_45 (mo_k36 hm) (by omega) ?_
      refine r_iincE dX11_laysNoise_46 rfl (by decide) (by first | exact od_w0 (by omega) (by omega) | exact od_wI (by omega) (by omega) | rfl) rfl ?_
      refine r_goto (tgt := 16) dX11_laysNoise_49 rfl ?_
      refine ih _ _ ⟨by omega, by omega, (hfr.tr (f42.mo (fun _ _ z => Or.inr (Or.inl z)))).up (Or.inr (Or.inr (Or.inr rfl))), (hL.fr f42 (by unfold XQ; omega) (fun y => by unfold XQ; omega)).up (by omega) (by omega), fun e b' e0 e1 b0 b1 => ?_, fun j h0 h1 => ?_⟩ (by omega)
      · have le := hI.2 e e0 (by omega)
        rw [od_up_at, if_neg (by omega), f42 _ _ (by unfold XQ; omega)]
        exact hS e b' e0 e1 b0 b1
      · rw [od_up_at]
        by_cases cj : j = b
        · rw [if_pos (by omega), cj]
        · rw [if_neg (by omega), f42 _ _ (by unfold XQ; omega)]
          exact hj j h0 (by omega)
set_option maxRecDepth 10000 in
theorem lp_X11_lnA {E : od_E} {g : od_G} {Q : Option od_V → od_G → Prop} {M : Int} (hm : MoAt E M) {pl : Int → Int} {C : Int} (hI : MI g M) (hJ : MJ g M) (hF : LwF (g (M + 2)) pl C) (hx : ∀ (gw : od_G) (d : Int) (x : Option od_V), od_fr (NQ M) g gw → LrQ g gw M → SdQ g gw M pl C (g (M + 2) 45) → od_Rq 46 mX11_laysNoise od_Z0 E (E, Q) 58 [some (2, M), some (0, d), x] [] E gw) : ∀ (m : Nat) (d : Int) (x : Option od_V) (gw : od_G), (0 ≤ d ∧ d ≤ g (M + 2) 45 ∧ od_fr (NQ M) g gw ∧ LrQ g gw M ∧ SdQ g gw M pl C d) → ((g (M + 2) 45 - d).toNat) < m → od_Rq 46 mX11_laysNoise od_Z0 E (E, Q) 6 [some (2, M), some (0, d), x] [] E gw := by
  intro m
  induction m with
  | zero => intro d x gw hi hM; exact absurd hM (Nat.not_lt_zero _)
  | succ m ih =>
    intro d x gw hi hM
    obtain ⟨hi0, hi1, hfr, hL, hS⟩ := hi
    have e2 : gw (M + 2) = g (M + 2) := hfr.row (fun y => by unfold NQ LR XQ; omega)
    have hIw := hI.e e2
    have hFw := hF.e e2
    have i45 := hI.1
    have hR := mRd_b hI
    have e37 := hL.1
    refine r_iload_n dX11_laysNoise_6 rfl ?_
    refine r_aload_n dX11_laysNoise_7 rfl ?_
    refine r_callV0i dX11_laysNoise_8 cvX11_112 (mo_o hm) (c_X11_drumMany hm) (by decide) (Nat.le_of_ble_eq_true rfl) od_le.rf ?_
    rw [e2]
    refine r_icmp_ge (tgt := 58) dX11_laysNoise_11 rfl (fun c11 => ?_) (fun c11 => ?_)
    · exact hx gw _ _ hfr hL (by rw [show g (M + 2) 45 = d by omega]; exact hS)
    · refine r_iconst dX11_laysNoise_14 li_0 ?_
      refine r_istore_n dX11_laysNoise_15 (by decide) rfl ?_
      have l := hI.2 d hi0 (by omega)
      refine lp_X11_lnB (g := g) hm hI hJ hF d (by omega) (fun gx x hgx hLx hSx => ?_) _ _ _ ⟨by omega, by omega, hfr, hL, hS, fun j h0 h1 => by omega⟩ (Nat.lt_succ_self _)
      refine r_iincE dX11_laysNoise_52 rfl (by decide) (by first | exact od_w0 (by omega) (by omega) | exact od_wI (by omega) (by omega) | rfl) rfl ?_
      refine r_goto (tgt := 6) dX11_laysNoise_55 rfl ?_
      exact ih _ _ _ ⟨by omega, by omega, hgx, hLx, hSx⟩ (by omega)
set_option maxRecDepth 10000 in
theorem lp_X11_lnD {E : od_E} {g : od_G} {Q : Option od_V → od_G → Prop} {M : Int} (hm : MoAt E M) {pl : Int → Int} {C : Int} (hI : MI g M) (hJ : MJ g M) (hF : LwF (g (M + 2)) pl C) (h : Int) (hh : 0 ≤ h ∧ h < mRd g M) (hx : ∀ (gw : od_G) (x : Option od_V), od_fr (NQ M) g gw → LrQ g gw M → SdQ g gw M pl C (g (M + 2) 45) → (∀ j : Int, 0 ≤ j → j < h + 1 → gw (M + 17) j = mNz g M pl C j) → od_Rq 46 mX11_laysNoise od_Z0 E (E, Q) 133 [some (2, M), some (0, h), x] [] E gw) : ∀ (m : Nat) (d : Int) (gw : od_G), (0 ≤ d ∧ d ≤ g (M + 2) 45 ∧ od_fr (NQ M) g gw ∧ LrQ g gw M ∧ SdQ g gw M pl C (g (M + 2) 45) ∧ gw (M + 17) h = od_sum (mNd g M pl C h) d.toNat ∧ (∀ j : Int, 0 ≤ j → j < h → gw (M + 17) j = mNz g M pl C j)) → ((g (M + 2) 45 - d).toNat) < m → od_Rq 46 mX11_laysNoise od_Z0 E (E, Q) 77 [some (2, M), some (0, h), some (0, d)] [] E gw := by
  intro m
  induction m with
  | zero => intro d gw hi hM; exact absurd hM (Nat.not_lt_zero _)
  | succ m ih =>
    intro d gw hi hM
    obtain ⟨hi0, hi1, hfr, hL, hS, hc, hj⟩ := hi
    have e2 : gw (M + 2) = g (M + 2) := hfr.row (fun y => by unfold NQ LR XQ; omega)
    have hIw := hI.e e2
    have hFw := hF.e e2
    have i45 := hI.1
    have hR := mRd_b hI
    have e37 := hL.1
    have hl : d < g (M + 2) 45 → 1 ≤ gw (M + 2) (19 + d) := fun z => by rw [e2]; exact (hI.2 d hi0 z).1
    have hs := od_sum_s (mNd g M pl C h) hi0
    have hb := od_sum_b (f := mNd g M pl C h) (m := 9) d.toNat (fun i _ _ => mNd_b g M pl C h i)
    have hb9 := mSnd_9 (g (M + 2)) pl C d (mBeat g M d h)
    have hB : d < g (M + 2) 45 → 0 ≤ mBeat g M d h ∧ mBeat g M d h < g (M + 2) (19 + d) := fun z => mBeat_r hI hJ ⟨hi0, z⟩ (by omega)
    have hl12 : d < g (M + 2) 45 → g (M + 2) (19 + d) ≤ 12 := fun z => (hI.2 d hi0 z).2
    refine r_iload_n dX11_laysNoise_77 rfl ?_
    refine r_aload_n dX11_laysNoise_78 rfl ?_
    refine r_callV0i dX11_laysNoise_79 cvX11_112 (mo_o hm) (c_X11_drumMany hm) (by decide) (Nat.le_of_ble_eq_true rfl) od_le.rf ?_
    rw [e2]
    refine r_icmp_ge (tgt := 133) dX11_laysNoise_82 rfl (fun c82 => ?_) (fun c82 => ?_)
    · refine hx gw _ hfr hL hS (fun j h0 h1 => ?_)
      by_cases cj : j = h
      · rw [cj, hc, show d = g (M + 2) 45 by omega]; rfl
      · exact hj j h0 (by omega)
    · refine r_aload_n dX11_laysNoise_85 rfl ?_
      refine r_getR dX11_laysNoise_86 fkX11_78 gf11_35 (mo_o hm) (mo_r35 hm) ?_
      refine r_iload_n dX11_laysNoise_89 rfl ?_
      refine r_dup2 dX11_laysNoise_90 (by first | exact od_ne2 | exact od_ne0) (by first | exact od_ne2 | exact od_ne0) ?_
      refine r_iald dX11_laysNoise_91 (mo_k35 hm) (by omega) (by first | exact hc | exact hL.2 _ hh.1 hh.2 | exact hS d _ hi0 (by omega) hB1.1 hB1.2 | rfl) ?_
      refine r_aload_n dX11_laysNoise_92 rfl ?_
      refine r_getR dX11_laysNoise_93 fkX11_75 gf11_34 (mo_o hm) (mo_r34 hm) ?_
      refine r_iload_n dX11_laysNoise_96 rfl ?_
      refine r_iald dX11_laysNoise_97 (mo_k34 hm) (by omega) (by first | exact hc | exact hL.2 _ hh.1 hh.2 | exact hS d _ hi0 (by omega) hB1.1 hB1.2 | rfl) ?_
      refine r_iload_n dX11_laysNoise_98 rfl ?_
      refine r_callS2b dX11_laysNoise_99 csX11_116 (c_X11_isIn _ _) (by decide) (Nat.le_of_ble_eq_true rfl) od_le.rf (fun q99 => ?_) (fun q99 => ?_)
      · refine r_if_eq (tgt := 124) dX11_laysNoise_102 rfl (fun h => absurd h (by decide)) (fun _ => ?_)
        have hB1 := hB (by omega)
        have hl1 := hl12 (by omega)
        refine r_aload_n dX11_laysNoise_105 rfl ?_
        refine r_getR dX11_laysNoise_106 fkX11_81 gf11_36 (mo_o hm) (mo_r36 hm) ?_
        refine r_bipush dX11_laysNoise_109 lb_12 ?_
        refine r_iload_n dX11_laysNoise_111 rfl ?_
        refine r_imulE dX11_laysNoise_112 (by first | exact od_w0 (by omega) (by omega) | exact od_wI (by omega) (by omega) | rfl) ?_
        refine r_aload_n dX11_laysNoise_113 rfl ?_
        refine r_iload_n dX11_laysNoise_114 rfl ?_
        refine r_iload_n dX11_laysNoise_115 rfl ?_
        refine r_callV2i dX11_laysNoise_116 cvX11_338 (mo_o hm) (c_X11_beatOf hm _ (by omega) (hl (by omega)) _) (by decide) (Nat.le_of_ble_eq_true rfl) od_le.rf ?_
        rw [mBeat_e e2]
        refine r_iaddE dX11_laysNoise_119 (by first | exact od_w0 (by omega) (by omega) | exact od_wI (by omega) (by omega) | rfl) ?_
        refine r_iald dX11_laysNoise_120 (mo_k36 hm) (by omega) (by first | exact hc | exact hL.2 _ hh.1 hh.2 | exact hS d _ hi0 (by omega) hB1.1 hB1.2 | rfl) ?_
        refine r_goto (tgt := 125) dX11_laysNoise_121 rfl ?_
        refine r_iaddE dX11_laysNoise_125 (by first | exact od_w0 (by omega) (by omega) | exact od_wI (by omega) (by omega) | rfl) ?_
        refine r_iast dX11_laysNoise_126 (mo_k35 hm) (by omega) ?_
        refine r_iincE dX11_laysNoise_127 rfl (by decide) (by first | exact od_w0 (by omega) (by omega) | exact od_wI (by omega) (by omega) | rfl) rfl ?_
        refine r_goto (tgt := 77) dX11_laysNoise_130 rfl ?_
        have q99x := q99
        first
        | (have eN : mNd g M pl C h d = mSnd (g (M + 2)) pl C d (mBeat g M d h) := od_ite_t q99x
           rw [eN] at hs
           refine ih _ _ ⟨by omega, by omega, hfr.up (Or.inr (Or.inr (Or.inl rfl))), hL.up (by omega) (by omega), fun e b' e0 e1 b0 b1 => by rw [od_upn (by omega)]; exact hS e b' e0 e1 b0 b1, by rw [od_up_i, hs], fun j h0 h1 => ?_⟩ (by omega)
           rw [od_up_at, if_neg (by omega)]
           exact hj j h0 h1)
        | (have eN : mNd g M pl C h d = 0 := od_ite_f q99x
           rw [eN] at hs
           refine ih _ _ ⟨by omega, by omega, hfr.up (Or.inr (Or.inr (Or.inl rfl))), hL.up (by omega) (by omega), fun e b' e0 e1 b0 b1 => by rw [od_upn (by omega)]; exact hS e b' e0 e1 b0 b1, by rw [od_up_i, hs], fun j h0 h1 => ?_⟩ (by omega)
           rw [od_up_at, if_neg (by omega)]
           exact hj j h0 h1)
      · refine r_if_eq (tgt := 124) dX11_laysNoise_102 rfl (fun _ => ?_) (fun h => absurd h (by decide))
        refine r_iconst dX11_laysNoise_124 li_0 ?_
        refine r_iaddE dX11_laysNoise_125 (by first | exact od_w0 (by omega) (by omega) | exact od_wI (by omega) (by omega) | rfl) ?_
        refine r_iast dX11_laysNoise_126 (mo_k35 hm) (by omega) ?_
        refine r_iincE dX11_laysNoise_127 rfl (by decide) (by first | exact od_w0 (by omega) (by omega) | exact od_wI (by omega) (by omega) | rfl) rfl ?_
        refine r_goto (tgt := 77) dX11_laysNoise_130 rfl ?_
        have q99x := q99
        first
        | (have eN : mNd g M pl C h d = mSnd (g (M + 2)) pl C d (mBeat g M d h) := od_ite_t q99x
           rw [eN] at hs
           refine ih _ _ ⟨by omega, by omega, hfr.up (Or.inr (Or.inr (Or.inl rfl))), hL.up (by omega) (by omega), fun e b' e0 e1 b0 b1 => by rw [od_upn (by omega)]; exact hS e b' e0 e1 b0 b1, by rw [od_up_i, hs], fun j h0 h1 => ?_⟩ (by omega)
           rw [od_up_at, if_neg (by omega)]
           exact hj j h0 h1)
        | (have eN : mNd g M pl C h d = 0 := od_ite_f q99x
           rw [eN] at hs
           refine ih _ _ ⟨by omega, by omega, hfr.up (Or.inr (Or.inr (Or.inl rfl))), hL.up (by omega) (by omega), fun e b' e0 e1 b0 b1 => by rw [od_upn (by omega)]; exact hS e b' e0 e1 b0 b1, by rw [od_up_i, hs], fun j h0 h1 => ?_⟩ (by omega)
           rw [od_up_at, if_neg (by omega)]
           exact hj j h0 h1)
set_option maxRecDepth 10000 in
theorem lp_X11_lnC {E : od_E} {g : od_G} {M : Int} (hm : MoAt E M) {pl : Int → Int} {C : Int} (hI : MI g M) (hJ : MJ g M) (hF : LwF (g (M + 2)) pl C) : ∀ (m : Nat) (h : Int) (x : Option od_V) (gw : od_G), (0 ≤ h ∧ h ≤ mRd g M ∧ od_fr (NQ M) g gw ∧ LrQ g gw M ∧ SdQ g gw M pl C (g (M + 2) 45) ∧ (∀ j : Int, 0 ≤ j → j < h → gw (M + 17) j = mNz g M pl C j)) → ((mRd g M - h).toNat) < m → od_Rq 46 mX11_laysNoise od_Z0 E (E, fun w g' => w = none ∧ od_fr (NQ M) g g' ∧ NzQ g g' M pl C) 60 [some (2, M), some (0, h), x] [] E gw := by
  intro m
  induction m with
  | zero => intro h x gw hi hM; exact absurd hM (Nat.not_lt_zero _)
  | succ m ih =>
    intro h x gw hi hM
    obtain ⟨hi0, hi1, hfr, hL, hS, hj⟩ := hi
    have e2 : gw (M + 2) = g (M + 2) := hfr.row (fun y => by unfold NQ LR XQ; omega)
    have hIw := hI.e e2
    have hFw := hF.e e2
    have i45 := hI.1
    have hR := mRd_b hI
    have e37 := hL.1
    refine r_iload_n dX11_laysNoise_60 rfl ?_
    refine r_aload_n dX11_laysNoise_61 rfl ?_
    refine r_getIj (j := 37) rfl dX11_laysNoise_62 fkX11_380 gf11_37 (mo_o hm) (by first | exact e37 | rfl) ?_
    refine r_icmp_ge (tgt := 139) dX11_laysNoise_65 rfl (fun c65 => ?_) (fun c65 => ?_)
    · exact r_vretq dX11_laysNoise_139 rfl rfl ⟨rfl, hfr, hL, fun j h0 h1 => hj j h0 (by omega)⟩
    · refine r_aload_n dX11_laysNoise_68 rfl ?_
      refine r_getR dX11_laysNoise_69 fkX11_78 gf11_35 (mo_o hm) (mo_r35 hm) ?_
      refine r_iload_n dX11_laysNoise_72 rfl ?_
      refine r_iconst dX11_laysNoise_73 li_0 ?_
      refine r_iast dX11_laysNoise_74 (mo_k35 hm) (by omega) ?_
      refine r_iconst dX11_laysNoise_75 li_0 ?_
      refine r_istore_n dX11_laysNoise_76 (by decide) rfl ?_
      refine lp_X11_lnD (g := g) hm hI hJ hF h (by omega) (fun gx x hgx hLx hSx hjx => ?_) _ _ _ ⟨by omega, hI.1.1, hfr.up (Or.inr (Or.inr (Or.inl rfl))), hL.up (by omega) (by omega), fun e b' e0 e1 b0 b1 => by rw [od_upn (by omega)]; exact hS e b' e0 e1 b0 b1, by rw [od_up_i]; rfl, fun j h0 h1 => by rw [od_up_at, if_neg (by omega)]; exact hj j h0 h1⟩ (Nat.lt_succ_self _)
      refine r_iincE dX11_laysNoise_133 rfl (by decide) (by first | exact od_w0 (by omega) (by omega) | exact od_wI (by omega) (by omega) | rfl) rfl ?_
      refine r_goto (tgt := 60) dX11_laysNoise_136 rfl ?_
      exact ih _ _ _ ⟨by omega, by omega, hgx, hLx, hSx, hjx⟩ (by omega)
set_option maxRecDepth 10000 in
theorem c_X11_laysNoise {E : od_E} {g : od_G} {M : Int} (hm : MoAt E M) {pl : Int → Int} {C : Int} (hI : MI g M) (hJ : MJ g M) (hF : LwF (g (M + 2)) pl C) : od_Cq 46 mX11_laysNoise [(2, M)] E g (E, fun w g' => w = none ∧ od_fr (NQ M) g g' ∧ NzQ g g' M pl C) := by
  refine od_cqI pnX11 rfl (Nat.le_of_ble_eq_true rfl) od_le.rf ?_
  show od_Rq 46 mX11_laysNoise od_Z0 E (E, fun w g' => w = none ∧ od_fr (NQ M) g g' ∧ NzQ g g' M pl C) 0 [some (2, M), none, none] [] E g
  refine r_aload_n dX11_laysNoise_0 rfl ?_
  refine r_callV0p dX11_laysNoise_1 cvX11_383 (mo_o hm) (c_X11_laysRound hm hI) (by decide) (Nat.le_of_ble_eq_true rfl) od_le.rf (fun r1 g1 h1 => ?_)
  obtain ⟨rfl, f1, k1⟩ := h1
  show od_Rq _ _ _ _ _ _ _ [] _ _
  refine r_iconst dX11_laysNoise_4 li_0 ?_
  refine r_istore_n dX11_laysNoise_5 (by decide) rfl ?_
  refine lp_X11_lnA (g := g) hm hI hJ hF (fun gx dx x hgx hLx hSx => ?_) _ _ _ _ ⟨by omega, hI.1.1, f1.mo (fun _ _ z => Or.inl z), k1, fun e b e0 e1 b0 b1 => by omega⟩ (Nat.lt_succ_self _)
  refine r_iconst dX11_laysNoise_58 li_0 ?_
  refine r_istore_n dX11_laysNoise_59 (by decide) rfl ?_
  have hR := mRd_b hI
  exact lp_X11_lnC hm hI hJ hF _ _ _ _ ⟨by omega, by omega, hgx, hLx, hSx, fun j h0 h1 => by omega⟩ (Nat.lt_succ_self _)
