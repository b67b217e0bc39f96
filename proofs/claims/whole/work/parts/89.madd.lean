/-! the reference: add -/
def AQ (M : Int) : Int → Int → Prop := fun x y => XQ M x y ∨ x = M + 20 ∨ (x = M ∧ y = 37)
/-- what the third heads bar is laid out for drums under n -/
def BdQ (g g' : od_G) (M : Int) (pl : Int → Int) (C n : Int) : Prop := ∀ e b : Int, 0 ≤ e → e < n → 0 ≤ b → b < g (M + 2) (19 + e) → g' (M + 20) (12 * e + b) = od_b (mNow (g (M + 2)) pl C 2 e b)
def mAddA (x : Int × Int) (w : Int) : Int := if x.2 = -1 ∨ w = 1 then x.2 else x.1
theorem MJ.e {g g' : od_G} {M : Int} (h : MJ g M) (e : g' (M + 2) = g (M + 2)) : MJ g' M := by unfold MJ; rw [e]; exact h
def mAok (g : od_G) (M s w : Int) : Prop := mIsSet g M s ∧ s ≠ 0 ∧ mLies w 0 1
def AdQ (g : od_G) (M : Int) (pl : Int → Int) (C s w : Int) (v : Option od_V) (g' : od_G) : Prop := od_fr (AQ M) g g' ∧ ((¬ mAok g M s w ∧ v = some (0, -1)) ∨ (mAok g M s w ∧ (∃ d : Int, 0 ≤ d ∧ d < g (M + 2) 45 ∧ mIn s d ∧ mStop g M d) ∧ v = some (0, -1)) ∨ (mAok g M s w ∧ (∀ d : Int, 0 ≤ d → d < g (M + 2) 45 → mIn s d → ¬ mStop g M d) ∧ BdQ g g' M pl C (g (M + 2) 45) ∧ v = some (0, mAddA (od_ml 1000000 (-1) (mLack g' M s) (mRd g M).toNat) w)))
set_option maxRecDepth 10000 in
theorem lp_X11_addB {E : od_E} {g : od_G} {Q : Option od_V → od_G → Prop} {M : Int} (hm : MoAt E M) {pl : Int → Int} {C : Int} (hI : MI g M) (hJ : MJ g M) (hF : LwF (g (M + 2)) pl C) (s w d : Int) (hd : 0 ≤ d ∧ d < g (M + 2) 45) (hx : ∀ (gw : od_G) (x : Option od_V), od_fr (AQ M) g gw → BdQ g gw M pl C (d + 1) → od_Rq 46 mX11_add od_Z0 E (E, Q) 92 [some (2, M), some (0, s), some (0, w), some (0, d), x, none, none] [] E gw) : ∀ (m : Nat) (b : Int) (gw : od_G), (0 ≤ b ∧ b ≤ g (M + 2) (19 + d) ∧ od_fr (AQ M) g gw ∧ BdQ g gw M pl C d ∧ ∀ j : Int, 0 ≤ j → j < b → gw (M + 20) (12 * d + j) = od_b (mNow (g (M + 2)) pl C 2 d j)) → ((g (M + 2) (19 + d) - b).toNat) < m → od_Rq 46 mX11_add od_Z0 E (E, Q) 52 [some (2, M), some (0, s), some (0, w), some (0, d), some (0, b), none, none] [] E gw := by
  intro m
  induction m with
  | zero => intro b gw hi hM; exact absurd hM (Nat.not_lt_zero _)
  | succ m ih =>
    intro b gw hi hM
    obtain ⟨hi0, hi1, hfr, hS, hj⟩ := hi
    have e2 : gw (M + 2) = g (M + 2) := hfr.row (fun y => by unfold AQ XQ; omega)
    have hIw := hI.e e2
    have hFw := hF.e e2
    have i45 := hI.1
    have l := hI.2 d hd.1 hd.2
    have e19 : gw (M + 2) (19 + d) = g (M + 2) (19 + d) := by rw [e2]
    refine r_iload dX11_add_52 rfl ?_
    refine r_aload_n dX11_add_54 rfl ?_
    refine r_getR dX11_add_55 fkX11_28 gf11_2 (mo_o hm) (mo_r2 hm) ?_
    refine r_bipush dX11_add_58 lb_19 ?_
    refine r_iload_n dX11_add_60 rfl ?_
    refine r_iaddE dX11_add_61 (by first | exact od_w0 (by omega) (by omega) | exact od_wI (by omega) (by omega) | rfl) ?_
    refine r_iald dX11_add_62 (mo_k2 hm) (by omega) (by first | exact e19 | rfl) ?_
    refine r_icmp_ge (tgt := 92) dX11_add_63 rfl (fun c63 => ?_) (fun c63 => ?_)
    · refine hx gw _ hfr (fun e b' e0 e1 b0 b1 => ?_)
      by_cases ce : e = d
      · rw [ce]; rw [ce] at b1; exact hj b' b0 (by omega)
      · exact hS e b' e0 (by omega) b0 b1
    · refine r_aload_n dX11_add_66 rfl ?_
      refine r_getR dX11_add_67 fkX11_87 gf11_39 (mo_o hm) (mo_r39 hm) ?_
      refine r_bipush dX11_add_70 lb_12 ?_
      refine r_iload_n dX11_add_72 rfl ?_
      refine r_imulE dX11_add_73 (by first | exact od_w0 (by omega) (by omega) | exact od_wI (by omega) (by omega) | rfl) ?_
      refine r_iload dX11_add_74 rfl ?_
      refine r_iaddE dX11_add_76 (by first | exact od_w0 (by omega) (by omega) | exact od_wI (by omega) (by omega) | rfl) ?_
      refine r_aload_n dX11_add_77 rfl ?_
      refine r_iconst dX11_add_78 li_3 ?_
      refine r_iload_n dX11_add_79 rfl ?_
      refine r_iload dX11_add_80 rfl ?_
      refine r_callV3g dX11_add_82 cvX11_142 (mo_o hm) (c_X11_isNow hm hIw hFw _ _ (by omega) _) (by decide) (Nat.le_of_ble_eq_true rfl) od_le.rf (fun q82 g82 f82 => ?_) (fun q82 g82 f82 => ?_)
      · refine r_zast dX11_add_85 (by first | exact Or.inl rfl | exact Or.inr rfl | omega | assumption) (mo_k39 hm) (by omega) ?_
        refine r_iincE dX11_add_86 rfl (by decide) (by first | exact od_w0 (by omega) (by omega) | exact od_wI (by omega) (by omega) | rfl) rfl ?_
        refine r_goto (tgt := 52) dX11_add_89 rfl ?_
        have q := q82
        rw [e2] at q
        refine ih _ _ ⟨by omega, by omega, (hfr.tr (f82.mo (fun _ _ z => Or.inl z))).up (Or.inr (Or.inl rfl)), fun e b' e0 e1 b0 b1 => ?_, fun j h0 h1 => ?_⟩ (by omega)
        · have le := hI.2 e e0 (by omega)
          rw [od_up_at, if_neg (by omega), f82 _ _ (by unfold XQ; omega)]
          exact hS e b' e0 e1 b0 b1
        · rw [od_up_at]
          by_cases cj : j = b
          · rw [if_pos (by omega), cj]
            first
            | exact (od_b_t q).symm
            | exact (od_b_f q).symm
          · rw [if_neg (by omega), f82 _ _ (by unfold XQ; omega)]
            exact hj j h0 (by omega)
      · refine r_zast dX11_add_85 (by first | exact Or.inl rfl | exact Or.inr rfl | omega | assumption) (mo_k39 hm) (by omega) ?_
        refine r_iincE dX11_add_86 rfl (by decide) (by first | exact od_w0 (by omega) (by omega) | exact od_wI (by omega) (by omega) | rfl) rfl ?_
        refine r_goto (tgt := 52) dX11_add_89 rfl ?_
        have q := q82
        rw [e2] at q
        refine ih _ _ ⟨by omega, by omega, (hfr.tr (f82.mo (fun _ _ z => Or.inl z))).up (Or.inr (Or.inl rfl)), fun e b' e0 e1 b0 b1 => ?_, fun j h0 h1 => ?_⟩ (by omega)
        · have le := hI.2 e e0 (by omega)
          rw [od_up_at, if_neg (by omega), f82 _ _ (by unfold XQ; omega)]
          exact hS e b' e0 e1 b0 b1
        · rw [od_up_at]
          by_cases cj : j = b
          · rw [if_pos (by omega), cj]
            first
            | exact (od_b_t q).symm
            | exact (od_b_f q).symm
          · rw [if_neg (by omega), f82 _ _ (by unfold XQ; omega)]
            exact hj j h0 (by omega)
set_option maxRecDepth 10000 in
theorem lp_X11_addA {E : od_E} {g : od_G} {M : Int} (hm : MoAt E M) {pl : Int → Int} {C : Int} (hI : MI g M) (hJ : MJ g M) (hF : LwF (g (M + 2)) pl C) (s w : Int) (ok : mAok g M s w) (hx : ∀ (gw : od_G) (d : Int) (x : Option od_V), od_fr (AQ M) g gw → BdQ g gw M pl C (g (M + 2) 45) → (∀ e : Int, 0 ≤ e → e < g (M + 2) 45 → mIn s e → ¬ mStop g M e) → od_Rq 46 mX11_add od_Z0 E (E, AdQ g M pl C s w) 98 [some (2, M), some (0, s), some (0, w), some (0, d), x, none, none] [] E gw) : ∀ (m : Nat) (d : Int) (x : Option od_V) (gw : od_G), (0 ≤ d ∧ d ≤ g (M + 2) 45 ∧ od_fr (AQ M) g gw ∧ BdQ g gw M pl C d ∧ ∀ e : Int, 0 ≤ e → e < d → mIn s e → ¬ mStop g M e) → ((g (M + 2) 45 - d).toNat) < m → od_Rq 46 mX11_add od_Z0 E (E, AdQ g M pl C s w) 23 [some (2, M), some (0, s), some (0, w), some (0, d), x, none, none] [] E gw := by
  intro m
  induction m with
  | zero => intro d x gw hi hM; exact absurd hM (Nat.not_lt_zero _)
  | succ m ih =>
    intro d x gw hi hM
    obtain ⟨hi0, hi1, hfr, hS, hn⟩ := hi
    have e2 : gw (M + 2) = g (M + 2) := hfr.row (fun y => by unfold AQ XQ; omega)
    have hIw := hI.e e2
    have hFw := hF.e e2
    have i45 := hI.1
    have eS : mStop gw M d = mStop g M d := by unfold mStop; rw [e2]
    refine r_iload_n dX11_add_23 rfl ?_
    refine r_aload_n dX11_add_24 rfl ?_
    refine r_callV0i dX11_add_25 cvX11_112 (mo_o hm) (c_X11_drumMany hm) (by decide) (Nat.le_of_ble_eq_true rfl) od_le.rf ?_
    rw [e2]
    refine r_icmp_ge (tgt := 98) dX11_add_28 rfl (fun c28 => ?_) (fun c28 => ?_)
    · have hd9 : g (M + 2) 45 = d := by omega
      exact hx gw _ _ hfr (by rw [hd9]; exact hS) (by rw [hd9]; exact hn)
    · refine r_iload_n dX11_add_31 rfl ?_
      refine r_iload_n dX11_add_32 rfl ?_
      refine r_callS2b dX11_add_33 csX11_116 (c_X11_isIn _ _) (by decide) (Nat.le_of_ble_eq_true rfl) od_le.rf (fun q33 => ?_) (fun q33 => ?_)
      · refine r_if_eq (tgt := 49) dX11_add_36 rfl (fun h => absurd h (by decide)) (fun _ => ?_)
        refine r_aload_n dX11_add_39 rfl ?_
        refine r_iload_n dX11_add_40 rfl ?_
        refine r_callV1b dX11_add_41 cvX11_335 (mo_o hm) (c_X11_isStopped hm _ (by omega)) (by decide) (Nat.le_of_ble_eq_true rfl) od_le.rf (fun q41 => ?_) (fun q41 => ?_)
        · refine r_if_eq (tgt := 49) dX11_add_44 rfl (fun h => absurd h (by decide)) (fun _ => ?_)
          refine r_iconst dX11_add_47 li_m1 ?_
          rw [eS] at q41
          exact r_iretq dX11_add_48 rfl rfl ⟨hfr, Or.inr (Or.inl ⟨ok, ⟨d, hi0, by omega, q33, q41⟩, rfl⟩)⟩
        · refine r_if_eq (tgt := 49) dX11_add_44 rfl (fun _ => ?_) (fun h => absurd h (by decide))
          refine r_iconst dX11_add_49 li_0 ?_
          refine r_istore dX11_add_50 (by decide) rfl ?_
          have l := hI.2 d hi0 (by omega)
          refine lp_X11_addB (g := g) hm hI hJ hF s w d (by omega) (fun gx x hgx hSx => ?_) _ _ _ ⟨by omega, by omega, hfr, hS, fun j h0 h1 => by omega⟩ (Nat.lt_succ_self _)
          refine r_iincE dX11_add_92 rfl (by decide) (by first | exact od_w0 (by omega) (by omega) | exact od_wI (by omega) (by omega) | rfl) rfl ?_
          refine r_goto (tgt := 23) dX11_add_95 rfl ?_
          refine ih _ _ _ ⟨by omega, by omega, hgx, hSx, fun e e0 e1 z => ?_⟩ (by omega)
          by_cases ce : e = d
          · rw [ce] at z ⊢
            first
            | (have z1 : ¬ mIn s d := by assumption
               exact absurd z z1)
            | (rw [← eS]; assumption)
          · exact hn e e0 (by omega) z
      · refine r_if_eq (tgt := 49) dX11_add_36 rfl (fun _ => ?_) (fun h => absurd h (by decide))
        refine r_iconst dX11_add_49 li_0 ?_
        refine r_istore dX11_add_50 (by decide) rfl ?_
        have l := hI.2 d hi0 (by omega)
        refine lp_X11_addB (g := g) hm hI hJ hF s w d (by omega) (fun gx x hgx hSx => ?_) _ _ _ ⟨by omega, by omega, hfr, hS, fun j h0 h1 => by omega⟩ (Nat.lt_succ_self _)
        refine r_iincE dX11_add_92 rfl (by decide) (by first | exact od_w0 (by omega) (by omega) | exact od_wI (by omega) (by omega) | rfl) rfl ?_
        refine r_goto (tgt := 23) dX11_add_95 rfl ?_
        refine ih _ _ _ ⟨by omega, by omega, hgx, hSx, fun e e0 e1 z => ?_⟩ (by omega)
        by_cases ce : e = d
        · rw [ce] at z ⊢
          first
          | (have z1 : ¬ mIn s d := by assumption
             exact absurd z z1)
          | (rw [← eS]; assumption)
        · exact hn e e0 (by omega) z
set_option maxRecDepth 10000 in
theorem lp_X11_addC {E : od_E} {g : od_G} {Q : Option od_V → od_G → Prop} {M : Int} (hm : MoAt E M) (hI : MI g M) (hJ : MJ g M) (e37 : g M 37 = mRd g M) (s w : Int) (hq : Q (some (0, mAddA (od_ml 1000000 (-1) (mLack g M s) (mRd g M).toNat) w)) g) : ∀ (m : Nat) (b a h : Int) (x : Option od_V), (0 ≤ h ∧ h ≤ mRd g M ∧ od_ml 1000000 (-1) (mLack g M s) h.toNat = (b, a)) → ((mRd g M - h).toNat) < m → od_Rq 46 mX11_add od_Z0 E (E, Q) 115 [some (2, M), some (0, s), some (0, w), some (0, b), some (0, a), some (0, h), x] [] E g := by
  intro m
  induction m with
  | zero => intro b a h x hi hM; exact absurd hM (Nat.not_lt_zero _)
  | succ m ih =>
    intro b a h x hi hM
    obtain ⟨hi0, hi1, he⟩ := hi
    have hR := mRd_b hI
    have hs := od_ml_s _ _ _ hi0 he
    have hz : h = mRd g M → Q (some (0, mAddA (b, a) w)) g := fun z => by rw [← z, he] at hq; exact hq
    refine r_iload dX11_add_115 rfl ?_
    refine r_aload_n dX11_add_117 rfl ?_
    refine r_getIj (j := 37) rfl dX11_add_118 fkX11_380 gf11_37 (mo_o hm) (by first | exact e37 | rfl) ?_
    refine r_icmp_ge (tgt := 155) dX11_add_121 rfl (fun c121 => ?_) (fun c121 => ?_)
    · refine r_iload dX11_add_155 rfl ?_
      refine r_iconst dX11_add_157 li_m1 ?_
      refine r_icmp_eq (tgt := 166) dX11_add_158 rfl (fun c158 => ?_) (fun c158 => ?_)
      · refine r_iload dX11_add_166 rfl ?_
        refine r_goto (tgt := 172) dX11_add_168 rfl ?_
        have hz1 := hz (by omega)
        unfold mAddA at hz1
        first
        | (rw [if_pos (by show a = -1 ∨ w = 1; omega)] at hz1
           exact r_iretq dX11_add_172 rfl rfl hz1)
        | (rw [if_neg (by show ¬ (a = -1 ∨ w = 1); omega)] at hz1
           exact r_iretq dX11_add_172 rfl rfl hz1)
      · refine r_iload_n dX11_add_161 rfl ?_
        refine r_iconst dX11_add_162 li_1 ?_
        refine r_icmp_ne (tgt := 171) dX11_add_163 rfl (fun c163 => ?_) (fun c163 => ?_)
        · refine r_iload_n dX11_add_171 rfl ?_
          have hz1 := hz (by omega)
          unfold mAddA at hz1
          first
          | (rw [if_pos (by show a = -1 ∨ w = 1; omega)] at hz1
             exact r_iretq dX11_add_172 rfl rfl hz1)
          | (rw [if_neg (by show ¬ (a = -1 ∨ w = 1); omega)] at hz1
             exact r_iretq dX11_add_172 rfl rfl hz1)
        · refine r_iload dX11_add_166 rfl ?_
          refine r_goto (tgt := 172) dX11_add_168 rfl ?_
          have hz1 := hz (by omega)
          unfold mAddA at hz1
          first
          | (rw [if_pos (by show a = -1 ∨ w = 1; omega)] at hz1
             exact r_iretq dX11_add_172 rfl rfl hz1)
          | (rw [if_neg (by show ¬ (a = -1 ∨ w = 1); omega)] at hz1
             exact r_iretq dX11_add_172 rfl rfl hz1)
    · refine r_aload_n dX11_add_124 rfl ?_
      refine r_iload_n dX11_add_125 rfl ?_
      refine r_iload dX11_add_126 rfl ?_
      refine r_callV2i dX11_add_128 cvX11_404 (mo_o hm) (c_X11_lacks hm hI hJ _ _ (by omega)) (by decide) (Nat.le_of_ble_eq_true rfl) od_le.rf ?_
      refine r_istore dX11_add_131 (by decide) rfl ?_
      refine r_iload dX11_add_133 rfl ?_
      refine r_iload_n dX11_add_135 rfl ?_
      refine r_icmp_lt (tgt := 142) dX11_add_136 rfl (fun c136 => ?_) (fun c136 => ?_)
      · refine r_iload dX11_add_142 rfl ?_
        refine r_istore_n dX11_add_144 (by decide) rfl ?_
        refine r_iload dX11_add_145 rfl ?_
        refine r_istore dX11_add_147 (by decide) rfl ?_
        refine r_iincE dX11_add_149 rfl (by decide) (by first | exact od_w0 (by omega) (by omega) | exact od_wI (by omega) (by omega) | rfl) rfl ?_
        refine r_goto (tgt := 115) dX11_add_152 rfl ?_
        first
        | (rw [if_pos (by omega)] at hs
           exact ih _ _ _ _ ⟨by omega, by omega, hs⟩ (by omega))
        | (rw [if_neg (by omega)] at hs
           exact ih _ _ _ _ ⟨by omega, by omega, hs⟩ (by omega))
      · refine r_goto (tgt := 149) dX11_add_139 rfl ?_
        refine r_iincE dX11_add_149 rfl (by decide) (by first | exact od_w0 (by omega) (by omega) | exact od_wI (by omega) (by omega) | rfl) rfl ?_
        refine r_goto (tgt := 115) dX11_add_152 rfl ?_
        first
        | (rw [if_pos (by omega)] at hs
           exact ih _ _ _ _ ⟨by omega, by omega, hs⟩ (by omega))
        | (rw [if_neg (by omega)] at hs
           exact ih _ _ _ _ ⟨by omega, by omega, hs⟩ (by omega))
set_option maxRecDepth 10000 in
theorem c_X11_add {E : od_E} {g : od_G} {M : Int} (hm : MoAt E M) {pl : Int → Int} {C : Int} (hI : MI g M) (hJ : MJ g M) (hF : LwF (g (M + 2)) pl C) (s w : Int) : od_Cq 46 mX11_add [(2, M), (0, s), (0, w)] E g (E, AdQ g M pl C s w) := by
  refine od_cqI pnX11 rfl (Nat.le_of_ble_eq_true rfl) od_le.rf ?_
  show od_Rq 46 mX11_add od_Z0 E (E, AdQ g M pl C s w) 0 [some (2, M), some (0, s), some (0, w), none, none, none, none] [] E g
  refine r_aload_n dX11_add_0 rfl ?_
  refine r_iload_n dX11_add_1 rfl ?_
  refine r_callV1b dX11_add_2 cvX11_386 (mo_o hm) (c_X11_isSet hm _) (by decide) (Nat.le_of_ble_eq_true rfl) od_le.rf (fun q2 => ?_) (fun q2 => ?_)
  · refine r_if_eq (tgt := 19) dX11_add_5 rfl (fun h => absurd h (by decide)) (fun _ => ?_)
    refine r_iload_n dX11_add_8 rfl ?_
    refine r_if_eq (tgt := 19) dX11_add_9 rfl (fun c9 => ?_) (fun c9 => ?_)
    · refine r_iconst dX11_add_19 li_m1 ?_
      first
      | exact r_iretq dX11_add_20 rfl rfl ⟨od_fr.rf, Or.inl ⟨fun z => absurd z.2.2 (by assumption), rfl⟩⟩
      | exact r_iretq dX11_add_20 rfl rfl ⟨od_fr.rf, Or.inl ⟨fun z => absurd z.1 (by assumption), rfl⟩⟩
      | exact r_iretq dX11_add_20 rfl rfl ⟨od_fr.rf, Or.inl ⟨fun z => absurd (by assumption) z.2.1, rfl⟩⟩
    · refine r_iload_n dX11_add_12 rfl ?_
      refine r_callS1b dX11_add_13 csX11_392 (c_X11_isBit _) (by decide) (Nat.le_of_ble_eq_true rfl) od_le.rf (fun q13 => ?_) (fun q13 => ?_)
      · refine r_if_ne (tgt := 21) dX11_add_16 rfl (fun _ => ?_) (fun h => absurd h (by decide))
        refine r_iconst dX11_add_21 li_0 ?_
        refine r_istore_n dX11_add_22 (by decide) rfl ?_
        have ok : mAok g M s w := ⟨by assumption, by assumption, by assumption⟩
        refine lp_X11_addA (g := g) hm hI hJ hF s w ok (fun gx dx x hgx hSx hnx => ?_) _ _ _ _ ⟨by omega, hI.1.1, od_fr.rf, fun e b e0 e1 b0 b1 => by omega, fun e e0 e1 => by omega⟩ (Nat.lt_succ_self _)
        have e2 : gx (M + 2) = g (M + 2) := hgx.row (fun y => by unfold AQ XQ; omega)
        refine r_aload_n dX11_add_98 rfl ?_
        refine r_aload_n dX11_add_99 rfl ?_
        refine r_callV0i dX11_add_100 cvX11_377 (mo_o hm) (c_X11_round hm (hI.e e2)) (by decide) (Nat.le_of_ble_eq_true rfl) od_le.rf ?_
        refine r_putIj (j := 37) rfl dX11_add_103 fkX11_380 gf11_37 pf11_37 (mo_o hm) ?_
        refine r_ldc dX11_add_106 kcX11_169 lk_X11_169 ?_
        refine r_istore_n dX11_add_108 (by decide) rfl ?_
        refine r_iconst dX11_add_109 li_m1 ?_
        refine r_istore dX11_add_110 (by decide) rfl ?_
        refine r_iconst dX11_add_112 li_0 ?_
        refine r_istore dX11_add_113 (by decide) rfl ?_
        have e3 : od_up gx M 37 (mRd gx M) (M + 2) = g (M + 2) := by rw [od_up_ne (by omega), e2]
        have eR : mRd (od_up gx M 37 (mRd gx M)) M = mRd g M := mRd_e e3
        have eX : mRd gx M = mRd g M := mRd_e e2
        have hI3 : MI (od_up gx M 37 (mRd gx M)) M := hI.e e3
        have hR := mRd_b hI3
        refine lp_X11_addC (g := od_up gx M 37 (mRd gx M)) hm hI3 (hJ.e e3) (by rw [od_up_i, eR, eX]) s w ?_ _ _ _ _ _ ⟨by omega, by omega, rfl⟩ (Nat.lt_succ_self _)
        refine ⟨hgx.up (Or.inr (Or.inr ⟨rfl, rfl⟩)), Or.inr (Or.inr ⟨ok, hnx, fun e b e0 e1 b0 b1 => ?_, ?_⟩)⟩
        · rw [od_upn (by omega)]
          exact hSx e b e0 e1 b0 b1
        · rw [eR]
      · refine r_if_ne (tgt := 21) dX11_add_16 rfl (fun h => absurd h (by decide)) (fun _ => ?_)
        refine r_iconst dX11_add_19 li_m1 ?_
        first
        | exact r_iretq dX11_add_20 rfl rfl ⟨od_fr.rf, Or.inl ⟨fun z => absurd z.2.2 (by assumption), rfl⟩⟩
        | exact r_iretq dX11_add_20 rfl rfl ⟨od_fr.rf, Or.inl ⟨fun z => absurd z.1 (by assumption), rfl⟩⟩
        | exact r_iretq dX11_add_20 rfl rfl ⟨od_fr.rf, Or.inl ⟨fun z => absurd (by assumption) z.2.1, rfl⟩⟩
  · refine r_if_eq (tgt := 19) dX11_add_5 rfl (fun _ => ?_) (fun h => absurd h (by decide))
    refine r_iconst dX11_add_19 li_m1 ?_
    first
    | exact r_iretq dX11_add_20 rfl rfl ⟨od_fr.rf, Or.inl ⟨fun z => absurd z.2.2 (by assumption), rfl⟩⟩
    | exact r_iretq dX11_add_20 rfl rfl ⟨od_fr.rf, Or.inl ⟨fun z => absurd z.1 (by assumption), rfl⟩⟩
    | exact r_iretq dX11_add_20 rfl rfl ⟨od_fr.rf, Or.inl ⟨fun z => absurd (by assumption) z.2.1, rfl⟩⟩
