/-! the reference: an hour passes -/
def mDrop (g : od_G) (M : Int) (pl : Int → Int) (C d : Int) : Prop := mStrikes g M d 0 ∧ mNow (g (M + 2)) pl C 1 d (g (M + 2) (6 + d))
noncomputable def mHk (g : od_G) (M : Int) (pl : Int → Int) (C n : Int) : Int → Int := fun y =>
  od_ite (0 ≤ y ∧ y < n) (od_ite (mDrop g M pl C y) (od_xor (g (M + 2) y) (od_shl 1 (g (M + 2) (6 + y)))) (g (M + 2) y))
  (od_ite (6 ≤ y ∧ y < 6 + n) (mBeat g M (y - 6) 1) (g (M + 2) y))
theorem mHk_0 (g : od_G) (M : Int) (pl : Int → Int) (C : Int) : mHk g M pl C 0 = g (M + 2) := by
  funext y
  unfold mHk
  rw [od_ite_f (by omega), od_ite_f (by omega)]
theorem mHk_s {g gw gx : od_G} {M : Int} {pl : Int → Int} {C n : Int} (hn : 0 ≤ n ∧ n < 6) (e : gw (M + 2) = mHk g M pl C n)
    (hd : mDrop g M pl C n → gx = mTurn gw M n (g (M + 2) (6 + n))) (hn' : ¬ mDrop g M pl C n → gx = gw) : od_up gx (M + 2) (6 + n) (mBeat g M n 1) (M + 2) = mHk g M pl C (n + 1) := by
  have z1 : mHk g M pl C n n = g (M + 2) n := by unfold mHk; rw [od_ite_f (by omega), od_ite_f (by omega)]
  funext y
  rw [od_up_at]
  by_cases c0 : y = 6 + n
  · rw [if_pos c0]
    unfold mHk
    rw [od_ite_f (by omega), od_ite_t (by omega), c0, show 6 + n - 6 = n by omega]
  · rw [if_neg c0]
    by_cases c1 : y = n
    · subst c1
      by_cases c2 : mDrop g M pl C y
      · rw [hd c2]
        unfold mTurn
        rw [od_up_at, if_pos rfl, e, z1]
        unfold mHk
        rw [od_ite_t (by omega), od_ite_t c2]
      · rw [hn' c2, e, z1]
        unfold mHk
        rw [od_ite_t (by omega), od_ite_f c2]
    · have e1 : gx (M + 2) y = gw (M + 2) y := by
        by_cases c2 : mDrop g M pl C n
        · rw [hd c2]; unfold mTurn; rw [od_up_at, if_neg c1]
        · rw [hn' c2]
      rw [e1, e]
      unfold mHk
      by_cases c3 : 0 ≤ y ∧ y < n
      · rw [od_ite_t c3, od_ite_t (show 0 ≤ y ∧ y < n + 1 from by omega)]
      · rw [od_ite_f c3, od_ite_f (show ¬ (0 ≤ y ∧ y < n + 1) from by omega)]
        by_cases c4 : 6 ≤ y ∧ y < 6 + n
        · rw [od_ite_t c4, od_ite_t (show 6 ≤ y ∧ y < 6 + (n + 1) from by omega)]
        · rw [od_ite_f c4, od_ite_f (show ¬ (6 ≤ y ∧ y < 6 + (n + 1)) from by omega)]
noncomputable def mHp (g : od_G) (M : Int) (pl : Int → Int) (C : Int) : Int → Int := od_u1 (mHk g M pl C (g (M + 2) 45)) 18 (g (M + 2) 18 + 1)
def HQ (M : Int) : Int → Int → Prop := fun x y => XQ M x y ∨ x = M + 13 ∨ (x = M + 2 ∧ 0 ≤ y ∧ y < 19)
set_option maxRecDepth 10000 in
theorem lp_X11_hourA {E : od_E} {g : od_G} {Q : Option od_V → od_G → Prop} {M : Int} (hm : MoAt E M) {pl : Int → Int} {C : Int} (hI : MI g M) (hF : LwF (g (M + 2)) pl C) (ld : Int) (hx : ∀ gw : od_G, od_fr (fun x y => XQ M x y ∨ x = M + 13) g gw → (∀ j : Int, 0 ≤ j → j < g (M + 2) 45 → (mDrop g M pl C j → gw (M + 13) j = 1) ∧ (¬ mDrop g M pl C j → gw (M + 13) j = 0)) → od_Rq 47 mX11_hourPasses od_Z0 E (E, Q) 60 [some (2, M), some (0, ld), some (0, g (M + 2) 45)] [] E gw) : ∀ (m : Nat) (d : Int) (gw : od_G), (0 ≤ d ∧ d ≤ g (M + 2) 45 ∧ od_fr (fun x y => XQ M x y ∨ x = M + 13) g gw ∧ ∀ j : Int, 0 ≤ j → j < d → (mDrop g M pl C j → gw (M + 13) j = 1) ∧ (¬ mDrop g M pl C j → gw (M + 13) j = 0)) → ((g (M + 2) 45 - d).toNat) < m → od_Rq 47 mX11_hourPasses od_Z0 E (E, Q) 8 [some (2, M), some (0, ld), some (0, d)] [] E gw := by
  intro m
  induction m with
  | zero => intro d gw hi hM; exact absurd hM (Nat.not_lt_zero _)
  | succ m ih =>
    intro d gw hi hM
    obtain ⟨hi0, hi1, hfr, hdr⟩ := hi
    have e2 : gw (M + 2) = g (M + 2) := hfr.row (fun y => by unfold XQ; omega)
    have hIw := hI.e e2
    have hFw := hF.e e2
    have i45 := hI.1
    have hl : d < g (M + 2) 45 → 1 ≤ gw (M + 2) (19 + d) := fun z => (hIw.2 d hi0 (by rw [e2]; omega)).1
    refine r_iload_n dX11_hourPasses_8 rfl ?_
    refine r_aload_n dX11_hourPasses_9 rfl ?_
    refine r_callV0i dX11_hourPasses_10 cvX11_112 (mo_o hm) (c_X11_drumMany hm) (by decide) (Nat.le_of_ble_eq_true rfl) od_le.rf ?_
    rw [e2]
    refine r_icmp_ge (tgt := 60) dX11_hourPasses_13 rfl (fun c13 => ?_) (fun c13 => ?_)
    · have hd9 : d = g (M + 2) 45 := by omega
      rw [hd9]
      exact hx gw hfr (fun j h0 h1 => hdr j h0 (by omega))
    · refine r_aload_n dX11_hourPasses_16 rfl ?_
      refine r_getR dX11_hourPasses_17 fkX11_66 gf11_30 (mo_o hm) (mo_r30 hm) ?_
      refine r_iload_n dX11_hourPasses_20 rfl ?_
      refine r_aload_n dX11_hourPasses_21 rfl ?_
      refine r_iload_n dX11_hourPasses_22 rfl ?_
      refine r_iconst dX11_hourPasses_23 li_0 ?_
      refine r_callV2b dX11_hourPasses_24 cvX11_132 (mo_o hm) (c_X11_strikes hm _ (by omega) (hl (by omega)) _) (by decide) (Nat.le_of_ble_eq_true rfl) od_le.rf (fun q24 => ?_) (fun q24 => ?_)
      · refine r_if_eq (tgt := 52) dX11_hourPasses_27 rfl (fun h => absurd h (by decide)) (fun _ => ?_)
        refine r_aload_n dX11_hourPasses_30 rfl ?_
        refine r_iconst dX11_hourPasses_31 li_2 ?_
        refine r_iload_n dX11_hourPasses_32 rfl ?_
        refine r_aload_n dX11_hourPasses_33 rfl ?_
        refine r_getR dX11_hourPasses_34 fkX11_28 gf11_2 (mo_o hm) (mo_r2 hm) ?_
        refine r_bipush dX11_hourPasses_37 lb_6 ?_
        refine r_iload_n dX11_hourPasses_39 rfl ?_
        refine r_iaddE dX11_hourPasses_40 (by first | exact od_w0 (by omega) (by omega) | exact od_wI (by omega) (by omega) | rfl) ?_
        refine r_iald dX11_hourPasses_41 (mo_k2 hm) (by omega) rfl ?_
        refine r_callV3g dX11_hourPasses_42 cvX11_142 (mo_o hm) (c_X11_isNow hm hIw hFw _ _ (by omega) _) (by decide) (Nat.le_of_ble_eq_true rfl) od_le.rf (fun q42 g42 f42 => ?_) (fun q42 g42 f42 => ?_)
        · refine r_if_eq (tgt := 52) dX11_hourPasses_45 rfl (fun h => absurd h (by decide)) (fun _ => ?_)
          refine r_iconst dX11_hourPasses_48 li_1 ?_
          refine r_goto (tgt := 53) dX11_hourPasses_49 rfl ?_
          refine r_zast dX11_hourPasses_53 (by first | exact Or.inl rfl | exact Or.inr rfl | omega | assumption) (mo_k30 hm) (by omega) ?_
          refine r_iincE dX11_hourPasses_54 rfl (by decide) (by first | exact od_w0 (by omega) (by omega) | exact od_wI (by omega) (by omega) | rfl) rfl ?_
          refine r_goto (tgt := 8) dX11_hourPasses_57 rfl ?_
          first
          | (have q24x := q24
             rw [mStrikes_e e2] at q24x
             have f42x : od_fr (fun x y => XQ M x y ∨ x = M + 13) gw g42 := f42.mo (fun _ _ z => Or.inl z)
             have q42x := q42
             rw [e2] at q42x
             refine ih _ _ ⟨by omega, by omega, (hfr.tr f42x).up (Or.inr rfl), fun j h0 h1 => ?_⟩ (by omega)
             rw [od_up_at]
             by_cases cj : j = d
             · rw [if_pos cj, cj]
               first
               | exact ⟨fun _ => rfl, fun z => absurd ⟨q24x, q42x⟩ z⟩
               | exact ⟨fun z => absurd z.2 q42x, fun _ => rfl⟩
             · rw [if_neg cj, f42 (M + 13) j (by unfold XQ; omega)]
               exact hdr j h0 (by omega))
          | (have q24x := q24
             rw [mStrikes_e e2] at q24x
             refine ih _ _ ⟨by omega, by omega, hfr.up (Or.inr rfl), fun j h0 h1 => ?_⟩ (by omega)
             rw [od_up_at]
             by_cases cj : j = d
             · rw [if_pos cj, cj]
               exact ⟨fun z => absurd z.1 q24x, fun _ => rfl⟩
             · rw [if_neg cj]
               exact hdr j h0 (by omega))
        · refine r_if_eq (tgt := 52) dX11_hourPasses_45 rfl (fun _ => ?_) (fun h => absurd h (by decide))
          refine r_iconst dX11_hourPasses_52 li_0 ?_
          refine r_zast dX11_hourPasses_53 (by first | exact Or.inl rfl | exact Or.inr rfl | omega | assumption) (mo_k30 hm) (by omega) ?_
          refine r_iincE dX11_hourPasses_54 rfl (by decide) (by first | exact od_w0 (by omega) (by omega) | exact od_wI (by omega) (by omega) | rfl) rfl ?_
          refine r_goto (tgt := 8) dX11_hourPasses_57 rfl ?_
          first
          | (have q24x := q24
             rw [mStrikes_e e2] at q24x
             have f42x : od_fr (fun x y => XQ M x y ∨ x = M + 13) gw g42 := f42.mo (fun _ _ z => Or.inl z)
             have q42x := q42
             rw [e2] at q42x
             refine ih _ _ ⟨by omega, by omega, (hfr.tr f42x).up (Or.inr rfl), fun j h0 h1 => ?_⟩ (by omega)
             rw [od_up_at]
             by_cases cj : j = d
             · rw [if_pos cj, cj]
               first
               | exact ⟨fun _ => rfl, fun z => absurd ⟨q24x, q42x⟩ z⟩
               | exact ⟨fun z => absurd z.2 q42x, fun _ => rfl⟩
             · rw [if_neg cj, f42 (M + 13) j (by unfold XQ; omega)]
               exact hdr j h0 (by omega))
          | (have q24x := q24
             rw [mStrikes_e e2] at q24x
             refine ih _ _ ⟨by omega, by omega, hfr.up (Or.inr rfl), fun j h0 h1 => ?_⟩ (by omega)
             rw [od_up_at]
             by_cases cj : j = d
             · rw [if_pos cj, cj]
               exact ⟨fun z => absurd z.1 q24x, fun _ => rfl⟩
             · rw [if_neg cj]
               exact hdr j h0 (by omega))
      · refine r_if_eq (tgt := 52) dX11_hourPasses_27 rfl (fun _ => ?_) (fun h => absurd h (by decide))
        refine r_iconst dX11_hourPasses_52 li_0 ?_
        refine r_zast dX11_hourPasses_53 (by first | exact Or.inl rfl | exact Or.inr rfl | omega | assumption) (mo_k30 hm) (by omega) ?_
        refine r_iincE dX11_hourPasses_54 rfl (by decide) (by first | exact od_w0 (by omega) (by omega) | exact od_wI (by omega) (by omega) | rfl) rfl ?_
        refine r_goto (tgt := 8) dX11_hourPasses_57 rfl ?_
        first
        | (have q24x := q24
           rw [mStrikes_e e2] at q24x
           have f42x : od_fr (fun x y => XQ M x y ∨ x = M + 13) gw g42 := f42.mo (fun _ _ z => Or.inl z)
           have q42x := q42
           rw [e2] at q42x
           refine ih _ _ ⟨by omega, by omega, (hfr.tr f42x).up (Or.inr rfl), fun j h0 h1 => ?_⟩ (by omega)
           rw [od_up_at]
           by_cases cj : j = d
           · rw [if_pos cj, cj]
             first
             | exact ⟨fun _ => rfl, fun z => absurd ⟨q24x, q42x⟩ z⟩
             | exact ⟨fun z => absurd z.2 q42x, fun _ => rfl⟩
           · rw [if_neg cj, f42 (M + 13) j (by unfold XQ; omega)]
             exact hdr j h0 (by omega))
        | (have q24x := q24
           rw [mStrikes_e e2] at q24x
           refine ih _ _ ⟨by omega, by omega, hfr.up (Or.inr rfl), fun j h0 h1 => ?_⟩ (by omega)
           rw [od_up_at]
           by_cases cj : j = d
           · rw [if_pos cj, cj]
             exact ⟨fun z => absurd z.1 q24x, fun _ => rfl⟩
           · rw [if_neg cj]
             exact hdr j h0 (by omega))
set_option maxRecDepth 10000 in
theorem lp_X11_hourB {E : od_E} {g : od_G} {Q : Option od_V → od_G → Prop} {M : Int} (hm : MoAt E M) {pl : Int → Int} {C : Int} (hI : MI g M) (hF : LwF (g (M + 2)) pl C) (ld : Int) (hx : ∀ gw : od_G, od_fr (HQ M) g gw → gw (M + 2) = mHk g M pl C (g (M + 2) 45) → od_Rq 47 mX11_hourPasses od_Z0 E (E, Q) 114 [some (2, M), some (0, ld), some (0, g (M + 2) 45)] [] E gw) : ∀ (m : Nat) (d : Int) (gw : od_G), (0 ≤ d ∧ d ≤ g (M + 2) 45 ∧ od_fr (HQ M) g gw ∧ gw (M + 2) = mHk g M pl C d ∧ ∀ j : Int, 0 ≤ j → j < g (M + 2) 45 → (mDrop g M pl C j → gw (M + 13) j = 1) ∧ (¬ mDrop g M pl C j → gw (M + 13) j = 0)) → ((g (M + 2) 45 - d).toNat) < m → od_Rq 47 mX11_hourPasses od_Z0 E (E, Q) 62 [some (2, M), some (0, ld), some (0, d)] [] E gw := by
  intro m
  induction m with
  | zero => intro d gw hi hM; exact absurd hM (Nat.not_lt_zero _)
  | succ m ih =>
    intro d gw hi hM
    obtain ⟨hi0, hi1, hfr, hk, hdr⟩ := hi
    have e45 : gw (M + 2) 45 = g (M + 2) 45 := hfr _ _ (by unfold HQ XQ; omega)
    have i45 := hI.1
    have e19 : d < g (M + 2) 45 → gw (M + 2) (19 + d) = g (M + 2) (19 + d) := fun z => hfr _ _ (by unfold HQ XQ; omega)
    have hl : d < g (M + 2) 45 → 1 ≤ g (M + 2) (19 + d) := fun z => (hI.2 d hi0 z).1
    have e6 : d < g (M + 2) 45 → gw (M + 2) (6 + d) = g (M + 2) (6 + d) := fun z => by rw [hk]; unfold mHk; rw [od_ite_f (by omega), od_ite_f (by omega)]
    have e12 : d < g (M + 2) 45 → gw (M + 2) (12 + d) = g (M + 2) (12 + d) := fun z => by rw [hk]; unfold mHk; rw [od_ite_f (by omega), od_ite_f (by omega)]
    have eB : d < g (M + 2) 45 → ∀ h : Int, mBeat gw M d h = mBeat g M d h := fun z h => by unfold mBeat mStop; rw [e6 z, e12 z, e19 z]
    have eT : d < g (M + 2) 45 → ∀ (b h : Int), mBeat (mTurn gw M d b) M d h = mBeat gw M d h := fun z b h => by unfold mBeat mStop mTurn; rw [od_up_at, od_up_at, od_up_at, if_neg (by omega), if_neg (by omega), if_neg (by omega)]
    have lT : d < g (M + 2) 45 → ∀ b : Int, 1 ≤ mTurn gw M d b (M + 2) (19 + d) := fun z b => by unfold mTurn; rw [od_up_at, if_neg (by omega), e19 z]; exact hl z
    refine r_iload_n dX11_hourPasses_62 rfl ?_
    refine r_aload_n dX11_hourPasses_63 rfl ?_
    refine r_callV0i dX11_hourPasses_64 cvX11_112 (mo_o hm) (c_X11_drumMany hm) (by decide) (Nat.le_of_ble_eq_true rfl) od_le.rf ?_
    rw [e45]
    refine r_icmp_ge (tgt := 114) dX11_hourPasses_67 rfl (fun c67 => ?_) (fun c67 => ?_)
    · have hd9 : d = g (M + 2) 45 := by omega
      rw [hd9]
      rw [hd9] at hk
      exact hx gw hfr hk
    · refine r_aload_n dX11_hourPasses_70 rfl ?_
      refine r_getR dX11_hourPasses_71 fkX11_66 gf11_30 (mo_o hm) (mo_r30 hm) ?_
      refine r_iload_n dX11_hourPasses_74 rfl ?_
      refine r_zald dX11_hourPasses_75 (mo_k30 hm) (by omega) rfl ?_
      refine r_if_eq (tgt := 93) dX11_hourPasses_76 rfl (fun c76 => ?_) (fun c76 => ?_)
      · refine r_aload_n dX11_hourPasses_93 rfl ?_
        refine r_getR dX11_hourPasses_94 fkX11_28 gf11_2 (mo_o hm) (mo_r2 hm) ?_
        refine r_bipush dX11_hourPasses_97 lb_6 ?_
        refine r_iload_n dX11_hourPasses_99 rfl ?_
        refine r_iaddE dX11_hourPasses_100 (by first | exact od_w0 (by omega) (by omega) | exact od_wI (by omega) (by omega) | rfl) ?_
        refine r_aload_n dX11_hourPasses_101 rfl ?_
        refine r_iload_n dX11_hourPasses_102 rfl ?_
        refine r_iconst dX11_hourPasses_103 li_1 ?_
        refine r_callV2i dX11_hourPasses_104 cvX11_338 (mo_o hm) (c_X11_beatOf hm _ (by omega) (by first | (rw [e19 (by omega)]; exact hl (by omega)) | exact lT (by omega) _) _) (by decide) (Nat.le_of_ble_eq_true rfl) od_le.rf ?_
        first
        | rw [eT (by omega), eB (by omega)]
        | rw [eB (by omega)]
        refine r_iast dX11_hourPasses_107 (mo_k2 hm) (by omega) ?_
        refine r_iincE dX11_hourPasses_108 rfl (by decide) (by first | exact od_w0 (by omega) (by omega) | exact od_wI (by omega) (by omega) | rfl) rfl ?_
        refine r_goto (tgt := 62) dX11_hourPasses_111 rfl ?_
        have hdd := hdr d hi0 (by omega)
        first
        | (have nD : ¬ mDrop g M pl C d := fun z => by have zz := hdd.1 z; omega
           refine ih _ _ ⟨by omega, by omega, hfr.up (Or.inr (Or.inr ⟨rfl, by omega, by omega⟩)), mHk_s (by omega) hk (fun z => absurd z nD) (fun _ => rfl), fun j h0 h1 => ?_⟩ (by omega)
           rw [od_upn (by omega)]
           exact hdr j h0 h1)
        | (have yD : mDrop g M pl C d := Classical.byContradiction (fun z => by have zz := hdd.2 z; omega)
           refine ih _ _ ⟨by omega, by omega, (od_fr.up (h := hfr) (Or.inr (Or.inr ⟨rfl, by omega, by omega⟩))).up (Or.inr (Or.inr ⟨rfl, by omega, by omega⟩)), mHk_s (by omega) hk (fun _ => by rw [e6 (by omega)]) (fun z => absurd yD z), fun j h0 h1 => ?_⟩ (by omega)
           unfold mTurn
           rw [od_upn (by omega), od_upn (by omega)]
           exact hdr j h0 h1)
      · refine r_aload_n dX11_hourPasses_79 rfl ?_
        refine r_iload_n dX11_hourPasses_80 rfl ?_
        refine r_aload_n dX11_hourPasses_81 rfl ?_
        refine r_getR dX11_hourPasses_82 fkX11_28 gf11_2 (mo_o hm) (mo_r2 hm) ?_
        refine r_bipush dX11_hourPasses_85 lb_6 ?_
        refine r_iload_n dX11_hourPasses_87 rfl ?_
        refine r_iaddE dX11_hourPasses_88 (by first | exact od_w0 (by omega) (by omega) | exact od_wI (by omega) (by omega) | rfl) ?_
        refine r_iald dX11_hourPasses_89 (mo_k2 hm) (by omega) rfl ?_
        refine r_callV2v dX11_hourPasses_90 cvX11_350 (mo_o hm) (c_X11_turnsPin hm _ (by omega) _) (by decide) (Nat.le_of_ble_eq_true rfl) od_le.rf ?_
        refine r_aload_n dX11_hourPasses_93 rfl ?_
        refine r_getR dX11_hourPasses_94 fkX11_28 gf11_2 (mo_o hm) (mo_r2 hm) ?_
        refine r_bipush dX11_hourPasses_97 lb_6 ?_
        refine r_iload_n dX11_hourPasses_99 rfl ?_
        refine r_iaddE dX11_hourPasses_100 (by first | exact od_w0 (by omega) (by omega) | exact od_wI (by omega) (by omega) | rfl) ?_
        refine r_aload_n dX11_hourPasses_101 rfl ?_
        refine r_iload_n dX11_hourPasses_102 rfl ?_
        refine r_iconst dX11_hourPasses_103 li_1 ?_
        refine r_callV2i dX11_hourPasses_104 cvX11_338 (mo_o hm) (c_X11_beatOf hm _ (by omega) (by first | (rw [e19 (by omega)]; exact hl (by omega)) | exact lT (by omega) _) _) (by decide) (Nat.le_of_ble_eq_true rfl) od_le.rf ?_
        first
        | rw [eT (by omega), eB (by omega)]
        | rw [eB (by omega)]
        refine r_iast dX11_hourPasses_107 (mo_k2 hm) (by omega) ?_
        refine r_iincE dX11_hourPasses_108 rfl (by decide) (by first | exact od_w0 (by omega) (by omega) | exact od_wI (by omega) (by omega) | rfl) rfl ?_
        refine r_goto (tgt := 62) dX11_hourPasses_111 rfl ?_
        have hdd := hdr d hi0 (by omega)
        first
        | (have nD : ¬ mDrop g M pl C d := fun z => by have zz := hdd.1 z; omega
           refine ih _ _ ⟨by omega, by omega, hfr.up (Or.inr (Or.inr ⟨rfl, by omega, by omega⟩)), mHk_s (by omega) hk (fun z => absurd z nD) (fun _ => rfl), fun j h0 h1 => ?_⟩ (by omega)
           rw [od_upn (by omega)]
           exact hdr j h0 h1)
        | (have yD : mDrop g M pl C d := Classical.byContradiction (fun z => by have zz := hdd.2 z; omega)
           refine ih _ _ ⟨by omega, by omega, (od_fr.up (h := hfr) (Or.inr (Or.inr ⟨rfl, by omega, by omega⟩))).up (Or.inr (Or.inr ⟨rfl, by omega, by omega⟩)), mHk_s (by omega) hk (fun _ => by rw [e6 (by omega)]) (fun z => absurd yD z), fun j h0 h1 => ?_⟩ (by omega)
           unfold mTurn
           rw [od_upn (by omega), od_upn (by omega)]
           exact hdr j h0 h1)
set_option maxRecDepth 10000 in
theorem c_X11_hourPasses {E : od_E} {g : od_G} {M : Int} (hm : MoAt E M) {pl : Int → Int} {C : Int} (hI : MI g M) (hF : LwF (g (M + 2)) pl C) (h18 : 0 ≤ g (M + 2) 18 ∧ g (M + 2) 18 ≤ 999) : od_Cq 47 mX11_hourPasses [(2, M)] E g (E, fun w g' => w = some (0, mLoud g M pl C 0) ∧ od_fr (HQ M) g g' ∧ g' (M + 2) = mHp g M pl C) := by
  refine od_cqI pnX11 rfl (Nat.le_of_ble_eq_true rfl) od_le.rf ?_
  show od_Rq 47 mX11_hourPasses od_Z0 E (E, fun w g' => w = some (0, mLoud g M pl C 0) ∧ od_fr (HQ M) g g' ∧ g' (M + 2) = mHp g M pl C) 0 [some (2, M), none, none] [] E g
  refine r_aload_n dX11_hourPasses_0 rfl ?_
  refine r_iconst dX11_hourPasses_1 li_0 ?_
  refine r_callV1f dX11_hourPasses_2 cvX11_344 (mo_o hm) (c_X11_loudAt hm hI hF _) (by decide) (Nat.le_of_ble_eq_true rfl) od_le.rf (fun g2 f2 => ?_)
  refine r_istore_n dX11_hourPasses_5 (by decide) rfl ?_
  refine r_iconst dX11_hourPasses_6 li_0 ?_
  refine r_istore_n dX11_hourPasses_7 (by decide) rfl ?_
  refine lp_X11_hourA (g := g) hm hI hF _ (fun gx hgx hdx => ?_) _ _ _ ⟨by omega, hI.1.1, f2.mo (fun _ _ z => Or.inl z), fun j h0 h1 => by omega⟩ (Nat.lt_succ_self _)
  refine r_iconst dX11_hourPasses_60 li_0 ?_
  refine r_istore_n dX11_hourPasses_61 (by decide) rfl ?_
  refine lp_X11_hourB (g := g) hm hI hF _ (fun gy hgy hky => ?_) _ _ _ ⟨by omega, hI.1.1, hgx.mo (fun x y z => by unfold HQ; rcases z with z | z; exact Or.inl z; exact Or.inr (Or.inl z)), by rw [mHk_0]; exact hgx.row (fun y => by unfold XQ; omega), hdx⟩ (Nat.lt_succ_self _)
  have i45 := hI.1
  have e18 : gy (M + 2) 18 = g (M + 2) 18 := by rw [hky]; unfold mHk; rw [od_ite_f (by omega), od_ite_f (by omega)]
  refine r_aload_n dX11_hourPasses_114 rfl ?_
  refine r_getR dX11_hourPasses_115 fkX11_28 gf11_2 (mo_o hm) (mo_r2 hm) ?_
  refine r_bipush dX11_hourPasses_118 lb_18 ?_
  refine r_dup2 dX11_hourPasses_120 (by first | exact od_ne2 | exact od_ne0) (by first | exact od_ne2 | exact od_ne0) ?_
  refine r_iald dX11_hourPasses_121 (mo_k2 hm) (by omega) (by first | exact e18 | rfl) ?_
  refine r_iconst dX11_hourPasses_122 li_1 ?_
  refine r_iaddE dX11_hourPasses_123 (by first | exact od_w0 (by omega) (by omega) | exact od_wI (by omega) (by omega) | rfl) ?_
  refine r_iast dX11_hourPasses_124 (mo_k2 hm) (by omega) ?_
  refine r_iload_n dX11_hourPasses_125 rfl ?_
  refine r_iretq dX11_hourPasses_126 rfl rfl ⟨rfl, hgy.up (Or.inr (Or.inr ⟨rfl, by omega, by omega⟩)), ?_⟩
  unfold mHp
  rw [od_up_row, hky, ← e18]
