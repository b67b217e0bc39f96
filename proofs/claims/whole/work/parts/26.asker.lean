/-! OrganDrums$Asker -/
theorem cRunF_c {sr : Int → Int} {n : Int} {wr wr' : Int → Int} {wl : Int} (hw : ∀ i : Int, 0 ≤ i → i < wl → wr i = wr' i) : ∀ (f : Nat) (pl top : Int) (s s' : Int → Int), 0 ≤ top → (∀ i : Int, 0 ≤ i → i < top → s i = s' i) → cRunF sr n wr wl f pl top s = cRunF sr n wr' wl f pl top s' := by
  intro f
  induction f with
  | zero =>
    intro pl top s s' h0 hs
    simp only [cRunF]
    by_cases h : top = 1
    · rw [if_pos h, if_pos h, hs 0 (by omega) (by omega)]
    · rw [if_neg h, if_neg h]
  | succ f ih =>
    intro pl top s s' h0 hs
    have u4 := od_ushr4 (sr pl)
    simp only [cRunF]
    by_cases c1 : pl < 0 ∨ n ≤ pl ∨ od_and (sr pl) 15 = 0
    · rw [if_pos c1, if_pos c1]
      by_cases h : top = 1
      · rw [if_pos h, if_pos h, hs 0 (by omega) (by omega)]
      · rw [if_neg h, if_neg h]
    · rw [if_neg c1, if_neg c1]
      by_cases c2 : od_and (sr pl) 15 = 1 ∨ od_and (sr pl) 15 = 2
      · rw [if_pos c2, if_pos c2]
        by_cases c3 : 64 ≤ top ∨ (od_and (sr pl) 15 = 2 ∧ wl ≤ od_ushr (sr pl) 4)
        · rw [if_pos c3, if_pos c3]
        · rw [if_neg c3, if_neg c3]
          refine ih _ _ _ _ (by omega) (fun i i0 i1 => ?_)
          unfold od_u1
          by_cases c4 : i = top
          · rw [if_pos c4, if_pos c4]
            by_cases c5 : od_and (sr pl) 15 = 1
            · rw [if_pos c5, if_pos c5]
            · rw [if_neg c5, if_neg c5, hw _ u4.1 (by omega)]
          · rw [if_neg c4, if_neg c4]
            exact hs i i0 (by omega)
      · rw [if_neg c2, if_neg c2]
        by_cases c3 : od_and (sr pl) 15 = 3 ∧ 0 < top
        · rw [if_pos c3, if_pos c3, hs (top - 1) (by omega) (by omega)]
          refine ih _ _ _ _ h0 (fun i i0 i1 => ?_)
          unfold od_u1
          by_cases c4 : i = top - 1
          · rw [if_pos c4, if_pos c4]
          · rw [if_neg c4, if_neg c4]
            exact hs i i0 (by omega)
        · rw [if_neg c3, if_neg c3]
          by_cases c4 : (od_and (sr pl) 15 = 4 ∨ od_and (sr pl) 15 = 5) ∧ 0 < top
          · rw [if_pos c4, if_pos c4, hs (top - 1) (by omega) (by omega)]
            by_cases c5 : s' (top - 1) = (if od_and (sr pl) 15 = 4 then 1 else 0)
            · rw [if_pos c5, if_pos c5]
              exact ih _ _ _ _ h0 hs
            · rw [if_neg c5, if_neg c5]
              exact ih _ _ _ _ (by omega) (fun i i0 i1 => hs i i0 (by omega))
          · rw [if_neg c4, if_neg c4]
            by_cases c5 : 1 < top
            · rw [if_pos c5, if_pos c5, hs (top - 1) (by omega) (by omega), hs (top - 2) (by omega) (by omega)]
              by_cases c6 : 1000000000 < cJoin (od_and (sr pl) 15) (s' (top - 2)) (s' (top - 1)) ∨ cJoin (od_and (sr pl) 15) (s' (top - 2)) (s' (top - 1)) < -1000000000
              · rw [if_pos c6, if_pos c6]
              · rw [if_neg c6, if_neg c6]
                refine ih _ _ _ _ (by omega) (fun i i0 i1 => ?_)
                unfold od_u1
                by_cases c7 : i = top - 2
                · rw [if_pos c7, if_pos c7]
                · rw [if_neg c7, if_neg c7]
                  exact hs i i0 (by omega)
            · rw [if_neg c5, if_neg c5]
/-- what steps come to, with no stack before -/
def cVal (sr : Int → Int) (n : Nat) (wr : Int → Int) (wl : Nat) (fr : Int) : Int := cValue sr n fr wr wl (fun _ => 0)
theorem cVal_eq {sr : Int → Int} {n : Nat} {wr wr' : Int → Int} {wl : Nat} (fr : Int) (s : Int → Int) (hw : ∀ i : Int, 0 ≤ i → i < wl → wr i = wr' i) : cValue sr n fr wr wl s = cVal sr n wr' wl fr := by
  unfold cVal cValue
  by_cases h : fr = -1
  · rw [if_pos h, if_pos h]
  · rw [if_neg h, if_neg h]
    exact cRunF_c hw _ _ _ _ _ (by omega) (fun i i0 i1 => by omega)
def AsAt (E : od_E) (s : Int) : Prop := (E.2.1 s).1 = 0 ∧ E.2.2 s 0 = s + 1 ∧ E.2.2 s 1 = s + 3 ∧ SuAt E (s + 1) ∧ E.2.1 (s + 3) = (20, 7)
def cAW (g : od_G) (s k d b : Int) : od_G := od_up (od_up (od_up (od_up (od_up (od_up (od_up g (s + 3) 0 d) (s + 3) 1 (g (k + 1) d)) (s + 3) 2 (g (k + 2) d)) (s + 3) 3 b) (s + 3) 4 (od_bc (g (k + 4) d))) (s + 3) 5 (g (k + 5) 0)) (s + 3) 6 (g (k + 5) 2)
/-- the words of a law -/
def cWd (g : od_G) (k d b : Int) : Int → Int := fun i => if i = 0 then d else if i = 1 then g (k + 1) d else if i = 2 then g (k + 2) d else if i = 3 then b else if i = 4 then od_bc (g (k + 4) d) else if i = 5 then g (k + 5) 0 else g (k + 5) 2
theorem cAW_row (g : od_G) (s k d b : Int) : ∀ i : Int, 0 ≤ i → i < (7 : Nat) → cAW g s k d b (s + 3) i = cWd g k d b i := by
  intro i i0 i1
  rcases (by omega : i = 0 ∨ i = 1 ∨ i = 2 ∨ i = 3 ∨ i = 4 ∨ i = 5 ∨ i = 6) with rfl | rfl | rfl | rfl | rfl | rfl | rfl <;> simp [cAW, cWd, od_up]
theorem cAW_fr (g : od_G) (s k d b : Int) : od_fr (fun x _ => x = s + 2 ∨ x = s + 3) g (cAW g s k d b) := by
  unfold cAW
  exact ((((((od_fr.rf.up (Or.inr rfl)).up (Or.inr rfl)).up (Or.inr rfl)).up (Or.inr rfl)).up (Or.inr rfl)).up (Or.inr rfl)).up (Or.inr rfl)
set_option maxRecDepth 10000 in
theorem c_X0_setWords {E : od_E} {g : od_G} {s : Int} (ha : AsAt E s) {k : Int} (hs : StAt E k) (hne : k + 9 ≤ s ∨ s + 4 ≤ k) (d b : Int) (hd : 0 ≤ d ∧ d < 6) : od_Ct 2 mX0_setWords [(2, s), (2, k), (0, d), (0, b)] E g (none, E, cAW g s k d b) := by
  have ha0 := ha
  obtain ⟨hka, w0, w1, hu, w3⟩ := ha
  have hu7 := hu.1
  have hs0 := hs
  obtain ⟨hk, r0, r1, r2, r3, r4, r5, r6, r7, a1, a2, a3, a4, a5, a6, a7, a8⟩ := hs
  refine od_ctI pnX0 rfl (Nat.le_of_ble_eq_true rfl) od_le.rf ?_
  show od_R _ _ _ _ _ 0 [some (2, s), some (2, k), some (0, d), some (0, b)] [] E g
  refine r_aload_n dX0_setWords_0 rfl ?_
  refine r_getR dX0_setWords_1 fkX0_18 gf0_1 (by assumption) (by assumption) ?_
  refine r_iconst dX0_setWords_4 li_0 ?_
  refine r_iload_n dX0_setWords_5 rfl ?_
  refine r_iast dX0_setWords_6 (by assumption) (by omega) ?_
  refine r_aload_n dX0_setWords_7 rfl ?_
  refine r_getR dX0_setWords_8 fkX0_18 gf0_1 (by assumption) (by assumption) ?_
  refine r_iconst dX0_setWords_11 li_1 ?_
  refine r_aload_n dX0_setWords_12 rfl ?_
  refine r_getR dX0_setWords_13 fkX0_85 gf6_0 (by assumption) (by assumption) ?_
  refine r_iload_n dX0_setWords_16 rfl ?_
  refine r_iald dX0_setWords_17 (by assumption) (by omega) (by (repeat (first | rewrite [od_upn (by omega)] | rewrite [od_up_at, if_pos (by omega)] | rewrite [od_up_at, if_neg (by omega)])); rfl) ?_
  refine r_iast dX0_setWords_18 (by assumption) (by omega) ?_
  refine r_aload_n dX0_setWords_19 rfl ?_
  refine r_getR dX0_setWords_20 fkX0_18 gf0_1 (by assumption) (by assumption) ?_
  refine r_iconst dX0_setWords_23 li_2 ?_
  refine r_aload_n dX0_setWords_24 rfl ?_
  refine r_getR dX0_setWords_25 fkX0_88 gf6_1 (by assumption) (by assumption) ?_
  refine r_iload_n dX0_setWords_28 rfl ?_
  refine r_iald dX0_setWords_29 (by assumption) (by omega) (by (repeat (first | rewrite [od_upn (by omega)] | rewrite [od_up_at, if_pos (by omega)] | rewrite [od_up_at, if_neg (by omega)])); rfl) ?_
  refine r_iast dX0_setWords_30 (by assumption) (by omega) ?_
  refine r_aload_n dX0_setWords_31 rfl ?_
  refine r_getR dX0_setWords_32 fkX0_18 gf0_1 (by assumption) (by assumption) ?_
  refine r_iconst dX0_setWords_35 li_3 ?_
  refine r_iload_n dX0_setWords_36 rfl ?_
  refine r_iast dX0_setWords_37 (by assumption) (by omega) ?_
  refine r_aload_n dX0_setWords_38 rfl ?_
  refine r_getR dX0_setWords_39 fkX0_18 gf0_1 (by assumption) (by assumption) ?_
  refine r_iconst dX0_setWords_42 li_4 ?_
  refine r_aload_n dX0_setWords_43 rfl ?_
  refine r_getR dX0_setWords_44 fkX0_89 gf6_3 (by assumption) (by assumption) ?_
  refine r_iload_n dX0_setWords_47 rfl ?_
  refine r_iald dX0_setWords_48 (by assumption) (by omega) (by (repeat (first | rewrite [od_upn (by omega)] | rewrite [od_up_at, if_pos (by omega)] | rewrite [od_up_at, if_neg (by omega)])); rfl) ?_
  refine r_callS1i dX0_setWords_49 csX0_92 (c_J6_bitCount_0f7a4 _) (by decide) (Nat.le_of_ble_eq_true rfl) od_le.rf ?_
  refine r_iast dX0_setWords_52 (by assumption) (by omega) ?_
  refine r_aload_n dX0_setWords_53 rfl ?_
  refine r_getR dX0_setWords_54 fkX0_18 gf0_1 (by assumption) (by assumption) ?_
  refine r_iconst dX0_setWords_57 li_5 ?_
  refine r_aload_n dX0_setWords_58 rfl ?_
  refine r_getR dX0_setWords_59 fkX0_98 gf6_4 (by assumption) (by assumption) ?_
  refine r_iconst dX0_setWords_62 li_0 ?_
  refine r_iald dX0_setWords_63 (by assumption) (by omega) (by (repeat (first | rewrite [od_upn (by omega)] | rewrite [od_up_at, if_pos (by omega)] | rewrite [od_up_at, if_neg (by omega)])); rfl) ?_
  refine r_iast dX0_setWords_64 (by assumption) (by omega) ?_
  refine r_aload_n dX0_setWords_65 rfl ?_
  refine r_getR dX0_setWords_66 fkX0_18 gf0_1 (by assumption) (by assumption) ?_
  refine r_bipush dX0_setWords_69 lb_6 ?_
  refine r_aload_n dX0_setWords_71 rfl ?_
  refine r_getR dX0_setWords_72 fkX0_98 gf6_4 (by assumption) (by assumption) ?_
  refine r_iconst dX0_setWords_75 li_2 ?_
  refine r_iald dX0_setWords_76 (by assumption) (by omega) (by (repeat (first | rewrite [od_upn (by omega)] | rewrite [od_up_at, if_pos (by omega)] | rewrite [od_up_at, if_neg (by omega)])); rfl) ?_
  refine r_iast dX0_setWords_77 (by assumption) (by omega) ?_
  exact r_vret dX0_setWords_78 rfl (by rfl)
/-- what a step row comes to, asked of drum d at beat b -/
def cV (g : od_G) (k t d b : Int) (sn : Nat) (f : Int) : Int := cVal (g (t + 6)) sn (cWd g k d b) 7 f
def cSnd (g : od_G) (k t d b : Int) (sn : Nat) : Nat → Int
  | 0 => 1
  | c + 1 => if g (t + 1) c = 0 ∧ cV g k t d b sn (g (t + 5) c) = 1 ∧ cV g k t d b sn (g (t + 3) c) ≠ -2000000000 then max 0 (min 9 (cV g k t d b sn (g (t + 3) c))) else cSnd g k t d b sn c
def cHld (g : od_G) (k t d b : Int) (sn : Nat) (kd n : Int) : Prop := ∃ c : Int, 0 ≤ c ∧ c < n ∧ g (t + 1) c = kd ∧ cV g k t d b sn (g (t + 5) c) = 1
noncomputable def cSound (g : od_G) (k t d b : Int) (sn : Nat) : Int := od_ite (t = -1 ∨ ¬ cHas g k d) 1 (cSnd g k t d b sn (g t 6).toNat)
def cHolds (g : od_G) (k t d b : Int) (sn : Nat) (kd : Int) : Prop := t ≠ -1 ∧ cHas g k d ∧ cHld g k t d b sn kd (g t 6)
set_option maxRecDepth 10000 in
theorem lp_X0_sound {E : od_E} {g : od_G} {s : Int} (ha : AsAt E s) {k : Int} (hs : StAt E k) (hne : k + 9 ≤ s ∨ s + 4 ≤ k) {t : Int} {cn sn : Nat} (ht : TxAt E t cn sn) (hnt : t + 7 ≤ s ∨ s + 4 ≤ t) (d b v : Int) (hcl : 0 ≤ g t 6 ∧ g t 6 ≤ cn) : ∀ (m : Nat) (c : Int) (gw : od_G) (L6 : Option od_V), (-1 ≤ c ∧ c < g t 6 ∧ od_fr (fun x _ => x = s + 2 ∨ x = s + 3) g gw ∧ (∀ i : Int, 0 ≤ i → i < (7 : Nat) → gw (s + 3) i = cWd g k d b i) ∧ v = cSnd g k t d b sn (c + 1).toNat) → ((c + 1).toNat) < m → od_Rf 4 mX0_sound od_Z0 E (some (0, v)) (fun x _ => x = s + 2 ∨ x = s + 3) g 30 [some (2, s), some (2, k), some (2, t), some (0, d), some (0, b), some (0, c), L6] [] E gw := by
  have ha0 := ha
  obtain ⟨hka, w0, w1, hu, w3⟩ := ha
  have hu7 := hu.1
  have ht0 := ht
  obtain ⟨hkt, x0, x1, x2, x3, x4, x5, y1, y2, y3, y4, y5, y6, hc6, hs6⟩ := ht
  intro m
  induction m with
  | zero => intro c gw L6 hi hM; exact absurd hM (Nat.not_lt_zero _)
  | succ m ih =>
    intro c gw L6 hi hM
    obtain ⟨hi0, hi1, hfr, hwr, hv⟩ := hi
    have e0 : gw t = g t := hfr.row (fun y h => by omega)
    have e1 : gw (t + 1) = g (t + 1) := hfr.row (fun y h => by omega)
    have e3 : gw (t + 3) = g (t + 3) := hfr.row (fun y h => by omega)
    have e5 : gw (t + 5) = g (t + 5) := hfr.row (fun y h => by omega)
    have e6 : gw (t + 6) = g (t + 6) := hfr.row (fun y h => by omega)
    have es : 0 ≤ c → cSnd g k t d b sn (c + 1).toNat = if g (t + 1) c = 0 ∧ cV g k t d b sn (g (t + 5) c) = 1 ∧ cV g k t d b sn (g (t + 3) c) ≠ -2000000000 then max 0 (min 9 (cV g k t d b sn (g (t + 3) c))) else cSnd g k t d b sn c.toNat := fun q => by
      rw [show (c + 1).toNat = c.toNat + 1 by omega]
      simp only [cSnd]
      rw [show ((c.toNat : Nat) : Int) = c by omega]
    unfold cV at es
    refine r_iload dX0_sound_30 rfl ?_
    refine r_if_lt (tgt := 130) dX0_sound_32 rfl (fun c32 => ?_) (fun c32 => ?_)
    · refine r_iconst dX0_sound_130 li_1 ?_
      exact r_iretq dX0_sound_131 rfl rfl ⟨by rw [hv, show (c + 1).toNat = 0 by omega]; rfl, hfr⟩
    · refine r_iload dX0_sound_35 rfl ?_
      refine r_aload_n dX0_sound_37 rfl ?_
      refine r_getR dX0_sound_38 fkX0_38 gf9_0 (by assumption) (by assumption) ?_
      first | refine r_len_i dX0_sound_41 (by assumption) (by first | decide | omega) ?_ | refine r_len_b dX0_sound_41 (by assumption) (by first | decide | omega) ?_ | refine r_len_z dX0_sound_41 (by assumption) (by first | decide | omega) ?_ | refine r_len_l dX0_sound_41 (by assumption) (by first | decide | omega) ?_
      refine r_icmp_ge (tgt := 130) dX0_sound_42 rfl (fun c42 => ?_) (fun c42 => ?_)
      · refine r_iconst dX0_sound_130 li_1 ?_
        exact r_iretq dX0_sound_131 rfl rfl ⟨by rw [hv, show (c + 1).toNat = 0 by omega]; rfl, hfr⟩
      · refine r_aload_n dX0_sound_45 rfl ?_
        refine r_getR dX0_sound_46 fkX0_38 gf9_0 (by assumption) (by assumption) ?_
        refine r_iload dX0_sound_49 rfl ?_
        refine r_iald dX0_sound_51 (by assumption) (by omega) rfl ?_
        rw [e1]
        refine r_if_ne (tgt := 124) dX0_sound_52 rfl (fun c52 => ?_) (fun c52 => ?_)
        · refine r_iincE dX0_sound_124 rfl (by decide) (by first | exact od_w0 (by omega) (by omega) | exact od_wI (by omega) (by omega) | rfl) rfl ?_
          refine r_goto (tgt := 30) dX0_sound_127 rfl ?_
          refine ih _ _ _ ⟨by omega, by omega, by first | exact hf100 | exact hf74 | exact hfr, by first | exact hw100 | exact hw74 | exact hwr, ?_⟩ (by omega)
          rw [hv, es (by omega), if_neg (by omega), show c + -1 + 1 = c by omega]
        · refine r_aload_n dX0_sound_55 rfl ?_
          refine r_getR dX0_sound_56 fkX0_12 gf0_0 (by assumption) (by assumption) ?_
          refine r_aload_n dX0_sound_59 rfl ?_
          refine r_getR dX0_sound_60 fkX0_41 gf9_5 (by assumption) (by assumption) ?_
          refine r_aload_n dX0_sound_63 rfl ?_
          refine r_getR dX0_sound_64 fkX0_44 gf9_4 (by assumption) (by assumption) ?_
          refine r_iload dX0_sound_67 rfl ?_
          refine r_iald dX0_sound_69 (by assumption) (by omega) rfl ?_
          refine r_aload_n dX0_sound_70 rfl ?_
          refine r_getR dX0_sound_71 fkX0_18 gf0_1 (by assumption) (by assumption) ?_
          refine r_callV3f dX0_sound_74 cvX0_47 (by assumption) (c_X7_value hu (n := sn) (wl := 7) y6 w3 (by omega) (by omega) (by omega) (by omega) _) (by decide) (Nat.le_of_ble_eq_true rfl) od_le.rf (fun g74 f74 => ?_)
          have hw74 : ∀ i : Int, 0 ≤ i → i < (7 : Nat) → g74 (s + 3) i = cWd g k d b i := fun i i0 i1 => by rw [f74 (s + 3) i (by omega)]; exact hwr i i0 i1
          have hf74 : od_fr (fun x _ => x = s + 2 ∨ x = s + 3) g g74 := hfr.tr (f74.mo (fun x y q => Or.inl (by omega)))
          rw [cVal_eq _ _ hwr, e6, e5]
          refine r_iconst dX0_sound_77 li_1 ?_
          refine r_icmp_ne (tgt := 124) dX0_sound_78 rfl (fun c78 => ?_) (fun c78 => ?_)
          · refine r_iincE dX0_sound_124 rfl (by decide) (by first | exact od_w0 (by omega) (by omega) | exact od_wI (by omega) (by omega) | rfl) rfl ?_
            refine r_goto (tgt := 30) dX0_sound_127 rfl ?_
            refine ih _ _ _ ⟨by omega, by omega, by first | exact hf100 | exact hf74 | exact hfr, by first | exact hw100 | exact hw74 | exact hwr, ?_⟩ (by omega)
            rw [hv, es (by omega), if_neg (by omega), show c + -1 + 1 = c by omega]
          · refine r_aload_n dX0_sound_81 rfl ?_
            refine r_getR dX0_sound_82 fkX0_12 gf0_0 (by assumption) (by assumption) ?_
            refine r_aload_n dX0_sound_85 rfl ?_
            refine r_getR dX0_sound_86 fkX0_41 gf9_5 (by assumption) (by assumption) ?_
            refine r_aload_n dX0_sound_89 rfl ?_
            refine r_getR dX0_sound_90 fkX0_51 gf9_2 (by assumption) (by assumption) ?_
            refine r_iload dX0_sound_93 rfl ?_
            refine r_iald dX0_sound_95 (by assumption) (by omega) rfl ?_
            refine r_aload_n dX0_sound_96 rfl ?_
            refine r_getR dX0_sound_97 fkX0_18 gf0_1 (by assumption) (by assumption) ?_
            refine r_callV3f dX0_sound_100 cvX0_47 (by assumption) (c_X7_value hu (n := sn) (wl := 7) y6 w3 (by omega) (by omega) (by omega) (by omega) _) (by decide) (Nat.le_of_ble_eq_true rfl) od_le.rf (fun g100 f100 => ?_)
            have e56 : g74 (t + 6) = g (t + 6) := hf74.row (fun y h => by omega)
            have e53 : g74 (t + 3) = g (t + 3) := hf74.row (fun y h => by omega)
            have hw100 : ∀ i : Int, 0 ≤ i → i < (7 : Nat) → g100 (s + 3) i = cWd g k d b i := fun i i0 i1 => by rw [f100 (s + 3) i (by omega)]; exact hw74 i i0 i1
            have hf100 : od_fr (fun x _ => x = s + 2 ∨ x = s + 3) g g100 := hf74.tr (f100.mo (fun x y q => Or.inl (by omega)))
            rw [cVal_eq _ _ hw74, e56, e53]
            refine r_istore dX0_sound_103 (by decide) rfl ?_
            refine r_iload dX0_sound_105 rfl ?_
            refine r_ldc dX0_sound_107 kcX0_54 lk_X0_54 ?_
            refine r_icmp_eq (tgt := 124) dX0_sound_109 rfl (fun c109 => ?_) (fun c109 => ?_)
            · refine r_iincE dX0_sound_124 rfl (by decide) (by first | exact od_w0 (by omega) (by omega) | exact od_wI (by omega) (by omega) | rfl) rfl ?_
              refine r_goto (tgt := 30) dX0_sound_127 rfl ?_
              refine ih _ _ _ ⟨by omega, by omega, by first | exact hf100 | exact hf74 | exact hfr, by first | exact hw100 | exact hw74 | exact hwr, ?_⟩ (by omega)
              rw [hv, es (by omega), if_neg (by omega), show c + -1 + 1 = c by omega]
            · refine r_iconst dX0_sound_112 li_0 ?_
              refine r_bipush dX0_sound_113 lb_9 ?_
              refine r_iload dX0_sound_115 rfl ?_
              refine r_mmin dX0_sound_117 lkX0_55 (by decide) (Nat.le_of_ble_eq_true rfl) ?_
              refine r_mmax dX0_sound_120 lkX0_61 (by decide) (Nat.le_of_ble_eq_true rfl) ?_
              exact r_iretq dX0_sound_123 rfl rfl ⟨by rw [hv, es (by omega), if_pos (by omega)], hf100⟩
def LawOk (E : od_E) (g : od_G) (s t : Int) (cn sn : Nat) : Prop := t = -1 ∨ (TxAt E t cn sn ∧ (0 ≤ g t 6 ∧ g t 6 ≤ cn) ∧ (t + 7 ≤ s ∨ s + 4 ≤ t))
theorem od_bR {P : Prop} {v : Int} (h : v = od_b P) (hp : P) : some ((0 : Nat), (1 : Int)) = some (0, v) := by rw [h, od_b_t hp]
theorem od_bR0 {P : Prop} {v : Int} (h : v = od_b P) (hp : ¬ P) : some ((0 : Nat), (0 : Int)) = some (0, v) := by rw [h, od_b_f hp]
set_option maxRecDepth 10000 in
theorem c_X0_sound {E : od_E} {g : od_G} {s : Int} (ha : AsAt E s) {k : Int} (hs : StAt E k) (hne : k + 9 ≤ s ∨ s + 4 ≤ k) {t : Int} {cn sn : Nat} (hlaw : LawOk E g s t cn sn) (d b : Int) : od_Cf 4 mX0_sound [(2, s), (2, k), (2, t), (0, d), (0, b)] E g (some (0, cSound g k t d b sn)) (fun x _ => x = s + 2 ∨ x = s + 3) := by
  have ha0 := ha
  obtain ⟨hka, w0, w1, hu, w3⟩ := ha
  have hu7 := hu.1
  have hs0 := hs
  obtain ⟨hk, r0, r1, r2, r3, r4, r5, r6, r7, a1, a2, a3, a4, a5, a6, a7, a8⟩ := hs
  refine od_cqI pnX0 rfl (Nat.le_of_ble_eq_true rfl) od_le.rf ?_
  show od_Rf 4 mX0_sound od_Z0 E (some (0, cSound g k t d b sn)) (fun x _ => x = s + 2 ∨ x = s + 3) g 0 [some (2, s), some (2, k), some (2, t), some (0, d), some (0, b), none, none] [] E g
  refine r_aload_n dX0_sound_0 rfl ?_
  refine r_ifnull (tgt := 12) dX0_sound_1 rfl (fun c1 => ?_) (fun c1 => ?_)
  · refine r_iconst dX0_sound_12 li_1 ?_
    exact r_iretq dX0_sound_13 rfl rfl ⟨by unfold cSound; rw [od_ite_t (by first | exact Or.inl (by assumption) | exact Or.inr (by assumption))], od_fr.rf⟩
  · obtain ⟨ht, hcl, hnt⟩ := hlaw.resolve_left c1
    have ht0 := ht
    obtain ⟨hkt, x0, x1, x2, x3, x4, x5, y1, y2, y3, y4, y5, y6, hc6, hs6⟩ := ht
    refine r_aload_n dX0_sound_4 rfl ?_
    refine r_iload_n dX0_sound_5 rfl ?_
    refine r_callV1b dX0_sound_6 cvX0_22 (by assumption) (c_X6_has (by assumption) _) (by decide) (Nat.le_of_ble_eq_true rfl) od_le.rf (fun q6 => ?_) (fun q6 => ?_)
    · refine r_if_ne (tgt := 14) dX0_sound_9 rfl (fun _ => ?_) (fun h => absurd h (by decide))
      have u6 := q6; unfold cHas at u6
      refine r_aload_n dX0_sound_14 rfl ?_
      refine r_aload_n dX0_sound_15 rfl ?_
      refine r_iload_n dX0_sound_16 rfl ?_
      refine r_iload dX0_sound_17 rfl ?_
      refine r_callV3v dX0_sound_19 cvX0_28 (by assumption) (c_X0_setWords (by assumption) (by assumption) (by omega) _ _ (by omega)) (by decide) (Nat.le_of_ble_eq_true rfl) od_le.rf ?_
      have ect : cAW g s k d b t 6 = g t 6 := cAW_fr g s k d b t 6 (by omega)
      refine r_aload_n dX0_sound_22 rfl ?_
      refine r_getIj (j := 6) rfl dX0_sound_23 fkX0_32 gf9_6 (by assumption) (by first | rw [ect] | rfl) ?_
      refine r_iconst dX0_sound_26 li_1 ?_
      refine r_isubE dX0_sound_27 (by first | exact od_w0 (by omega) (by omega) | exact od_wI (by omega) (by omega) | rfl) ?_
      refine r_istore dX0_sound_28 (by decide) rfl ?_
      refine lp_X0_sound ha0 hs0 hne ht0 hnt d b _ hcl _ _ _ _ ⟨by omega, by omega, cAW_fr g s k d b, cAW_row g s k d b, ?_⟩ (Nat.lt_succ_self _)
      unfold cSound
      rw [od_ite_f (by intro q; exact q.elim (by assumption) (fun q => q (by assumption))), show g t 6 - 1 + 1 = g t 6 by omega]
    · refine r_if_ne (tgt := 14) dX0_sound_9 rfl (fun h => absurd h (by decide)) (fun _ => ?_)
      refine r_iconst dX0_sound_12 li_1 ?_
      exact r_iretq dX0_sound_13 rfl rfl ⟨by unfold cSound; rw [od_ite_t (by first | exact Or.inl (by assumption) | exact Or.inr (by assumption))], od_fr.rf⟩
set_option maxRecDepth 10000 in
theorem lp_X0_holds {E : od_E} {g : od_G} {s : Int} (ha : AsAt E s) {k : Int} (hs : StAt E k) (hne : k + 9 ≤ s ∨ s + 4 ≤ k) {t : Int} {cn sn : Nat} (ht : TxAt E t cn sn) (hnt : t + 7 ≤ s ∨ s + 4 ≤ t) (kd d b v : Int) (hcl : 0 ≤ g t 6 ∧ g t 6 ≤ cn) (hv : v = od_b (cHld g k t d b sn kd (g t 6))) : ∀ (m : Nat) (c : Int) (gw : od_G), (0 ≤ c ∧ c ≤ g t 6 ∧ od_fr (fun x _ => x = s + 2 ∨ x = s + 3) g gw ∧ (∀ i : Int, 0 ≤ i → i < (7 : Nat) → gw (s + 3) i = cWd g k d b i) ∧ ∀ j : Int, 0 ≤ j → j < c → ¬ (g (t + 1) j = kd ∧ cV g k t d b sn (g (t + 5) j) = 1)) → ((g t 6 - c).toNat) < m → od_Rf 4 mX0_holds od_Z0 E (some (0, v)) (fun x _ => x = s + 2 ∨ x = s + 3) g 27 [some (2, s), some (2, k), some (2, t), some (0, kd), some (0, d), some (0, b), some (0, c)] [] E gw := by
  have ha0 := ha
  obtain ⟨hka, w0, w1, hu, w3⟩ := ha
  have hu7 := hu.1
  have ht0 := ht
  obtain ⟨hkt, x0, x1, x2, x3, x4, x5, y1, y2, y3, y4, y5, y6, hc6, hs6⟩ := ht
  intro m
  induction m with
  | zero => intro c gw hi hM; exact absurd hM (Nat.not_lt_zero _)
  | succ m ih =>
    intro c gw hi hM
    obtain ⟨hi0, hi1, hfr, hwr, hno⟩ := hi
    have e0 : gw t = g t := hfr.row (fun y h => by omega)
    have e1 : gw (t + 1) = g (t + 1) := hfr.row (fun y h => by omega)
    have e3 : gw (t + 3) = g (t + 3) := hfr.row (fun y h => by omega)
    have e5 : gw (t + 5) = g (t + 5) := hfr.row (fun y h => by omega)
    have e6 : gw (t + 6) = g (t + 6) := hfr.row (fun y h => by omega)
    refine r_iload dX0_holds_27 rfl ?_
    refine r_aload_n dX0_holds_29 rfl ?_
    refine r_getIj (j := 6) rfl dX0_holds_30 fkX0_32 gf9_6 (by assumption) (by (repeat (first | rewrite [od_upn (by omega)] | rewrite [od_up_at, if_pos (by omega)] | rewrite [od_up_at, if_neg (by omega)])); rfl) ?_
    rw [e0]
    refine r_icmp_ge (tgt := 91) dX0_holds_33 rfl (fun c33 => ?_) (fun c33 => ?_)
    · refine r_iconst dX0_holds_91 li_0 ?_
      exact r_zretq dX0_holds_92 rfl od_nz0 rfl ⟨od_bR0 hv (by rintro ⟨j, j0, j1, hj⟩; exact hno j j0 (by omega) hj), hfr⟩
    · refine r_iload dX0_holds_36 rfl ?_
      refine r_aload_n dX0_holds_38 rfl ?_
      refine r_getR dX0_holds_39 fkX0_38 gf9_0 (by assumption) (by assumption) ?_
      first | refine r_len_i dX0_holds_42 (by assumption) (by first | decide | omega) ?_ | refine r_len_b dX0_holds_42 (by assumption) (by first | decide | omega) ?_ | refine r_len_z dX0_holds_42 (by assumption) (by first | decide | omega) ?_ | refine r_len_l dX0_holds_42 (by assumption) (by first | decide | omega) ?_
      refine r_icmp_ge (tgt := 91) dX0_holds_43 rfl (fun c43 => ?_) (fun c43 => ?_)
      · refine r_iconst dX0_holds_91 li_0 ?_
        exact r_zretq dX0_holds_92 rfl od_nz0 rfl ⟨od_bR0 hv (by rintro ⟨j, j0, j1, hj⟩; exact hno j j0 (by omega) hj), hfr⟩
      · refine r_aload_n dX0_holds_46 rfl ?_
        refine r_getR dX0_holds_47 fkX0_38 gf9_0 (by assumption) (by assumption) ?_
        refine r_iload dX0_holds_50 rfl ?_
        refine r_iald dX0_holds_52 (by assumption) (by omega) (by (repeat (first | rewrite [od_upn (by omega)] | rewrite [od_up_at, if_pos (by omega)] | rewrite [od_up_at, if_neg (by omega)])); rfl) ?_
        rw [e1]
        refine r_iload_n dX0_holds_53 rfl ?_
        refine r_icmp_ne (tgt := 85) dX0_holds_54 rfl (fun c54 => ?_) (fun c54 => ?_)
        · refine r_iincE dX0_holds_85 rfl (by decide) (by first | exact od_w0 (by omega) (by omega) | exact od_wI (by omega) (by omega) | rfl) rfl ?_
          refine r_goto (tgt := 27) dX0_holds_88 rfl ?_
          refine ih _ _ ⟨by omega, by omega, by first | exact hf76 | exact hfr, by first | exact hw76 | exact hwr, ?_⟩ (by omega)
          intro j j0 j1 hj
          rcases Int.lt_or_le j c with q | q
          · exact hno j j0 q hj
          · rw [show j = c by omega] at hj
            unfold cV at hj
            first | exact absurd hj.1 (by assumption) | exact absurd hj.2 (by assumption)
        · refine r_aload_n dX0_holds_57 rfl ?_
          refine r_getR dX0_holds_58 fkX0_12 gf0_0 (by assumption) (by assumption) ?_
          refine r_aload_n dX0_holds_61 rfl ?_
          refine r_getR dX0_holds_62 fkX0_41 gf9_5 (by assumption) (by assumption) ?_
          refine r_aload_n dX0_holds_65 rfl ?_
          refine r_getR dX0_holds_66 fkX0_44 gf9_4 (by assumption) (by assumption) ?_
          refine r_iload dX0_holds_69 rfl ?_
          refine r_iald dX0_holds_71 (by assumption) (by omega) (by (repeat (first | rewrite [od_upn (by omega)] | rewrite [od_up_at, if_pos (by omega)] | rewrite [od_up_at, if_neg (by omega)])); rfl) ?_
          refine r_aload_n dX0_holds_72 rfl ?_
          refine r_getR dX0_holds_73 fkX0_18 gf0_1 (by assumption) (by assumption) ?_
          refine r_callV3f dX0_holds_76 cvX0_47 (by assumption) (c_X7_value hu (n := sn) (wl := 7) y6 w3 (by omega) (by omega) (by omega) (by omega) _) (by decide) (Nat.le_of_ble_eq_true rfl) od_le.rf (fun g76 f76 => ?_)
          have hw76 : ∀ i : Int, 0 ≤ i → i < (7 : Nat) → g76 (s + 3) i = cWd g k d b i := fun i i0 i1 => by rw [f76 (s + 3) i (by omega)]; exact hwr i i0 i1
          have hf76 : od_fr (fun x _ => x = s + 2 ∨ x = s + 3) g g76 := hfr.tr (f76.mo (fun x y q => Or.inl (by omega)))
          rw [cVal_eq _ _ hwr, e6, e5]
          refine r_iconst dX0_holds_79 li_1 ?_
          refine r_icmp_ne (tgt := 85) dX0_holds_80 rfl (fun c80 => ?_) (fun c80 => ?_)
          · refine r_iincE dX0_holds_85 rfl (by decide) (by first | exact od_w0 (by omega) (by omega) | exact od_wI (by omega) (by omega) | rfl) rfl ?_
            refine r_goto (tgt := 27) dX0_holds_88 rfl ?_
            refine ih _ _ ⟨by omega, by omega, by first | exact hf76 | exact hfr, by first | exact hw76 | exact hwr, ?_⟩ (by omega)
            intro j j0 j1 hj
            rcases Int.lt_or_le j c with q | q
            · exact hno j j0 q hj
            · rw [show j = c by omega] at hj
              unfold cV at hj
              first | exact absurd hj.1 (by assumption) | exact absurd hj.2 (by assumption)
          · refine r_iconst dX0_holds_83 li_1 ?_
            exact r_zretq dX0_holds_84 rfl od_nz1 rfl ⟨od_bR hv ⟨c, by omega, by omega, by assumption, by assumption⟩, hf76⟩
set_option maxRecDepth 10000 in
theorem c_X0_holds {E : od_E} {g : od_G} {s : Int} (ha : AsAt E s) {k : Int} (hs : StAt E k) (hne : k + 9 ≤ s ∨ s + 4 ≤ k) {t : Int} {cn sn : Nat} (hlaw : LawOk E g s t cn sn) (kd d b : Int) : od_Cf 4 mX0_holds [(2, s), (2, k), (2, t), (0, kd), (0, d), (0, b)] E g (some (0, od_b (cHolds g k t d b sn kd))) (fun x _ => x = s + 2 ∨ x = s + 3) := by
  have ha0 := ha
  obtain ⟨hka, w0, w1, hu, w3⟩ := ha
  have hu7 := hu.1
  have hs0 := hs
  obtain ⟨hk, r0, r1, r2, r3, r4, r5, r6, r7, a1, a2, a3, a4, a5, a6, a7, a8⟩ := hs
  refine od_cqI pnX0 rfl (Nat.le_of_ble_eq_true rfl) od_le.rf ?_
  show od_Rf 4 mX0_holds od_Z0 E (some (0, od_b (cHolds g k t d b sn kd))) (fun x _ => x = s + 2 ∨ x = s + 3) g 0 [some (2, s), some (2, k), some (2, t), some (0, kd), some (0, d), some (0, b), none] [] E g
  refine r_aload_n dX0_holds_0 rfl ?_
  refine r_ifnull (tgt := 13) dX0_holds_1 rfl (fun c1 => ?_) (fun c1 => ?_)
  · refine r_iconst dX0_holds_13 li_0 ?_
    exact r_zretq dX0_holds_14 rfl od_nz0 rfl ⟨od_bR0 rfl (by unfold cHolds; grind), od_fr.rf⟩
  · obtain ⟨ht, hcl, hnt⟩ := hlaw.resolve_left c1
    have ht0 := ht
    obtain ⟨hkt, x0, x1, x2, x3, x4, x5, y1, y2, y3, y4, y5, y6, hc6, hs6⟩ := ht
    refine r_aload_n dX0_holds_4 rfl ?_
    refine r_iload dX0_holds_5 rfl ?_
    refine r_callV1b dX0_holds_7 cvX0_22 (by assumption) (c_X6_has (by assumption) _) (by decide) (Nat.le_of_ble_eq_true rfl) od_le.rf (fun q7 => ?_) (fun q7 => ?_)
    · refine r_if_ne (tgt := 15) dX0_holds_10 rfl (fun _ => ?_) (fun h => absurd h (by decide))
      have u7 := q7; unfold cHas at u7
      refine r_aload_n dX0_holds_15 rfl ?_
      refine r_aload_n dX0_holds_16 rfl ?_
      refine r_iload dX0_holds_17 rfl ?_
      refine r_iload dX0_holds_19 rfl ?_
      refine r_callV3v dX0_holds_21 cvX0_28 (by assumption) (c_X0_setWords (by assumption) (by assumption) (by omega) _ _ (by omega)) (by decide) (Nat.le_of_ble_eq_true rfl) od_le.rf ?_
      refine r_iconst dX0_holds_24 li_0 ?_
      refine r_istore dX0_holds_25 (by decide) rfl ?_
      refine lp_X0_holds ha0 hs0 hne ht0 hnt kd d b _ hcl (od_b_iff ?_) _ _ _ ⟨by omega, by omega, cAW_fr g s k d b, cAW_row g s k d b, fun j j0 j1 => by omega⟩ (Nat.lt_succ_self _)
      unfold cHolds
      exact ⟨fun q => q.2.2, fun q => ⟨by assumption, by assumption, q⟩⟩
    · refine r_if_ne (tgt := 15) dX0_holds_10 rfl (fun h => absurd h (by decide)) (fun _ => ?_)
      refine r_iconst dX0_holds_13 li_0 ?_
      exact r_zretq dX0_holds_14 rfl od_nz0 rfl ⟨od_bR0 rfl (by unfold cHolds; grind), od_fr.rf⟩
