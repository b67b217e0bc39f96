/-! OrganDrums$Runner -/
def RuAt (E : od_E) (r h s : Int) : Prop := (E.2.1 r).1 = 5 ∧ E.2.2 r 0 = s ∧ E.2.2 r 1 = h ∧ E.2.2 r 2 = r + 1 ∧ E.2.1 (r + 1) = (20, 17)
/-- the words of orders -/
noncomputable def cOW (g : od_G) (k t : Int) (sn : Nat) (dn lt : Int) : Int → Int := fun i => if i = 0 then g (k + 5) 0 else if i = 1 then dn else if i = 2 then lt else if i = 3 then cLoud g k t 0 sn else if i = 4 then cPins g k (g k 8).toNat else if i < 11 then od_ite (cHas g k (i - 5)) (g (k + 3) (i - 5)) (-1) else od_ite (cHas g k (i - 11)) (od_bc (g (k + 4) (i - 11))) (-1)
theorem cPins_e {g g' : od_G} {k : Int} (h : StEq g g' k) (n : Nat) : cPins g' k n = cPins g k n := by unfold cPins; rw [h.2.2.2.2.1]
/-- the words up to a place -/
def cOWd (W : Int → Int) (gw : od_G) (r d : Int) : Prop := ∀ i : Int, (0 ≤ i ∧ i < 5 + d) ∨ (11 ≤ i ∧ i < 11 + d) → gw (r + 1) i = W i
theorem cOWd_s {W : Int → Int} {gw : od_G} {r d a b : Int} (h0 : 0 ≤ d) (h6 : d < 6) (h : cOWd W gw r d) (ha : a = W (5 + d)) (hb : b = W (11 + d)) : cOWd W (od_up (od_up gw (r + 1) (5 + d) a) (r + 1) (11 + d) b) r (d + 1) := by
  intro i hi
  unfold od_up
  by_cases c1 : i = 11 + d
  · rw [if_pos ⟨rfl, c1⟩, hb, c1]
  · rw [if_neg (by omega)]
    by_cases c2 : i = 5 + d
    · rw [if_pos ⟨rfl, c2⟩, ha, c2]
    · rw [if_neg (by omega), h i (by omega)]
set_option maxRecDepth 10000 in
theorem lp_X5_set {E : od_E} {g : od_G} {W : Int → Int} {s : Int} (ha : AsAt E s) {h : Int} {r : Int} (hr : RuAt E r h s) {k : Int} (hs : StAt E k) (hne : k + 9 ≤ s ∨ s + 4 ≤ k) (hrk : k + 9 ≤ r ∨ r + 2 ≤ k) (hrs : s + 4 ≤ r ∨ r + 2 ≤ s) (hW : ∀ d : Int, 0 ≤ d → d < 6 → W (5 + d) = od_ite (cHas g k d) (g (k + 3) d) (-1) ∧ W (11 + d) = od_ite (cHas g k d) (od_bc (g (k + 4) d)) (-1)) : ∀ (m : Nat) (d : Int) (gw : od_G) (L3 : Option od_V), (0 ≤ d ∧ d ≤ 6 ∧ od_fr (fun x _ => x = s + 2 ∨ x = s + 3 ∨ x = r + 1) g gw ∧ cOWd W gw r d) → ((6 - d).toNat) < m → od_Rq 6 mX5_setWords od_Z0 E (E, fun v g' => v = none ∧ od_fr (fun x _ => x = s + 2 ∨ x = s + 3 ∨ x = r + 1) g g' ∧ cOWd W g' r 6) 59 [some (2, r), some (2, k), some (0, d), L3] [] E gw := by
  have ha0 := ha
  obtain ⟨hka, w0, w1, hu, w3⟩ := ha
  have hu7 := hu.1
  have hr0 := hr
  obtain ⟨hkr, ra, rb, rc, rd⟩ := hr
  have hs0 := hs
  obtain ⟨hk, r0, r1, r2, r3, r4, r5, r6, r7, a1, a2, a3, a4, a5, a6, a7, a8⟩ := hs
  intro m
  induction m with
  | zero => intro d gw L3 hi hM; exact absurd hM (Nat.not_lt_zero _)
  | succ m ih =>
    intro d gw L3 hi hM
    obtain ⟨hi0, hi1, hfr, hw⟩ := hi
    have eS : StEq g gw k := StEq.of hfr (fun x y q => by omega)
    have e3 : gw (k + 3) d = g (k + 3) d := by rw [eS.2.2.2.1]
    have e4 : gw (k + 4) d = g (k + 4) d := by rw [eS.2.2.2.2.1]
    refine r_iload_n dX5_setWords_59 rfl ?_
    refine r_bipush dX5_setWords_60 lb_6 ?_
    refine r_icmp_ge (tgt := 125) dX5_setWords_62 rfl (fun c62 => ?_) (fun c62 => ?_)
    · exact r_vretq dX5_setWords_125 rfl rfl ⟨rfl, hfr, by rw [show d = 6 by omega] at hw; exact hw⟩
    · refine r_aload_n dX5_setWords_65 rfl ?_
      refine r_iload_n dX5_setWords_66 rfl ?_
      refine r_callV1b dX5_setWords_67 cvX5_89 (by assumption) (c_X6_has (by assumption) _) (by decide) (Nat.le_of_ble_eq_true rfl) od_le.rf (fun q67 => ?_) (fun q67 => ?_)
      · refine r_istore_n dX5_setWords_70 (by decide) rfl ?_
        refine r_aload_n dX5_setWords_71 rfl ?_
        refine r_getR dX5_setWords_72 fkX5_9 gf5_2 (by assumption) (by assumption) ?_
        refine r_iconst dX5_setWords_75 li_5 ?_
        refine r_iload_n dX5_setWords_76 rfl ?_
        refine r_iaddE dX5_setWords_77 (by first | exact od_w0 (by omega) (by omega) | exact od_wI (by omega) (by omega) | rfl) ?_
        refine r_iload_n dX5_setWords_78 rfl ?_
        refine r_if_eq (tgt := 91) dX5_setWords_79 rfl (fun h => absurd h (by decide)) (fun _ => ?_)
        refine r_aload_n dX5_setWords_82 rfl ?_
        refine r_getR dX5_setWords_83 fkX5_93 gf6_2 (by assumption) (by assumption) ?_
        refine r_iload_n dX5_setWords_86 rfl ?_
        refine r_iald dX5_setWords_87 (by assumption) (by omega) (by (repeat (first | rewrite [od_upn (by omega)] | rewrite [od_up_at, if_pos (by omega)] | rewrite [od_up_at, if_neg (by omega)])); rfl) ?_
        refine r_goto (tgt := 92) dX5_setWords_88 rfl ?_
        refine r_iast dX5_setWords_92 (by assumption) (by omega) ?_
        refine r_aload_n dX5_setWords_93 rfl ?_
        refine r_getR dX5_setWords_94 fkX5_9 gf5_2 (by assumption) (by assumption) ?_
        refine r_bipush dX5_setWords_97 lb_11 ?_
        refine r_iload_n dX5_setWords_99 rfl ?_
        refine r_iaddE dX5_setWords_100 (by first | exact od_w0 (by omega) (by omega) | exact od_wI (by omega) (by omega) | rfl) ?_
        refine r_iload_n dX5_setWords_101 rfl ?_
        refine r_if_eq (tgt := 117) dX5_setWords_102 rfl (fun h => absurd h (by decide)) (fun _ => ?_)
        refine r_aload_n dX5_setWords_105 rfl ?_
        refine r_getR dX5_setWords_106 fkX5_96 gf6_3 (by assumption) (by assumption) ?_
        refine r_iload_n dX5_setWords_109 rfl ?_
        refine r_iald dX5_setWords_110 (by assumption) (by omega) (by (repeat (first | rewrite [od_upn (by omega)] | rewrite [od_up_at, if_pos (by omega)] | rewrite [od_up_at, if_neg (by omega)])); rfl) ?_
        refine r_callS1i dX5_setWords_111 csX5_99 (c_J6_bitCount_0f7a4 _) (by decide) (Nat.le_of_ble_eq_true rfl) od_le.rf ?_
        refine r_goto (tgt := 118) dX5_setWords_114 rfl ?_
        refine r_iast dX5_setWords_118 (by assumption) (by omega) ?_
        refine r_iincE dX5_setWords_119 rfl (by decide) (by first | exact od_w0 (by omega) (by omega) | exact od_wI (by omega) (by omega) | rfl) rfl ?_
        refine r_goto (tgt := 59) dX5_setWords_122 rfl ?_
        refine ih _ _ _ ⟨by omega, by omega, (hfr.up (by omega)).up (by omega), cOWd_s hi0 (by omega) hw ?_ ?_⟩ (by omega)
        · rw [(hW d hi0 (by omega)).1]
          first
          | rw [od_ite_t ((cHas_e eS d).mp q67), e3]
          | rw [od_ite_f (fun q => q67 ((cHas_e eS d).mpr q))]
        · rw [(hW d hi0 (by omega)).2]
          first
          | rw [od_ite_t ((cHas_e eS d).mp q67), ← e4]
          | rw [od_ite_f (fun q => q67 ((cHas_e eS d).mpr q))]
      · refine r_istore_n dX5_setWords_70 (by decide) rfl ?_
        refine r_aload_n dX5_setWords_71 rfl ?_
        refine r_getR dX5_setWords_72 fkX5_9 gf5_2 (by assumption) (by assumption) ?_
        refine r_iconst dX5_setWords_75 li_5 ?_
        refine r_iload_n dX5_setWords_76 rfl ?_
        refine r_iaddE dX5_setWords_77 (by first | exact od_w0 (by omega) (by omega) | exact od_wI (by omega) (by omega) | rfl) ?_
        refine r_iload_n dX5_setWords_78 rfl ?_
        refine r_if_eq (tgt := 91) dX5_setWords_79 rfl (fun _ => ?_) (fun h => absurd h (by decide))
        refine r_iconst dX5_setWords_91 li_m1 ?_
        refine r_iast dX5_setWords_92 (by assumption) (by omega) ?_
        refine r_aload_n dX5_setWords_93 rfl ?_
        refine r_getR dX5_setWords_94 fkX5_9 gf5_2 (by assumption) (by assumption) ?_
        refine r_bipush dX5_setWords_97 lb_11 ?_
        refine r_iload_n dX5_setWords_99 rfl ?_
        refine r_iaddE dX5_setWords_100 (by first | exact od_w0 (by omega) (by omega) | exact od_wI (by omega) (by omega) | rfl) ?_
        refine r_iload_n dX5_setWords_101 rfl ?_
        refine r_if_eq (tgt := 117) dX5_setWords_102 rfl (fun _ => ?_) (fun h => absurd h (by decide))
        refine r_iconst dX5_setWords_117 li_m1 ?_
        refine r_iast dX5_setWords_118 (by assumption) (by omega) ?_
        refine r_iincE dX5_setWords_119 rfl (by decide) (by first | exact od_w0 (by omega) (by omega) | exact od_wI (by omega) (by omega) | rfl) rfl ?_
        refine r_goto (tgt := 59) dX5_setWords_122 rfl ?_
        refine ih _ _ _ ⟨by omega, by omega, (hfr.up (by omega)).up (by omega), cOWd_s hi0 (by omega) hw ?_ ?_⟩ (by omega)
        · rw [(hW d hi0 (by omega)).1]
          first
          | rw [od_ite_t ((cHas_e eS d).mp q67), e3]
          | rw [od_ite_f (fun q => q67 ((cHas_e eS d).mpr q))]
        · rw [(hW d hi0 (by omega)).2]
          first
          | rw [od_ite_t ((cHas_e eS d).mp q67), ← e4]
          | rw [od_ite_f (fun q => q67 ((cHas_e eS d).mpr q))]
set_option maxRecDepth 10000 in
theorem sg_X5_set {E : od_E} {g gw : od_G} {s : Int} (ha : AsAt E s) {h : Int} {r : Int} (hr : RuAt E r h s) {k : Int} (hs : StAt E k) (hne : k + 9 ≤ s ∨ s + 4 ≤ k) (hrk : k + 9 ≤ r ∨ r + 2 ≤ k) (hrs : s + 4 ≤ r ∨ r + 2 ≤ s) {cn sn : Nat} (hlaw : LawOk E g s (cLawOf g k (g k 11)) cn sn) (hrt : (cLawOf g k (g k 11)) ≠ -1 → (cLawOf g k (g k 11)) + 7 ≤ r ∨ r + 2 ≤ (cLawOf g k (g k 11))) (h0 : 0 ≤ g k 8 ∧ g k 8 ≤ 6) (f3 : od_fr (fun x _ => x = s + 2 ∨ x = s + 3 ∨ x = r + 1) g gw) (w012 : gw (r + 1) 0 = g (k + 5) 0 ∧ gw (r + 1) 1 = g r 4 ∧ gw (r + 1) 2 = g r 3) : od_Rq 6 mX5_setWords od_Z0 E (E, fun v g' => v = none ∧ od_fr (fun x _ => x = s + 2 ∨ x = s + 3 ∨ x = r + 1) g g' ∧ cOWd (cOW g k (cLawOf g k (g k 11)) sn (g r 4) (g r 3)) g' r 6) 32 [some (2, r), some (2, k), none, none] [] E gw := by
  have ha0 := ha
  obtain ⟨hka, w0, w1, hu, w3⟩ := ha
  have hu7 := hu.1
  have hr0 := hr
  obtain ⟨hkr, ra, rb, rc, rd⟩ := hr
  have hs0 := hs
  obtain ⟨hk, r0, r1, r2, r3, r4, r5, r6, r7, a1, a2, a3, a4, a5, a6, a7, a8⟩ := hs
  have e3 : StEq g gw k := StEq.of f3 (fun x y q => by omega)
  have eL : cLawOf gw k (gw k 11) = (cLawOf g k (g k 11)) := by rw [cLawOf_e e3, e3.1]
  have eT : (cLawOf g k (g k 11)) ≠ -1 → TxEq g gw (cLawOf g k (g k 11)) := fun q => TxEq.of f3 (fun x y z => by have := hrt q; have := (hlaw.resolve_left q).2.2; omega)
  have n8 : 0 ≤ gw k 8 ∧ gw k 8 ≤ 6 := by rw [e3.1]; exact h0
  have hl3 : LawOk E gw s (cLawOf gw k (gw k 11)) cn sn := by rw [eL]; exact hlaw.e eT
  have eq1 : cLoud gw k (cLawOf gw k (gw k 11)) 0 sn = cLoud g k (cLawOf g k (g k 11)) 0 sn := by
    rw [eL]
    unfold cLoud
    rw [e3.1]
    refine od_sum_c _ (fun i i0 i1 => ?_)
    unfold cLd
    rw [propext (cStrikes_e e3 i 0), cSound_e e3 eT, cBeatIn_e e3]
  refine r_aload_n dX5_setWords_32 rfl ?_
  refine r_getR dX5_setWords_33 fkX5_9 gf5_2 (by assumption) (by assumption) ?_
  refine r_iconst dX5_setWords_36 li_3 ?_
  refine r_aload_n dX5_setWords_37 rfl ?_
  refine r_getR dX5_setWords_38 fkX5_22 gf5_0 (by assumption) (by assumption) ?_
  refine r_aload_n dX5_setWords_41 rfl ?_
  refine r_iconst dX5_setWords_42 li_0 ?_
  refine r_callV2f dX5_setWords_43 cvX5_81 (by assumption) (c_X0_loudIn (cn := cn) ha0 hs0 hne n8 hl3 _) (by decide) (Nat.le_of_ble_eq_true rfl) od_le.rf (fun g43 f43 => ?_)
  rw [eq1]
  have f4 : od_fr (fun x _ => x = s + 2 ∨ x = s + 3 ∨ x = r + 1) g g43 := f3.tr (f43.mo (fun x y q => by omega))
  refine r_iast dX5_setWords_46 (by assumption) (by omega) ?_
  have f5 : od_fr (fun x _ => x = s + 2 ∨ x = s + 3 ∨ x = r + 1) g (od_up g43 (r + 1) 3 (cLoud g k (cLawOf g k (g k 11)) 0 sn)) := f4.up (by omega)
  have e5 : StEq g (od_up g43 (r + 1) 3 (cLoud g k (cLawOf g k (g k 11)) 0 sn)) k := StEq.of f5 (fun x y q => by omega)
  refine r_aload_n dX5_setWords_47 rfl ?_
  refine r_getR dX5_setWords_48 fkX5_9 gf5_2 (by assumption) (by assumption) ?_
  refine r_iconst dX5_setWords_51 li_4 ?_
  refine r_aload_n dX5_setWords_52 rfl ?_
  refine r_callV0i dX5_setWords_53 cvX5_85 (by assumption) (c_X6_allPins hs0 (by rw [e5.1]; exact h0)) (by decide) (Nat.le_of_ble_eq_true rfl) od_le.rf ?_
  rw [cPins_e e5, e5.1]
  refine r_iast dX5_setWords_56 (by assumption) (by omega) ?_
  refine r_iconst dX5_setWords_57 li_0 ?_
  refine r_istore_n dX5_setWords_58 (by decide) rfl ?_
  refine lp_X5_set (g := g) (W := cOW g k (cLawOf g k (g k 11)) sn (g r 4) (g r 3)) ha0 hr0 hs0 hne hrk hrs ?_ _ _ _ _ ⟨by omega, by omega, f5.up (by omega), ?_⟩ (Nat.lt_succ_self _)
  · intro d d0 d1
    unfold cOW
    constructor
    · rw [if_neg (by omega), if_neg (by omega), if_neg (by omega), if_neg (by omega), if_neg (by omega), if_pos (by omega), show 5 + d - 5 = d by omega]
    · rw [if_neg (by omega), if_neg (by omega), if_neg (by omega), if_neg (by omega), if_neg (by omega), if_neg (by omega), show 11 + d - 11 = d by omega]
  · have w3 : ∀ i : Int, g43 (r + 1) i = gw (r + 1) i := fun i => f43 (r + 1) i (by omega)
    intro i hi
    rcases (by omega : i = 0 ∨ i = 1 ∨ i = 2 ∨ i = 3 ∨ i = 4) with rfl | rfl | rfl | rfl | rfl
    all_goals simp [od_up, cOW, w3, w012.1, w012.2.1, w012.2.2]
set_option maxRecDepth 10000 in
theorem c_X5_setWords {E : od_E} {g : od_G} {s : Int} (ha : AsAt E s) {h : Int} {r : Int} (hr : RuAt E r h s) {k : Int} (hs : StAt E k) (hne : k + 9 ≤ s ∨ s + 4 ≤ k) (hrk : k + 9 ≤ r ∨ r + 2 ≤ k) (hrs : s + 4 ≤ r ∨ r + 2 ≤ s) {cn sn : Nat} (hlaw : LawOk E g s (cLawOf g k (g k 11)) cn sn) (hrt : (cLawOf g k (g k 11)) ≠ -1 → (cLawOf g k (g k 11)) + 7 ≤ r ∨ r + 2 ≤ (cLawOf g k (g k 11))) (h0 : 0 ≤ g k 8 ∧ g k 8 ≤ 6) : od_Cq 6 mX5_setWords [(2, r), (2, k)] E g (E, fun v g' => v = none ∧ od_fr (fun x _ => x = s + 2 ∨ x = s + 3 ∨ x = r + 1) g g' ∧ cOWd (cOW g k (cLawOf g k (g k 11)) sn (g r 4) (g r 3)) g' r 6) := by
  have ha0 := ha
  obtain ⟨hka, w0, w1, hu, w3⟩ := ha
  have hu7 := hu.1
  have hr0 := hr
  obtain ⟨hkr, ra, rb, rc, rd⟩ := hr
  have hs0 := hs
  obtain ⟨hk, r0, r1, r2, r3, r4, r5, r6, r7, a1, a2, a3, a4, a5, a6, a7, a8⟩ := hs
  refine od_cqI pnX5 rfl (Nat.le_of_ble_eq_true rfl) od_le.rf ?_
  show od_Rq 6 mX5_setWords od_Z0 E (E, fun v g' => v = none ∧ od_fr (fun x _ => x = s + 2 ∨ x = s + 3 ∨ x = r + 1) g g' ∧ cOWd (cOW g k (cLawOf g k (g k 11)) sn (g r 4) (g r 3)) g' r 6) 0 [some (2, r), some (2, k), none, none] [] E g
  refine r_aload_n dX5_setWords_0 rfl ?_
  refine r_getR dX5_setWords_1 fkX5_9 gf5_2 (by assumption) (by assumption) ?_
  refine r_iconst dX5_setWords_4 li_0 ?_
  refine r_aload_n dX5_setWords_5 rfl ?_
  refine r_getR dX5_setWords_6 fkX5_76 gf6_4 (by assumption) (by assumption) ?_
  refine r_iconst dX5_setWords_9 li_0 ?_
  refine r_iald dX5_setWords_10 (by assumption) (by omega) (by (repeat (first | rewrite [od_upn (by omega)] | rewrite [od_up_at, if_pos (by omega)] | rewrite [od_up_at, if_neg (by omega)])); rfl) ?_
  refine r_iast dX5_setWords_11 (by assumption) (by omega) ?_
  refine r_aload_n dX5_setWords_12 rfl ?_
  refine r_getR dX5_setWords_13 fkX5_9 gf5_2 (by assumption) (by assumption) ?_
  refine r_iconst dX5_setWords_16 li_1 ?_
  refine r_aload_n dX5_setWords_17 rfl ?_
  refine r_getIj (j := 4) rfl dX5_setWords_18 fkX5_19 gf5_4 (by assumption) (by (repeat (first | rewrite [od_upn (by omega)] | rewrite [od_up_at, if_pos (by omega)] | rewrite [od_up_at, if_neg (by omega)])); rfl) ?_
  refine r_iast dX5_setWords_21 (by assumption) (by omega) ?_
  refine r_aload_n dX5_setWords_22 rfl ?_
  refine r_getR dX5_setWords_23 fkX5_9 gf5_2 (by assumption) (by assumption) ?_
  refine r_iconst dX5_setWords_26 li_2 ?_
  refine r_aload_n dX5_setWords_27 rfl ?_
  refine r_getIj (j := 3) rfl dX5_setWords_28 fkX5_15 gf5_3 (by assumption) (by (repeat (first | rewrite [od_upn (by omega)] | rewrite [od_up_at, if_pos (by omega)] | rewrite [od_up_at, if_neg (by omega)])); rfl) ?_
  refine r_iast dX5_setWords_31 (by assumption) (by omega) ?_
  exact sg_X5_set ha0 hr0 hs0 hne hrk hrs hlaw hrt h0 (((od_fr.rf.up (by omega)).up (by omega)).up (by omega)) (by simp [od_up])
