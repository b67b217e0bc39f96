/-! Hand: an hour passes -/
/-- drum d's pin drops out -/
def cDrop (g : od_G) (k t : Int) (sn : Nat) (d : Int) : Prop := cStrikes g k d 0 ∧ cHolds g k t d (g (k + 3) d) sn 1
noncomputable def cPn (g : od_G) (k t : Int) (sn : Nat) (d : Int) : Int := od_ite (cDrop g k t sn d) (od_and (g (k + 4) d) (od_xor (od_shl 1 (g (k + 3) d)) (-1))) (g (k + 4) d)
/-- the first n drums have gone on -/
noncomputable def cPs (g : od_G) (k t : Int) (sn : Nat) (n : Int) : od_G := fun x y => if x = k + 4 ∧ 0 ≤ y ∧ y < n then cPn g k t sn y else if x = k + 3 ∧ 0 ≤ y ∧ y < n then cBeatIn g k y 1 else g x y
noncomputable def cPass (g : od_G) (k t : Int) (sn : Nat) : od_G := od_up (cPs g k t sn (g k 8)) (k + 5) 0 (g (k + 5) 0 + 1)
theorem cPs_0 (g : od_G) (k t : Int) (sn : Nat) : cPs g k t sn 0 = g := by
  funext x y
  simp only [cPs]
  rw [if_neg (by omega), if_neg (by omega)]
theorem cPs_o (g : od_G) (k t : Int) (sn : Nat) (n x y : Int) (h : (x ≠ k + 3 ∧ x ≠ k + 4) ∨ n ≤ y) : cPs g k t sn n x y = g x y := by
  simp only [cPs]
  rw [if_neg (by omega), if_neg (by omega)]
theorem cPs_s {X : Int → Int → Prop} {g gw : od_G} {k t d v b : Int} {sn : Nat} (h0 : 0 ≤ d) (hfr : od_fr X (cPs g k t sn d) gw) (hv : v = cPn g k t sn d) (hb : b = cBeatIn g k d 1) : od_fr X (cPs g k t sn (d + 1)) (od_up (od_up gw (k + 4) d v) (k + 3) d b) := by
  intro x y hx
  have h := hfr x y hx
  clear hfr hx
  simp only [od_up, cPs] at *
  grind (splits := 40)
theorem od_up_n {g : od_G} {x y v : Int} (h : v = g x y) : od_up g x y v = g := by
  funext a b
  simp only [od_up]
  by_cases c : a = x ∧ b = y
  · rw [if_pos c, h, c.1, c.2]
  · rw [if_neg c]
theorem cPs_t {X : Int → Int → Prop} {g gw : od_G} {k t d b : Int} {sn : Nat} (h0 : 0 ≤ d) (hfr : od_fr X (cPs g k t sn d) gw) (hx : ¬ X (k + 4) d) (hv : ¬ cDrop g k t sn d) (hb : b = cBeatIn g k d 1) : od_fr X (cPs g k t sn (d + 1)) (od_up gw (k + 3) d b) := by
  have h := hfr (k + 4) d hx
  rw [cPs_o _ _ _ _ _ _ _ (Or.inr (by omega))] at h
  have q := cPs_s (v := cPn g k t sn d) h0 hfr rfl hb
  rw [od_up_n (x := k + 4) (y := d)] at q
  · exact q
  · unfold cPn
    rw [od_ite_f hv, h]
theorem DrEq.ps {X : Int → Int → Prop} {g gw : od_G} {k t d : Int} {sn : Nat} (hfr : od_fr X (cPs g k t sn d) gw) (hX : ∀ x y, X x y → x < k ∨ k + 8 < x) : DrEq g gw k d := by
  have q : ∀ x y : Int, ((x ≠ k + 3 ∧ x ≠ k + 4) ∨ d ≤ y) → k ≤ x → x ≤ k + 8 → gw x y = g x y := fun x y h h1 h2 => by
    rw [hfr x y (fun z => by have := hX _ _ z; omega), cPs_o _ _ _ _ _ _ _ h]
  exact ⟨funext fun y => q _ _ (Or.inl (by omega)) (by omega) (by omega), q _ _ (Or.inl (by omega)) (by omega) (by omega), q _ _ (Or.inl (by omega)) (by omega) (by omega), q _ _ (Or.inr (by omega)) (by omega) (by omega), q _ _ (Or.inr (by omega)) (by omega) (by omega), funext fun y => q _ _ (Or.inl (by omega)) (by omega) (by omega)⟩
theorem TxEq.ps {E : od_E} {g gw : od_G} {k s t d : Int} {cn sn : Nat} (hlaw : LawOk E g s t cn sn) (hkt : t ≠ -1 → t + 7 ≤ k ∨ k + 9 ≤ t) (hfr : od_fr (fun x _ => x = s + 2 ∨ x = s + 3) (cPs g k t sn d) gw) : t ≠ -1 → TxEq g gw t := fun q => by
  obtain ⟨h1, h2, h3⟩ := hlaw.resolve_left q
  have h4 := hkt q
  have e : ∀ x : Int, t ≤ x → x ≤ t + 6 → gw x = g x := fun x a b => funext fun y => by
    rw [hfr x y (by omega), cPs_o _ _ _ _ _ _ _ (Or.inl (by omega))]
  exact ⟨e _ (by omega) (by omega), e _ (by omega) (by omega), e _ (by omega) (by omega), e _ (by omega) (by omega), e _ (by omega) (by omega), e _ (by omega) (by omega), e _ (by omega) (by omega)⟩
theorem cBeatIn_p (g : od_G) (k d i v e : Int) : cBeatIn (od_up g (k + 4) e v) k d i = cBeatIn g k d i := by
  unfold cBeatIn cHas cStop
  rw [show od_up g (k + 4) e v k = g k from funext fun y => by simp only [od_up]; rw [if_neg (by omega)], show od_up g (k + 4) e v (k + 1) = g (k + 1) from funext fun y => by simp only [od_up]; rw [if_neg (by omega)], show od_up g (k + 4) e v (k + 3) = g (k + 3) from funext fun y => by simp only [od_up]; rw [if_neg (by omega)]]
set_option maxRecDepth 10000 in
theorem lp_X1_pass {E : od_E} {g : od_G} {n : Int} {s : Int} (ha : AsAt E s) {h : Int} (hh : HaAt E h s) {k : Int} (hs : StAt E k) (hne : k + 9 ≤ s ∨ s + 4 ≤ k) {t : Int} {cn sn : Nat} (hlaw : LawOk E g s t cn sn) (hkt : t ≠ -1 → t + 7 ≤ k ∨ k + 9 ≤ t) (h0 : 0 ≤ g k 8 ∧ g k 8 ≤ 6) (hH : 0 ≤ g (k + 5) 0 ∧ g (k + 5) 0 ≤ 999) : ∀ (m : Nat) (d : Int) (gw : od_G) (L5 : Option od_V), (0 ≤ d ∧ d ≤ g k 8 ∧ od_fr (fun x _ => x = s + 2 ∨ x = s + 3) (cPs g k t sn d) gw) → ((g k 8 - d).toNat) < m → od_Rf 6 mX1_passHour od_Z0 E (some (0, n)) (fun x _ => x = s + 2 ∨ x = s + 3) (cPass g k t sn) 22 [some (2, h), some (2, k), some (0, n), some (2, t), some (0, d), L5] [] E gw := by
  have ha0 := ha
  obtain ⟨hka, w0, w1, hu, w3⟩ := ha
  have hu7 := hu.1
  have hh0 := hh
  obtain ⟨hkh, hh1⟩ := hh
  have hs0 := hs
  obtain ⟨hk, r0, r1, r2, r3, r4, r5, r6, r7, a1, a2, a3, a4, a5, a6, a7, a8⟩ := hs
  intro m
  induction m with
  | zero => intro d gw L5 hi hM; exact absurd hM (Nat.not_lt_zero _)
  | succ m ih =>
    intro d gw L5 hi hM
    obtain ⟨hi0, hi1, hfr⟩ := hi
    have eD : DrEq g gw k d := DrEq.ps hfr (fun x y q => by omega)
    have eT := TxEq.ps hlaw hkt hfr
    have hlaw1 : LawOk E gw s t cn sn := hlaw.e eT
    have e0 : gw k = g k := eD.1
    have e5 : gw (k + 5) = g (k + 5) := eD.2.2.2.2.2
    have e3 : gw (k + 3) d = g (k + 3) d := eD.2.2.2.1
    have e4 : gw (k + 4) d = g (k + 4) d := eD.2.2.2.2.1
    refine r_iload dX1_passHour_22 rfl ?_
    refine r_aload_n dX1_passHour_24 rfl ?_
    refine r_getIj (j := 8) rfl dX1_passHour_25 fkX1_82 gf6_8 (by assumption) (by (repeat (first | rewrite [od_upn (by omega)] | rewrite [od_up_at, if_pos (by omega)] | rewrite [od_up_at, if_neg (by omega)])); rfl) ?_
    rw [e0]
    refine r_icmp_ge (tgt := 110) dX1_passHour_28 rfl (fun c28 => ?_) (fun c28 => ?_)
    · rw [show d = g k 8 by omega] at hfr
      refine r_aload_n dX1_passHour_110 rfl ?_
      refine r_getR dX1_passHour_111 fkX1_32 gf6_4 (by assumption) (by assumption) ?_
      refine r_iconst dX1_passHour_114 li_0 ?_
      refine r_dup2 dX1_passHour_115 (by first | exact od_ne2 | exact od_ne0) (by first | exact od_ne2 | exact od_ne0) ?_
      refine r_iald dX1_passHour_116 (by assumption) (by omega) (by (repeat (first | rewrite [od_upn (by omega)] | rewrite [od_up_at, if_pos (by omega)] | rewrite [od_up_at, if_neg (by omega)])); rfl) ?_
      rw [e5]
      refine r_iconst dX1_passHour_117 li_1 ?_
      refine r_iaddE dX1_passHour_118 (by first | exact od_w0 (by omega) (by omega) | exact od_wI (by omega) (by omega) | rfl) ?_
      refine r_iast dX1_passHour_119 (by assumption) (by omega) ?_
      refine r_iload_n dX1_passHour_120 rfl ?_
      refine r_iretq dX1_passHour_121 rfl rfl ⟨rfl, ?_⟩
      intro x y hx
      have q := hfr x y hx
      simp only [cPass, od_up] at *
      by_cases c : x = k + 5 ∧ y = 0
      · rw [if_pos c, if_pos c]
      · rw [if_neg c, if_neg c, q]
    · refine r_iload dX1_passHour_31 rfl ?_
      refine r_bipush dX1_passHour_33 lb_6 ?_
      refine r_icmp_ge (tgt := 110) dX1_passHour_35 rfl (fun c35 => ?_) (fun c35 => ?_)
      · rw [show d = g k 8 by omega] at hfr
        refine r_aload_n dX1_passHour_110 rfl ?_
        refine r_getR dX1_passHour_111 fkX1_32 gf6_4 (by assumption) (by assumption) ?_
        refine r_iconst dX1_passHour_114 li_0 ?_
        refine r_dup2 dX1_passHour_115 (by first | exact od_ne2 | exact od_ne0) (by first | exact od_ne2 | exact od_ne0) ?_
        refine r_iald dX1_passHour_116 (by assumption) (by omega) (by (repeat (first | rewrite [od_upn (by omega)] | rewrite [od_up_at, if_pos (by omega)] | rewrite [od_up_at, if_neg (by omega)])); rfl) ?_
        rw [e5]
        refine r_iconst dX1_passHour_117 li_1 ?_
        refine r_iaddE dX1_passHour_118 (by first | exact od_w0 (by omega) (by omega) | exact od_wI (by omega) (by omega) | rfl) ?_
        refine r_iast dX1_passHour_119 (by assumption) (by omega) ?_
        refine r_iload_n dX1_passHour_120 rfl ?_
        refine r_iretq dX1_passHour_121 rfl rfl ⟨rfl, ?_⟩
        intro x y hx
        have q := hfr x y hx
        simp only [cPass, od_up] at *
        by_cases c : x = k + 5 ∧ y = 0
        · rw [if_pos c, if_pos c]
        · rw [if_neg c, if_neg c, q]
      · refine r_aload_n dX1_passHour_38 rfl ?_
        refine r_getR dX1_passHour_39 fkX1_69 gf6_2 (by assumption) (by assumption) ?_
        refine r_iload dX1_passHour_42 rfl ?_
        refine r_iald dX1_passHour_44 (by assumption) (by omega) (by (repeat (first | rewrite [od_upn (by omega)] | rewrite [od_up_at, if_pos (by omega)] | rewrite [od_up_at, if_neg (by omega)])); rfl) ?_
        rw [e3]
        refine r_istore dX1_passHour_45 (by decide) rfl ?_
        refine r_aload_n dX1_passHour_47 rfl ?_
        refine r_iload dX1_passHour_48 rfl ?_
        refine r_iconst dX1_passHour_50 li_0 ?_
        refine r_callV2b dX1_passHour_51 cvX1_85 (by assumption) (c_X6_strikesIn (by assumption) _ _) (by decide) (Nat.le_of_ble_eq_true rfl) od_le.rf (fun q51 => ?_) (fun q51 => ?_)
        · refine r_if_eq (tgt := 90) dX1_passHour_54 rfl (fun h => absurd h (by decide)) (fun _ => ?_)
          refine r_aload_n dX1_passHour_57 rfl ?_
          refine r_getR dX1_passHour_58 fkX1_9 gf1_0 (by assumption) (by assumption) ?_
          refine r_aload_n dX1_passHour_61 rfl ?_
          refine r_aload_n dX1_passHour_62 rfl ?_
          refine r_iconst dX1_passHour_63 li_1 ?_
          refine r_iload dX1_passHour_64 rfl ?_
          refine r_iload dX1_passHour_66 rfl ?_
          refine r_callV5g dX1_passHour_68 cvX1_57 (by assumption) (c_X0_holds (by assumption) (by assumption) (by omega) (by assumption) _ _ _) (by decide) (Nat.le_of_ble_eq_true rfl) od_le.rf (fun q68 g68 f68 => ?_) (fun q68 g68 f68 => ?_)
          · have hfx : od_fr (fun x _ => x = s + 2 ∨ x = s + 3) (cPs g k t sn d) g68 := hfr.tr f68
            have eX : DrEq g g68 k d := DrEq.ps hfx (fun x y q => by omega)
            have u51 := (cStrikes_d eD 0).mp q51
            rw [cHolds_d eD eT] at q68
            refine r_if_eq (tgt := 90) dX1_passHour_71 rfl (fun h => absurd h (by decide)) (fun _ => ?_)
            refine r_aload_n dX1_passHour_74 rfl ?_
            refine r_getR dX1_passHour_75 fkX1_66 gf6_3 (by assumption) (by assumption) ?_
            refine r_iload dX1_passHour_78 rfl ?_
            refine r_dup2 dX1_passHour_80 (by first | exact od_ne2 | exact od_ne0) (by first | exact od_ne2 | exact od_ne0) ?_
            refine r_iald dX1_passHour_81 (by assumption) (by omega) (by (repeat (first | rewrite [od_upn (by omega)] | rewrite [od_up_at, if_pos (by omega)] | rewrite [od_up_at, if_neg (by omega)])); rfl) ?_
            refine r_iconst dX1_passHour_82 li_1 ?_
            refine r_iload dX1_passHour_83 rfl ?_
            refine r_ishl dX1_passHour_85 ?_
            refine r_iconst dX1_passHour_86 li_m1 ?_
            refine r_ixor dX1_passHour_87 ?_
            refine r_iand dX1_passHour_88 ?_
            refine r_iast dX1_passHour_89 (by assumption) (by omega) ?_
            refine r_aload_n dX1_passHour_90 rfl ?_
            refine r_getR dX1_passHour_91 fkX1_69 gf6_2 (by assumption) (by assumption) ?_
            refine r_iload dX1_passHour_94 rfl ?_
            refine r_aload_n dX1_passHour_96 rfl ?_
            refine r_iload dX1_passHour_97 rfl ?_
            refine r_iconst dX1_passHour_99 li_1 ?_
            refine r_callV2i dX1_passHour_100 cvX1_88 (by assumption) (c_X6_beatIn (by assumption) _ _) (by decide) (Nat.le_of_ble_eq_true rfl) od_le.rf ?_
            refine r_iast dX1_passHour_103 (by assumption) (by omega) ?_
            refine r_iincE dX1_passHour_104 rfl (by decide) (by first | exact od_w0 (by omega) (by omega) | exact od_wI (by omega) (by omega) | rfl) rfl ?_
            refine r_goto (tgt := 22) dX1_passHour_107 rfl ?_
            refine ih _ _ _ ⟨by omega, by omega, ?_⟩ (by omega)
            first
            | (refine cPs_s hi0 hfx ?_ (by rw [cBeatIn_p, cBeatIn_d eX]); unfold cPn; rw [od_ite_t ⟨u51, q68⟩, eX.2.2.2.2.1])
            | exact cPs_t hi0 hfx (by omega) (fun q => q68 q.2) (by rw [cBeatIn_d eX])
            | exact cPs_t hi0 hfr (by omega) (fun q => q51 ((cStrikes_d eD 0).mpr q.1)) (by rw [cBeatIn_d eD])
          · have hfx : od_fr (fun x _ => x = s + 2 ∨ x = s + 3) (cPs g k t sn d) g68 := hfr.tr f68
            have eX : DrEq g g68 k d := DrEq.ps hfx (fun x y q => by omega)
            have u51 := (cStrikes_d eD 0).mp q51
            rw [cHolds_d eD eT] at q68
            refine r_if_eq (tgt := 90) dX1_passHour_71 rfl (fun _ => ?_) (fun h => absurd h (by decide))
            refine r_aload_n dX1_passHour_90 rfl ?_
            refine r_getR dX1_passHour_91 fkX1_69 gf6_2 (by assumption) (by assumption) ?_
            refine r_iload dX1_passHour_94 rfl ?_
            refine r_aload_n dX1_passHour_96 rfl ?_
            refine r_iload dX1_passHour_97 rfl ?_
            refine r_iconst dX1_passHour_99 li_1 ?_
            refine r_callV2i dX1_passHour_100 cvX1_88 (by assumption) (c_X6_beatIn (by assumption) _ _) (by decide) (Nat.le_of_ble_eq_true rfl) od_le.rf ?_
            refine r_iast dX1_passHour_103 (by assumption) (by omega) ?_
            refine r_iincE dX1_passHour_104 rfl (by decide) (by first | exact od_w0 (by omega) (by omega) | exact od_wI (by omega) (by omega) | rfl) rfl ?_
            refine r_goto (tgt := 22) dX1_passHour_107 rfl ?_
            refine ih _ _ _ ⟨by omega, by omega, ?_⟩ (by omega)
            first
            | (refine cPs_s hi0 hfx ?_ (by rw [cBeatIn_p, cBeatIn_d eX]); unfold cPn; rw [od_ite_t ⟨u51, q68⟩, eX.2.2.2.2.1])
            | exact cPs_t hi0 hfx (by omega) (fun q => q68 q.2) (by rw [cBeatIn_d eX])
            | exact cPs_t hi0 hfr (by omega) (fun q => q51 ((cStrikes_d eD 0).mpr q.1)) (by rw [cBeatIn_d eD])
        · refine r_if_eq (tgt := 90) dX1_passHour_54 rfl (fun _ => ?_) (fun h => absurd h (by decide))
          refine r_aload_n dX1_passHour_90 rfl ?_
          refine r_getR dX1_passHour_91 fkX1_69 gf6_2 (by assumption) (by assumption) ?_
          refine r_iload dX1_passHour_94 rfl ?_
          refine r_aload_n dX1_passHour_96 rfl ?_
          refine r_iload dX1_passHour_97 rfl ?_
          refine r_iconst dX1_passHour_99 li_1 ?_
          refine r_callV2i dX1_passHour_100 cvX1_88 (by assumption) (c_X6_beatIn (by assumption) _ _) (by decide) (Nat.le_of_ble_eq_true rfl) od_le.rf ?_
          refine r_iast dX1_passHour_103 (by assumption) (by omega) ?_
          refine r_iincE dX1_passHour_104 rfl (by decide) (by first | exact od_w0 (by omega) (by omega) | exact od_wI (by omega) (by omega) | rfl) rfl ?_
          refine r_goto (tgt := 22) dX1_passHour_107 rfl ?_
          refine ih _ _ _ ⟨by omega, by omega, ?_⟩ (by omega)
          first
          | (refine cPs_s hi0 hfx ?_ (by rw [cBeatIn_p, cBeatIn_d eX]); unfold cPn; rw [od_ite_t ⟨u51, q68⟩, eX.2.2.2.2.1])
          | exact cPs_t hi0 hfx (by omega) (fun q => q68 q.2) (by rw [cBeatIn_d eX])
          | exact cPs_t hi0 hfr (by omega) (fun q => q51 ((cStrikes_d eD 0).mpr q.1)) (by rw [cBeatIn_d eD])
set_option maxRecDepth 10000 in
theorem c_X1_passHour {E : od_E} {g : od_G} {s : Int} (ha : AsAt E s) {h : Int} (hh : HaAt E h s) {k : Int} (hs : StAt E k) (hne : k + 9 ≤ s ∨ s + 4 ≤ k) {cn sn : Nat} (hlaw : LawOk E g s (cLawOf g k (g k 11)) cn sn) (hkt : (cLawOf g k (g k 11)) ≠ -1 → (cLawOf g k (g k 11)) + 7 ≤ k ∨ k + 9 ≤ (cLawOf g k (g k 11))) (h0 : 0 ≤ g k 8 ∧ g k 8 ≤ 6) (hH : 0 ≤ g (k + 5) 0 ∧ g (k + 5) 0 ≤ 999) : od_Cw 6 mX1_passHour [(2, h), (2, k)] E g (some (0, cLoud g k (cLawOf g k (g k 11)) 0 sn)) (fun x _ => x = s + 2 ∨ x = s + 3) (cPass g k (cLawOf g k (g k 11)) sn) := by
  have ha0 := ha
  obtain ⟨hka, w0, w1, hu, w3⟩ := ha
  have hu7 := hu.1
  have hh0 := hh
  obtain ⟨hkh, hh1⟩ := hh
  have hs0 := hs
  obtain ⟨hk, r0, r1, r2, r3, r4, r5, r6, r7, a1, a2, a3, a4, a5, a6, a7, a8⟩ := hs
  refine od_cqI pnX1 rfl (Nat.le_of_ble_eq_true rfl) od_le.rf ?_
  show od_Rf 6 mX1_passHour od_Z0 E (some (0, cLoud g k (cLawOf g k (g k 11)) 0 sn)) (fun x _ => x = s + 2 ∨ x = s + 3) (cPass g k (cLawOf g k (g k 11)) sn) 0 [some (2, h), some (2, k), none, none, none, none] [] E g
  refine r_aload_n dX1_passHour_0 rfl ?_
  refine r_getR dX1_passHour_1 fkX1_9 gf1_0 (by assumption) (by assumption) ?_
  refine r_aload_n dX1_passHour_4 rfl ?_
  refine r_iconst dX1_passHour_5 li_0 ?_
  refine r_callV2f dX1_passHour_6 cvX1_78 (by assumption) (c_X0_loudIn (by assumption) (by assumption) (by omega) (by omega) (by assumption) _) (by decide) (Nat.le_of_ble_eq_true rfl) od_le.rf (fun g6 f6 => ?_)
  have eS : StEq g g6 k := StEq.of f6 (fun x y q => by omega)
  have eT := hlaw.fr f6
  refine r_istore_n dX1_passHour_9 (by decide) rfl ?_
  refine r_aload_n dX1_passHour_10 rfl ?_
  refine r_aload_n dX1_passHour_11 rfl ?_
  refine r_getIj (j := 11) rfl dX1_passHour_12 fkX1_46 gf6_11 (by assumption) (by (repeat (first | rewrite [od_upn (by omega)] | rewrite [od_up_at, if_pos (by omega)] | rewrite [od_up_at, if_neg (by omega)])); rfl) ?_
  rw [eS.1]
  refine r_callV1i dX1_passHour_15 cvX1_50 (by assumption) (c_X6_lawOf (by assumption) _) (by decide) (Nat.le_of_ble_eq_true rfl) od_le.rf ?_
  rw [cLawOf_e eS]
  refine r_astore_n dX1_passHour_18 (by decide) rfl ?_
  refine r_iconst dX1_passHour_19 li_0 ?_
  refine r_istore dX1_passHour_20 (by decide) rfl ?_
  exact lp_X1_pass ha0 hh0 hs0 hne hlaw hkt h0 hH _ _ _ _ ⟨by omega, by omega, by rw [cPs_0]; exact f6⟩ (Nat.lt_succ_self _)
/-- what a hand did: no more than scratch, then the turn, if it can be -/
def cPlayed (g : od_G) (s k kd d n : Int) (sn : Nat) (g' : od_G) : Prop := ∃ g1, od_fr (fun x _ => x = s + 2 ∨ x = s + 3) g g1 ∧ ((cRefuse g k kd d n sn ≠ 0 ∧ g' = g1) ∨ (cRefuse g k kd d n sn = 0 ∧ g' = (cTurn g1 k kd d n).2))
theorem cRefuse_0 {g : od_G} {k kd d n : Int} {sn : Nat} (h : cRefuse g k kd d n sn = 0) (h3 : kd ≠ 3) : cHas g k d := by
  unfold cRefuse at h
  rw [od_ite_f h3] at h
  by_cases c : cBadNo kd n
  · rw [od_ite_t c] at h; omega
  · rw [od_ite_f c] at h
    by_cases c2 : cHas g k d
    · exact c2
    · rw [od_ite_f c2] at h; omega
set_option maxRecDepth 10000 in
theorem c_X1_play {E : od_E} {g : od_G} {s : Int} (ha : AsAt E s) {h : Int} (hh : HaAt E h s) {k : Int} (hs : StAt E k) (hne : k + 9 ≤ s ∨ s + 4 ≤ k) {cn sn : Nat} (hlaw : LawOk E g s (cLawOf g k (g k 11)) cn sn) (hl : ∀ d : Int, cHas g k d → 1 ≤ g (k + 1) d) (kd d b : Int) (h3 : kd ≠ 3) : od_Cq 6 mX1_play [(2, h), (2, k), (0, kd), (0, d), (0, b)] E g (E, fun v g' => v = none ∧ cPlayed g s k kd d (od_ite (kd = 1) 1 b) sn g') := by
  have ha0 := ha
  obtain ⟨hka, w0, w1, hu, w3⟩ := ha
  have hu7 := hu.1
  have hh0 := hh
  obtain ⟨hkh, hh1⟩ := hh
  have hs0 := hs
  obtain ⟨hk, r0, r1, r2, r3, r4, r5, r6, r7, a1, a2, a3, a4, a5, a6, a7, a8⟩ := hs
  refine od_cqI pnX1 rfl (Nat.le_of_ble_eq_true rfl) od_le.rf ?_
  show od_Rq 6 mX1_play od_Z0 E (E, fun v g' => v = none ∧ cPlayed g s k kd d (od_ite (kd = 1) 1 b) sn g') 0 [some (2, h), some (2, k), some (0, kd), some (0, d), some (0, b), none] [] E g
  refine r_iload_n dX1_play_0 rfl ?_
  refine r_iconst dX1_play_1 li_1 ?_
  refine r_icmp_ne (tgt := 9) dX1_play_2 rfl (fun c2 => ?_) (fun c2 => ?_)
  · refine r_iload dX1_play_9 rfl ?_
    refine r_istore dX1_play_11 (by decide) rfl ?_
    refine r_aload_n dX1_play_13 rfl ?_
    refine r_aload_n dX1_play_14 rfl ?_
    refine r_iload_n dX1_play_15 rfl ?_
    refine r_iload_n dX1_play_16 rfl ?_
    refine r_iload dX1_play_17 rfl ?_
    refine r_callV4f dX1_play_19 cvX1_15 (by assumption) (c_X1_refusal (by assumption) (by assumption) (by assumption) (by omega) (by assumption) _ _ _) (by decide) (Nat.le_of_ble_eq_true rfl) od_le.rf (fun g19 f19 => ?_)
    refine r_if_ne (tgt := 35) dX1_play_22 rfl (fun c22 => ?_) (fun c22 => ?_)
    · exact r_vretq dX1_play_35 rfl rfl ⟨rfl, _, f19, by first | (rw [od_ite_t (by assumption)]; first | exact Or.inl ⟨c22, rfl⟩ | exact Or.inr ⟨by omega, rfl⟩) | (rw [od_ite_f (by assumption)]; first | exact Or.inl ⟨c22, rfl⟩ | exact Or.inr ⟨by omega, rfl⟩)⟩
    · have eS : StEq g g19 k := StEq.of f19 (fun x y q => by omega)
      refine r_aload_n dX1_play_25 rfl ?_
      refine r_aload_n dX1_play_26 rfl ?_
      refine r_iload_n dX1_play_27 rfl ?_
      refine r_iload_n dX1_play_28 rfl ?_
      refine r_iload dX1_play_29 rfl ?_
      refine r_callV4i dX1_play_31 cvX1_29 (by assumption) (c_X1_turn ha0 hh0 hs0 _ _ _ ((cHas_e eS _).mpr (cRefuse_0 c22 h3)) (by rw [eS.2.1]; exact hl _ (cRefuse_0 c22 h3))) (by decide) (Nat.le_of_ble_eq_true rfl) od_le.rf ?_
      refine r_pop dX1_play_34 (by first | exact od_ne2 | exact od_ne0) ?_
      exact r_vretq dX1_play_35 rfl rfl ⟨rfl, _, f19, by first | (rw [od_ite_t (by assumption)]; first | exact Or.inl ⟨c22, rfl⟩ | exact Or.inr ⟨by omega, rfl⟩) | (rw [od_ite_f (by assumption)]; first | exact Or.inl ⟨c22, rfl⟩ | exact Or.inr ⟨by omega, rfl⟩)⟩
  · refine r_iconst dX1_play_5 li_1 ?_
    refine r_goto (tgt := 11) dX1_play_6 rfl ?_
    refine r_istore dX1_play_11 (by decide) rfl ?_
    refine r_aload_n dX1_play_13 rfl ?_
    refine r_aload_n dX1_play_14 rfl ?_
    refine r_iload_n dX1_play_15 rfl ?_
    refine r_iload_n dX1_play_16 rfl ?_
    refine r_iload dX1_play_17 rfl ?_
    refine r_callV4f dX1_play_19 cvX1_15 (by assumption) (c_X1_refusal (by assumption) (by assumption) (by assumption) (by omega) (by assumption) _ _ _) (by decide) (Nat.le_of_ble_eq_true rfl) od_le.rf (fun g19 f19 => ?_)
    refine r_if_ne (tgt := 35) dX1_play_22 rfl (fun c22 => ?_) (fun c22 => ?_)
    · exact r_vretq dX1_play_35 rfl rfl ⟨rfl, _, f19, by first | (rw [od_ite_t (by assumption)]; first | exact Or.inl ⟨c22, rfl⟩ | exact Or.inr ⟨by omega, rfl⟩) | (rw [od_ite_f (by assumption)]; first | exact Or.inl ⟨c22, rfl⟩ | exact Or.inr ⟨by omega, rfl⟩)⟩
    · have eS : StEq g g19 k := StEq.of f19 (fun x y q => by omega)
      refine r_aload_n dX1_play_25 rfl ?_
      refine r_aload_n dX1_play_26 rfl ?_
      refine r_iload_n dX1_play_27 rfl ?_
      refine r_iload_n dX1_play_28 rfl ?_
      refine r_iload dX1_play_29 rfl ?_
      refine r_callV4i dX1_play_31 cvX1_29 (by assumption) (c_X1_turn ha0 hh0 hs0 _ _ _ ((cHas_e eS _).mpr (cRefuse_0 c22 h3)) (by rw [eS.2.1]; exact hl _ (cRefuse_0 c22 h3))) (by decide) (Nat.le_of_ble_eq_true rfl) od_le.rf ?_
      refine r_pop dX1_play_34 (by first | exact od_ne2 | exact od_ne0) ?_
      exact r_vretq dX1_play_35 rfl rfl ⟨rfl, _, f19, by first | (rw [od_ite_t (by assumption)]; first | exact Or.inl ⟨c22, rfl⟩ | exact Or.inr ⟨by omega, rfl⟩) | (rw [od_ite_f (by assumption)]; first | exact Or.inl ⟨c22, rfl⟩ | exact Or.inr ⟨by omega, rfl⟩)⟩
theorem StEq.tr {g g' g'' : od_G} {k : Int} (h : StEq g g' k) (h' : StEq g' g'' k) : StEq g g'' k := ⟨h'.1.trans h.1, h'.2.1.trans h.2.1, h'.2.2.1.trans h.2.2.1, h'.2.2.2.1.trans h.2.2.2.1, h'.2.2.2.2.1.trans h.2.2.2.2.1, h'.2.2.2.2.2.1.trans h.2.2.2.2.2.1, h'.2.2.2.2.2.2.1.trans h.2.2.2.2.2.2.1, h'.2.2.2.2.2.2.2.1.trans h.2.2.2.2.2.2.2.1, h'.2.2.2.2.2.2.2.2.trans h.2.2.2.2.2.2.2.2⟩
theorem TxEq.tr {g g' g'' : od_G} {k : Int} (h : TxEq g g' k) (h' : TxEq g' g'' k) : TxEq g g'' k := ⟨h'.1.trans h.1, h'.2.1.trans h.2.1, h'.2.2.1.trans h.2.2.1, h'.2.2.2.1.trans h.2.2.2.1, h'.2.2.2.2.1.trans h.2.2.2.2.1, h'.2.2.2.2.2.1.trans h.2.2.2.2.2.1, h'.2.2.2.2.2.2.trans h.2.2.2.2.2.2⟩
theorem cKeep_fr (g : od_G) (p k kd : Int) : od_fr (fun x _ => p ≤ x ∧ x ≤ p + 5) g (cKeep g p k kd) := by
  intro x y hx
  unfold cKeep
  split
  · simp only [cKeepT]
    (repeat (first | rw [if_neg (by omega)] | (simp only [od_up]; rw [if_neg (by omega), if_neg (by omega)])))
  · simp only [cKeepT]
    repeat rw [if_neg (by omega)]
/-- what a hand changed -/
def cChanged (g : od_G) (s p k kd d n : Int) (sn : Nat) (v : Int) (g' : od_G) : Prop := ∃ g1, od_fr (fun x _ => x = s + 2 ∨ x = s + 3) g g1 ∧ ((cRefuse g k kd d n sn ≠ 0 ∧ v = cRefuse g k kd d n sn ∧ g' = g1) ∨ (cRefuse g k kd d n sn = 0 ∧ kd = 3 ∧ v = cLoud (cKeep g1 p k kd) k (cLawOf g k (g k 11)) 0 sn ∧ od_fr (fun x _ => x = s + 2 ∨ x = s + 3) (cPass (cKeep g1 p k kd) k (cLawOf g k (g k 11)) sn) g') ∨ (cRefuse g k kd d n sn = 0 ∧ kd ≠ 3 ∧ v = (cTurn (cKeep g1 p k kd) k kd d n).1 ∧ g' = (cTurn (cKeep g1 p k kd) k kd d n).2))
set_option maxRecDepth 10000 in
theorem c_X1_change {E : od_E} {g : od_G} {s : Int} (ha : AsAt E s) {h : Int} (hh : HaAt E h s) {k : Int} (hs : StAt E k) (hne : k + 9 ≤ s ∨ s + 4 ≤ k) {cn sn : Nat} (hlaw : LawOk E g s (cLawOf g k (g k 11)) cn sn) (hl : ∀ d : Int, cHas g k d → 1 ≤ g (k + 1) d) {p : Int} (hp : PaAt E p) (hpk : k + 9 ≤ p ∨ p + 6 ≤ k) (hps : s + 4 ≤ p ∨ p + 6 ≤ s) (h5 : 0 ≤ g p 5 ∧ g p 5 < 16) (h6 : 0 ≤ g p 6 ∧ g p 6 ≤ 16) (hkt : (cLawOf g k (g k 11)) ≠ -1 → (cLawOf g k (g k 11)) + 7 ≤ k ∨ k + 9 ≤ (cLawOf g k (g k 11))) (hpt : (cLawOf g k (g k 11)) ≠ -1 → (cLawOf g k (g k 11)) + 7 ≤ p ∨ p + 6 ≤ (cLawOf g k (g k 11))) (h0 : 0 ≤ g k 8 ∧ g k 8 ≤ 6) (hH : 0 ≤ g (k + 5) 0 ∧ g (k + 5) 0 ≤ 999) (kd d n : Int) : od_Cq 7 mX1_change [(2, h), (2, k), (2, p), (0, kd), (0, d), (0, n)] E g (E, fun v g' => ∃ r : Int, v = some (0, r) ∧ cChanged g s p k kd d n sn r g') := by
  have ha0 := ha
  obtain ⟨hka, w0, w1, hu, w3⟩ := ha
  have hu7 := hu.1
  have hh0 := hh
  obtain ⟨hkh, hh1⟩ := hh
  have hs0 := hs
  obtain ⟨hk, r0, r1, r2, r3, r4, r5, r6, r7, a1, a2, a3, a4, a5, a6, a7, a8⟩ := hs
  have hp0 := hp
  obtain ⟨hkp, p0, p1, p2, p3, p4, d1, d2, d3, d4, d5⟩ := hp
  refine od_cqI pnX1 rfl (Nat.le_of_ble_eq_true rfl) od_le.rf ?_
  show od_Rq 7 mX1_change od_Z0 E (E, fun v g' => ∃ r : Int, v = some (0, r) ∧ cChanged g s p k kd d n sn r g') 0 [some (2, h), some (2, k), some (2, p), some (0, kd), some (0, d), some (0, n), none] [] E g
  refine r_aload_n dX1_change_0 rfl ?_
  refine r_aload_n dX1_change_1 rfl ?_
  refine r_iload_n dX1_change_2 rfl ?_
  refine r_iload dX1_change_3 rfl ?_
  refine r_iload dX1_change_5 rfl ?_
  refine r_callV4f dX1_change_7 cvX1_15 (by assumption) (c_X1_refusal (by assumption) (by assumption) (by assumption) (by omega) (by assumption) _ _ _) (by decide) (Nat.le_of_ble_eq_true rfl) od_le.rf (fun g7 f7 => ?_)
  refine r_istore dX1_change_10 (by decide) rfl ?_
  refine r_iload dX1_change_12 rfl ?_
  refine r_if_eq (tgt := 20) dX1_change_14 rfl (fun c14 => ?_) (fun c14 => ?_)
  · have e1 : StEq g g7 k := StEq.of f7 (fun x y q => by omega)
    have eK := cKeep_fr g7 p k kd
    have eP : g7 p = g p := f7.row (fun y q => by omega)
    have e2 : StEq g (cKeep g7 p k kd) k := e1.tr (StEq.of eK (fun x y q => by omega))
    have eT : (cLawOf g k (g k 11)) ≠ -1 → TxEq g (cKeep g7 p k kd) (cLawOf g k (g k 11)) := fun q => ((hlaw.fr f7) q).tr (TxEq.of eK (fun x y z => by have := hpt q; omega))
    have eL : cLawOf (cKeep g7 p k kd) k (cKeep g7 p k kd k 11) = (cLawOf g k (g k 11)) := by rw [cLawOf_e e2, e2.1]
    have v5 : 0 ≤ g7 p 5 ∧ g7 p 5 < 16 := by rw [eP]; exact h5
    have v6 : 0 ≤ g7 p 6 ∧ g7 p 6 ≤ 16 := by rw [eP]; exact h6
    have w8 : 0 ≤ cKeep g7 p k kd k 8 ∧ cKeep g7 p k kd k 8 ≤ 6 := by rw [e2.1]; exact h0
    have wH : 0 ≤ cKeep g7 p k kd (k + 5) 0 ∧ cKeep g7 p k kd (k + 5) 0 ≤ 999 := by rw [e2.2.2.2.2.2.1]; exact hH
    refine r_aload_n dX1_change_20 rfl ?_
    refine r_iload_n dX1_change_21 rfl ?_
    refine r_aload_n dX1_change_22 rfl ?_
    refine r_callV2v dX1_change_23 cvX1_19 (by assumption) (c_X2_keep hp0 hs0 hpk _ v5 v6) (by decide) (Nat.le_of_ble_eq_true rfl) od_le.rf ?_
    refine r_iload_n dX1_change_26 rfl ?_
    refine r_iconst dX1_change_27 li_3 ?_
    refine r_icmp_ne (tgt := 39) dX1_change_28 rfl (fun c28 => ?_) (fun c28 => ?_)
    · refine r_aload_n dX1_change_39 rfl ?_
      refine r_aload_n dX1_change_40 rfl ?_
      refine r_iload_n dX1_change_41 rfl ?_
      refine r_iload dX1_change_42 rfl ?_
      refine r_iload dX1_change_44 rfl ?_
      refine r_callV4i dX1_change_46 cvX1_29 (by assumption) (c_X1_turn ha0 hh0 hs0 _ _ _ ((cHas_e e2 _).mpr (cRefuse_0 (by omega) c28)) (by rw [e2.2.1]; exact hl _ (cRefuse_0 (by omega) c28))) (by decide) (Nat.le_of_ble_eq_true rfl) od_le.rf ?_
      first
      | exact r_iretq dX1_change_49 rfl rfl ⟨_, rfl, _, f7, Or.inr (Or.inr ⟨by omega, c28, rfl, rfl⟩)⟩
      | (rw [eL]; exact r_iretq dX1_change_49 rfl rfl ⟨_, rfl, _, f7, Or.inr (Or.inl ⟨by omega, by omega, rfl, by rw [eL] at f33; exact f33⟩)⟩)
    · refine r_aload_n dX1_change_31 rfl ?_
      refine r_aload_n dX1_change_32 rfl ?_
      refine r_callV1x dX1_change_33 cvX1_25 (by assumption) (c_X1_passHour (cn := cn) (sn := sn) ha0 hh0 hs0 hne (by rw [eL]; exact hlaw.e eT) (by rw [eL]; exact hkt) w8 wH) (by decide) (Nat.le_of_ble_eq_true rfl) od_le.rf (fun g33 f33 => ?_)
      refine r_goto (tgt := 49) dX1_change_36 rfl ?_
      first
      | exact r_iretq dX1_change_49 rfl rfl ⟨_, rfl, _, f7, Or.inr (Or.inr ⟨by omega, c28, rfl, rfl⟩)⟩
      | (rw [eL]; exact r_iretq dX1_change_49 rfl rfl ⟨_, rfl, _, f7, Or.inr (Or.inl ⟨by omega, by omega, rfl, by rw [eL] at f33; exact f33⟩)⟩)
  · refine r_iload dX1_change_17 rfl ?_
    exact r_iretq dX1_change_19 rfl rfl ⟨_, rfl, _, f7, Or.inl ⟨c14, rfl, rfl⟩⟩
