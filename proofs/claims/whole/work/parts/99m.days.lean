/-! OrganDrums: days -/
def DkC (x n : Int) : Prop := (0 ≤ x ∧ x ≤ 1000000) ∧ 1 ≤ n ∧ n ≤ 60
/-- what days on paper keep -/
def DyOk (E : od_E) (o tl : Int) (cn sn : Nat) (gw : od_G) : Prop := CI gw (o + 19) ∧ gw (o + 19) 8 ≠ 0 ∧ cLawOf gw (o + 19) (gw (o + 19) 11) = tl ∧ LawOk E gw (o + 70) tl cn sn ∧ (0 ≤ gw (o + 19 + 5) 0 ∧ gw (o + 19 + 5) 0 ≤ 999)
def DyJ (E : od_E) (o tl : Int) (cn sn : Nat) (I : Int → Int → Int → od_G → Prop) : Prop :=
  (∀ k s x gw, I k s x gw → DyOk E o tl cn sn gw ∧ (0 ≤ x ∧ x ≤ 1000003) ∧ (0 ≤ s ∧ s ≤ 54 * k)) ∧
  ∀ k s x gw g1 g2, I k s x gw → 0 ≤ k → gw (o + 19 + 5) 0 < 999 →
    cPlayed gw (o + 70) (o + 19) ((mDw (mDw (mDw x))).tmod 3) ((mDw x).tmod (gw (o + 19) 8)) (od_ite ((mDw (mDw (mDw x))).tmod 3 = 1) 1 ((mDw (mDw x)).tmod 12)) sn g1 →
    DyOk E o tl cn sn g1 ∧ g1 (o + 19 + 5) 0 = gw (o + 19 + 5) 0 ∧ (od_fr (fun x _ => x = o + 70 + 2 ∨ x = o + 70 + 3) (cPass g1 (o + 19) tl sn) g2 → I (k + 1) (s + cLoud g1 (o + 19) tl 0 sn) (mDw (mDw (mDw x))) g2)
theorem cLoud_54 {g : od_G} {k : Int} (hI : CI g k) (t h : Int) (sn : Nat) : 0 ≤ cLoud g k t h sn ∧ cLoud g k t h sn ≤ 54 := by
  have i := hI.1
  have z := od_sum_b (m := 9) (g k 8).toNat (fun i _ _ => cLd_b g k t h sn i)
  unfold cLoud
  omega
set_option maxRecDepth 10000 in
theorem lp_X10_days {E : od_E} {g : od_G} {Q : Option od_V → od_G → Prop} {o : Int} (ho : OdAt E o) {tl : Int} {cn sn : Nat} {I : Int → Int → Int → od_G → Prop} (hJ : DyJ E o tl cn sn I) (hqt : tl ≠ -1 → o + 86 ≤ tl) (x0 n : Int) (hn : n ≤ 60) (hx : ∀ (k s x : Int) (x6 x7 : Option od_V) (gw : od_G), 0 ≤ k → k ≤ n → I k s x gw → (k = n ∨ 999 ≤ gw (o + 19 + 5) 0) → od_Rq 8 mX10_days od_Z0 E (E, Q) 165 [some (2, o), some (0, x0), some (0, n), some (0, x), some (0, s), some (0, k), x6, x7] [] E gw) : ∀ (m : Nat) (k s x : Int) (x6 x7 : Option od_V) (gw : od_G), (0 ≤ k ∧ k ≤ n ∧ I k s x gw) → ((n - k).toNat) < m → od_Rq 8 mX10_days od_Z0 E (E, Q) 64 [some (2, o), some (0, x0), some (0, n), some (0, x), some (0, s), some (0, k), x6, x7] [] E gw := by
  have hs3 := oS3 ho
  obtain ⟨hk3, r30, r31, r32, r33, r34, r35, r36, r37, a31, a32, a33, a34, a35, a36, a37, a38⟩ := oS3 ho
  have ha1 := oAs ho
  have hka := ha1.1
  have hh1 := oHa ho
  have hkh := hh1.1
  intro m
  induction m with
  | zero => intro k s x x6 x7 gw hi hM; exact absurd hM (Nat.not_lt_zero _)
  | succ m ih =>
    intro k s x x6 x7 gw hi hM
    obtain ⟨hi0, hi1, hI⟩ := hi
    have z := hJ.1 k s x gw hI
    have b1 := mDw_b z.2.1.1
    have b2 := mDw_b b1.1
    have b3 := mDw_b b2.1
    have hsb := z.2.2
    have n8 := z.1.2.1
    have i8 := z.1.1.1
    refine r_iload dX10_days_64 rfl ?_
    refine r_iload_n dX10_days_66 rfl ?_
    refine r_icmp_ge (tgt := 165) dX10_days_67 rfl (fun c67 => ?_) (fun c67 => ?_)
    · first
      | exact hx k s x _ _ gw hi0 hi1 hI (Or.inl (by omega))
      | exact hx k s x _ _ gw hi0 hi1 hI (Or.inr (by omega))
      | (exfalso; omega)
    · refine r_aload_n dX10_days_70 rfl ?_
      refine r_getR dX10_days_71 fkX10_19 gf10_2 (oO ho) (oR2 ho) ?_
      refine r_getIj (j := 8) rfl dX10_days_74 fkX10_117 gf6_8 (by assumption) rfl ?_
      refine r_if_le (tgt := 165) dX10_days_77 rfl (fun c77 => ?_) (fun c77 => ?_)
      · first
        | exact hx k s x _ _ gw hi0 hi1 hI (Or.inl (by omega))
        | exact hx k s x _ _ gw hi0 hi1 hI (Or.inr (by omega))
        | (exfalso; omega)
      · refine r_aload_n dX10_days_80 rfl ?_
        refine r_getR dX10_days_81 fkX10_19 gf10_2 (oO ho) (oR2 ho) ?_
        refine r_getR dX10_days_84 fkX10_174 gf6_4 (by assumption) (by assumption) ?_
        refine r_iconst dX10_days_87 li_0 ?_
        refine r_iald dX10_days_88 (by assumption) (by omega) rfl ?_
        refine r_sipush dX10_days_89 ls_999 ?_
        refine r_icmp_ge (tgt := 165) dX10_days_92 rfl (fun c92 => ?_) (fun c92 => ?_)
        · first
          | exact hx k s x _ _ gw hi0 hi1 hI (Or.inl (by omega))
          | exact hx k s x _ _ gw hi0 hi1 hI (Or.inr (by omega))
          | (exfalso; omega)
        · refine r_iload_n dX10_days_95 rfl ?_
          refine r_callS1i dX10_days_96 csX10_315 (c_X10_draw _ (by omega)) (by decide) (Nat.le_of_ble_eq_true rfl) od_le.rf ?_
          refine r_istore dX10_days_99 (by decide) rfl ?_
          refine r_iload dX10_days_101 rfl ?_
          refine r_callS1i dX10_days_103 csX10_315 (c_X10_draw _ (by omega)) (by decide) (Nat.le_of_ble_eq_true rfl) od_le.rf ?_
          refine r_istore dX10_days_106 (by decide) rfl ?_
          refine r_iload dX10_days_108 rfl ?_
          refine r_callS1i dX10_days_110 csX10_315 (c_X10_draw _ (by omega)) (by decide) (Nat.le_of_ble_eq_true rfl) od_le.rf ?_
          refine r_istore_n dX10_days_113 (by decide) rfl ?_
          refine r_aload_n dX10_days_114 rfl ?_
          refine r_getR dX10_days_115 fkX10_68 gf10_10 (oO ho) (oR10 ho) ?_
          refine r_aload_n dX10_days_118 rfl ?_
          refine r_getR dX10_days_119 fkX10_19 gf10_2 (oO ho) (oR2 ho) ?_
          refine r_iload_n dX10_days_122 rfl ?_
          refine r_iconst dX10_days_123 li_3 ?_
          refine r_irem dX10_days_124 (by first | decide | omega) ?_
          refine r_iload dX10_days_125 rfl ?_
          refine r_aload_n dX10_days_127 rfl ?_
          refine r_getR dX10_days_128 fkX10_19 gf10_2 (oO ho) (oR2 ho) ?_
          refine r_getIj (j := 8) rfl dX10_days_131 fkX10_117 gf6_8 (by assumption) rfl ?_
          refine r_irem dX10_days_134 (by first | decide | omega) ?_
          refine r_iload dX10_days_135 rfl ?_
          refine r_bipush dX10_days_137 lb_12 ?_
          refine r_irem dX10_days_139 (by first | decide | omega) ?_
          refine r_callV4p dX10_days_140 cvX10_318 (by assumption) (c_X1_play ha1 hh1 hs3 (by omega) (by rw [z.1.2.2.1]; exact z.1.2.2.2.1) (fun d q => (z.1.1.has q).1.1) _ _ _ (by have := mDw_tm (n := 3) b2.1 (by omega); omega)) (by decide) (Nat.le_of_ble_eq_true rfl) od_le.rf (fun r140 g140 h140 => ?_)
          obtain ⟨rfl, p140⟩ := h140
          show od_Rq _ _ _ _ _ _ _ [] _ _
          have y := hJ.2 k s x gw g140 g140 hI hi0 (by omega) p140
          have e1 := y.1.2.2.1
          have e18 := y.2.1
          have hLb := cLoud_54 y.1.1 tl 0 sn
          refine r_iload dX10_days_143 rfl ?_
          refine r_aload_n dX10_days_145 rfl ?_
          refine r_getR dX10_days_146 fkX10_68 gf10_10 (oO ho) (oR10 ho) ?_
          refine r_aload_n dX10_days_149 rfl ?_
          refine r_getR dX10_days_150 fkX10_19 gf10_2 (oO ho) (oR2 ho) ?_
          refine r_callV1x dX10_days_153 cvX10_322 (by assumption) (c_X1_passHour ha1 hh1 hs3 (by omega) (by rw [e1]; exact y.1.2.2.2.1) (by rw [e1]; intro q; have := hqt q; omega) y.1.1.1 y.1.2.2.2.2) (by decide) (Nat.le_of_ble_eq_true rfl) od_le.rf (fun g153 f153 => ?_)
          rw [e1] at f153 ⊢
          refine r_iaddE dX10_days_156 (by first | exact od_wI (by omega) (by omega) | rfl) ?_
          refine r_istore dX10_days_157 (by decide) rfl ?_
          refine r_iincE dX10_days_159 rfl (by decide) (by first | exact od_wI (by omega) (by omega) | rfl) rfl ?_
          refine r_goto (tgt := 64) dX10_days_162 rfl ?_
          have y2 := (hJ.2 k s x gw g140 g153 hI hi0 (by omega) p140).2.2 f153
          exact ih _ _ _ _ _ _ ⟨by omega, by omega, y2⟩ (by omega)
def DyM (g : od_G) (o x0 n : Int) (I : Int → Int → Int → od_G → Prop) (w : Option od_V) (g' : od_G) : Prop := (¬ DkC x0 n ∧ w = some (0, -1) ∧ g' = cRef g o (-1)) ∨ (DkC x0 n ∧ g (o + 1) 8 = 0 ∧ w = some (0, -3) ∧ g' = cRef g o (-3)) ∨ (DkC x0 n ∧ g (o + 1) 8 ≠ 0 ∧ ∃ (k s x : Int) (gw : od_G), (0 ≤ k ∧ k ≤ n) ∧ I k s x gw ∧ (k = n ∨ 999 ≤ gw (o + 19 + 5) 0) ∧ w = some (0, s) ∧ g' = cAcc gw o)
set_option maxRecDepth 10000 in
theorem c_X10_days {E : od_E} {g : od_G} {o : Int} (ho : OdAt E o) {tl : Int} {cn sn : Nat} {I : Int → Int → Int → od_G → Prop} (hJ : DyJ E o tl cn sn I) (hqt : tl ≠ -1 → o + 86 ≤ tl) (hr : cRefs E g (o + 1)) (x0 n : Int) (hI0 : DkC x0 n → g (o + 1) 8 ≠ 0 → I 0 0 x0 (cBecome g (o + 19) (o + 1))) : od_Cq 8 mX10_days [(2, o), (0, x0), (0, n)] E g (E, DyM g o x0 n I) := by
  have hs1 := oS1 ho
  obtain ⟨hk, r0, r1, r2, r3, r4, r5, r6, r7, a1, a2, a3, a4, a5, a6, a7, a8⟩ := oS1 ho
  have hs3 := oS3 ho
  obtain ⟨hk3, r30, r31, r32, r33, r34, r35, r36, r37, a31, a32, a33, a34, a35, a36, a37, a38⟩ := oS3 ho
  refine od_cqI pnX10 rfl (Nat.le_of_ble_eq_true rfl) od_le.rf ?_
  show od_Rq 8 mX10_days od_Z0 E (E, DyM g o x0 n I) 0 [some (2, o), some (0, x0), some (0, n), none, none, none, none, none] [] E g
  refine r_iload_n dX10_days_0 rfl ?_
  refine r_if_lt (tgt := 22) dX10_days_1 rfl (fun c1 => ?_) (fun c1 => ?_)
  · refine r_aload_n dX10_days_22 rfl ?_
    refine r_iconst dX10_days_23 li_m1 ?_
    refine r_callV1i dX10_days_24 cvX10_113 (oO ho) (c_X10_refuse ho _ (by omega)) (by decide) (Nat.le_of_ble_eq_true rfl) od_le.rf ?_
    exact r_iretq dX10_days_27 rfl rfl (Or.inl ⟨by unfold DkC; omega, rfl, rfl⟩)
  · refine r_iload_n dX10_days_4 rfl ?_
    refine r_ldcw dX10_days_5 kcX10_314 lk_X10_314 ?_
    refine r_icmp_gt (tgt := 22) dX10_days_8 rfl (fun c8 => ?_) (fun c8 => ?_)
    · refine r_aload_n dX10_days_22 rfl ?_
      refine r_iconst dX10_days_23 li_m1 ?_
      refine r_callV1i dX10_days_24 cvX10_113 (oO ho) (c_X10_refuse ho _ (by omega)) (by decide) (Nat.le_of_ble_eq_true rfl) od_le.rf ?_
      exact r_iretq dX10_days_27 rfl rfl (Or.inl ⟨by unfold DkC; omega, rfl, rfl⟩)
    · refine r_iload_n dX10_days_11 rfl ?_
      refine r_iconst dX10_days_12 li_1 ?_
      refine r_icmp_lt (tgt := 22) dX10_days_13 rfl (fun c13 => ?_) (fun c13 => ?_)
      · refine r_aload_n dX10_days_22 rfl ?_
        refine r_iconst dX10_days_23 li_m1 ?_
        refine r_callV1i dX10_days_24 cvX10_113 (oO ho) (c_X10_refuse ho _ (by omega)) (by decide) (Nat.le_of_ble_eq_true rfl) od_le.rf ?_
        exact r_iretq dX10_days_27 rfl rfl (Or.inl ⟨by unfold DkC; omega, rfl, rfl⟩)
      · refine r_iload_n dX10_days_16 rfl ?_
        refine r_bipush dX10_days_17 lb_60 ?_
        refine r_icmp_le (tgt := 28) dX10_days_19 rfl (fun c19 => ?_) (fun c19 => ?_)
        · refine r_aload_n dX10_days_28 rfl ?_
          refine r_getR dX10_days_29 fkX10_12 gf10_0 (oO ho) (oR0 ho) ?_
          refine r_getIj (j := 8) rfl dX10_days_32 fkX10_117 gf6_8 (by assumption) rfl ?_
          refine r_if_ne (tgt := 45) dX10_days_35 rfl (fun c35 => ?_) (fun c35 => ?_)
          · refine r_aload_n dX10_days_45 rfl ?_
            refine r_getR dX10_days_46 fkX10_19 gf10_2 (oO ho) (oR2 ho) ?_
            refine r_aload_n dX10_days_49 rfl ?_
            refine r_getR dX10_days_50 fkX10_12 gf10_0 (oO ho) (oR0 ho) ?_
            refine r_callV1v dX10_days_53 cvX10_208 (by assumption) (c_X6_become hs3 hs1 (by omega) hr.1 hr.2) (by decide) (Nat.le_of_ble_eq_true rfl) od_le.rf ?_
            refine r_iload_n dX10_days_56 rfl ?_
            refine r_istore_n dX10_days_57 (by decide) rfl ?_
            refine r_iconst dX10_days_58 li_0 ?_
            refine r_istore dX10_days_59 (by decide) rfl ?_
            refine r_iconst dX10_days_61 li_0 ?_
            refine r_istore dX10_days_62 (by decide) rfl ?_
            have hk : DkC x0 n := by unfold DkC; omega
            refine lp_X10_days (g := g) ho hJ hqt x0 n (by omega) (fun kx sx xx x6 x7 gx zk0 zk1 zI zE => ?_) _ 0 0 x0 _ _ _ ⟨by omega, by omega, hI0 hk (by assumption)⟩ (Nat.lt_succ_self _)
            refine r_aload_n dX10_days_165 rfl ?_
            refine r_iload dX10_days_166 rfl ?_
            refine r_callV1i dX10_days_168 cvX10_127 (oO ho) (c_X10_accept ho _) (by decide) (Nat.le_of_ble_eq_true rfl) od_le.rf ?_
            exact r_iretq dX10_days_171 rfl rfl (Or.inr (Or.inr ⟨hk, by assumption, kx, sx, xx, gx, ⟨zk0, zk1⟩, zI, zE, rfl, rfl⟩))
          · refine r_aload_n dX10_days_38 rfl ?_
            refine r_bipush dX10_days_39 lb_m3 ?_
            refine r_callV1i dX10_days_41 cvX10_113 (oO ho) (c_X10_refuse ho _ (by omega)) (by decide) (Nat.le_of_ble_eq_true rfl) od_le.rf ?_
            exact r_iretq dX10_days_44 rfl rfl (Or.inr (Or.inl ⟨by unfold DkC; omega, by assumption, rfl, rfl⟩))
        · refine r_aload_n dX10_days_22 rfl ?_
          refine r_iconst dX10_days_23 li_m1 ?_
          refine r_callV1i dX10_days_24 cvX10_113 (oO ho) (c_X10_refuse ho _ (by omega)) (by decide) (Nat.le_of_ble_eq_true rfl) od_le.rf ?_
          exact r_iretq dX10_days_27 rfl rfl (Or.inl ⟨by unfold DkC; omega, rfl, rfl⟩)
