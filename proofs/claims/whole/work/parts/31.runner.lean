/-! Runner.run -/
/-- what must be so of the street, the past and the text while orders run; tl is the law in force -/
def RunOk (E : od_E) (g gw : od_G) (s k p t tl : Int) (cn sn : Nat) : Prop := (0 ≤ gw k 8 ∧ gw k 8 ≤ 6) ∧ (0 ≤ gw (k + 5) 0 ∧ gw (k + 5) 0 ≤ 999) ∧ cLawOf gw k (gw k 11) = tl ∧ LawOk E gw s tl cn sn ∧ (∀ d : Int, cHas gw k d → 1 ≤ gw (k + 1) d) ∧ (0 ≤ gw p 5 ∧ gw p 5 < 16) ∧ (0 ≤ gw p 6 ∧ gw p 6 ≤ 16) ∧ TxEq g gw t
noncomputable def cOV (g gw : od_G) (k t tl : Int) (sn ts : Nat) (dn lt f : Int) : Int := cVal (g (t + 6)) ts (cOW gw k tl sn dn lt) 17 f
/-- what keeps an invariant while orders run -/
def RunI (E : od_E) (g : od_G) (r s k p t tl : Int) (cn sn ts : Nat) (I : Int → Int → od_G → Prop) (Q : Int → od_G → Prop) : Prop :=
  (∀ c i gw, I c i gw → RunOk E g gw s k p t tl cn sn ∧ (0 ≤ gw r 4 ∧ gw r 4 ≤ 1000000)) ∧
  (∀ c i gw g', I c i gw → 0 ≤ c → c < g t 6 → 0 ≤ i → i < 20 → i < g (t + 2) c → cOV g gw k t tl sn ts (gw r 4) (gw r 3) (g (t + 5) c) ≠ 1 → od_fr (fun x _ => x = s + 2 ∨ x = s + 3 ∨ x = r + 1) gw g' → I c (i + 1) g') ∧
  (∀ c i gw g4 v g5, I c i gw → 0 ≤ c → c < g t 6 → 0 ≤ i → i < 20 → i < g (t + 2) c → cOV g gw k t tl sn ts (gw r 4) (gw r 3) (g (t + 5) c) = 1 → cOV g gw k t tl sn ts (gw r 4) (gw r 3) (g (t + 3) c) ≠ -2000000000 → cOV g gw k t tl sn ts (gw r 4) (gw r 3) (g (t + 4) c) ≠ -2000000000 → od_fr (fun x _ => x = s + 2 ∨ x = s + 3 ∨ x = r + 1) gw g4 → cChanged g4 s p k (g (t + 1) c) (cOV g gw k t tl sn ts (gw r 4) (gw r 3) (g (t + 3) c)) (cOV g gw k t tl sn ts (gw r 4) (gw r 3) (g (t + 4) c)) sn v g5 → g5 r = gw r → (0 ≤ v → I c (i + 1) (od_up (od_up g5 r 4 (g5 r 4 + 1)) r 3 (od_ite (g (t + 1) c = 3) v (g5 r 3)))) ∧ (v < 0 → Q c g5)) ∧
  (∀ c i gw g', I c i gw → 0 ≤ c → c < g t 6 → 0 ≤ i → i < 20 → i < g (t + 2) c → cOV g gw k t tl sn ts (gw r 4) (gw r 3) (g (t + 5) c) = 1 → (cOV g gw k t tl sn ts (gw r 4) (gw r 3) (g (t + 3) c) = -2000000000 ∨ cOV g gw k t tl sn ts (gw r 4) (gw r 3) (g (t + 4) c) = -2000000000) → od_fr (fun x _ => x = s + 2 ∨ x = s + 3 ∨ x = r + 1) gw g' → Q c g') ∧
  (∀ c i gw, I c i gw → 0 ≤ c → c < g t 6 → 0 ≤ i → (g (t + 2) c ≤ i ∨ 20 ≤ i) → I (c + 1) 0 gw) ∧
  (∀ c gw, I c 0 gw → c = g t 6 → Q (-1) gw)
theorem cChanged_fr {g : od_G} {s p k kd d n : Int} {sn : Nat} {v : Int} {g' : od_G} (h : cChanged g s p k kd d n sn v g') {x : Int} (hs : x ≠ s + 2 ∧ x ≠ s + 3) (hp : x < p ∨ p + 5 < x) (hk : x < k ∨ k + 8 < x) : g' x = g x := by
  obtain ⟨g1, f1, h⟩ := h
  have e1 : g1 x = g x := f1.row (fun y q => by omega)
  have e2 : cKeep g1 p k kd x = g1 x := (cKeep_fr g1 p k kd).row (fun y q => by omega)
  rcases h with ⟨_, _, rfl⟩ | ⟨_, _, _, f2⟩ | ⟨_, _, _, rfl⟩
  · exact e1
  · rw [← e1, ← e2]
    refine (f2.row (fun y q => by omega)).trans ?_
    funext y
    simp only [cPass, od_up]
    rw [if_neg (by omega), cPs_o _ _ _ _ _ _ _ (Or.inl (by omega))]
  · rw [← e1, ← e2]
    funext y
    unfold cTurn
    split
    · simp only [cPinG, od_up]; rw [if_neg (by omega)]
    · split
      · simp only [cShiftG, od_up]; rw [if_neg (by omega)]
      · simp only [cStopG, od_up]; rw [if_neg (by omega)]
set_option maxRecDepth 10000 in
theorem lp_X5_in {E : od_E} {g : od_G} {s : Int} (ha : AsAt E s) {h : Int} (hh : HaAt E h s) {r : Int} (hr : RuAt E r h s) {k : Int} (hs : StAt E k) {p : Int} (hp : PaAt E p) {t : Int} {tc ts : Nat} (ht : TxAt E t tc ts) (htc : tc ≤ 12) (hts : ts ≤ 512) {tl : Int} {cn sn : Nat} {I : Int → Int → od_G → Prop} {Q : Int → od_G → Prop} (hI : RunI E g r s k p t tl cn sn ts I Q) (o1 : k + 9 ≤ p) (o2 : p + 6 ≤ t) (o3 : t + 7 ≤ s) (o4 : s + 4 ≤ r) (o5 : tl ≠ -1 → r + 2 ≤ tl) (hcl : 0 ≤ g t 6 ∧ g t 6 ≤ tc) (c : Int) (hc : 0 ≤ c ∧ c < g t 6) (hx : ∀ (gw : od_G) (i : Int) (L6 L7 L8 : Option od_V), I (c + 1) 0 gw → od_Rq 8 mX5_run od_Z0 E (E, fun v g' => ∃ c : Int, v = some (0, c) ∧ Q c g') 13 [some (2, r), some (2, t), some (2, k), some (2, p), some (0, c + 1), some (0, i), L6, L7, L8] [] E gw) : ∀ (m : Nat) (i : Int) (gw : od_G) (L6 L7 L8 : Option od_V), (0 ≤ i ∧ i ≤ 20 ∧ I c i gw) → ((20 - i).toNat) < m → od_Rq 8 mX5_run od_Z0 E (E, fun v g' => ∃ c : Int, v = some (0, c) ∧ Q c g') 35 [some (2, r), some (2, t), some (2, k), some (2, p), some (0, c), some (0, i), L6, L7, L8] [] E gw := by
  have ha0 := ha
  obtain ⟨hka, w0, w1, hu, w3⟩ := ha
  have hu7 := hu.1
  have hh0 := hh
  obtain ⟨hkh, hh1⟩ := hh
  have hr0 := hr
  obtain ⟨hkr, ra, rb, rc, rd⟩ := hr
  have hs0 := hs
  obtain ⟨hk, r0, r1, r2, r3, r4, r5, r6, r7, a1, a2, a3, a4, a5, a6, a7, a8⟩ := hs
  have hp0 := hp
  obtain ⟨hkp, p0, p1, p2, p3, p4, d1, d2, d3, d4, d5⟩ := hp
  have ht0 := ht
  obtain ⟨hkt9, x0, x1, x2, x3, x4, x5, y1, y2, y3, y4, y5, y6, hc6, hs6⟩ := ht
  obtain ⟨I0, I1, I2, I3, I4, I5⟩ := hI
  intro m
  induction m with
  | zero => intro i gw L6 L7 L8 hi hM; exact absurd hM (Nat.not_lt_zero _)
  | succ m ih =>
    intro i gw L6 L7 L8 hi hM
    obtain ⟨hi0, hi1, hiI⟩ := hi
    obtain ⟨⟨n8, nH, hL, hlaw, hl, n5, n6, eTw⟩, n4⟩ := I0 _ _ _ hiI
    have e2 : gw (t + 2) = g (t + 2) := eTw.2.2.1
    refine r_iload dX5_run_35 rfl ?_
    refine r_aload_n dX5_run_37 rfl ?_
    refine r_getR dX5_run_38 fkX5_38 gf9_1 (by assumption) (by assumption) ?_
    refine r_iload dX5_run_41 rfl ?_
    refine r_iald dX5_run_43 (by assumption) (by omega) (by first | rfl | (simp only [od_up]; first | rw [if_neg (by omega)] | skip)) ?_
    rw [e2]
    refine r_icmp_ge (tgt := 232) dX5_run_44 rfl (fun c44 => ?_) (fun c44 => ?_)
    · refine r_iincE dX5_run_232 rfl (by decide) (by first | exact od_w0 (by omega) (by omega) | exact od_wI (by omega) (by omega) | rfl) rfl ?_
      refine r_goto (tgt := 13) dX5_run_235 rfl ?_
      exact hx _ _ _ _ _ (I4 _ _ _ hiI hc.1 hc.2 hi0 (by omega))
    · refine r_iload dX5_run_47 rfl ?_
      refine r_bipush dX5_run_49 lb_20 ?_
      refine r_icmp_ge (tgt := 232) dX5_run_51 rfl (fun c51 => ?_) (fun c51 => ?_)
      · refine r_iincE dX5_run_232 rfl (by decide) (by first | exact od_w0 (by omega) (by omega) | exact od_wI (by omega) (by omega) | rfl) rfl ?_
        refine r_goto (tgt := 13) dX5_run_235 rfl ?_
        exact hx _ _ _ _ _ (I4 _ _ _ hiI hc.1 hc.2 hi0 (by omega))
      · refine r_aload_n dX5_run_54 rfl ?_
        refine r_aload_n dX5_run_55 rfl ?_
        refine r_callV1p dX5_run_56 cvX5_41 (by assumption) (c_X5_setWords (cn := cn) (sn := sn) ha0 hr0 hs0 (by omega) (by omega) (by omega) (by rw [hL]; exact hlaw) (by rw [hL]; exact fun q => Or.inr (o5 q)) n8) (by decide) (Nat.le_of_ble_eq_true rfl) od_le.rf (fun r56 g56 h56 => ?_)
        obtain ⟨rfl, f56, w56⟩ := h56
        rw [hL] at w56
        have hw56 : ∀ i : Int, 0 ≤ i → i < (17 : Nat) → g56 (r + 1) i = cOW gw k tl sn (gw r 4) (gw r 3) i := fun i a b => w56 i (by omega)
        refine r_aload_n dX5_run_59 rfl ?_
        refine r_getR dX5_run_60 fkX5_22 gf5_0 (by assumption) (by assumption) ?_
        refine r_getR dX5_run_63 fkX5_45 gf0_0 (by assumption) (by assumption) ?_
        refine r_aload_n dX5_run_66 rfl ?_
        refine r_getR dX5_run_67 fkX5_51 gf9_5 (by assumption) (by assumption) ?_
        refine r_aload_n dX5_run_70 rfl ?_
        refine r_getR dX5_run_71 fkX5_54 gf9_4 (by assumption) (by assumption) ?_
        refine r_iload dX5_run_74 rfl ?_
        refine r_iald dX5_run_76 (by assumption) (by omega) (by first | rfl | (simp only [od_up]; first | rw [if_neg (by omega)] | skip)) ?_
        refine r_aload_n dX5_run_77 rfl ?_
        refine r_getR dX5_run_78 fkX5_9 gf5_2 (by assumption) (by assumption) ?_
        refine r_callV3f dX5_run_81 cvX5_57 (by assumption) (c_X7_value hu (n := ts) (wl := 17) y6 rd (by omega) (by omega) (by omega) (by omega) _) (by decide) (Nat.le_of_ble_eq_true rfl) od_le.rf (fun g81 f81 => ?_)
        have eT81 : TxEq g g56 t := eTw.tr (TxEq.of f56 (fun x y q => by omega))
        have hw81 : ∀ i : Int, 0 ≤ i → i < (17 : Nat) → g81 (r + 1) i = cOW gw k tl sn (gw r 4) (gw r 3) i := fun i i0 i1 => by rw [f81 (r + 1) i (by omega)]; exact hw56 i i0 i1
        have hf81 : od_fr (fun x _ => x = s + 2 ∨ x = s + 3 ∨ x = r + 1) gw g81 := f56.tr (f81.mo (fun x y q => by omega))
        rw [cVal_eq _ _ hw56, eT81.2.2.2.2.2.2, eT81.2.2.2.2.2.1]
        show od_Rq _ _ _ _ _ _ _ ((0, cOV g gw k t tl sn ts (gw r 4) (gw r 3) (g (t + 5) c)) :: _) _ _
        refine r_iconst dX5_run_84 li_1 ?_
        refine r_icmp_eq (tgt := 91) dX5_run_85 rfl (fun c85 => ?_) (fun c85 => ?_)
        · refine r_aload_n dX5_run_91 rfl ?_
          refine r_getR dX5_run_92 fkX5_22 gf5_0 (by assumption) (by assumption) ?_
          refine r_getR dX5_run_95 fkX5_45 gf0_0 (by assumption) (by assumption) ?_
          refine r_aload_n dX5_run_98 rfl ?_
          refine r_getR dX5_run_99 fkX5_51 gf9_5 (by assumption) (by assumption) ?_
          refine r_aload_n dX5_run_102 rfl ?_
          refine r_getR dX5_run_103 fkX5_63 gf9_2 (by assumption) (by assumption) ?_
          refine r_iload dX5_run_106 rfl ?_
          refine r_iald dX5_run_108 (by assumption) (by omega) (by first | rfl | (simp only [od_up]; first | rw [if_neg (by omega)] | skip)) ?_
          refine r_aload_n dX5_run_109 rfl ?_
          refine r_getR dX5_run_110 fkX5_9 gf5_2 (by assumption) (by assumption) ?_
          refine r_callV3f dX5_run_113 cvX5_57 (by assumption) (c_X7_value hu (n := ts) (wl := 17) y6 rd (by omega) (by omega) (by omega) (by omega) _) (by decide) (Nat.le_of_ble_eq_true rfl) od_le.rf (fun g113 f113 => ?_)
          have eT113 : TxEq g g81 t := eTw.tr (TxEq.of hf81 (fun x y q => by omega))
          have hw113 : ∀ i : Int, 0 ≤ i → i < (17 : Nat) → g113 (r + 1) i = cOW gw k tl sn (gw r 4) (gw r 3) i := fun i i0 i1 => by rw [f113 (r + 1) i (by omega)]; exact hw81 i i0 i1
          have hf113 : od_fr (fun x _ => x = s + 2 ∨ x = s + 3 ∨ x = r + 1) gw g113 := hf81.tr (f113.mo (fun x y q => by omega))
          rw [cVal_eq _ _ hw81, eT113.2.2.2.2.2.2, eT113.2.2.2.1]
          show od_Rq _ _ _ _ _ _ _ ((0, cOV g gw k t tl sn ts (gw r 4) (gw r 3) (g (t + 3) c)) :: _) _ _
          refine r_istore dX5_run_116 (by decide) rfl ?_
          refine r_aload_n dX5_run_118 rfl ?_
          refine r_getR dX5_run_119 fkX5_22 gf5_0 (by assumption) (by assumption) ?_
          refine r_getR dX5_run_122 fkX5_45 gf0_0 (by assumption) (by assumption) ?_
          refine r_aload_n dX5_run_125 rfl ?_
          refine r_getR dX5_run_126 fkX5_51 gf9_5 (by assumption) (by assumption) ?_
          refine r_aload_n dX5_run_129 rfl ?_
          refine r_getR dX5_run_130 fkX5_66 gf9_3 (by assumption) (by assumption) ?_
          refine r_iload dX5_run_133 rfl ?_
          refine r_iald dX5_run_135 (by assumption) (by omega) (by first | rfl | (simp only [od_up]; first | rw [if_neg (by omega)] | skip)) ?_
          refine r_aload_n dX5_run_136 rfl ?_
          refine r_getR dX5_run_137 fkX5_9 gf5_2 (by assumption) (by assumption) ?_
          refine r_callV3f dX5_run_140 cvX5_57 (by assumption) (c_X7_value hu (n := ts) (wl := 17) y6 rd (by omega) (by omega) (by omega) (by omega) _) (by decide) (Nat.le_of_ble_eq_true rfl) od_le.rf (fun g140 f140 => ?_)
          have eT140 : TxEq g g113 t := eTw.tr (TxEq.of hf113 (fun x y q => by omega))
          have hw140 : ∀ i : Int, 0 ≤ i → i < (17 : Nat) → g140 (r + 1) i = cOW gw k tl sn (gw r 4) (gw r 3) i := fun i i0 i1 => by rw [f140 (r + 1) i (by omega)]; exact hw113 i i0 i1
          have hf140 : od_fr (fun x _ => x = s + 2 ∨ x = s + 3 ∨ x = r + 1) gw g140 := hf113.tr (f140.mo (fun x y q => by omega))
          rw [cVal_eq _ _ hw113, eT140.2.2.2.2.2.2, eT140.2.2.2.2.1]
          show od_Rq _ _ _ _ _ _ _ ((0, cOV g gw k t tl sn ts (gw r 4) (gw r 3) (g (t + 4) c)) :: _) _ _
          have eS : StEq gw g140 k := StEq.of hf140 (fun x y q => by omega)
          have eP : g140 p = gw p := hf140.row (fun y q => by omega)
          have eR : g140 r = gw r := hf140.row (fun y q => by omega)
          have eL : cLawOf g140 k (g140 k 11) = tl := by rw [cLawOf_e eS, eS.1, hL]
          have hl2 : LawOk E g140 s (cLawOf g140 k (g140 k 11)) cn sn := by rw [eL]; exact hlaw.e (fun q => TxEq.of hf140 (fun x y z => by have := o5 q; omega))
          have eT9 : TxEq g g140 t := eTw.tr (TxEq.of hf140 (fun x y q => by omega))
          refine r_istore dX5_run_143 (by decide) rfl ?_
          refine r_iload dX5_run_145 rfl ?_
          refine r_ldc dX5_run_147 kcX5_69 lk_X5_69 ?_
          refine r_icmp_eq (tgt := 159) dX5_run_149 rfl (fun c149 => ?_) (fun c149 => ?_)
          · refine r_iload dX5_run_159 rfl ?_
            exact r_iretq dX5_run_161 rfl rfl ⟨_, rfl, I3 _ _ _ _ hiI hc.1 hc.2 hi0 (by omega) (by omega) (by assumption) (by first | exact Or.inl (by assumption) | exact Or.inr (by assumption)) hf140⟩
          · refine r_iload dX5_run_152 rfl ?_
            refine r_ldc dX5_run_154 kcX5_69 lk_X5_69 ?_
            refine r_icmp_ne (tgt := 162) dX5_run_156 rfl (fun c156 => ?_) (fun c156 => ?_)
            · refine r_aload_n dX5_run_162 rfl ?_
              refine r_getR dX5_run_163 fkX5_26 gf5_1 (by assumption) (by assumption) ?_
              refine r_aload_n dX5_run_166 rfl ?_
              refine r_aload_n dX5_run_167 rfl ?_
              refine r_aload_n dX5_run_168 rfl ?_
              refine r_getR dX5_run_169 fkX5_35 gf9_0 (by assumption) (by assumption) ?_
              refine r_iload dX5_run_172 rfl ?_
              refine r_iald dX5_run_174 (by assumption) (by omega) (by first | rfl | (simp only [od_up]; first | rw [if_neg (by omega)] | skip)) ?_
              rw [eT9.2.1]
              refine r_iload dX5_run_175 rfl ?_
              refine r_iload dX5_run_177 rfl ?_
              refine r_callV5p dX5_run_179 cvX5_70 (by assumption) (c_X1_change (cn := cn) (sn := sn) ha0 hh0 hs0 (by omega) hl2 (fun d q => by rw [eS.2.1]; exact hl d ((cHas_e eS d).mp q)) hp0 (by omega) (by omega) (by rw [eP]; exact n5) (by rw [eP]; exact n6) (by rw [eL]; exact fun q => Or.inr (by have := o5 q; omega)) (by rw [eL]; exact fun q => Or.inr (by have := o5 q; omega)) (by rw [eS.1]; exact n8) (by rw [eS.2.2.2.2.2.1]; exact nH) _ _ _) (by decide) (Nat.le_of_ble_eq_true rfl) od_le.rf (fun r179 g179 h179 => ?_)
              obtain ⟨v179, rfl, p179⟩ := h179
              show od_Rq _ _ _ _ _ _ _ ((0, v179) :: _) _ _
              refine r_istore dX5_run_182 (by decide) rfl ?_
              refine r_iload dX5_run_184 rfl ?_
              refine r_if_ge (tgt := 192) dX5_run_186 rfl (fun c186 => ?_) (fun c186 => ?_)
              · refine r_aload_n dX5_run_192 rfl ?_
                refine r_dup dX5_run_193 (by first | exact od_ne2 | exact od_ne0) ?_
                refine r_getIj (j := 4) rfl dX5_run_194 fkX5_19 gf5_4 (by assumption) (by first | rfl | (simp only [od_up]; first | rw [if_neg (by omega)] | skip)) ?_
                have er5 : g179 r = g140 r := cChanged_fr p179 (by omega) (by omega) (by omega)
                have er4 : 0 ≤ g179 r 4 ∧ g179 r 4 ≤ 1000000 := by rw [er5, eR]; exact n4
                have et1 : g179 (t + 1) = g (t + 1) := (cChanged_fr p179 (by omega) (by omega) (by omega)).trans eT9.2.1
                have I2x := I2 _ _ _ _ _ _ hiI hc.1 hc.2 hi0 (by omega) (by omega) (by assumption) (by assumption) (by assumption) hf140 p179 (er5.trans eR)
                refine r_iconst dX5_run_197 li_1 ?_
                refine r_iaddE dX5_run_198 (by first | exact od_w0 (by omega) (by omega) | exact od_wI (by omega) (by omega) | rfl) ?_
                refine r_putIj (j := 4) rfl dX5_run_199 fkX5_19 gf5_4 pf5_4 (by assumption) ?_
                refine r_aload_n dX5_run_202 rfl ?_
                refine r_aload_n dX5_run_203 rfl ?_
                refine r_getR dX5_run_204 fkX5_35 gf9_0 (by assumption) (by assumption) ?_
                refine r_iload dX5_run_207 rfl ?_
                refine r_iald dX5_run_209 (by assumption) (by omega) (by first | rfl | (simp only [od_up]; first | rw [if_neg (by omega)] | skip)) ?_
                rw [show od_up g179 r 4 (g179 r 4 + 1) (t + 1) c = g (t + 1) c by rw [← et1]; simp only [od_up]; rw [if_neg (by omega)]]
                refine r_iconst dX5_run_210 li_3 ?_
                refine r_icmp_ne (tgt := 219) dX5_run_211 rfl (fun c211 => ?_) (fun c211 => ?_)
                · refine r_aload_n dX5_run_219 rfl ?_
                  refine r_getIj (j := 3) rfl dX5_run_220 fkX5_15 gf5_3 (by assumption) (by first | rfl | (simp only [od_up]; first | rw [if_neg (by omega)] | skip)) ?_
                  refine r_putIj (j := 3) rfl dX5_run_223 fkX5_15 gf5_3 pf5_3 (by assumption) ?_
                  refine r_iincE dX5_run_226 rfl (by decide) (by first | exact od_w0 (by omega) (by omega) | exact od_wI (by omega) (by omega) | rfl) rfl ?_
                  refine r_goto (tgt := 35) dX5_run_229 rfl ?_
                  refine ih _ _ _ _ _ ⟨by omega, by omega, ?_⟩ (by omega)
                  first
                  | exact I1 _ _ _ _ hiI hc.1 hc.2 hi0 (by omega) (by omega) (by assumption) hf81
                  | (have q := I2x.1 (by omega); rw [od_ite_t (by omega)] at q; exact q)
                  | (have q := I2x.1 (by omega); rw [od_ite_f (by omega)] at q; rw [show od_up g179 r 4 (g179 r 4 + 1) r 3 = g179 r 3 by simp [od_up]]; exact q)
                · refine r_iload dX5_run_214 rfl ?_
                  refine r_goto (tgt := 223) dX5_run_216 rfl ?_
                  refine r_putIj (j := 3) rfl dX5_run_223 fkX5_15 gf5_3 pf5_3 (by assumption) ?_
                  refine r_iincE dX5_run_226 rfl (by decide) (by first | exact od_w0 (by omega) (by omega) | exact od_wI (by omega) (by omega) | rfl) rfl ?_
                  refine r_goto (tgt := 35) dX5_run_229 rfl ?_
                  refine ih _ _ _ _ _ ⟨by omega, by omega, ?_⟩ (by omega)
                  first
                  | exact I1 _ _ _ _ hiI hc.1 hc.2 hi0 (by omega) (by omega) (by assumption) hf81
                  | (have q := I2x.1 (by omega); rw [od_ite_t (by omega)] at q; exact q)
                  | (have q := I2x.1 (by omega); rw [od_ite_f (by omega)] at q; rw [show od_up g179 r 4 (g179 r 4 + 1) r 3 = g179 r 3 by simp [od_up]]; exact q)
              · refine r_iload dX5_run_189 rfl ?_
                have er5 : g179 r = g140 r := cChanged_fr p179 (by omega) (by omega) (by omega)
                exact r_iretq dX5_run_191 rfl rfl ⟨_, rfl, (I2 _ _ _ _ _ _ hiI hc.1 hc.2 hi0 (by omega) (by omega) (by assumption) (by assumption) (by assumption) hf140 p179 (er5.trans eR)).2 (by omega)⟩
            · refine r_iload dX5_run_159 rfl ?_
              exact r_iretq dX5_run_161 rfl rfl ⟨_, rfl, I3 _ _ _ _ hiI hc.1 hc.2 hi0 (by omega) (by omega) (by assumption) (by first | exact Or.inl (by assumption) | exact Or.inr (by assumption)) hf140⟩
        · refine r_goto (tgt := 226) dX5_run_88 rfl ?_
          refine r_iincE dX5_run_226 rfl (by decide) (by first | exact od_w0 (by omega) (by omega) | exact od_wI (by omega) (by omega) | rfl) rfl ?_
          refine r_goto (tgt := 35) dX5_run_229 rfl ?_
          refine ih _ _ _ _ _ ⟨by omega, by omega, ?_⟩ (by omega)
          first
          | exact I1 _ _ _ _ hiI hc.1 hc.2 hi0 (by omega) (by omega) (by assumption) hf81
          | (have q := I2x.1 (by omega); rw [od_ite_t (by omega)] at q; exact q)
          | (have q := I2x.1 (by omega); rw [od_ite_f (by omega)] at q; rw [show od_up g179 r 4 (g179 r 4 + 1) r 3 = g179 r 3 by simp [od_up]]; exact q)
set_option maxRecDepth 10000 in
theorem lp_X5_out {E : od_E} {g : od_G} {s : Int} (ha : AsAt E s) {h : Int} (hh : HaAt E h s) {r : Int} (hr : RuAt E r h s) {k : Int} (hs : StAt E k) {p : Int} (hp : PaAt E p) {t : Int} {tc ts : Nat} (ht : TxAt E t tc ts) (htc : tc ≤ 12) (hts : ts ≤ 512) {tl : Int} {cn sn : Nat} {I : Int → Int → od_G → Prop} {Q : Int → od_G → Prop} (hI : RunI E g r s k p t tl cn sn ts I Q) (o1 : k + 9 ≤ p) (o2 : p + 6 ≤ t) (o3 : t + 7 ≤ s) (o4 : s + 4 ≤ r) (o5 : tl ≠ -1 → r + 2 ≤ tl) (hcl : 0 ≤ g t 6 ∧ g t 6 ≤ tc) : ∀ (m : Nat) (c : Int) (gw : od_G) (L5 L6 L7 L8 : Option od_V), (0 ≤ c ∧ c ≤ g t 6 ∧ I c 0 gw) → ((g t 6 - c).toNat) < m → od_Rq 8 mX5_run od_Z0 E (E, fun v g' => ∃ c : Int, v = some (0, c) ∧ Q c g') 13 [some (2, r), some (2, t), some (2, k), some (2, p), some (0, c), L5, L6, L7, L8] [] E gw := by
  have ha0 := ha
  obtain ⟨hka, w0, w1, hu, w3⟩ := ha
  have hu7 := hu.1
  have hh0 := hh
  obtain ⟨hkh, hh1⟩ := hh
  have hr0 := hr
  obtain ⟨hkr, ra, rb, rc, rd⟩ := hr
  have hs0 := hs
  obtain ⟨hk, r0, r1, r2, r3, r4, r5, r6, r7, a1, a2, a3, a4, a5, a6, a7, a8⟩ := hs
  have hp0 := hp
  obtain ⟨hkp, p0, p1, p2, p3, p4, d1, d2, d3, d4, d5⟩ := hp
  have ht0 := ht
  obtain ⟨hkt9, x0, x1, x2, x3, x4, x5, y1, y2, y3, y4, y5, y6, hc6, hs6⟩ := ht
  have hI0 := hI
  obtain ⟨I0, I1, I2, I3, I4, I5⟩ := hI
  intro m
  induction m with
  | zero => intro c gw L5 L6 L7 L8 hi hM; exact absurd hM (Nat.not_lt_zero _)
  | succ m ih =>
    intro c gw L5 L6 L7 L8 hi hM
    obtain ⟨hi0, hi1, hiI⟩ := hi
    obtain ⟨⟨n8, nH, hL, hlaw, hl, n5, n6, eTw⟩, n4⟩ := I0 _ _ _ hiI
    have e0 : gw t = g t := eTw.1
    refine r_iload dX5_run_13 rfl ?_
    refine r_aload_n dX5_run_15 rfl ?_
    refine r_getIj (j := 6) rfl dX5_run_16 fkX5_30 gf9_6 (by assumption) (by (repeat (first | rewrite [od_upn (by omega)] | rewrite [od_up_at, if_pos (by omega)] | rewrite [od_up_at, if_neg (by omega)])); rfl) ?_
    rw [e0]
    refine r_icmp_ge (tgt := 238) dX5_run_19 rfl (fun c19 => ?_) (fun c19 => ?_)
    · refine r_iconst dX5_run_238 li_m1 ?_
      exact r_iretq dX5_run_239 rfl rfl ⟨_, rfl, I5 _ _ hiI (by omega)⟩
    · refine r_iload dX5_run_22 rfl ?_
      refine r_aload_n dX5_run_24 rfl ?_
      refine r_getR dX5_run_25 fkX5_35 gf9_0 (by assumption) (by assumption) ?_
      first | refine r_len_i dX5_run_28 (by assumption) (by first | decide | omega) ?_ | refine r_len_b dX5_run_28 (by assumption) (by first | decide | omega) ?_ | refine r_len_z dX5_run_28 (by assumption) (by first | decide | omega) ?_ | refine r_len_l dX5_run_28 (by assumption) (by first | decide | omega) ?_
      refine r_icmp_ge (tgt := 238) dX5_run_29 rfl (fun c29 => ?_) (fun c29 => ?_)
      · refine r_iconst dX5_run_238 li_m1 ?_
        exact r_iretq dX5_run_239 rfl rfl ⟨_, rfl, I5 _ _ hiI (by omega)⟩
      · refine r_iconst dX5_run_32 li_0 ?_
        refine r_istore dX5_run_33 (by decide) rfl ?_
        exact lp_X5_in ha0 hh0 hr0 hs0 hp0 ht0 htc hts hI0 o1 o2 o3 o4 o5 hcl c ⟨hi0, by omega⟩ (fun gw i L6 L7 L8 q => ih _ _ _ _ _ _ ⟨by omega, by omega, q⟩ (by omega)) _ _ _ _ _ _ ⟨by omega, by omega, hiI⟩ (Nat.lt_succ_self _)
set_option maxRecDepth 10000 in
theorem c_X5_run {E : od_E} {g : od_G} {s : Int} (ha : AsAt E s) {h : Int} (hh : HaAt E h s) {r : Int} (hr : RuAt E r h s) {k : Int} (hs : StAt E k) {p : Int} (hp : PaAt E p) {t : Int} {tc ts : Nat} (ht : TxAt E t tc ts) (htc : tc ≤ 12) (hts : ts ≤ 512) {tl : Int} {cn sn : Nat} {I : Int → Int → od_G → Prop} {Q : Int → od_G → Prop} (hI : RunI E g r s k p t tl cn sn ts I Q) (o1 : k + 9 ≤ p) (o2 : p + 6 ≤ t) (o3 : t + 7 ≤ s) (o4 : s + 4 ≤ r) (o5 : tl ≠ -1 → r + 2 ≤ tl) (hcl : 0 ≤ g t 6 ∧ g t 6 ≤ tc) (hi : I 0 0 (od_up (od_up g r 4 0) r 3 (-1))) : od_Cq 8 mX5_run [(2, r), (2, t), (2, k), (2, p)] E g (E, fun v g' => ∃ c : Int, v = some (0, c) ∧ Q c g') := by
  have ha0 := ha
  obtain ⟨hka, w0, w1, hu, w3⟩ := ha
  have hu7 := hu.1
  have hh0 := hh
  obtain ⟨hkh, hh1⟩ := hh
  have hr0 := hr
  obtain ⟨hkr, ra, rb, rc, rd⟩ := hr
  have hs0 := hs
  obtain ⟨hk, r0, r1, r2, r3, r4, r5, r6, r7, a1, a2, a3, a4, a5, a6, a7, a8⟩ := hs
  have hp0 := hp
  obtain ⟨hkp, p0, p1, p2, p3, p4, d1, d2, d3, d4, d5⟩ := hp
  have ht0 := ht
  obtain ⟨hkt9, x0, x1, x2, x3, x4, x5, y1, y2, y3, y4, y5, y6, hc6, hs6⟩ := ht
  refine od_cqI pnX5 rfl (Nat.le_of_ble_eq_true rfl) od_le.rf ?_
  show od_Rq 8 mX5_run od_Z0 E (E, fun v g' => ∃ c : Int, v = some (0, c) ∧ Q c g') 0 [some (2, r), some (2, t), some (2, k), some (2, p), none, none, none, none, none] [] E g
  refine r_aload_n dX5_run_0 rfl ?_
  refine r_iconst dX5_run_1 li_0 ?_
  refine r_putIj (j := 4) rfl dX5_run_2 fkX5_19 gf5_4 pf5_4 (by assumption) ?_
  refine r_aload_n dX5_run_5 rfl ?_
  refine r_iconst dX5_run_6 li_m1 ?_
  refine r_putIj (j := 3) rfl dX5_run_7 fkX5_15 gf5_3 pf5_3 (by assumption) ?_
  refine r_iconst dX5_run_10 li_0 ?_
  refine r_istore dX5_run_11 (by decide) rfl ?_
  exact lp_X5_out ha0 hh0 hr0 hs0 hp0 ht0 htc hts hI o1 o2 o3 o4 o5 hcl _ _ _ _ _ _ _ ⟨by omega, by omega, hi⟩ (Nat.lt_succ_self _)
