/-! OrganDrums: orders -/
theorem TxO.e {lw : Bool} {g g' : od_G} {t : Int} {B : Int → Int} {n C : Int} (h : TxO lw g t B n C) (e : TxEq g g' t) : TxO lw g' t B n C := by
  unfold TxO ClOk at h ⊢
  rw [e.1, e.2.1, e.2.2.1, e.2.2.2.1, e.2.2.2.2.1, e.2.2.2.2.2.1, e.2.2.2.2.2.2]
  exact h
/-- the world as the orders are run -/
def OrS (g : od_G) (o : Int) (gR : od_G) : Prop := od_fr (fun x y => XR (o + 62) (o + 63) x y ∨ (x = o ∧ (y = 16 ∨ y = 17)) ∨ (x = o + 60 ∧ y = 1) ∨ (o + 10 ≤ x ∧ x ≤ o + 18) ∨ (o + 54 ≤ x ∧ x ≤ o + 59)) g gR ∧ gR o 16 = -1 ∧ gR o 17 = -1 ∧ gR (o + 60) 1 = 0 ∧
  (∀ x y : Int, (x = o + 1 ∧ 8 ≤ y ∧ y ≤ 12) ∨ (o + 2 ≤ x ∧ x ≤ o + 5 ∧ 0 ≤ y ∧ y < 6) ∨ (x = o + 6 ∧ 0 ≤ y ∧ y < 3) ∨ (o + 7 ≤ x ∧ x ≤ o + 9 ∧ 0 ≤ y ∧ y < 6) → gR (x + 9) y = g x y) ∧
  (∀ x y : Int, (x = o + 48 ∧ 5 ≤ y ∧ y ≤ 6) ∨ (o + 49 ≤ x ∧ x ≤ o + 51 ∧ 0 ≤ y ∧ y < 16) ∨ (o + 52 ≤ x ∧ x ≤ o + 53 ∧ 0 ≤ y ∧ y < 96) → gR (x + 6) y = g x y)
def RnX (o : Int) : Int → Int → Prop := fun x _ => (o + 1 ≤ x ∧ x ≤ o + 9) ∨ (o + 48 ≤ x ∧ x ≤ o + 53) ∨ x = o + 72 ∨ x = o + 73 ∨ (o + 75 ≤ x ∧ x ≤ o + 76)
def OdM (g : od_G) (o er : Int) (DN : Int → Prop) (TO : Int → od_G → Prop) (Qf : od_G → Int → od_G → Prop) (w : Option od_V) (g' : od_G) : Prop :=
  (er ≠ -1 ∧ w = some (0, -6) ∧ ∃ g1 : od_G, od_fr (fun x y => XR (o + 62) (o + 63) x y ∨ (x = o ∧ (y = 16 ∨ y = 17)) ∨ (x = o + 60 ∧ y = 1)) g g1 ∧ g1 o 16 = er ∧ g1 o 17 = -1 ∧ g1 (o + 60) 1 = 0 ∧ g' = cRef g1 o (-6)) ∨
  (er = -1 ∧ ∃ (C c : Int) (gR g2 : od_G), DN C ∧ TO C gR ∧ OrS g o gR ∧ Qf gR c g2 ∧
    ((c ≠ -1 ∧ w = some (0, -3) ∧ g' = cRef (cPBecome (cBecome (od_up g2 o 17 c) (o + 1) (o + 10)) (o + 48) (o + 54)) o (-3)) ∨ (c = -1 ∧ w = some (0, g2 (o + 75) 4) ∧ g' = cAcc (od_up g2 o 17 (-1)) o)))
def RdA (E : od_E) (o er lv : Int) (P : od_G → Prop) (DN : Int → Prop) (TO : Int → od_G → Prop) : Prop :=
  (∀ g1 : od_G, P g1 → od_Cq 39 mX3_read [(2, o + 62), (0, lv)] E g1 (E, fun v g' => v = some (0, er) ∧ od_fr (XR (o + 62) (o + 63)) g1 g' ∧ (er = -1 → ∃ C : Int, DN C ∧ TO C g'))) ∧ (∀ (C : Int) (g1 g2 : od_G), TO C g1 → TxEq g1 g2 (o + 63) → TO C g2) ∧ (∀ (C : Int) (g1 : od_G), DN C → TO C g1 → g1 (o + 63) 6 = C ∧ (1 ≤ C ∧ C ≤ 12) ∧ (0 ≤ g1 (o + 63) 7 ∧ g1 (o + 63) 7 ≤ 400)) ∧ ∀ g1 g2 : od_G, P g1 → od_fr (fun x _ => x = o) g1 g2 → P g2
theorem RdA_of {E : od_E} {o : Int} (ho : OdAt E o) {B : Int → Int} {n N : Int} (hN : ∀ i : Int, 0 ≤ i → (i < N ↔ tQ B n (tpl B n i) ≠ 0)) (lw : Bool) : RdA E o (mErr B n lw N) (lwI lw) (fun g => TpOk g (o + 60) B n) (pDn (tC B n) (tV B n) (tpl B n) lw N) (fun C g => TxO lw g (o + 63) B n C) :=
  ⟨fun g1 h1 => c_X3_read (oRd ho) h1 hN, fun C g1 g2 h1 h2 => h1.e h2, fun C g1 h1 h2 => ⟨h2.1, h1.1, h2.2.1⟩, fun g1 g2 h1 f => h1.fr f (fun y => by omega) (by omega)⟩
set_option maxRecDepth 10000 in
theorem c_X10_orders {E : od_E} {g : od_G} {o : Int} (ho : OdAt E o) {er : Int} {P : od_G → Prop} {DN : Int → Prop} {TO : Int → od_G → Prop} (hA : RdA E o er 0 P DN TO) (hP : P g) (hrf : cRefs E g (o + 1)) {tl : Int} {cn sn : Nat} (hqt : tl ≠ -1 → o + 86 ≤ tl) {I : od_G → Int → Int → od_G → Prop} {Qf : od_G → Int → od_G → Prop}
    (hR : ∀ (gR : od_G) (C : Int), OrS g o gR → DN C → TO C gR → RunI E gR (o + 75) (o + 70) (o + 1) (o + 48) (o + 63) tl cn sn 512 (I gR) (Qf gR) ∧ I gR 0 0 (od_up (od_up gR (o + 75) 4 0) (o + 75) 3 (-1)) ∧ ∀ (c : Int) (g2 : od_G), Qf gR c g2 → od_fr (RnX o) gR g2) : od_Cq 40 mX10_orders [(2, o)] E g (E, OdM g o er DN TO Qf) := by
  have hs1 := oS1 ho
  have hk := hs1.1
  have hp1 := oP1 ho
  have hkp := hp1.1
  have ht1 := oTp ho
  have hkt := ht1.1
  have ha1 := oAs ho
  have hka := ha1.1
  have hh1 := oHa ho
  have hkh := hh1.1
  have hu1 := oRu ho
  have hku := hu1.1
  have hrd := oRd ho
  have hkr := hrd.1
  have hrt : E.2.2 (o + 62) 0 = o + 63 := hrd.2.1
  have hTx : TxAt E (o + 63) 12 512 := hrd.2.2.2.2.1
  have hs2 := oS2 ho
  have hk2 := hs2.1
  have hp2 := oP2 ho
  have hkp2 := hp2.1
  refine od_cqI pnX10 rfl (Nat.le_of_ble_eq_true rfl) od_le.rf ?_
  show od_Rq 40 mX10_orders od_Z0 E (E, OdM g o er DN TO Qf) 0 [some (2, o)] [] E g
  refine r_aload_n dX10_orders_0 rfl ?_
  refine r_iconst dX10_orders_1 li_m1 ?_
  refine r_putIj (j := 17) rfl dX10_orders_2 fkX10_103 gf10_17 pf10_17 (oO ho) ?_
  refine r_aload_n dX10_orders_5 rfl ?_
  refine r_aload_n dX10_orders_6 rfl ?_
  refine r_getR dX10_orders_7 fkX10_52 gf10_8 (oO ho) (oR8 ho) ?_
  refine r_iconst dX10_orders_10 li_0 ?_
  refine r_callV1p dX10_orders_11 cvX10_190 (by assumption) (hA.1 _ (hA.2.2.2 _ _ hP (od_fr.rf.up rfl))) (by decide) (Nat.le_of_ble_eq_true rfl) od_le.rf (fun r11 g11 h11 => ?_)
  obtain ⟨rfl, f11, q11⟩ := h11
  show od_Rq _ _ _ _ _ _ _ ((0, _) :: _) _ _
  refine r_putIj (j := 16) rfl dX10_orders_14 fkX10_100 gf10_16 pf10_16 (oO ho) ?_
  refine r_aload_n dX10_orders_17 rfl ?_
  refine r_getR dX10_orders_18 fkX10_43 gf10_7 (oO ho) (oR7 ho) ?_
  refine r_iconst dX10_orders_21 li_0 ?_
  refine r_putIj (j := 1) rfl dX10_orders_22 fkX10_177 gf8_1 pf8_1 (by assumption) ?_
  have eF : ∀ z : Int, od_up (od_up g11 o 16 z) (o + 60) 1 0 o 16 = z := fun z => by rw [od_upn (by omega), od_up_i]
  refine r_aload_n dX10_orders_25 rfl ?_
  refine r_getIj (j := 16) rfl dX10_orders_26 fkX10_100 gf10_16 (oO ho) (by first | exact eF _ | exact eS | rfl) ?_
  refine r_iconst dX10_orders_29 li_m1 ?_
  refine r_icmp_eq (tgt := 40) dX10_orders_30 rfl (fun c30 => ?_) (fun c30 => ?_)
  · obtain ⟨C, hDn, hTxO⟩ := q11 c30
    obtain ⟨gA, hgA⟩ : ∃ z, z = od_up (od_up g11 o 16 er) (o + 60) 1 0 := ⟨_, rfl⟩
    rw [← hgA]
    have fA : od_fr (fun x y => XR (o + 62) (o + 63) x y ∨ (x = o ∧ (y = 16 ∨ y = 17)) ∨ (x = o + 60 ∧ y = 1)) g gA := by
      rw [hgA]
      exact (((od_fr.rf.up (by omega)).tr (f11.mo (fun x y z => Or.inl z))).up (by omega)).up (by omega)
    have a16 : gA o 16 = -1 := by rw [hgA, od_upn (by omega), od_up_i]; exact c30
    have a17 : gA o 17 = -1 := by rw [hgA, od_upn (by omega), od_up_j (by omega), f11 _ _ (by unfold XR; omega), od_up_i]
    have a60 : gA (o + 60) 1 = 0 := by rw [hgA, od_up_i]
    have eA : ∀ x y : Int, ((o + 1 ≤ x ∧ x ≤ o + 9) ∨ (o + 48 ≤ x ∧ x ≤ o + 53)) → gA x y = g x y := fun x y hx => fA _ _ (by unfold XR; omega)
    have hrf1 : ∀ y : Int, 0 ≤ y → y < 6 → gA (o + 1 + 6) y = -1 ∨ (E.2.1 (gA (o + 1 + 6) y)).1 = 9 := fun y y0 y1 => by rw [eA _ _ (by omega)]; exact hrf.1 y y0 y1
    have hrf2 : ∀ y : Int, 0 ≤ y → y < 6 → gA (o + 1 + 8) y = 0 ∨ gA (o + 1 + 8) y = 1 := fun y y0 y1 => by rw [eA _ _ (by omega)]; exact hrf.2 y y0 y1
    have hTxA : TO C gA := hA.2.1 _ _ _ hTxO (by rw [hgA]; exact TxEq.of (X := fun x y => (x = o ∧ y = 16) ∨ (x = o + 60 ∧ y = 1)) ((od_fr.rf.up (by omega)).up (by omega)) (fun x y z => by omega))
    refine r_aload_n dX10_orders_40 rfl ?_
    refine r_getR dX10_orders_41 fkX10_16 gf10_1 (oO ho) (oR1 ho) ?_
    refine r_aload_n dX10_orders_44 rfl ?_
    refine r_getR dX10_orders_45 fkX10_12 gf10_0 (oO ho) (oR0 ho) ?_
    refine r_callV1v dX10_orders_48 cvX10_208 (by assumption) (c_X6_become hs2 hs1 (by omega) hrf1 hrf2) (by decide) (Nat.le_of_ble_eq_true rfl) od_le.rf ?_
    refine r_aload_n dX10_orders_51 rfl ?_
    refine r_getR dX10_orders_52 fkX10_37 gf10_6 (oO ho) (oR6 ho) ?_
    refine r_aload_n dX10_orders_55 rfl ?_
    refine r_getR dX10_orders_56 fkX10_33 gf10_5 (oO ho) (oR5 ho) ?_
    refine r_callV1v dX10_orders_59 cvX10_212 (by assumption) (c_X2_become hp2 hp1 (by omega)) (by decide) (Nat.le_of_ble_eq_true rfl) od_le.rf ?_
    obtain ⟨gR, hgR⟩ : ∃ z, z = cPBecome (cBecome gA (o + 10) (o + 1)) (o + 54) (o + 48) := ⟨_, rfl⟩
    rw [← hgR]
    have fR : od_fr (fun x y => (o + 10 ≤ x ∧ x ≤ o + 18) ∨ (o + 54 ≤ x ∧ x ≤ o + 59)) gA gR := by
      rw [hgR]
      intro x y hx
      unfold cPBecome cBecome
      rw [if_neg (by omega), if_neg (by omega)]
    have hTxR : TO C gR := hA.2.1 _ _ _ hTxA (TxEq.of fR (fun x y z => by omega))
    have hOS : OrS g o gR := by
      refine ⟨(fA.mo (fun x y z => z.elim Or.inl (fun z => z.elim (fun z => Or.inr (Or.inl z)) (fun z => Or.inr (Or.inr (Or.inl z)))))).tr (fR.mo (fun x y z => z.elim (fun z => Or.inr (Or.inr (Or.inr (Or.inl z)))) (fun z => Or.inr (Or.inr (Or.inr (Or.inr z)))))), ?_, ?_, ?_, fun x y hx => ?_, fun x y hx => ?_⟩
      · rw [fR _ _ (by omega)]; exact a16
      · rw [fR _ _ (by omega)]; exact a17
      · rw [fR _ _ (by omega)]; exact a60
      · rw [hgR]
        unfold cPBecome cBecome
        rw [if_neg (by omega), if_pos (by omega), show x + 9 - (o + 10) + (o + 1) = x by omega]
        exact eA _ _ (by omega)
      · rw [hgR]
        unfold cPBecome cBecome
        rw [if_pos (by omega), show x + 6 - (o + 54) + (o + 48) = x by omega, if_neg (by omega)]
        exact eA _ _ (by omega)
    have hRR := hR gR C hOS hDn hTxR
    have hz6 : ∀ y : Int, 0 ≤ y → y < 6 → gR (o + 10 + 6) y = g (o + 1 + 6) y := fun y y0 y1 => by have z := hOS.2.2.2.2.1 (o + 1 + 6) y (by omega); rw [show o + 1 + 6 + 9 = o + 10 + 6 by omega] at z; exact z
    have hz8 : ∀ y : Int, 0 ≤ y → y < 6 → gR (o + 10 + 8) y = g (o + 1 + 8) y := fun y y0 y1 => by have z := hOS.2.2.2.2.1 (o + 1 + 8) y (by omega); rw [show o + 1 + 8 + 9 = o + 10 + 8 by omega] at z; exact z
    refine r_aload_n dX10_orders_62 rfl ?_
    refine r_aload_n dX10_orders_63 rfl ?_
    refine r_getR dX10_orders_64 fkX10_77 gf10_11 (oO ho) (oR11 ho) ?_
    refine r_aload_n dX10_orders_67 rfl ?_
    refine r_getR dX10_orders_68 fkX10_52 gf10_8 (oO ho) (oR8 ho) ?_
    refine r_getR dX10_orders_71 fkX10_198 gf3_0 (by assumption) (by assumption) ?_
    refine r_aload_n dX10_orders_74 rfl ?_
    refine r_getR dX10_orders_75 fkX10_12 gf10_0 (oO ho) (oR0 ho) ?_
    refine r_aload_n dX10_orders_78 rfl ?_
    refine r_getR dX10_orders_79 fkX10_33 gf10_5 (oO ho) (oR5 ho) ?_
    refine r_callV3p dX10_orders_82 cvX10_215 (by assumption) (c_X5_run ha1 hh1 hu1 hs1 hp1 hTx (by decide) (by decide) hRR.1 (by omega) (by omega) (by omega) (by omega) (fun z => by have := hqt z; omega) (by have z := hA.2.2.1 C gR hDn hTxR; omega) hRR.2.1) (by decide) (Nat.le_of_ble_eq_true rfl) od_le.rf (fun r82 g82 h82 => ?_)
    obtain ⟨c82, rfl, q82⟩ := h82
    show od_Rq _ _ _ _ _ _ _ ((0, c82) :: _) _ _
    have f82 := hRR.2.2 c82 g82 q82
    have eS : od_up g82 o 17 c82 o 17 = c82 := od_up_i
    refine r_putIj (j := 17) rfl dX10_orders_85 fkX10_103 gf10_17 pf10_17 (oO ho) ?_
    refine r_aload_n dX10_orders_88 rfl ?_
    refine r_getIj (j := 17) rfl dX10_orders_89 fkX10_103 gf10_17 (oO ho) (by first | exact eF _ | exact eS | rfl) ?_
    refine r_iconst dX10_orders_92 li_m1 ?_
    refine r_icmp_eq (tgt := 125) dX10_orders_93 rfl (fun c93 => ?_) (fun c93 => ?_)
    · refine r_aload_n dX10_orders_125 rfl ?_
      refine r_aload_n dX10_orders_126 rfl ?_
      refine r_getR dX10_orders_127 fkX10_77 gf10_11 (oO ho) (oR11 ho) ?_
      refine r_getIj (j := 4) rfl dX10_orders_130 fkX10_219 gf5_4 (by assumption) (by first | exact eF _ | exact eS | rfl) ?_
      refine r_callV1i dX10_orders_133 cvX10_127 (oO ho) (c_X10_accept ho _) (by decide) (Nat.le_of_ble_eq_true rfl) od_le.rf ?_
      refine r_iretq dX10_orders_136 rfl rfl (Or.inr ⟨c30, C, c82, gR, g82, hDn, hTxR, hOS, q82, Or.inr ⟨c93, ?_, ?_⟩⟩)
      · rw [od_upn (by omega)]
      · rw [c93]
    · refine r_aload_n dX10_orders_96 rfl ?_
      refine r_getR dX10_orders_97 fkX10_12 gf10_0 (oO ho) (oR0 ho) ?_
      refine r_aload_n dX10_orders_100 rfl ?_
      refine r_getR dX10_orders_101 fkX10_16 gf10_1 (oO ho) (oR1 ho) ?_
      refine r_callV1v dX10_orders_104 cvX10_208 (by assumption) (c_X6_become hs1 hs2 (by omega) (fun y y0 y1 => by have e := hz6 y y0 y1; rw [od_upn (by omega), f82 _ _ (by unfold RnX; omega), e]; exact hrf.1 y y0 y1) (fun y y0 y1 => by have e := hz8 y y0 y1; rw [od_upn (by omega), f82 _ _ (by unfold RnX; omega), e]; exact hrf.2 y y0 y1)) (by decide) (Nat.le_of_ble_eq_true rfl) od_le.rf ?_
      refine r_aload_n dX10_orders_107 rfl ?_
      refine r_getR dX10_orders_108 fkX10_33 gf10_5 (oO ho) (oR5 ho) ?_
      refine r_aload_n dX10_orders_111 rfl ?_
      refine r_getR dX10_orders_112 fkX10_37 gf10_6 (oO ho) (oR6 ho) ?_
      refine r_callV1v dX10_orders_115 cvX10_212 (by assumption) (c_X2_become hp1 hp2 (by omega)) (by decide) (Nat.le_of_ble_eq_true rfl) od_le.rf ?_
      refine r_aload_n dX10_orders_118 rfl ?_
      refine r_bipush dX10_orders_119 lb_m3 ?_
      refine r_callV1i dX10_orders_121 cvX10_113 (oO ho) (c_X10_refuse ho _ (by omega)) (by decide) (Nat.le_of_ble_eq_true rfl) od_le.rf ?_
      exact r_iretq dX10_orders_124 rfl rfl (Or.inr ⟨c30, C, c82, gR, g82, hDn, hTxR, hOS, q82, Or.inl ⟨c93, rfl, rfl⟩⟩)
  · refine r_aload_n dX10_orders_33 rfl ?_
    refine r_bipush dX10_orders_34 lb_m6 ?_
    refine r_callV1i dX10_orders_36 cvX10_113 (oO ho) (c_X10_refuse ho _ (by omega)) (by decide) (Nat.le_of_ble_eq_true rfl) od_le.rf ?_
    refine r_iretq dX10_orders_39 rfl rfl (Or.inl ⟨?_, rfl, _, ?_, ?_, ?_, ?_, rfl⟩)
    · exact c30
    · exact (((od_fr.rf.up (by omega)).tr (f11.mo (fun x y z => Or.inl z))).up (by omega)).up (by omega)
    · rw [od_upn (by omega), od_up_i]
    · rw [od_upn (by omega), od_up_j (by omega), f11 _ _ (by unfold XR; omega), od_up_i]
    · rw [od_up_i]
