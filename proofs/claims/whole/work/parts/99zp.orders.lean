/-! orders: the relation is kept -/
theorem StR.cw {g g' : od_G} {k : Int} {r : Int → Int} (h : StR g k r) (e0 : ∀ y : Int, 8 ≤ y → y ≤ 12 → g' k y = g k y) (ei : ∀ i y : Int, (1 ≤ i ∧ i ≤ 4 ∧ 0 ≤ y ∧ y < 6) ∨ (i = 5 ∧ 0 ≤ y ∧ y < 3) ∨ (6 ≤ i ∧ i ≤ 8 ∧ 0 ≤ y ∧ y < 6) → g' (k + i) y = g (k + i) y) : StR g' k r := by
  have n := h.1.2
  have n46 := h.2.2.2.2.2.2.2.1.2
  obtain ⟨h1, h2, h3, h4, h5, h7, h9, h10, h11⟩ := h
  unfold StR
  rw [e0 8 (by omega) (by omega), e0 9 (by omega) (by omega), e0 10 (by omega) (by omega), e0 11 (by omega) (by omega), e0 12 (by omega) (by omega), ei 5 0 (by omega), ei 5 1 (by omega), ei 5 2 (by omega)]
  refine ⟨h1, fun d d0 d1 => ?_, h3, h4, h5, h7, h9, h10, fun i i0 i1 => ?_⟩
  · unfold DrR
    rw [e0 9 (by omega) (by omega), ei 1 d (by omega), ei 2 d (by omega), ei 3 d (by omega), ei 4 d (by omega)]
    exact h2 d d0 d1
  · rw [ei 7 i (by omega), ei 8 i (by omega)]
    exact h11 i i0 i1
theorem PaR.cw {g g' gm : od_G} {p M : Int} (h : PaR g p gm M) (hn : gm (M + 2) 45 ≤ 6) (e0 : ∀ y : Int, 5 ≤ y → y ≤ 6 → g' p y = g p y) (e1 : ∀ x y : Int, p + 1 ≤ x → x ≤ p + 3 → 0 ≤ y → y < 16 → g' x y = g x y) (e4 : ∀ x y : Int, p + 4 ≤ x → x ≤ p + 5 → 0 ≤ y → y < 96 → g' x y = g x y) : PaR g' p gm M := by
  obtain ⟨a, b, c⟩ := h
  unfold PaR
  rw [e0 5 (by omega) (by omega), e0 6 (by omega) (by omega)]
  refine ⟨a, b, fun j j0 j1 => ?_⟩
  have z : 0 ≤ (g p 5 + j) % 16 ∧ (g p 5 + j) % 16 < 16 := by omega
  exact (c j j0 j1).c hn (e1 _ _ (by omega) (by omega) z.1 z.2) (e1 _ _ (by omega) (by omega) z.1 z.2) (e1 _ _ (by omega) (by omega) z.1 z.2) (fun d d0 d1 => ⟨e4 _ _ (by omega) (by omega) (by omega) (by omega), e4 _ _ (by omega) (by omega) (by omega) (by omega)⟩) (fun _ _ _ => rfl) (fun _ _ _ => rfl)
section Orders
variable {E : od_E} {o M : Int} {g gm g' gm' : od_G}
theorem Rel2.up2 (hE : EW E o M) (h : Rel2 E o M g gm) (st : StR g' (o + 1) (gm' (M + 2))) (h6 : g' (o + 1 + 6) = g (o + 1 + 6)) (h8 : ∀ y : Int, 0 ≤ y → y < 6 → g' (o + 1 + 8) y = 0 ∨ g' (o + 1 + 8) y = 1) (e47 : gm' (M + 2) 47 = gm (M + 2) 47) (es : SlE (gm (M + 2)) (gm' (M + 2))) (pa : PaR g' (o + 48) gm' M) (tp : TpR g' gm' o M) (fd : FdR g' gm' o M) (e : ∀ x : Int, (o + 19 ≤ x ∧ x ≤ o + 47) ∨ M + 24 ≤ x → g' x = g x) (em : ∀ x : Int, x = M + 3 ∨ x = M + 4 ∨ x = M + 23 → gm' x = gm x) (e49 : gm' M 49 = gm M 49) : Rel2 E o M g' gm' := by
  obtain ⟨_, _, o0, oM, _⟩ := hE
  refine ⟨st, h.ls.c h.n47 h6 (fun x hx => e x (by omega)) e47 es, ⟨by rw [h6]; exact h.rf.1, h8⟩, ?_, fun k k0 k1 => (h.im k k0 k1).c ⟨k0, k1⟩ ⟨o0, oM⟩ (fun x hx => e x (by omega)) (fun y _ _ => by rw [em (M + 3) (by omega)]) (by rw [em (M + 4) (by omega)]), pa, tp, fd, h.pp.c (by rw [e (o + 19) (by omega)]) (by rw [e (o + 19) (by omega)]) (e _ (by omega)) (e _ (by omega)) e49 (em _ (by omega))⟩
  unfold cImg
  rw [e (o + 28) (by omega)]
  exact h.ig
theorem k_or (hE : EW E o M) (h : Rel2 E o M g gm) (st : StR g' (o + 1) (gm' (M + 2))) (h6 : g' (o + 1 + 6) = g (o + 1 + 6)) (h8 : ∀ y : Int, 0 ≤ y → y < 6 → g' (o + 1 + 8) y = 0 ∨ g' (o + 1 + 8) y = 1) (e47 : gm' (M + 2) 47 = gm (M + 2) 47) (es : SlE (gm (M + 2)) (gm' (M + 2))) (pa : PaR g' (o + 48) gm' M) (e : ∀ x : Int, x ≠ o → x ≠ o + 60 → (x < o + 1 ∨ o + 9 < x) → (x < o + 48 ∨ o + 53 < x) → ¬ CS o M x → g' x = g x) (eo : ∀ y : Int, y = 15 ∨ y = 18 → g' o y = g o y) (e60 : g' (o + 60) 1 = 0) (em : ∀ x y : Int, x ≠ M + 2 → x ≠ M + 14 → ¬ (x = M ∧ (y = 13 ∨ y = 14 ∨ y = 33 ∨ y = 41)) → ¬ RS M x y → gm' x y = gm x y) (e13 : gm' M 13 = 0) (e16 : g' o 16 = gm' M 14) (e17 : g' o 17 = gm' M 41) : Rel2 E o M g' gm' := by
  have oM := hE.2.2
  have n := h.tp.1.2.2.1
  have er : ∀ x : Int, x = M + 1 ∨ x = M + 3 ∨ x = M + 4 ∨ x = M + 6 ∨ x = M + 7 ∨ x = M + 23 → gm' x = gm x := fun x hx => funext fun y => em x y (by omega) (by omega) (by omega) (by unfold RS; omega)
  refine h.up2 hE st h6 h8 e47 es pa (h.tp.sz (n := 0) (by omega) e60 (e _ (by omega) (by omega) (by omega) (by omega) (by unfold CS; omega)) e13 (er _ (by omega)) (er _ (by omega))) ⟨⟨?_, e16, e17, ?_⟩, fun i i0 i1 => ?_⟩ (fun x hx => e x (by omega) (by omega) (by omega) (by omega) (by unfold CS; omega)) (fun x hx => er x (by omega)) (em _ _ (by omega) (by omega) (by omega) (by unfold RS; omega))
  · rw [eo 15 (by omega), em M 0 (by omega) (by omega) (by omega) (by unfold RS; omega)]
    exact h.fd.1.1
  · rw [eo 18 (by omega), em M 6 (by omega) (by omega) (by omega) (by unfold RS; omega)]
    exact h.fd.1.2.2.2
  · rw [e (o + 85) (by omega) (by omega) (by omega) (by omega) (by unfold CS; omega), er (M + 1) (by omega)]
    exact h.fd.2 i i0 i1
theorem k_rd (hE : EW E o M) (h : Rel2 E o M g gm) (e : ∀ x : Int, x ≠ o → x ≠ o + 60 → ¬ CS o M x → g' x = g x) (eo : ∀ y : Int, y = 15 ∨ y = 18 → g' o y = g o y) (e60 : g' (o + 60) 1 = 0) (em : ∀ x y : Int, ¬ (x = M ∧ (y = 13 ∨ y = 14 ∨ y = 41)) → ¬ RS M x y → gm' x y = gm x y) (e13 : gm' M 13 = 0) (e16 : g' o 16 = gm' M 14) (e17 : g' o 17 = gm' M 41) : Rel2 E o M g' gm' := by
  have oM := hE.2.2
  refine k_or hE h ((h.st.cg (fun x x0 x1 => e x (by omega) (by omega) (by unfold CS; omega))).cr (fun y y0 y1 => em _ _ (by omega) (by unfold RS; omega))) (e _ (by omega) (by omega) (by unfold CS; omega)) (by rw [e (o + 1 + 8) (by omega) (by omega) (by unfold CS; omega)]; exact h.rf.2) (em _ _ (by omega) (by unfold RS; omega)) (fun y hy => em _ _ (by omega) (by unfold RS; omega)) ((h.pa.cg (fun x x0 x1 => e x (by omega) (by omega) (by unfold CS; omega))).cm h.st.1.2.2 (em _ _ (by omega) (by unfold RS; omega)) (em _ _ (by omega) (by unfold RS; omega)) (fun d d0 d1 => em _ _ (by omega) (by unfold RS; omega)) (fun y y0 y1 => em _ _ (by omega) (by unfold RS; omega))) (fun x a b _ _ c => e x a b c) eo e60 (fun x y _ _ a b => em x y (by omega) b) e13 e16 e17
/-- as the orders begin -/
theorem or_start (hE : EW E o M) (hR : Rel2 E o M g g) {pl : Int → Int} {C : Int} {cn sn : Nat} (hL : LfR g (o + 1) (g (M + 2)) pl C sn) (hW : LawOk E g (o + 70) (cLawOf g (o + 1) (g (o + 1) 11)) cn sn) (hq : cLawOf g (o + 1) (g (o + 1) 11) ≠ -1 → M + 24 ≤ cLawOf g (o + 1) (g (o + 1) 11)) {gR : od_G} (hS : OrS g o gR) (cl : Nat → pC) (h6 : 1 ≤ gR (o + 63) 6 ∧ 0 ≤ (cl 0).2.1) : OrW E g o M (cLawOf g (o + 1) (g (o + 1) 11)) cn sn pl C cl gR 0 0 (od_up (od_up gR (o + 75) 4 0) (o + 75) 3 (-1)) := by
  intro gS hS0
  obtain ⟨_, _, o0, oM, _⟩ := hE
  have eR : ∀ x : Int, (o + 1 ≤ x ∧ x ≤ o + 9) ∨ (o + 48 ≤ x ∧ x ≤ o + 53) ∨ M ≤ x → gR x = g x := fun x hx => hS.1.row (fun y q => by unfold XR at q; omega)
  have eS : ∀ y : Int, y ≠ 55 → ¬ (2456 ≤ y ∧ y < 2856) → ¬ (5256 ≤ y ∧ y < 5656) → gS (M + 2) y = g (M + 2) y := fun y a b c => hS0.1 _ _ (by unfold OBg XE XD XL; omega)
  have eT : cLawOf g (o + 1) (g (o + 1) 11) ≠ -1 → TxEq g gR (cLawOf g (o + 1) (g (o + 1) 11)) := fun q => by
    have := hq q
    exact ⟨eR _ (by omega), eR _ (by omega), eR _ (by omega), eR _ (by omega), eR _ (by omega), eR _ (by omega), eR _ (by omega)⟩
  have e1 := eR (o + 1) (by omega)
  have e7 := eR (o + 1 + 6) (by omega)
  have K : OrK E o M (cLawOf g (o + 1) (g (o + 1) 11)) cn sn pl C gR gR gS := by
    refine ⟨(hR.st.cg (fun x x0 x1 => eR x (by omega))).cr (fun y y0 y1 => eS y (by omega) (by omega) (by omega)), (hR.pa.cg (fun x x0 x1 => eR x (by omega))).cm hR.st.1.2.2 (hS0.1 _ _ (by unfold OBg XE XD XL; omega)) (eS _ (by omega) (by omega) (by omega)) (fun d d0 d1 => eS _ (by omega) (by omega) (by omega)) (fun y y0 y1 => hS0.1 _ _ (by unfold OBg XE XD XL; omega)), hL.c (by rw [e1]) (by rw [e1]) e7 eT (eS _ (by omega) (by omega) (by omega)) (fun y hy => eS y (by omega) (by omega) (by omega)), ?_, hW.e eT, od_fr.rf⟩
    unfold cLawOf
    rw [e1, e7]
  refine ⟨gS, gS, ⟨rfl, rfl⟩, K.c (fun q => by have := hq q; omega) ((od_fr.rf.up (by omega)).up (by omega)), ⟨?_, ?_⟩, ⟨by omega, by omega, fun _ => h6.2⟩, ?_, ?_⟩
  · rw [od_up_j (by omega), od_up_i, hS0.2.1]
  · rw [od_up_i, hS0.2.2]
  · rw [hS0.2.1]; omega
  · rw [hS0.2.2]; omega
/-- what stands when the orders could not be: all as it was -/
theorem or_back (hE : EW E o M) {gR g5 gm3 : od_G} {c : Int} (hS : OrS g o gR) (hF : od_fr (ON o) gR g5) (r1 : Rel2 E o M g gm) (em : ∀ x y : Int, ¬ (x = M ∧ (y = 13 ∨ y = 14 ∨ y = 41)) → ¬ RS M x y → gm3 x y = gm x y) (e13 : gm3 M 13 = 0) (e14 : gm3 M 14 = -1) (e41 : gm3 M 41 = c) : Rel2 E o M (cPBecome (cBecome (od_up g5 o 17 c) (o + 1) (o + 10)) (o + 48) (o + 54)) gm3 := by
  have oM := hE.2.2
  obtain ⟨S1, S2, S3, S4, S5, S6⟩ := hS
  have st : ∀ x y : Int, (x = o + 1 ∧ 8 ≤ y ∧ y ≤ 12) ∨ (o + 2 ≤ x ∧ x ≤ o + 5 ∧ 0 ≤ y ∧ y < 6) ∨ (x = o + 6 ∧ 0 ≤ y ∧ y < 3) ∨ (o + 7 ≤ x ∧ x ≤ o + 9 ∧ 0 ≤ y ∧ y < 6) → cPBecome (cBecome (od_up g5 o 17 c) (o + 1) (o + 10)) (o + 48) (o + 54) x y = g x y := fun x y hx => by
    unfold cPBecome cBecome
    rw [if_neg (by omega), if_pos (by omega), show x - (o + 1) + (o + 10) = x + 9 by omega, od_upn (by omega), hF (x + 9) y (by unfold ON; omega)]
    exact S5 x y hx
  have pa : ∀ x y : Int, (x = o + 48 ∧ 5 ≤ y ∧ y ≤ 6) ∨ (o + 49 ≤ x ∧ x ≤ o + 51 ∧ 0 ≤ y ∧ y < 16) ∨ (o + 52 ≤ x ∧ x ≤ o + 53 ∧ 0 ≤ y ∧ y < 96) → cPBecome (cBecome (od_up g5 o 17 c) (o + 1) (o + 10)) (o + 48) (o + 54) x y = g x y := fun x y hx => by
    unfold cPBecome cBecome
    rw [if_pos (by omega), show x - (o + 48) + (o + 54) = x + 6 by omega, if_neg (by omega), od_upn (by omega), hF (x + 6) y (by unfold ON; omega)]
    exact S6 x y hx
  have no : ∀ x y : Int, ¬ ((x = o + 1 ∧ 8 ≤ y ∧ y ≤ 12) ∨ (o + 2 ≤ x ∧ x ≤ o + 5 ∧ 0 ≤ y ∧ y < 6) ∨ (x = o + 6 ∧ 0 ≤ y ∧ y < 3) ∨ (o + 7 ≤ x ∧ x ≤ o + 9 ∧ 0 ≤ y ∧ y < 6)) → ¬ (o + 48 ≤ x ∧ x ≤ o + 53) → cPBecome (cBecome (od_up g5 o 17 c) (o + 1) (o + 10)) (o + 48) (o + 54) x y = od_up g5 o 17 c x y := fun x y hx hy => by
    unfold cPBecome cBecome
    rw [if_neg (by omega), if_neg (by omega)]
  have c0 : ∀ y : Int, y = 15 ∨ y = 18 ∨ y = 16 → g5 o y = gR o y := fun y hy => hF o y (by unfold ON; omega)
  refine k_or hE r1 ((r1.st.cw (fun y y0 y1 => st _ _ (by omega)) (fun i y hi => st _ _ (by omega))).cr (fun y y0 y1 => em _ _ (by omega) (by unfold RS; omega))) (funext fun y => ?_) (fun y y0 y1 => ?_) (em _ _ (by omega) (by unfold RS; omega)) (fun y hy => em _ _ (by omega) (by unfold RS; omega)) ((r1.pa.cw r1.st.1.2.2 (fun y y0 y1 => pa _ _ (by omega)) (fun x y x0 x1 y0 y1 => pa _ _ (by omega)) (fun x y x0 x1 y0 y1 => pa _ _ (by omega))).cm r1.st.1.2.2 (em _ _ (by omega) (by unfold RS; omega)) (em _ _ (by omega) (by unfold RS; omega)) (fun d d0 d1 => em _ _ (by omega) (by unfold RS; omega)) (fun y y0 y1 => em _ _ (by omega) (by unfold RS; omega))) (fun x a0 a1 a2 a3 a4 => funext fun y => ?_) (fun y hy => ?_) ?_ (fun x y _ _ a b => em x y (by omega) b) e13 ?_ ?_
  · by_cases q : 0 ≤ y ∧ y < 6
    · exact st _ _ (by omega)
    · rw [no _ _ (by omega) (by omega), od_upn (by omega), hF _ _ (by unfold ON; omega), S1 _ _ (by unfold XR; omega)]
  · rw [st _ _ (by omega)]
    exact r1.rf.2 y y0 y1
  · rw [no _ _ (by omega) (by omega), od_upn a0, hF _ _ (by unfold ON; unfold CS at a4; omega), S1 _ _ (by unfold XR; unfold CS at a4; omega)]
  · rw [no _ _ (by omega) (by omega), od_up_j (by omega), c0 y (by omega), S1 _ _ (by unfold XR; omega)]
  · rw [no _ _ (by omega) (by omega), od_upn (by omega), hF _ _ (by unfold ON; omega), S4]
  · rw [no _ _ (by omega) (by omega), od_up_j (by omega), c0 16 (by omega), S2, e14]
  · rw [no _ _ (by omega) (by omega), od_up_i, e41]
theorem p_orders (hE : EW E o M) (hR : Rel2 E o M g g) : od_Pr E o M g 0 40 mX10_orders [(2, o)] 60 mX11_orders [(2, M)] := by
  obtain ⟨pl, C, cn, sn, hL, hW, hT⟩ := hR.law hE
  have oM := hE.2.2
  have hq : cLawOf g (o + 1) (g (o + 1) 11) ≠ -1 → o + 86 ≤ cLawOf g (o + 1) (g (o + 1) 11) := fun q => by have := hT q; omega
  obtain ⟨tp1, tp2⟩ := hR.tp
  obtain ⟨B, hB⟩ : ∃ z, z = g (o + 60 + 1) := ⟨_, rfl⟩
  obtain ⟨n, hn⟩ : ∃ z, z = g (o + 60) 1 := ⟨_, rfl⟩
  rw [← hB, ← hn] at tp1 tp2
  obtain ⟨N, hN⟩ := tok_ex (B := B) (n := n) tp1.2.2.1 (fun p p0 p1 => (tp1.2.2.2 p p0 p1).1)
  obtain ⟨cl, hcl⟩ : ∃ z, z = pCo (tC B n) (tV B n) (tpl B n) := ⟨_, rfl⟩
  have mE : ∀ N', (∀ i : Int, 0 ≤ i → (i < N' ↔ tQ B n (tpl B n i) ≠ 0)) → mErr B n false N' = mErr B n false N := fun N' h => by
    unfold mErr
    rw [pAll_u (tok_u h hN)]
  have mD : ∀ N' Co, (∀ i : Int, 0 ≤ i → (i < N' ↔ tQ B n (tpl B n i) ≠ 0)) → pDn (tC B n) (tV B n) (tpl B n) false N Co → pDn (tC B n) (tV B n) (tpl B n) false N' Co := fun N' Co h hD => pDn_N (tok_u hN h) hD
  have mU : ∀ N' Co Co', (∀ i : Int, 0 ≤ i → (i < N' ↔ tQ B n (tpl B n i) ≠ 0)) → pDn (tC B n) (tV B n) (tpl B n) false N Co → pDn (tC B n) (tV B n) (tpl B n) false N' Co' → Co' = Co := fun N' Co Co' h hD hD' => pDn_u (tC_past hN) (pDn_N (tok_u h hN) hD') hD
  have hrun : ∀ (gR : od_G) (Co : Int), OrS g o gR → pDn (tC B n) (tV B n) (tpl B n) false N Co → TxO false gR (o + 63) B n Co → RunI E gR (o + 75) (o + 70) (o + 1) (o + 48) (o + 63) (cLawOf g (o + 1) (g (o + 1) 11)) cn sn 512 (OrW E g o M (cLawOf g (o + 1) (g (o + 1) 11)) cn sn pl C cl gR) (OrF g o M pl C cl gR) ∧ OrW E g o M (cLawOf g (o + 1) (g (o + 1) 11)) cn sn pl C cl gR 0 0 (od_up (od_up gR (o + 75) 4 0) (o + 75) 3 (-1)) ∧ ∀ (c : Int) (g2 : od_G), OrF g o M pl C cl gR c g2 → od_fr (RnX o) gR g2 := fun gR Co hS hD hX => by
    have hA : ClA gR o cl := by
      refine ⟨by rw [hX.1]; exact hD.1, hX.2.1, fun c c0 c1 => ?_⟩
      rw [hX.1] at c1
      have z := hX.2.2 c c0 c1
      have y := pCl_kd (fun i => (tpl_b tp1.2.2.1.1 i).1) (hD.2 c c0 c1).2.1
      rw [hcl]
      exact ⟨z, y.1, y.2.1, pCo_bd (tV_0 B n) _⟩
    refine ⟨or_run hq hA, or_start hE hR hL hW hT hS cl ⟨hA.1.1, ?_⟩, fun c g2 h => h.1.mo (fun x y q => by unfold ON at q; unfold RnX; omega)⟩
    have z := (hA.2.2 0 (by omega) (by have := hA.1; omega)).2.2.1.1
    have z' : 1 ≤ (cl 0).2.1 := z
    omega
  have hC := c_X10_orders hE.1 (RdA_of hE.1 hN false) tp1 hR.rf.cRefs hq hrun
  have mO : ∀ g1 : od_G, (∀ x : Int, M ≤ x → x < M + 24 → g1 x = g x) → Rel2 E o M g g1 → (mErr B n false N = -1 → ∃ Co : Int, pDn (tC B n) (tV B n) (tpl B n) false N Co) → od_Cq 60 mX11_orders [(2, M)] E g1 (E, OrQ g1 M pl C B n) := fun g1 eM r1 hd => by
    have hO1 : OrI g1 M pl C := ⟨r1.st.MI, r1.st.MJ, by rw [eM (M + 2) (by omega) (by omega)]; exact hL.F, r1.st.mv.1.2, r1.pa.2.1.2⟩
    have t1 := r1.tp.2
    rw [← hB, ← hn] at t1
    exact c_X11_orders hE.2.1 t1 hO1 (fun N' h e => by
      rw [mE N' h] at e
      obtain ⟨Co, z⟩ := hd e
      exact ⟨Co, mD N' Co h z⟩)
  refine pr_i hE hR hC (fun w g1 q => ?_)
  rcases q with ⟨ner, ew, g0, f0, a16, a17, a60, eg⟩ | ⟨er, Co, c, gR, g5, hD, hX, hS, hF, hres⟩
  · have eM : ∀ x : Int, M ≤ x → x < M + 24 → g1 x = g x := fun x x0 x1 => by
      rw [eg, (cRef_f od_fr.rf).row (a := x) (fun y z => by unfold FC at z; omega)]
      exact f0.row (fun y q => by unfold XR at q; omega)
    refine ⟨eM, fun r1 => ⟨_, ew, _, mO g1 eM r1 (fun z => absurd z ner), fun w' g2 q' => ?_⟩⟩
    obtain ⟨N', hN', q'⟩ := q'
    rw [mE N' hN'] at q'
    rcases q' with ⟨_, ew', gm1, f1, b41, b13, b14, eg'⟩ | ⟨er', _⟩
    · refine ⟨ew', fun x hx => ?_, ?_⟩
      · rw [eg', (mRef_f od_fr.rf).row (a := x) (fun y z => by unfold FM at z; omega)]
        exact f1.row (fun y q => by unfold XE XD at q; omega)
      · have z : Rel2 E o M g0 gm1 := k_rd hE r1 (fun x a0 a1 a2 => f0.row (fun y q => by unfold XR at q; unfold CS at a2; omega)) (fun y hy => f0 _ _ (by unfold XR; omega)) a60 (fun x y a0 a1 => f1 _ _ (fun q => by unfold XE XD at q; unfold RS at a1; omega)) b13 (by rw [a16, b14]) (by rw [a17, b41])
        have y := k_ref hE z (w := -6) (by omega)
        rw [← eg, ← eg'] at y
        exact y
    · exact absurd er' ner
  · have F5 := hF.1
    have e1 : ∀ x : Int, M ≤ x → g5 x = g x := fun x hx => by
      rw [F5.row (a := x) (fun y q => by unfold ON at q; omega)]
      exact hS.1.row (fun y q => by unfold XR at q; omega)
    have eM : ∀ x : Int, M ≤ x → x < M + 24 → g1 x = g x := fun x x0 x1 => by
      rw [← e1 x x0]
      rcases hres with ⟨_, _, eg⟩ | ⟨_, _, eg⟩
      · rw [eg, (cRef_f od_fr.rf).row (a := x) (fun y z => by unfold FC at z; omega)]
        funext y
        unfold cPBecome cBecome
        rw [if_neg (by omega), if_neg (by omega), od_upn (by omega)]
      · rw [eg, (cAcc_f od_fr.rf).row (a := x) (fun y z => by unfold FC at z; omega), od_up_ne (by omega)]
    have key : ∀ w' g2, Rel2 E o M g g1 → OrQ g1 M pl C B n w' g2 → w' = w ∧ (∀ x : Int, ¬ (M ≤ x ∧ x < M + 24) → g2 x = g1 x) ∧ Rel2 E o M g1 g2 := fun w' g2 r1 q' => by
      obtain ⟨N', hN', q'⟩ := q'
      rw [mE N' hN'] at q'
      rcases q' with ⟨ner', _⟩ | ⟨_, Co', gS, hD', fS, s27, s28, s41, s13, s14, hh⟩
      · exact absurd er ner'
      have hS0 : OS0 g M gS := by
        refine ⟨fun x y hx => ?_, s27, s28⟩
        have h2 : ¬ (x < M ∨ M + 24 ≤ x) := fun z => hx (Or.inr z)
        rw [fS x y (fun z => hx (Or.inl z)), eM x (by omega) (by omega)]
      have eC : Co' = gR (o + 63) 6 := by rw [hX.1]; exact mU N' Co Co' hN' hD hD'
      rw [← hcl] at hh
      subst eC
      have fin := hF.2 gS hS0
      rcases hres with ⟨hc, ew, eg⟩ | ⟨hc, ew, eg⟩
      · rcases fin with ⟨z, _⟩ | ⟨c0, c1, ⟨ga, m1⟩, m2⟩
        · exact absurd z hc
        rcases hh with ⟨g2m, mm, _⟩ | ⟨k, g3, ⟨k0, k1⟩, ⟨gk, mk⟩, mk1, ew', f3, e41, eg'⟩
        · exact (mOrd_no m2 c0 (by omega) mm).elim
        have ek : k = c := by
          by_cases u : k < c
          · exact (mOrd_no mk1 k0 (by omega) m1).elim
          · by_cases u2 : c < k
            · exact (mOrd_no m2 c0 (by omega) mk).elim
            · omega
        refine ⟨by rw [ew', ew], fun x hx => ?_, ?_⟩
        · rw [eg', (mRef_f od_fr.rf).row (a := x) (fun y z => by unfold FM at z; omega), f3.row (a := x) (fun y q => by unfold OZ OX at q; omega)]
          exact fS.row (fun y q => by unfold OBg XE XD XL at q; omega)
        · have z := or_back hE hS F5 r1 (gm3 := g3) (c := c) (fun x y a0 a1 => by
            rw [f3 x y (fun q => by unfold OZ OX at q; unfold RS at a1; omega)]
            exact fS x y (fun q => by unfold OBg XE XD XL at q; unfold RS at a1; omega)) (by rw [f3 _ _ (by unfold OZ OX; omega), s13]) (by rw [f3 _ _ (by unfold OZ OX; omega), s14]) (by rw [e41, ek])
          have y := k_ref hE z (w := -3) (by omega)
          rw [← eg, ← eg'] at y
          exact y
      · rcases fin with ⟨_, g2p, mo, st, pa, e27⟩ | ⟨c0, _⟩
        rotate_left
        · omega
        rcases hh with ⟨g2m, mm, ew', f4, fG, _⟩ | ⟨k, g3, ⟨k0, k1⟩, _, mk1, _⟩
        rotate_left
        · exact (mOrd_no mk1 k0 (by omega) mo).elim
        rw [mo] at mm
        injection mm with mm
        subst mm
        have fm : ∀ x y : Int, ¬ (x = M ∧ (y = 13 ∨ y = 14 ∨ y = 33 ∨ y = 41)) → x ≠ M + 14 → ¬ (x = M + 2 ∧ 0 ≤ y ∧ y < 19) → ¬ RS M x y → g2p x y = g1 x y := fun x y a0 a1 a2 a3 => by
          rw [fG x y (fun q => by unfold OG OF OX KF at q; unfold RS at a3; omega)]
          exact fS x y (fun q => by unfold OBg XE XD XL at q; unfold RS at a3; omega)
        refine ⟨by rw [ew', ew, e27], fun x hx => ?_, ?_⟩
        · rw [f4.row (a := x) (fun y q => by unfold OY OX at q; omega), (mGood_f od_fr.rf).row (a := x) (fun y z => by unfold FM at z; omega), fG.row (a := x) (fun y q => by unfold OG OF OX KF at q; omega)]
          exact fS.row (fun y q => by unfold OBg XE XD XL at q; omega)
        · have e5 : ∀ x : Int, x ≠ o → (x < o + 1 ∨ o + 9 < x) → (x < o + 48 ∨ o + 53 < x) → ¬ CS o M x → x ≠ o + 60 → od_up g5 o 17 (-1) x = g x := fun x a0 a1 a2 a3 a4 => by
            rw [od_up_ne a0, F5.row (a := x) (fun y q => by unfold ON at q; unfold CS at a3; omega)]
            exact hS.1.row (fun y q => by unfold XR at q; unfold CS at a3; omega)
          have e6 : ∀ x : Int, o + 7 ≤ x → x ≤ o + 9 → od_up g5 o 17 (-1) x = g x := fun x x0 x1 => by
            rw [od_up_ne (by omega), F5.row (a := x) (fun y q => by unfold ON at q; omega)]
            exact hS.1.row (fun y q => by unfold XR at q; omega)
          have z : Rel2 E o M (od_up g5 o 17 (-1)) g2p := by
            refine k_or hE r1 (st.cg (fun x x0 x1 => od_up_ne (by omega))) (e6 _ (by omega) (by omega)) (by rw [e6 (o + 1 + 8) (by omega) (by omega)]; exact r1.rf.2) (fm _ _ (by omega) (by omega) (by omega) (by unfold RS; omega)) (fun y hy => fm _ _ (by omega) (by omega) (by omega) (by unfold RS; omega)) (pa.cg (fun x x0 x1 => od_up_ne (by omega))) (fun x a0 a1 a2 a3 a4 => e5 x a0 a2 a3 a4 a1) (fun y hy => ?_) ?_ (fun x y a0 a1 a2 a3 => fm x y a2 a1 (by omega) a3) ?_ ?_ ?_
            · rw [od_up_j (by omega), F5 _ _ (by unfold ON; omega), hS.1 _ _ (by unfold XR; omega)]
            · rw [od_upn (by omega), F5 _ _ (by unfold ON; omega)]; exact hS.2.2.2.1
            · rw [fG _ _ (by unfold OG OF OX KF; omega), s13]
            · rw [od_up_j (by omega), F5 _ _ (by unfold ON; omega), hS.2.1, fG _ _ (by unfold OG OF OX KF; omega), s14]
            · rw [od_up_i, fG _ _ (by unfold OG OF OX KF; omega), s41]
          have y := k_acc hE z
          rw [← eg] at y
          exact y.fm hE (fun x y hx => f4 x y (fun q => hx (by unfold OY OX at q; unfold RS; omega)))
    have wv : ∃ a : Int, w = some (0, a) := by
      rcases hres with ⟨_, ew, _⟩ | ⟨_, ew, _⟩
      · exact ⟨_, ew⟩
      · exact ⟨_, ew⟩
    obtain ⟨a, ew⟩ := wv
    refine ⟨eM, fun r1 => ⟨a, ew, _, mO g1 eM r1 (fun _ => ⟨Co, hD⟩), fun w' g2 q' => ?_⟩⟩
    rw [← ew]
    exact key w' g2 r1 q'
end Orders
