/-! days: the same draws -/
/-- a copied street's law in force -/
theorem LfR.become {g : od_G} {k j : Int} {r pl : Int → Int} {C : Int} {sn : Nat} (h : LfR g j r pl C sn) (hT : cLawOf g j (g j 11) ≠ -1 → k + 8 < cLawOf g j (g j 11)) : LfR (cBecome g k j) k r pl C sn ∧ cLawOf (cBecome g k j) k (cBecome g k j k 11) = cLawOf g j (g j 11) := by
  have e11 : cBecome g k j k 11 = g j 11 := cBec_0 (by omega)
  have e10 : cBecome g k j k 10 = g j 10 := cBec_0 (by omega)
  have el : cLawOf (cBecome g k j) k (cBecome g k j k 11) = cLawOf g j (g j 11) := by
    unfold cLawOf
    rw [e10, e11]
    by_cases c : 0 ≤ g j 11 ∧ g j 11 < g j 10 ∧ g j 11 < 6
    · rw [od_ite_t c, od_ite_t c]; exact cBec_i (by omega)
    · rw [od_ite_f c, od_ite_f c]
  refine ⟨?_, el⟩
  unfold LfR
  rw [el]
  rcases h with h | ⟨h0, h5, h1, h2⟩
  · exact Or.inl h
  · have := hT h1
    exact Or.inr ⟨h0, h5, h1, h2.c ⟨h0, h5⟩ ⟨cBec_n (by omega), cBec_n (by omega), cBec_n (by omega), cBec_n (by omega), cBec_n (by omega), cBec_n (by omega), cBec_n (by omega)⟩ (SlE.rf _)⟩
def DPl (s k : Int) : Int → Int → Prop := fun x y => x = s + 2 ∨ x = s + 3 ∨ (x = k ∧ y = 9) ∨ x = k + 3 ∨ x = k + 4
/-- a hand drawn on paper -/
theorem dy_play {gw g1 : od_G} {s k : Int} {r pl : Int → Int} {C : Int} {sn : Nat} {w d b : Int} (hs : StR gw k r) (hL : LfR gw k r pl C sn) (hd : 0 ≤ d ∧ d < r 45) (hb : 0 ≤ b ∧ b < 12) (hw : 0 ≤ w ∧ w < 3) (hks : k + 9 ≤ s) (hc : cPlayed gw s k w d (od_ite (w = 1) 1 b) sn g1) : StR g1 k (mDyP r pl C d b w) ∧ od_fr (DPl s k) gw g1 := by
  obtain ⟨g0, f0, hc⟩ := hc
  have s0 : StR g0 k r := hs.cg (fun x x0 x1 => f0.row (fun y q => by omega))
  have F0 : od_fr (DPl s k) gw g0 := f0.mo (fun x y q => by unfold DPl; omega)
  have n6 := hs.1.2
  have hH : cHas gw k d := (hs.has (gm := rG r) (M := 0) d).mpr hd
  rcases (show w = 0 ∨ w = 1 ∨ w = 2 by omega) with rfl | rfl | rfl
  · rw [od_ite_f (by omega)] at hc
    have rf := rf_pin (gm := rG r) (M := 0) hs hL d b
    rw [od_ite_t (by unfold mLies; omega), od_ite_t ((hs.hasD (gm := rG r) (M := 0) d).mp hH)] at rf
    unfold mDyP
    rw [od_ir_t rfl]
    by_cases c : mCnP r pl C d b
    · rw [od_ir_t c]
      have rf0 : cRefuse gw k 0 d b sn = 0 := by rw [rf]; exact od_ite_t c
      rcases hc with ⟨a, _⟩ | ⟨_, ag⟩
      · exact absurd rf0 a
      · unfold cTurn at ag
        rw [if_pos rfl] at ag
        rw [ag]
        exact ⟨s0.pinG hd hb, F0.up (by unfold DPl; omega)⟩
    · rw [od_ir_f c]
      have rf0 : cRefuse gw k 0 d b sn = -3 := by rw [rf]; exact od_ite_f c
      rcases hc with ⟨_, ag⟩ | ⟨a, _⟩
      · rw [ag]; exact ⟨s0, F0⟩
      · omega
  · rw [od_ite_t rfl] at hc
    have rf0 : cRefuse gw k 1 d 1 sn = 0 := by
      unfold cRefuse
      rw [od_ite_f (by omega), od_ite_f (by unfold cBadNo; omega), od_ite_t hH, od_ite_f (by omega)]
    unfold mDyP
    rw [od_ir_f (by omega), od_ir_t rfl]
    rcases hc with ⟨a, _⟩ | ⟨_, ag⟩
    · exact absurd rf0 a
    · unfold cTurn at ag
      rw [if_neg (by omega), if_pos rfl] at ag
      rw [ag]
      exact ⟨s0.shiftG hd (by omega), F0.up (by unfold DPl; omega)⟩
  · rw [od_ite_f (by omega)] at hc
    have rf0 : cRefuse gw k 2 d b sn = 0 := by
      unfold cRefuse
      rw [od_ite_f (by omega), od_ite_f (by unfold cBadNo; omega), od_ite_t hH, od_ite_f (by omega)]
    unfold mDyP
    rw [od_ir_f (by omega), od_ir_f (by omega)]
    rcases hc with ⟨a, _⟩ | ⟨_, ag⟩
    · exact absurd rf0 a
    · unfold cTurn at ag
      rw [if_neg (by omega), if_neg (by omega)] at ag
      rw [ag]
      exact ⟨s0.stopG hd, F0.up (by unfold DPl; omega)⟩
def DC (o : Int) : Int → Int → Prop := fun x _ => (o + 19 ≤ x ∧ x ≤ o + 27) ∨ x = o + 72 ∨ x = o + 73
def DyV (E : od_E) (g : od_G) (o tl : Int) (cn sn : Nat) (r0 pl : Int → Int) (C x0 : Int) (k s x : Int) (gw : od_G) : Prop := ∃ r : Int → Int, mDys r0 pl C x0 k.toNat = (s, r, x) ∧ StR gw (o + 19) r ∧ LfR gw (o + 19) r pl C sn ∧ r 45 ≠ 0 ∧ r 45 = r0 45 ∧ cLawOf gw (o + 19) (gw (o + 19) 11) = tl ∧ LawOk E gw (o + 70) tl cn sn ∧ (0 ≤ x ∧ x ≤ 1000003) ∧ (0 ≤ s ∧ s ≤ 54 * k) ∧ od_fr (DC o) g gw
theorem dy_ok {E : od_E} {gw : od_G} {o tl : Int} {cn sn : Nat} {r : Int → Int} (hs : StR gw (o + 19) r) (h45 : r 45 ≠ 0) (hl : cLawOf gw (o + 19) (gw (o + 19) 11) = tl) (hW : LawOk E gw (o + 70) tl cn sn) : DyOk E o tl cn sn gw :=
  ⟨StR.CI (gm := rG r) (M := 0) hs, by rw [hs.1.1]; exact h45, hl, hW, by rw [hs.mv.1.1]; exact hs.mv.1.2⟩
theorem dy_J {E : od_E} {g : od_G} {o tl : Int} {cn sn : Nat} {r0 pl : Int → Int} {C x0 : Int} (hqt : tl ≠ -1 → o + 86 ≤ tl) : DyJ E o tl cn sn (DyV E g o tl cn sn r0 pl C x0) := by
  refine ⟨fun k s x gw h => ?_, fun k s x gw g1 g2 h hk h18 hp => ?_⟩
  · obtain ⟨r, h1, hs, hL, h45, e45, hl, hW, bx, bs, f⟩ := h
    exact ⟨dy_ok hs h45 hl hW, bx, bs⟩
  · obtain ⟨r, h1, hs, hL, h45, e45, hl, hW, bx, bs, f⟩ := h
    rw [hs.1.1] at hp
    have n6 := hs.1.2
    have wx := mDw_b bx.1
    have w2 := mDw_b wx.1
    have w3 := mDw_b w2.1
    have hd := mDw_tm bx.1 (n := r 45) (by omega)
    have hb := mDw_tm wx.1 (n := 12) (by omega)
    have hw := mDw_tm w2.1 (n := 3) (by omega)
    obtain ⟨s1, f1⟩ := dy_play hs hL hd hb hw (by omega) hp
    have hi : ∀ y : Int, 19 ≤ y ∨ y = 18 → mDyR r pl C x y = r y := fun y hy => mDyP_hi ⟨hd.1, by omega⟩ hy
    replace s1 : StR g1 (o + 19) (mDyR r pl C x) := s1
    have eN1 : ∀ x : Int, x ≠ o + 19 → x ≠ o + 22 → x ≠ o + 23 → x ≠ o + 72 → x ≠ o + 73 → g1 x = gw x := fun x a0 a1 a2 a3 a4 => f1.row (fun y q => by unfold DPl at q; omega)
    have e0 : ∀ y : Int, y ≠ 9 → g1 (o + 19) y = gw (o + 19) y := fun y hy => f1 _ _ (by unfold DPl; omega)
    have t1 : tl ≠ -1 → TxEq gw g1 tl := fun q => TxEq.of f1 (fun x y z => by have := hqt q; unfold DPl at z; omega)
    have L1 : LfR g1 (o + 19) (mDyR r pl C x) pl C sn := hL.c (e0 10 (by omega)) (e0 11 (by omega)) (eN1 _ (by omega) (by omega) (by omega) (by omega) (by omega)) (by rw [hl]; exact t1) (hi 48 (by omega)) (SlE.lo (fun y hy => hi y (by omega)))
    have l1 : cLawOf g1 (o + 19) (g1 (o + 19) 11) = tl := by
      rw [← hl]
      unfold cLawOf
      rw [e0 10 (by omega), e0 11 (by omega), eN1 (o + 19 + 6) (by omega) (by omega) (by omega) (by omega) (by omega)]
    have W1 : LawOk E g1 (o + 70) tl cn sn := hW.e t1
    have n45 : mDyR r pl C x 45 = r 45 := hi 45 (by omega)
    have n18 : mDyR r pl C x 18 = r 18 := hi 18 (by omega)
    refine ⟨dy_ok s1 (by omega) l1 W1, ?_, fun f2 => ?_⟩
    · rw [eN1 (o + 19 + 5) (by omega) (by omega) (by omega) (by omega) (by omega)]
    · have e18 : r 18 < 999 := by rw [← hs.mv.1.1]; exact h18
      have ps := StR.passG (gm := rG (mDyR r pl C x)) (M := 0) s1 L1 (show mDyR r pl C x 18 < 999 by omega)
      have ld := StR.loud (gm := rG (mDyR r pl C x)) (M := 0) s1 L1 (x := 0) (by omega)
      have lb := cLoud_54 (StR.CI (gm := rG (mDyR r pl C x)) (M := 0) s1) tl 0 sn
      rw [l1] at ps ld
      have eN2 : ∀ x : Int, x ≠ o + 22 → x ≠ o + 23 → x ≠ o + 24 → x ≠ o + 72 → x ≠ o + 73 → g2 x = g1 x := fun x a0 a1 a2 a3 a4 => by
        rw [f2.row (a := x) (fun y q => by omega), cPass_n (by omega) (by omega) (by omega)]
      have hj : ∀ y : Int, 19 ≤ y → mHp (rG (mDyR r pl C x)) 0 pl C y = mDyR r pl C x y := fun y hy => mHp_hi (StR.MI (gm := rG (mDyR r pl C x)) (M := 0) s1) hy
      have e2 : g2 (o + 19) = g1 (o + 19) := eN2 _ (by omega) (by omega) (by omega) (by omega) (by omega)
      have e6 : g2 (o + 19 + 6) = g1 (o + 19 + 6) := eN2 _ (by omega) (by omega) (by omega) (by omega) (by omega)
      have t2 : tl ≠ -1 → TxEq g1 g2 tl := fun q => by
        have := hqt q
        exact ⟨eN2 _ (by omega) (by omega) (by omega) (by omega) (by omega), eN2 _ (by omega) (by omega) (by omega) (by omega) (by omega), eN2 _ (by omega) (by omega) (by omega) (by omega) (by omega), eN2 _ (by omega) (by omega) (by omega) (by omega) (by omega), eN2 _ (by omega) (by omega) (by omega) (by omega) (by omega), eN2 _ (by omega) (by omega) (by omega) (by omega) (by omega), eN2 _ (by omega) (by omega) (by omega) (by omega) (by omega)⟩
      refine ⟨mHp (rG (mDyR r pl C x)) 0 pl C, ?_, ps.cg (fun x x0 x1 => f2.row (fun y q => by omega)), L1.c (by rw [e2]) (by rw [e2]) e6 (by rw [l1]; exact t2) (hj 48 (by omega)) (SlE.lo (fun y hy => hj y (by omega))), ?_, ?_, ?_, W1.e t2, by omega, by omega, ?_⟩
      · rw [ld]; exact mDys_s hk h1 e18
      · rw [hj 45 (by omega)]; omega
      · rw [hj 45 (by omega)]; omega
      · rw [← l1]
        unfold cLawOf
        rw [e2, e6]
      · intro z y hz
        unfold DC at hz
        rw [eN2 z (by omega) (by omega) (by omega) (by omega) (by omega), eN1 z (by omega) (by omega) (by omega) (by omega) (by omega)]
        exact f z y (by unfold DC; omega)
section Days
variable {E : od_E} {o M : Int} {g gm g' gm' : od_G}
/-- what stays when the paper changes -/
theorem Rel2.pap (hE : EW E o M) (h : Rel2 E o M g gm) (pp : PpR g' gm' o M) (fd : FdR g' gm' o M) (e : ∀ x : Int, x ≠ o → (x < o + 19 ∨ o + 27 < x) → ¬ CS o M x → g' x = g x) (em : ∀ x y : Int, x ≠ M + 23 → ¬ (x = M ∧ (y = 49 ∨ y = 0)) → ¬ RS M x y → gm' x y = gm x y) : Rel2 E o M g' gm' := by
  obtain ⟨_, _, o0, oM, _⟩ := hE
  have e1 : ∀ x : Int, (o + 1 ≤ x ∧ x ≤ o + 9) ∨ (o + 28 ≤ x ∧ x ≤ o + 53) ∨ x = o + 60 ∨ x = o + 61 ∨ M + 24 ≤ x → g' x = g x := fun x hx => e x (by omega) (by omega) (by unfold CS; omega)
  have m2 : ∀ y : Int, 0 ≤ y → y < 5256 → ¬ (y = 55 ∨ (2456 ≤ y ∧ y < 2856)) → gm' (M + 2) y = gm (M + 2) y := fun y y0 y1 y2 => em _ _ (by omega) (by omega) (by unfold RS; omega)
  have mr : ∀ x : Int, x = M + 3 ∨ x = M + 4 ∨ x = M + 6 ∨ x = M + 7 → gm' x = gm x := fun x hx => funext fun y => em _ _ (by omega) (by omega) (by unfold RS; omega)
  have m0 : ∀ y : Int, y = 13 ∨ y = 33 → gm' M y = gm M y := fun y hy => em _ _ (by omega) (by omega) (by unfold RS; omega)
  refine ⟨(h.st.cg (fun x x0 x1 => e1 x (by omega))).cr (fun y y0 y1 => m2 y y0 (by omega) (by omega)), h.ls.c h.n47 (e1 _ (by omega)) (fun x hx => e1 x (by omega)) (m2 47 (by omega) (by omega) (by omega)) (fun y hy => m2 y (by omega) (by omega) (by omega)), h.rf.c (e1 _ (by omega)) (e1 _ (by omega)), ?_, fun k k0 k1 => (h.im k k0 k1).c ⟨k0, k1⟩ ⟨o0, oM⟩ (fun x hx => e1 x (by omega)) (fun y _ _ => by rw [mr (M + 3) (by omega)]) (by rw [mr (M + 4) (by omega)]), (h.pa.cg (fun x x0 x1 => e1 x (by omega))).cm h.st.1.2.2 (m0 _ (by omega)) (m2 _ (by omega) (by omega) (by omega)) (fun d d0 d1 => m2 _ (by omega) (by omega) (by omega)) (fun y y0 y1 => em _ _ (by omega) (by omega) (by unfold RS; omega)), h.tp.c (by rw [e1 (o + 60) (by omega)]) (e1 _ (by omega)) (m0 _ (by omega)) (mr _ (by omega)) (mr _ (by omega)), fd, pp⟩
  unfold cImg
  rw [e1 (o + 28) (by omega)]
  exact h.ig
theorem dk_iff (x n : Int) : DkC x n ↔ mDok x n := by unfold DkC mDok mLies; omega
theorem p_days (hE : EW E o M) (hR : Rel2 E o M g g) (x0 n : Int) : od_Pr E o M g 0 8 mX10_days [(2, o), (0, x0), (0, n)] 48 mX11_days [(2, M), (0, x0), (0, n)] := by
  obtain ⟨pl, C, cn, sn, hL, hW, hT⟩ := hR.law hE
  have oM := hE.2.2
  have hq : cLawOf g (o + 1) (g (o + 1) 11) ≠ -1 → o + 86 ≤ cLawOf g (o + 1) (g (o + 1) 11) := fun q => by have := hT q; omega
  have hI0 : DkC x0 n → g (o + 1) 8 ≠ 0 → DyV E g o (cLawOf g (o + 1) (g (o + 1) 11)) cn sn (g (M + 2)) pl C x0 0 0 x0 (cBecome g (o + 19) (o + 1)) := by
    intro hk h8
    have lb := hL.become (k := o + 19) (fun q => by have := hq q; omega)
    have sb := hR.st.become (k := o + 19)
    unfold DkC at hk
    refine ⟨g (M + 2), by first | rfl | (show mDys _ _ _ _ 0 = _; unfold mDys; rfl), sb, lb.1, by rw [← hR.st.1.1]; exact h8, rfl, lb.2, hW.e (fun q => ?_), by omega, by omega, fun x y hx => by unfold DC at hx; rw [cBec_n (by omega)]⟩
    have := hq q
    exact ⟨cBec_n (by omega), cBec_n (by omega), cBec_n (by omega), cBec_n (by omega), cBec_n (by omega), cBec_n (by omega), cBec_n (by omega)⟩
  have key : ∀ g1, (∀ x : Int, M ≤ x → x < M + 24 → g1 x = g x) → Rel2 E o M g g1 → od_Cq 48 mX11_days [(2, M), (0, x0), (0, n)] E g1 (E, DyQ g1 M pl C x0 n) := fun g1 e r1 => c_X11_days hE.2.1 r1.st.MI r1.st.MJ (by rw [e (M + 2) (by omega) (by omega)]; exact hL.F) r1.st.mv.1.2 x0 n
  refine pr_i hE hR (c_X10_days hE.1 (dy_J hq) hq hR.rf.cRefs x0 n hI0) (fun w g1 q => ?_)
  rcases q with ⟨a, ew, eg⟩ | ⟨a, a8, ew, eg⟩ | ⟨a, a8, k, s, x, gw, hk, hI, he, ew, eg⟩
  · have eM : ∀ x : Int, M ≤ x → x < M + 24 → g1 x = g x := fun x x0 x1 => by rw [eg]; exact (cRef_f od_fr.rf).row (fun y z => by unfold FC at z; omega)
    refine ⟨eM, fun r1 => ⟨_, ew, _, key g1 eM r1, fun w' g2 q' => ?_⟩⟩
    rcases q' with ⟨b, ew', eg'⟩ | ⟨b, _⟩ | ⟨b, _⟩
    · refine ⟨ew', fun x hx => by rw [eg']; exact (mRef_f od_fr.rf).row (fun y z => by unfold FM at z; omega), ?_⟩
      have z := k_ref hE r1 (w := -1) (by omega)
      rw [← eg, ← eg'] at z
      exact z
    · exact absurd ((dk_iff x0 n).mpr b) a
    · exact absurd ((dk_iff x0 n).mpr b) a
  · have eM : ∀ x : Int, M ≤ x → x < M + 24 → g1 x = g x := fun x x0 x1 => by rw [eg]; exact (cRef_f od_fr.rf).row (fun y z => by unfold FC at z; omega)
    have n8 := hR.st.1.1
    refine ⟨eM, fun r1 => ⟨_, ew, _, key g1 eM r1, fun w' g2 q' => ?_⟩⟩
    rcases q' with ⟨b, _⟩ | ⟨_, _, ew', eg'⟩ | ⟨_, b, _⟩
    · exact absurd ((dk_iff x0 n).mp a) b
    · refine ⟨ew', fun x hx => by rw [eg']; exact (mRef_f od_fr.rf).row (fun y z => by unfold FM at z; omega), ?_⟩
      have z := k_ref hE r1 (w := -3) (by omega)
      rw [← eg, ← eg'] at z
      exact z
    · rw [eM (M + 2) (by omega) (by omega)] at b
      omega
  · obtain ⟨r, h1, hs, _, _, e45, _, _, _, _, f⟩ := hI
    have eW : ∀ x : Int, x ≠ o → g1 x = gw x := fun x hx => by rw [eg]; exact od_up_ne hx
    have eF : ∀ x : Int, (x < o + 19 ∨ o + 27 < x) → x ≠ o + 72 → x ≠ o + 73 → gw x = g x := fun x a0 a1 a2 => f.row (fun y z => by unfold DC at z; omega)
    have eM : ∀ x : Int, M ≤ x → x < M + 24 → g1 x = g x := fun x x0 x1 => by rw [eW x (by omega), eF x (by omega) (by omega) (by omega)]
    have hN : mDys (g (M + 2)) pl C x0 n.toNat = (s, r, x) := by
      rcases he with he | he
      · rw [← he]; exact h1
      · rw [hs.mv.1.1] at he
        have z := mDys_e h1 (by omega) (n.toNat - k.toNat)
        rw [show k.toNat + (n.toNat - k.toNat) = n.toNat by omega] at z
        exact z
    have n8 := hR.st.1
    refine ⟨eM, fun r1 => ⟨_, ew, _, key g1 eM r1, fun w' g2 q' => ?_⟩⟩
    rcases q' with ⟨b, _⟩ | ⟨_, b, _⟩ | ⟨_, _, ew', f2, e0, e49, e23⟩
    · exact absurd ((dk_iff x0 n).mp a) b
    · rw [eM (M + 2) (by omega) (by omega)] at b
      omega
    · rw [eM (M + 2) (by omega) (by omega), hN] at ew' e23
      rw [eM (M + 2) (by omega) (by omega)] at e49
      refine ⟨ew', fun x hx => f2.row (fun y z => by unfold DY SQ at z; omega), ?_⟩
      have n6 := hs.1
      refine r1.pap hE ⟨by omega, ?_, fun d d0 d1 => ?_⟩ ⟨⟨?_, ?_, ?_, ?_⟩, fun i i0 i1 => ?_⟩ (fun x a0 a1 a2 => ?_) (fun x y a0 a1 a2 => f2 x y (fun z => by unfold DY SQ at z; unfold RS at a2; omega))
      · rw [eW (o + 19) (by omega), if_neg (by omega)]; omega
      · have z := hs.2.1 d d0 (by omega)
        have y0 := e23 d (by omega) (by omega)
        have y6 := e23 (6 + d) (by omega) (by omega)
        have y12 := e23 (12 + d) (by omega) (by omega)
        rw [y0, y6, y12, eW (o + 19) (by omega), eW (o + 19 + 3) (by omega), eW (o + 19 + 4) (by omega)]
        refine ⟨z.2.2.1, z.2.2.2.1, ?_⟩
        have zb := z.2.2.2.2.2.2.2.1
        show _ = r (12 + d)
        rcases z.2.2.2.2.2.2.1 with c | c
        · rw [od_b_f (fun q => by have := zb.mp q; omega), c]
        · rw [od_b_t (zb.mpr c), c]
      · rw [eg, e0]; exact od_up_i
      · rw [eg, f2 M 14 (by unfold DY SQ; omega)]
        show od_up gw o 15 0 o 16 = _
        rw [od_up_j (by omega), eF o (by omega) (by omega) (by omega)]
        exact r1.fd.1.2.1
      · rw [eg, f2 M 41 (by unfold DY SQ; omega)]
        show od_up gw o 15 0 o 17 = _
        rw [od_up_j (by omega), eF o (by omega) (by omega) (by omega)]
        exact r1.fd.1.2.2.1
      · rw [eg, f2 M 6 (by unfold DY SQ; omega)]
        show od_up gw o 15 0 o 18 = _
        rw [od_up_j (by omega), eF o (by omega) (by omega) (by omega)]
        exact r1.fd.1.2.2.2
      · rw [eW (o + 85) (by omega), eF (o + 85) (by omega) (by omega) (by omega), f2 (M + 1) i (by unfold DY SQ; omega)]
        exact r1.fd.2 i i0 i1
      · rw [eW x a0, eF x (by omega) (by unfold CS at a2; omega) (by unfold CS at a2; omega)]
end Days
