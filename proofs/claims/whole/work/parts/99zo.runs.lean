/-! orders: run alike -/
theorem mOrd_n {g : od_G} {M : Int} {pl : Int → Int} {C : Int} {cl : Nat → pC} {n : Nat} (h : mOrd g M pl C cl n = none) : ∀ m : Nat, mOrd g M pl C cl (n + m) = none := by
  intro m
  induction m with
  | zero => exact h
  | succ m ih =>
    show mOrd g M pl C cl ((n + m) + 1) = none
    unfold mOrd
    rw [ih]
theorem mOrd_no {g g2 : od_G} {M : Int} {pl : Int → Int} {C a b : Int} {cl : Nat → pC} (h : mOrd g M pl C cl (a + 1).toNat = none) (ha : 0 ≤ a) (hab : a + 1 ≤ b) (h2 : mOrd g M pl C cl b.toNat = some g2) : False := by
  have z := mOrd_n h (b.toNat - (a + 1).toNat)
  rw [show (a + 1).toNat + (b.toNat - (a + 1).toNat) = b.toNat by omega, h2] at z
  cases z
def OS0 (g : od_G) (M : Int) (gS : od_G) : Prop := od_fr (fun x y => OBg M x y ∨ x < M ∨ M + 24 ≤ x) g gS ∧ gS M 27 = 0 ∧ gS M 28 = -1
theorem OS0_ex (g : od_G) (M : Int) : OS0 g M (od_up (od_up g M 27 0) M 28 (-1)) :=
  ⟨(od_fr.rf.up (by unfold OBg XE XD XL; omega)).up (by unfold OBg XE XD XL; omega), by rw [od_up_j (by omega), od_up_i], od_up_i⟩
def ON (o : Int) : Int → Int → Prop := fun x _ => x = o + 1 ∨ (o + 4 ≤ x ∧ x ≤ o + 6) ∨ (o + 48 ≤ x ∧ x ≤ o + 53) ∨ x = o + 72 ∨ x = o + 73 ∨ (o + 75 ≤ x ∧ x ≤ o + 76)
def OrK (E : od_E) (o M tl : Int) (cn sn : Nat) (pl : Int → Int) (C : Int) (gR gw g2 : od_G) : Prop := StR gw (o + 1) (g2 (M + 2)) ∧ PaR gw (o + 48) g2 M ∧ LfR gw (o + 1) (g2 (M + 2)) pl C sn ∧ cLawOf gw (o + 1) (gw (o + 1) 11) = tl ∧ LawOk E gw (o + 70) tl cn sn ∧ od_fr (ON o) gR gw
section Run2
variable {E : od_E} {g : od_G} {o M tl : Int} {cn sn : Nat} {pl : Int → Int} {C : Int} {gR : od_G}
theorem OrK.c (hq : tl ≠ -1 → o + 86 ≤ tl) {gw g' g2 : od_G} (h : OrK E o M tl cn sn pl C gR gw g2) (f : od_fr (fun x _ => x = o + 72 ∨ x = o + 73 ∨ x = o + 75 ∨ x = o + 76) gw g') : OrK E o M tl cn sn pl C gR g' g2 := by
  obtain ⟨a, b, c, d, e, F⟩ := h
  have er : ∀ x : Int, x ≠ o + 72 → x ≠ o + 73 → x ≠ o + 75 → x ≠ o + 76 → g' x = gw x := fun x a1 a2 a3 a4 => f.row (fun y q => by omega)
  have t : tl ≠ -1 → TxEq gw g' tl := fun q => TxEq.of f (fun x y z => by have := hq q; omega)
  have e1 := er (o + 1) (by omega) (by omega) (by omega) (by omega)
  have e7 := er (o + 1 + 6) (by omega) (by omega) (by omega) (by omega)
  refine ⟨a.cg (fun x x0 x1 => er x (by omega) (by omega) (by omega) (by omega)), b.cg (fun x x0 x1 => er x (by omega) (by omega) (by omega) (by omega)), c.c (by rw [e1]) (by rw [e1]) e7 (by rw [d]; exact t) rfl (SlE.rf _), ?_, e.e t, fun x y hx => (f x y (by unfold ON at hx; omega)).trans (F x y hx)⟩
  unfold cLawOf at d ⊢
  rw [e1, e7]
  exact d
theorem OrK.m {gw g2 g3 : od_G} (h : OrK E o M tl cn sn pl C gR gw g2) (e2 : g3 (M + 2) = g2 (M + 2)) (e33 : g3 M 33 = g2 M 33) (e14 : g3 (M + 14) = g2 (M + 14)) : OrK E o M tl cn sn pl C gR gw g3 :=
  ⟨by rw [e2]; exact h.1, h.2.1.cm h.1.1.2.2 e33 (by rw [e2]) (fun d _ _ => by rw [e2]) (fun y _ _ => by rw [e14]), by rw [e2]; exact h.2.2.1, h.2.2.2⟩
theorem mPaK_54 {gm : od_G} (hI : MI gm M) : (mPaK gm M pl C).1 ≤ 54 := by
  have l := mLoud_54 hI pl C 0
  unfold mPaK
  by_cases c : gm (M + 2) 18 = 999
  · rw [od_ip_t c]; show (-3 : Int) ≤ 54; omega
  · rw [od_ip_f c]; exact l.2
theorem OrK.ch (hq : tl ≠ -1 → o + 86 ≤ tl) {g4 g5 g2 : od_G} (h : OrK E o M tl cn sn pl C gR g4 g2) {kd x y v : Int} (hk : 0 ≤ kd ∧ kd ≤ 3) (hc : cChanged g4 (o + 70) (o + 48) (o + 1) kd x y sn v g5) : v = (mObx g2 M pl C kd x y).1 ∧ OrK E o M tl cn sn pl C gR g5 (mObx g2 M pl C kd x y).2 ∧ (0 ≤ v → (mObx g2 M pl C kd x y).2 M 28 = od_ite (kd = 3) v (g2 M 28)) ∧ (mObx g2 M pl C kd x y).2 M 27 = g2 M 27 ∧ (kd = 3 → v ≤ 54) := by
  obtain ⟨a, b, c, d, e, F⟩ := h
  have hT : cLawOf g4 (o + 1) (g4 (o + 1) 11) ≠ -1 → o + 86 ≤ cLawOf g4 (o + 1) (g4 (o + 1) 11) := by rw [d]; exact hq
  obtain ⟨r1, r2, r3, r4, r5⟩ := ob_ch a b c hT (by omega) hk hc
  have hO : OrI g2 M pl C := ⟨a.MI, a.MJ, c.F, a.mv.1.2, b.2.1.2⟩
  have f := mObx_f (kd := kd) (x := x) (y := y) hO
  have v54 : kd = 3 → v ≤ 54 := fun q => by
    rw [r1, q]
    have e3 : (mObx g2 M pl C 3 x y).1 = (mPaK g2 M pl C).1 := by
      unfold mObx
      rw [if_neg (by omega), if_neg (by omega), if_pos rfl]
    rw [e3]
    exact mPaK_54 a.MI
  have hi : ∀ z : Int, 19 ≤ z → (mObx g2 M pl C kd x y).2 (M + 2) z = g2 (M + 2) z := fun z hz => f _ _ (by unfold KF; omega)
  have er : ∀ z : Int, z ≠ o + 72 → z ≠ o + 73 → (z < o + 48 ∨ o + 53 < z) → z ≠ o + 1 → (z < o + 4 ∨ o + 6 < z) → g5 z = g4 z := fun z a1 a2 a3 a4 a5 => cChanged_row hc ⟨by omega, by omega⟩ (by omega) ⟨by omega, by omega, by omega, by omega⟩
  have t : tl ≠ -1 → TxEq g4 g5 tl := fun q => by
    have := hq q
    exact ⟨er _ (by omega) (by omega) (by omega) (by omega) (by omega), er _ (by omega) (by omega) (by omega) (by omega) (by omega), er _ (by omega) (by omega) (by omega) (by omega) (by omega), er _ (by omega) (by omega) (by omega) (by omega) (by omega), er _ (by omega) (by omega) (by omega) (by omega) (by omega), er _ (by omega) (by omega) (by omega) (by omega) (by omega), er _ (by omega) (by omega) (by omega) (by omega) (by omega)⟩
  have e10 : g5 (o + 1) 10 = g4 (o + 1) 10 := by rw [r2.2.2.2.2.2.1.1, a.2.2.2.2.2.1.1, hi 47 (by omega)]
  have e11 : g5 (o + 1) 11 = g4 (o + 1) 11 := by rw [r2.2.2.2.2.2.2.1.1, a.2.2.2.2.2.2.1.1, hi 48 (by omega)]
  have e7 := er (o + 1 + 6) (by omega) (by omega) (by omega) (by omega) (by omega)
  refine ⟨r1, ⟨r2, r3, c.c e10 e11 e7 (by rw [d]; exact t) (hi 48 (by omega)) (SlE.lo (fun z hz => hi z (by omega))), ?_, e.e t, fun z w hz => ?_⟩, r4, r5, v54⟩
  · unfold cLawOf at d ⊢
    rw [e10, e11, e7]
    exact d
  · unfold ON at hz
    rw [er z (by omega) (by omega) (by omega) (by omega) (by omega)]
    exact F z w (by unfold ON; omega)
end Run2
def OrV (E : od_E) (o M tl : Int) (cn sn : Nat) (pl : Int → Int) (C : Int) (cl : Nat → pC) (gR gS : od_G) (c i : Int) (gw : od_G) : Prop := ∃ ga g2 : od_G, (mOrd gS M pl C cl c.toNat = some ga ∧ mTms ga M pl C (cl c.toNat) i.toNat = some g2) ∧ OrK E o M tl cn sn pl C gR gw g2 ∧ (gw (o + 75) 4 = g2 M 27 ∧ gw (o + 75) 3 = g2 M 28) ∧ ((0 ≤ c ∧ c ≤ 12) ∧ (0 ≤ i ∧ i ≤ 20) ∧ (c < gR (o + 63) 6 → i ≤ (cl c.toNat).2.1)) ∧ (0 ≤ g2 M 27 ∧ g2 M 27 ≤ 20 * c + i) ∧ -1 ≤ g2 M 28 ∧ g2 M 28 ≤ 54
def OrW (E : od_E) (g : od_G) (o M tl : Int) (cn sn : Nat) (pl : Int → Int) (C : Int) (cl : Nat → pC) (gR : od_G) (c i : Int) (gw : od_G) : Prop := ∀ gS : od_G, OS0 g M gS → OrV E o M tl cn sn pl C cl gR gS c i gw
def OrF (g : od_G) (o M : Int) (pl : Int → Int) (C : Int) (cl : Nat → pC) (gR : od_G) (c : Int) (g5 : od_G) : Prop := od_fr (ON o) gR g5 ∧ ∀ gS : od_G, OS0 g M gS → (c = -1 ∧ ∃ g2 : od_G, mOrd gS M pl C cl (gR (o + 63) 6).toNat = some g2 ∧ StR g5 (o + 1) (g2 (M + 2)) ∧ PaR g5 (o + 48) g2 M ∧ g5 (o + 75) 4 = g2 M 27) ∨ (0 ≤ c ∧ c < gR (o + 63) 6 ∧ (∃ ga : od_G, mOrd gS M pl C cl c.toNat = some ga) ∧ mOrd gS M pl C cl (c + 1).toNat = none)
def ClA (gR : od_G) (o : Int) (cl : Nat → pC) : Prop := (1 ≤ gR (o + 63) 6 ∧ gR (o + 63) 6 ≤ 12) ∧ (0 ≤ gR (o + 63) 7 ∧ gR (o + 63) 7 ≤ 400) ∧ ∀ c : Int, 0 ≤ c → c < gR (o + 63) 6 → ClOk false gR (o + 63) c (gR (o + 63) 7) (cl c.toNat) ∧ (0 ≤ (cl c.toNat).1 ∧ (cl c.toNat).1 ≤ 3) ∧ (1 ≤ (cl c.toNat).2.1 ∧ (cl c.toNat).2.1 ≤ 20) ∧ pBd (cl c.toNat).2.2.1 ∧ pBd (cl c.toNat).2.2.2.1
theorem pEv_x {o : Option Int} (h : pEv o ≠ -2000000000) : ∃ x : Int, o = some x ∧ pEv o = x := by
  cases o with
  | none => exact absurd rfl h
  | some x => exact ⟨x, rfl, rfl⟩
theorem pEv_n {D : pD} {w : Int → Int} (hD : pBd D) (hw : ∀ i : Int, pBs (w i)) (h : pEv (D w) = -2000000000) : D w = none := by
  cases e : D w with
  | none => rfl
  | some x =>
    have b := hD w hw x e
    rw [e] at h
    have h' : x = -2000000000 := h
    unfold pBs at b
    omega
theorem or_no {ga : od_G} {gS : od_G} {M : Int} {pl : Int → Int} {C : Int} {cl : Nat → pC} {c i : Int} (c0 : 0 ≤ c) (i0 : 0 ≤ i) (it : i < (cl c.toNat).2.1) (m1 : mOrd gS M pl C cl c.toNat = some ga) (m3 : mTms ga M pl C (cl c.toNat) (i + 1).toNat = none) : mOrd gS M pl C cl (c + 1).toNat = none := by
  rw [mOrd_s c0 m1]
  have z := mTms_n m3 ((cl c.toNat).2.1.toNat - (i + 1).toNat)
  rw [show (i + 1).toNat + ((cl c.toNat).2.1.toNat - (i + 1).toNat) = (cl c.toNat).2.1.toNat by omega] at z
  exact z
theorem or_run {E : od_E} {g : od_G} {o M tl : Int} {cn sn : Nat} {pl : Int → Int} {C : Int} {cl : Nat → pC} {gR : od_G} (hq : tl ≠ -1 → o + 86 ≤ tl) (hA : ClA gR o cl) : RunI E gR (o + 75) (o + 70) (o + 1) (o + 48) (o + 63) tl cn sn 512 (OrW E g o M tl cn sn pl C cl gR) (OrF g o M pl C cl gR) := by
  obtain ⟨aC, aZ, aK⟩ := hA
  refine ⟨fun c i gw h => ?_, fun c i gw g' h c0 c1 i0 i1 it hne f gS hS => ?_, fun c i gw g4 v g5 h c0 c1 i0 i1 it h1 hx hy f hc er => ?_, fun c i gw g' h c0 c1 i0 i1 it h1 hxy f => ?_, fun c i gw h c0 c1 i0 ht gS hS => ?_, fun c gw h hc => ?_⟩
  · obtain ⟨ga, g2, _, hK, ⟨e4, e3⟩, ⟨bc, bi, _⟩, b27, _⟩ := h _ (OS0_ex g M)
    obtain ⟨a, b, c', d, e, F⟩ := hK
    refine ⟨⟨by rw [a.1.1]; exact a.1.2, by rw [a.mv.1.1]; exact a.mv.1.2, d, e, fun d' hd => ?_, b.1, by rw [b.2.1.1]; exact b.2.1.2, TxEq.of F (fun x y z => by unfold ON at z; omega)⟩, by omega⟩
    have q := (a.has d').mp hd
    have z := a.2.1 d' q.1 q.2
    rw [z.1]
    exact z.2.2.2.2.1.1
  · obtain ⟨ga, g2, ⟨m1, m2⟩, hK, ⟨e4, e3⟩, ⟨bc, bi, bt⟩, b27, b28⟩ := h gS hS
    obtain ⟨⟨k1, k2, k3, k4, k5⟩, kk, kt, kb1, kb2⟩ := aK c c0 c1
    have v5 := ov_eq k5 aZ.2 hK.1 hK.2.2.1 hK.2.2.2.1 e4 e3 (by unfold pBs; omega) (by unfold pBs; omega)
    rw [v5] at hne
    rw [k2] at it
    have e75 : g' (o + 75) = gw (o + 75) := f.row (fun y q => by omega)
    refine ⟨ga, g2, ⟨m1, ?_⟩, hK.c hq (f.mo (fun x y z => by omega)), by rw [e75]; exact ⟨e4, e3⟩, ⟨bc, by omega, fun _ => by omega⟩, by omega, b28⟩
    rw [mTms_s bi.1 m2]
    exact mOne_n (fun q => hne (pEv_1.mpr q))
  · obtain ⟨⟨k1, k2, k3, k4, k5⟩, kk, kt, kb1, kb2⟩ := aK c c0 c1
    rw [k2] at it
    rw [k1] at hc
    have key : ∀ gS : od_G, OS0 g M gS → ∃ (ga g2 : od_G) (x y : Int), mOrd gS M pl C cl c.toNat = some ga ∧ mTms ga M pl C (cl c.toNat) (i + 1).toNat = mOne g2 M pl C (cl c.toNat) ∧ (cl c.toNat).2.2.2.2 (mEn g2 M pl C) = some 1 ∧ (cl c.toNat).2.2.1 (mEn g2 M pl C) = some x ∧ (cl c.toNat).2.2.2.1 (mEn g2 M pl C) = some y ∧ v = (mObx g2 M pl C (cl c.toNat).1 x y).1 ∧ OrK E o M tl cn sn pl C gR g5 (mObx g2 M pl C (cl c.toNat).1 x y).2 ∧ (0 ≤ v → (mObx g2 M pl C (cl c.toNat).1 x y).2 M 28 = od_ite ((cl c.toNat).1 = 3) v (g2 M 28)) ∧ (mObx g2 M pl C (cl c.toNat).1 x y).2 M 27 = g2 M 27 ∧ ((cl c.toNat).1 = 3 → v ≤ 54) ∧ (gw (o + 75) 4 = g2 M 27 ∧ gw (o + 75) 3 = g2 M 28) ∧ (0 ≤ c ∧ c ≤ 12) ∧ (0 ≤ g2 M 27 ∧ g2 M 27 ≤ 20 * c + i) ∧ -1 ≤ g2 M 28 ∧ g2 M 28 ≤ 54 := fun gS hS => by
      obtain ⟨ga, g2, ⟨m1, m2⟩, hK, ⟨e4, e3⟩, ⟨bc, bi, bt⟩, b27, b28⟩ := h gS hS
      have p27 : pBs (g2 M 27) := by unfold pBs; omega
      have p28 : pBs (g2 M 28) := by unfold pBs; omega
      have v5 := ov_eq k5 aZ.2 hK.1 hK.2.2.1 hK.2.2.2.1 e4 e3 p27 p28
      have v3 := ov_eq k3 aZ.2 hK.1 hK.2.2.1 hK.2.2.2.1 e4 e3 p27 p28
      have v4 := ov_eq k4 aZ.2 hK.1 hK.2.2.1 hK.2.2.2.1 e4 e3 p27 p28
      have h1' := h1
      have hx' := hx
      have hy' := hy
      rw [v5] at h1'
      rw [v3] at hx'
      rw [v4] at hy'
      obtain ⟨x, ex, px⟩ := pEv_x hx'
      obtain ⟨y, ey, py⟩ := pEv_x hy'
      have hc' := hc
      rw [v3, v4, px, py] at hc'
      have K4 := hK.c hq (f.mo (fun x y z => by omega))
      obtain ⟨r1, r2, r4, r5, r6⟩ := K4.ch hq kk hc'
      exact ⟨ga, g2, x, y, m1, mTms_s bi.1 m2, pEv_1.mp h1', ex, ey, r1, r2, r4, r5, r6, ⟨e4, e3⟩, bc, b27, b28⟩
    refine ⟨fun hv gS hS => ?_, fun hv => ⟨?_, fun gS hS => ?_⟩⟩
    · obtain ⟨ga, g2, x, y, m1, m3, d5, d3, d4, r1, r2, r4, r5, r6, ⟨e4, e3⟩, bc, b27, b28⟩ := key gS hS
      have r4' := r4 hv
      refine ⟨ga, _, ⟨m1, m3.trans (mOne_t d5 d3 d4 (by omega))⟩, (r2.c hq ((od_fr.rf.up (by omega)).up (by omega))).m (od_up_ne (by omega)) (od_up_j (by omega)) (od_up_ne (by omega)), ⟨?_, ?_⟩, ⟨bc, by omega, fun _ => by omega⟩, ?_, ?_⟩
      · rw [od_up_j (by omega), od_up_i, od_up_i, er, r5, e4]
      · rw [od_up_i, od_up_j (by omega), r4', er, k1, e3]
      · rw [od_up_i, r5]; omega
      · rw [od_up_j (by omega), r4']
        by_cases q : (cl c.toNat).1 = 3
        · rw [od_ite_t q]; have := r6 q; omega
        · rw [od_ite_f q]; exact b28
    · obtain ⟨ga, g2, x, y, m1, m3, d5, d3, d4, r1, r2, _⟩ := key _ (OS0_ex g M)
      exact r2.2.2.2.2.2
    · obtain ⟨ga, g2, x, y, m1, m3, d5, d3, d4, r1, r2, _⟩ := key gS hS
      exact Or.inr ⟨c0, c1, ⟨ga, m1⟩, or_no c0 i0 it m1 (m3.trans (mOne_f d5 d3 d4 (by omega)))⟩
  · obtain ⟨⟨k1, k2, k3, k4, k5⟩, kk, kt, kb1, kb2⟩ := aK c c0 c1
    rw [k2] at it
    refine ⟨?_, fun gS hS => ?_⟩
    · obtain ⟨ga, g2, ⟨m1, m2⟩, hK, _⟩ := h _ (OS0_ex g M)
      exact (hK.c hq (f.mo (fun x y z => by omega))).2.2.2.2.2
    · obtain ⟨ga, g2, ⟨m1, m2⟩, hK, ⟨e4, e3⟩, ⟨bc, bi, bt⟩, b27, b28⟩ := h gS hS
      have p27 : pBs (g2 M 27) := by unfold pBs; omega
      have p28 : pBs (g2 M 28) := by unfold pBs; omega
      have v5 := ov_eq k5 aZ.2 hK.1 hK.2.2.1 hK.2.2.2.1 e4 e3 p27 p28
      have v3 := ov_eq k3 aZ.2 hK.1 hK.2.2.1 hK.2.2.2.1 e4 e3 p27 p28
      have v4 := ov_eq k4 aZ.2 hK.1 hK.2.2.1 hK.2.2.2.1 e4 e3 p27 p28
      have hb : ∀ i : Int, pBs (mEn g2 M pl C i) := fun i => mEn_b hK.1 p27 p28 i
      rw [v5] at h1
      rw [v3, v4] at hxy
      exact Or.inr ⟨c0, c1, ⟨ga, m1⟩, or_no c0 i0 it m1 ((mTms_s bi.1 m2).trans (mOne_x (pEv_1.mp h1) (hxy.elim (fun z => Or.inl (pEv_n kb1 hb z)) (fun z => Or.inr (pEv_n kb2 hb z)))))⟩
  · obtain ⟨ga, g2, ⟨m1, m2⟩, hK, e43, ⟨bc, bi, bt⟩, b27, b28⟩ := h gS hS
    obtain ⟨⟨k1, k2, _⟩, kk, kt, _⟩ := aK c c0 c1
    rw [k2] at ht
    have ei : i = (cl c.toNat).2.1 := by have := bt c1; omega
    refine ⟨g2, g2, ⟨?_, rfl⟩, hK, e43, ⟨by omega, by omega, fun q => ?_⟩, by omega, b28⟩
    · rw [mOrd_s c0 m1, ← ei]; exact m2
    · have := (aK (c + 1) (by omega) q).2.2.1.1
      omega
  · refine ⟨?_, fun gS hS => Or.inl ⟨rfl, ?_⟩⟩
    · obtain ⟨ga, g2, ⟨m1, m2⟩, hK, _⟩ := h _ (OS0_ex g M)
      exact hK.2.2.2.2.2
    · obtain ⟨ga, g2, ⟨m1, m2⟩, hK, ⟨e4, _⟩, _⟩ := h gS hS
      have z : some ga = some g2 := m2
      injection z with z
      subst z
      rw [← hc]
      exact ⟨ga, m1, hK.1, hK.2.1, e4⟩
