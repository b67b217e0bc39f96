/-! changes: image, back; pin, shift, stop, pass -/
section Changes3
variable {E : od_E} {o M : Int} {g gm g' gm' : od_G}
theorem cBec_0 {k j y : Int} (h : 8 ≤ y ∧ y ≤ 12) : cBecome g k j k y = g j y := by
  unfold cBecome
  rw [if_pos (by omega), show k - k + j = j by omega]
theorem cBec_i {k j i y : Int} (h : (1 ≤ i ∧ i ≤ 4 ∧ 0 ≤ y ∧ y < 6) ∨ (i = 5 ∧ 0 ≤ y ∧ y < 3) ∨ (6 ≤ i ∧ i ≤ 8 ∧ 0 ≤ y ∧ y < 6)) : cBecome g k j (k + i) y = g (j + i) y := by
  unfold cBecome
  rw [if_pos (by omega), show k + i - k + j = j + i by omega]
theorem cBec_n {k j x : Int} (h : x < k ∨ k + 8 < x) : cBecome g k j x = g x := by
  funext y
  unfold cBecome
  rw [if_neg (by omega)]
theorem StR.become {k j : Int} {r : Int → Int} (h : StR g j r) : StR (cBecome g k j) k r := by
  have n := h.1.2
  have n46 := h.2.2.2.2.2.2.2.1.2
  obtain ⟨h1, h2, h3, h4, h5, h7, h9, h10, h11⟩ := h
  unfold StR
  rw [cBec_0 (by omega), cBec_0 (by omega), cBec_0 (by omega), cBec_0 (by omega), cBec_0 (by omega), cBec_i (i := 5) (by omega), cBec_i (i := 5) (by omega), cBec_i (i := 5) (by omega)]
  refine ⟨h1, fun d d0 d1 => ?_, h3, h4, h5, h7, h9, h10, fun i i0 i1 => ?_⟩
  · unfold DrR
    rw [cBec_0 (by omega), cBec_i (i := 1) (by omega), cBec_i (i := 2) (by omega), cBec_i (i := 3) (by omega), cBec_i (i := 4) (by omega)]
    exact h2 d d0 d1
  · rw [cBec_i (i := 7) (by omega), cBec_i (i := 8) (by omega)]
    exact h11 i i0 i1
theorem LsR.become {k j : Int} {r : Int → Int} {lo : Int} (h : LsR E g j r lo) (h6 : r 47 ≤ 6) (hk : k + 8 < lo) : LsR E (cBecome g k j) k r lo := by
  obtain ⟨pls, Cs, cn, sn, h⟩ := h
  refine ⟨pls, Cs, cn, sn, fun t t0 t1 => ?_⟩
  have z := h t t0 t1
  have z1 := z.1
  rw [cBec_i (i := 6) (by omega)]
  refine ⟨z1, z.2.1, by rw [cBec_n (by omega)]; exact z.2.2.1, z.2.2.2.e ⟨cBec_n (by omega), cBec_n (by omega), cBec_n (by omega), cBec_n (by omega), cBec_n (by omega), cBec_n (by omega), cBec_n (by omega)⟩⟩
theorem RfR.become {k j lo : Int} (h : RfR E g j lo) : RfR E (cBecome g k j) k lo := by
  refine ⟨fun y y0 y1 => ?_, fun y y0 y1 => ?_⟩
  · rw [cBec_i (i := 6) (by omega)]; exact h.1 y y0 y1
  · rw [cBec_i (i := 8) (by omega)]; exact h.2 y y0 y1
/-- what stays when an image changes -/
theorem Rel2.img (hE : EW E o M) (h : Rel2 E o M g gm) (im : ∀ k : Int, 0 ≤ k → k < 2 → ImR E g' gm' o M k) (e : ∀ x : Int, (x < o + 29 ∨ o + 47 < x) → ¬ CS o M x → g' x = g x) (em : ∀ x y : Int, x ≠ M + 3 → x ≠ M + 4 → ¬ RS M x y → gm' x y = gm x y) : Rel2 E o M g' gm' := by
  obtain ⟨_, _, o0, oM, _⟩ := hE
  refine ⟨(h.st.cg (fun x x0 x1 => e x (by omega) (by unfold CS; omega))).cr (fun y y0 y1 => em _ _ (by omega) (by omega) (by unfold RS; omega)), h.ls.c h.n47 (e _ (by omega) (by unfold CS; omega)) (fun x hx => e x (by omega) (by unfold CS; omega)) (em _ _ (by omega) (by omega) (by unfold RS; omega)) (fun y hy => em _ _ (by omega) (by omega) (by unfold RS; omega)), h.rf.c (e _ (by omega) (by unfold CS; omega)) (e _ (by omega) (by unfold CS; omega)), ?_, im, (h.pa.cg (fun x x0 x1 => e x (by omega) (by unfold CS; omega))).cm h.st.1.2.2 (em _ _ (by omega) (by omega) (by unfold RS; omega)) (em _ _ (by omega) (by omega) (by unfold RS; omega)) (fun d d0 d1 => em _ _ (by omega) (by omega) (by unfold RS; omega)) (fun y y0 y1 => em _ _ (by omega) (by omega) (by unfold RS; omega)), h.tp.c (by rw [e (o + 60) (by omega) (by unfold CS; omega)]) (e _ (by omega) (by unfold CS; omega)) (em _ _ (by omega) (by omega) (by unfold RS; omega)) (funext fun y => em _ _ (by omega) (by omega) (by unfold RS; omega)) (funext fun y => em _ _ (by omega) (by omega) (by unfold RS; omega)), h.fd.c (fun y _ _ => by rw [e o (by omega) (by unfold CS; omega)]) (e _ (by omega) (by unfold CS; omega)) (fun y hy => em _ _ (by omega) (by omega) (by unfold RS; omega)) (funext fun y => em _ _ (by omega) (by omega) (by unfold RS; omega)), h.pp.c (by rw [e (o + 19) (by omega) (by unfold CS; omega)]) (by rw [e (o + 19) (by omega) (by unfold CS; omega)]) (e _ (by omega) (by unfold CS; omega)) (e _ (by omega) (by unfold CS; omega)) (em _ _ (by omega) (by omega) (by unfold RS; omega)) (funext fun y => em _ _ (by omega) (by omega) (by unfold RS; omega))⟩
  unfold cImg
  rw [e (o + 28) (by omega) (by unfold CS; omega)]
  exact h.ig
theorem ImR.c2 {k : Int} (hk : 0 ≤ k ∧ k < 2) (hoM : 0 ≤ o ∧ o + 86 ≤ M) (h : ImR E g gm o M k) (e : ∀ x : Int, (o + 29 + 9 * k ≤ x ∧ x ≤ o + 29 + 9 * k + 8) ∨ M + 24 ≤ x → g' x = g x) (e47 : g' (o + 47) k = g (o + 47) k) (e3 : ∀ y : Int, 0 ≤ y → y < 5656 → gm' (M + 3) (5656 * k + y) = gm (M + 3) (5656 * k + y)) (e4 : gm' (M + 4) k = gm (M + 4) k) : ImR E g' gm' o M k := by
  obtain ⟨h1, h2⟩ := h
  refine ⟨h1.c (e _ (by omega)) (e _ (by omega)), ?_⟩
  rw [e4, e47]
  rcases h2 with h2 | ⟨a, b, c, d⟩
  · exact Or.inl h2
  · refine Or.inr ⟨a, b, (c.cg (fun x x0 x1 => e x (by omega))).cr (fun y y0 y1 => e3 y y0 (by omega)), d.c c.2.2.2.2.2.1.2.2 (e _ (by omega)) (fun x hx => e x (by omega)) (e3 47 (by omega) (by omega)) (fun y hy => e3 y (by omega) (by omega))⟩
theorem k_image (hE : EW E o M) (h : Rel2 E o M g gm) (k : Int) : KR E o M (cImageM g o k) (mImage gm M k) := by
  have oM := hE.2.2
  unfold cImageM mImage
  refine KR.ip (by unfold mLies; omega) (fun hk => ⟨rfl, k_acc hE ?_⟩) (fun _ => ⟨rfl, k_ref hE h (by omega)⟩)
  refine h.img hE (fun j j0 j1 => ?_) (fun x x0 x1 => by rw [od_up_ne (by omega), cBec_n (by omega)]) (fun x y x3 x4 _ => by rw [od_upn x4]; unfold od_cq; rw [if_neg (fun q => x3 q.1)])
  by_cases c : j = k
  · subst c
    have row : ∀ y : Int, 0 ≤ y → y < 5656 → od_up (od_cq gm (M + 3) (5656 * j) (M + 2) 0 5656) (M + 4) j 1 (M + 3) (5656 * j + y) = gm (M + 2) y := fun y y0 y1 => by
      rw [od_upn (by omega)]
      unfold od_cq
      rw [if_pos (by omega)]
      congr 1
      omega
    have ec : ∀ x : Int, x ≠ o + 47 → od_up (cBecome g (o + 29 + 9 * j) (o + 1)) (o + 47) j 1 x = cBecome g (o + 29 + 9 * j) (o + 1) x := fun x hx => od_up_ne hx
    refine ⟨(h.rf.become (k := o + 29 + 9 * j)).c (ec _ (by omega)) (ec _ (by omega)), Or.inr ⟨od_up_i, od_up_i, ?_, ?_⟩⟩
    · exact ((h.st.become (k := o + 29 + 9 * j)).cg (fun x x0 x1 => ec x (by omega))).cr (fun y y0 y1 => row y y0 (by omega))
    · exact (h.ls.become (k := o + 29 + 9 * j) h.n47 (by omega)).c h.n47 (ec _ (by omega)) (fun x hx => ec x (by omega)) (row 47 (by omega) (by omega)) (fun y hy => row y (by omega) (by omega))
  · refine (h.im j j0 j1).c2 ⟨j0, j1⟩ ⟨by omega, by omega⟩ (fun x hx => ?_) ?_ (fun y y0 y1 => ?_) ?_
    · rw [od_up_ne (by omega), cBec_n (by omega)]
    · rw [od_up_j c, cBec_n (by omega)]
    · rw [od_upn (by omega)]
      unfold od_cq
      rw [if_neg (by omega)]
    · rw [od_up_j c]
      unfold od_cq
      rw [if_neg (by omega)]
theorem cBec_f {k j : Int} (hk : o ≤ k ∧ k + 8 ≤ o + 85) : od_fr (FC o) g (cBecome g k j) := fun x y hx => by
  unfold FC at hx
  rw [cBec_n (by omega)]
theorem p_image (hE : EW E o M) (hR : Rel2 E o M g g) (k : Int) : od_Pr E o M g 0 2 mX10_image [(2, o), (0, k)] 3 mX11_image [(2, M), (0, k)] := by
  refine pr_c hE hR (c_X10_image hE.1 hR.ig hR.rf.cRefs k) ?_ (fun g1 r1 => ⟨_, c_X11_image hE.2.1 k, ?_, k_image hE r1 k⟩)
  · unfold cImageM
    by_cases c : 0 ≤ k ∧ k < 2
    · rw [od_ip_t c]
      exact cAcc_f ((cBec_f (by omega)).up (by unfold FC; omega))
    · rw [od_ip_f c]
      exact cRef_f od_fr.rf
  · unfold mImage
    refine od_fr.ip (mGood_f (od_fr.up (fun x y hx => ?_) (by unfold FM; omega))) (mRef_f od_fr.rf)
    unfold FM at hx
    unfold od_cq
    rw [if_neg (by omega)]
theorem k_back (hE : EW E o M) (h : Rel2 E o M g gm) (k : Int) : KR E o M (cBackM g o k) (mBack gm M k) := by
  have oM := hE.2.2
  unfold cBackM mBack
  refine KR.ip (by unfold mLies; omega) (fun hk => ?_) (fun _ => ⟨rfl, k_ref hE h (by omega)⟩)
  obtain ⟨i1, i2⟩ := h.im k hk.1 hk.2
  rcases i2 with ⟨a, b⟩ | ⟨a, b, c, d⟩
  · rw [od_ip_f (by omega), od_ip_t b]
    exact ⟨rfl, k_ref hE h (by omega)⟩
  · rw [od_ip_t (by omega), od_ip_f (by omega)]
    refine ⟨rfl, k_acc (gm := od_up (od_cq gm (M + 2) 0 (M + 3) (5656 * k) 5656) M 33 0) hE ?_⟩
    have row : ∀ y : Int, 0 ≤ y → y < 5656 → od_up (od_cq gm (M + 2) 0 (M + 3) (5656 * k) 5656) M 33 0 (M + 2) y = gm (M + 3) (5656 * k + y) := fun y y0 y1 => by
      rw [od_upn (by omega)]
      unfold od_cq
      rw [if_pos (by omega)]
      congr 1
      omega
    have ec : ∀ x : Int, x ≠ o + 48 → cClear (cBecome g (o + 1) (o + 29 + 9 * k)) (o + 48) x = cBecome g (o + 1) (o + 29 + 9 * k) x := fun x hx => cClear_n hx
    have en : ∀ x : Int, x ≠ o + 48 → x < o + 1 ∨ o + 9 < x → cClear (cBecome g (o + 1) (o + 29 + 9 * k)) (o + 48) x = g x := fun x hx h2 => by rw [ec x hx, cBec_n (by omega)]
    have em : ∀ x y : Int, x ≠ M + 2 → ¬ (x = M ∧ y = 33) → od_up (od_cq gm (M + 2) 0 (M + 3) (5656 * k) 5656) M 33 0 x y = gm x y := fun x y x2 x3 => by
      rw [od_up_at2, if_neg x3]
      unfold od_cq
      rw [if_neg (fun q => x2 q.1)]
    have s1 : StR (cClear (cBecome g (o + 1) (o + 29 + 9 * k)) (o + 48)) (o + 1) (od_up (od_cq gm (M + 2) 0 (M + 3) (5656 * k) 5656) M 33 0 (M + 2)) := ((c.become (k := o + 1)).cg (fun x x0 x1 => ec x (by omega))).cr (fun y y0 y1 => row y y0 (by omega))
    refine ⟨s1, (d.become (k := o + 1) c.2.2.2.2.2.1.2.2 (by omega)).c c.2.2.2.2.2.1.2.2 (ec _ (by omega)) (fun x hx => ec x (by omega)) (row 47 (by omega) (by omega)) (fun y hy => row y (by omega) (by omega)), (i1.become (k := o + 1)).c (ec _ (by omega)) (ec _ (by omega)), ?_, fun j j0 j1 => (h.im j j0 j1).c ⟨j0, j1⟩ ⟨by omega, by omega⟩ (fun x hx => en x (by omega) (by omega)) (fun y _ _ => em _ _ (by omega) (by omega)) (em _ _ (by omega) (by omega)), pa_clear _ _ _ _, h.tp.c (by rw [en (o + 60) (by omega) (by omega)]) (en _ (by omega) (by omega)) (em _ _ (by omega) (by omega)) (funext fun y => em _ _ (by omega) (by omega)) (funext fun y => em _ _ (by omega) (by omega)), h.fd.c (fun y _ _ => by rw [en o (by omega) (by omega)]) (en _ (by omega) (by omega)) (fun y hy => em _ _ (by omega) (by omega)) (funext fun y => em _ _ (by omega) (by omega)), h.pp.c (by rw [en (o + 19) (by omega) (by omega)]) (by rw [en (o + 19) (by omega) (by omega)]) (en _ (by omega) (by omega)) (en _ (by omega) (by omega)) (em _ _ (by omega) (by omega)) (funext fun y => em _ _ (by omega) (by omega))⟩
    unfold cImg
    rw [en (o + 28) (by omega) (by omega)]
    exact h.ig
theorem p_back (hE : EW E o M) (hR : Rel2 E o M g g) (k : Int) : od_Pr E o M g 0 2 mX10_back [(2, o), (0, k)] 3 mX11_back [(2, M), (0, k)] := by
  refine pr_c hE hR (c_X10_back hE.1 hR.ig k (fun k0 k1 => (hR.im k k0 k1).1.cRefs)) ?_ (fun g1 r1 => ⟨_, c_X11_back hE.2.1 k, ?_, k_back hE r1 k⟩)
  · unfold cBackM
    exact od_fr.ip (od_fr.ip (cAcc_f (cClear_f (cBec_f (by omega)))) (cRef_f od_fr.rf)) (cRef_f od_fr.rf)
  · unfold mBack
    refine od_fr.ip (od_fr.ip (mRef_f od_fr.rf) (mSet_f (fun x y hx => ?_))) (mRef_f od_fr.rf)
    unfold FM at hx
    unfold od_cq
    rw [if_neg (by omega)]
/-- a hand's change, told or refused -/
theorem k_set (hE : EW E o M) (h : Rel2 E o M g gm) {v : Int} (hv : -6 ≤ v) : Rel2 E o M (cSet g o v) (mGoodOr gm M v) := by
  unfold cSet mGoodOr
  by_cases c : v < 0
  · rw [if_pos c, if_pos c]; exact k_ref hE h (by omega)
  · rw [if_neg c, if_neg c]; exact k_acc hE h
theorem k_ch (hE : EW E o M) (h : Rel2 E o M g gm) {kd d n : Int} {sn : Nat} {v : Int} (hc : cChanged g (o + 70) (o + 48) (o + 1) kd d n sn v g') (fm : od_fr (KF M) gm gm') (st : StR g' (o + 1) (gm' (M + 2))) (pa : PaR g' (o + 48) gm' M) : Rel2 E o M g' gm' := by
  have oM := hE.2.2
  refine k_st hE h st (cChanged_row hc (by omega) (by omega) (by omega)) (by rw [cChanged_row hc (x := o + 1 + 8) (by omega) (by omega) (by omega)]; exact h.rf.2) (fm _ _ (by unfold KF; omega)) (fun y hy => fm _ _ (by unfold KF; omega)) pa (fun x x1 x2 x3 => ?_) (fun x y x1 x2 x3 _ => fm _ _ (by unfold KF; omega))
  unfold CS at x3
  exact cChanged_row hc (by omega) (by omega) (by omega)
theorem Rel2.orI (h : Rel2 E o M g gm) {pl : Int → Int} {C : Int} {sn : Nat} (hL : LfR g (o + 1) (gm (M + 2)) pl C sn) : OrI gm M pl C := ⟨h.st.MI, h.st.MJ, hL.F, h.st.mv.1.2, h.pa.2.1.2⟩
theorem mGoodOr_f {v : Int} (h : od_fr (FM M) g g') : od_fr (FM M) g (mGoodOr g' M v) := by
  unfold mGoodOr
  split
  · exact mRef_f h
  · exact mGood_f h
theorem KF_FM {x y : Int} (h : KF M x y) : FM M x y := by unfold KF at h; unfold FM; omega
theorem ChM_f {kd d n : Int} {sn : Nat} {v : Int} (hc : cChanged g (o + 70) (o + 48) (o + 1) kd d n sn v g') {x : Int} (hx : o + 86 ≤ x) : cSet g' o v x = g x := by
  have e : cSet g' o v x = g' x := by
    unfold cSet
    split
    · unfold cRef; rw [od_up_ne (by omega), od_up_ne (by omega)]
    · unfold cAcc; rw [od_up_ne (by omega)]
  rw [e]
  exact cChanged_row hc (by omega) (by omega) (by omega)
/-- a hand's change: the class, then the reference -/
theorem pr_h (hE : EW E o M) {kd d n : Int} {dc dm : Nat} {mc mm : od_M} {ac am : List od_V} {pl : Int → Int} {C : Int} {sn : Nat} (hR : Rel2 E o M g g) (hL : LfR g (o + 1) (g (M + 2)) pl C sn) (hC : od_Cq dc mc ac E g (E, ChM g o kd d n sn)) {B : od_G → Int × od_G} (hB : ∀ g1, Rel2 E o M g g1 → LfR g (o + 1) (g1 (M + 2)) pl C sn → od_fr (KF M) g1 (B g1).2 ∧ (∀ v g', cChanged g (o + 70) (o + 48) (o + 1) kd d n sn v g' → v = (B g1).1 ∧ StR g' (o + 1) ((B g1).2 (M + 2)) ∧ PaR g' (o + 48) (B g1).2 M) ∧ ∃ Qm, od_Cq dm mm am E g1 (E, Qm) ∧ ∀ w g2, Qm w g2 → w = some (0, (B g1).1) ∧ od_fr (SQ M) (mGoodOr (B g1).2 M (B g1).1) g2) : od_Pr E o M g 0 dc mc ac dm mm am := by
  have oM := hE.2.2
  refine pr_i hE hR hC (fun w g1 q => ?_)
  obtain ⟨v, g0, hc, hv, ew, eg⟩ := q
  subst eg
  refine ⟨fun x x0 x1 => ChM_f hc (by omega), fun r1 => ?_⟩
  have eL : cSet g0 o v (M + 2) = g (M + 2) := ChM_f hc (by omega)
  obtain ⟨f1, f2, Qm, f3, f4⟩ := hB _ r1 (by rw [eL]; exact hL)
  obtain ⟨e1, e2, e3⟩ := f2 v g0 hc
  have rk := k_set hE (k_ch hE r1 hc f1 e2 e3) hv
  refine ⟨v, ew, Qm, f3, fun w' g2 q' => ?_⟩
  obtain ⟨a1, a2⟩ := f4 w' g2 q'
  rw [← e1] at a1 a2
  refine ⟨a1, fun x hx => ?_, ?_⟩
  · have z := (mGoodOr_f (v := v) (f1.mo (fun x y q => KF_FM q))).row (a := x) (fun y q => by unfold FM at q; omega)
    rw [← z]
    exact a2.row (fun y q => by unfold SQ at q; omega)
  · exact rk.fm hE (fun x y hx => a2 x y (fun q => hx (by unfold SQ at q; unfold RS; omega)))
end Changes3
