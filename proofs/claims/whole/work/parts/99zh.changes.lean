/-! changes: the relation is kept -/
def KR (E : od_E) (o M : Int) (A B : Int × od_G) : Prop := A.1 = B.1 ∧ Rel2 E o M A.2 B.2
def FC (o : Int) : Int → Int → Prop := fun x _ => o ≤ x ∧ x ≤ o + 85
def FM (M : Int) : Int → Int → Prop := fun x _ => M ≤ x ∧ x ≤ M + 23
section Changes
variable {E : od_E} {o M : Int} {g gm g' gm' : od_G}
theorem KR.ip {P Q : Prop} {x y x' y' : Int × od_G} (h : P ↔ Q) (a : P → KR E o M x x') (b : ¬ P → KR E o M y y') : KR E o M (od_ip P x y) (od_ip Q x' y') := by
  by_cases c : P
  · rw [od_ip_t c, od_ip_t (h.mp c)]; exact a c
  · rw [od_ip_f c, od_ip_f (fun q => c (h.mpr q))]; exact b c
theorem od_fr.ip {X : Int → Int → Prop} {P : Prop} {x y : Int × od_G} (a : od_fr X g x.2) (b : od_fr X g y.2) : od_fr X g (od_ip P x y).2 := by
  by_cases c : P
  · rw [od_ip_t c]; exact a
  · rw [od_ip_f c]; exact b
theorem pr_c (hE : EW E o M) {t : Nat} {A : Int × od_G} {dc dm : Nat} {mc mm : od_M} {ac am : List od_V} (hR : Rel2 E o M g g) (hC : od_Ct dc mc ac E g (some (t, A.1), E, A.2)) (fC : od_fr (FC o) g A.2) (hM : ∀ g1, Rel2 E o M g g1 → ∃ B : Int × od_G, od_Ct dm mm am E g1 (some (t, B.1), E, B.2) ∧ od_fr (FM M) g1 B.2 ∧ KR E o M A B) : od_Pr E o M g t dc mc ac dm mm am := by
  refine pr_i hE hR hC (fun w g1 q => ?_)
  have e : g1 = A.2 := q.2
  have oM := hE.2.2
  refine ⟨fun x x0 x1 => by rw [e]; exact fC.row (fun y z => by unfold FC at z; omega), fun r1 => ⟨A.1, q.1, ?_⟩⟩
  obtain ⟨B, h1, h2, h3⟩ := hM g1 r1
  refine ⟨_, h1, fun w' g2 q' => ⟨q'.1.trans (by show some (t, B.1) = _; rw [h3.1]), fun x hx => ?_, ?_⟩⟩
  · rw [show g2 = B.2 from q'.2]
    exact h2.row (fun y z => by unfold FM at z; omega)
  · rw [show g2 = B.2 from q'.2, e]
    exact h3.2
theorem cRef_f {w : Int} (h : od_fr (FC o) g g') : od_fr (FC o) g (cRef g' o w) := (h.up (by unfold FC; omega)).up (by unfold FC; omega)
theorem cAcc_f (h : od_fr (FC o) g g') : od_fr (FC o) g (cAcc g' o) := h.up (by unfold FC; omega)
theorem cClear_f (h : od_fr (FC o) g g') : od_fr (FC o) g (cClear g' (o + 48)) := (h.up (by unfold FC; omega)).up (by unfold FC; omega)
theorem mRef_f {w : Int} (h : od_fr (FM M) g g') : od_fr (FM M) g (mRef g' M w) := (h.up (by unfold FM; omega)).up (by unfold FM; omega)
theorem mGood_f (h : od_fr (FM M) g g') : od_fr (FM M) g (mGood g' M) := h.up (by unfold FM; omega)
theorem mSet_f (h : od_fr (FM M) g g') : od_fr (FM M) g (mSet g' M) := (h.up (by unfold FM; omega)).up (by unfold FM; omega)
/-- what stays when the street, the past, what is told of refusals change -/
theorem Rel2.up (hE : EW E o M) (h : Rel2 E o M g gm) (st : StR g' (o + 1) (gm' (M + 2))) (h6 : g' (o + 1 + 6) = g (o + 1 + 6)) (h8 : ∀ y : Int, 0 ≤ y → y < 6 → g' (o + 1 + 8) y = 0 ∨ g' (o + 1 + 8) y = 1) (e47 : gm' (M + 2) 47 = gm (M + 2) 47) (es : SlE (gm (M + 2)) (gm' (M + 2))) (pa : PaR g' (o + 48) gm' M) (fd : FdR g' gm' o M) (e : ∀ x : Int, (o + 19 ≤ x ∧ x ≤ o + 47) ∨ (o + 60 ≤ x ∧ x ≤ o + 61) ∨ M + 24 ≤ x → g' x = g x) (em : ∀ x : Int, x = M + 3 ∨ x = M + 4 ∨ x = M + 6 ∨ x = M + 7 ∨ x = M + 23 → gm' x = gm x) (e13 : gm' M 13 = gm M 13) (e49 : gm' M 49 = gm M 49) : Rel2 E o M g' gm' := by
  obtain ⟨_, _, o0, oM, _⟩ := hE
  refine ⟨st, h.ls.c h.n47 h6 (fun x hx => e x (by omega)) e47 es, ⟨by rw [h6]; exact h.rf.1, h8⟩, ?_, fun k k0 k1 => (h.im k k0 k1).c ⟨k0, k1⟩ ⟨o0, oM⟩ (fun x hx => e x (by omega)) (fun y _ _ => by rw [em (M + 3) (by omega)]) (by rw [em (M + 4) (by omega)]), pa, h.tp.c (by rw [e (o + 60) (by omega)]) (e _ (by omega)) e13 (em _ (by omega)) (em _ (by omega)), fd, h.pp.c (by rw [e (o + 19) (by omega)]) (by rw [e (o + 19) (by omega)]) (e _ (by omega)) (e _ (by omega)) e49 (em _ (by omega))⟩
  unfold cImg
  rw [e (o + 28) (by omega)]
  exact h.ig
theorem k_fd (hE : EW E o M) (h : Rel2 E o M g gm) (e : ∀ x : Int, x ≠ o → x ≠ o + 85 → g' x = g x) (em : ∀ x : Int, x ≠ M → x ≠ M + 1 → gm' x = gm x) (e13 : gm' M 13 = gm M 13) (e33 : gm' M 33 = gm M 33) (e49 : gm' M 49 = gm M 49) (fd : FdR g' gm' o M) : Rel2 E o M g' gm' := by
  have oM := hE.2.2
  have e2 := em (M + 2) (by omega) (by omega)
  refine h.up hE (by rw [e2]; exact h.st.cg (fun x x0 x1 => e x (by omega) (by omega))) (e _ (by omega) (by omega)) (by rw [e (o + 1 + 8) (by omega) (by omega)]; exact h.rf.2) (by rw [e2]) (by rw [e2]; exact SlE.rf _) ?_ fd (fun x hx => e x (by omega) (by omega)) (fun x hx => em x (by omega) (by omega)) e13 e49
  exact (h.pa.cg (fun x x0 x1 => e x (by omega) (by omega))).cm h.st.1.2.2 e33 (by rw [e2]) (fun d _ _ => by rw [e2]) (fun y _ _ => by rw [em (M + 14) (by omega) (by omega)])
theorem k_ref (hE : EW E o M) (h : Rel2 E o M g gm) {w : Int} (hw : -6 ≤ w ∧ w ≤ -1) : Rel2 E o M (cRef g o w) (mRef gm M w) := by
  have oM := hE.2.2
  refine k_fd hE h (fun x a b => by unfold cRef; rw [od_up_ne b, od_up_ne a]) (fun x a b => by unfold mRef; rw [od_up_ne b, od_up_ne a]) (by unfold mRef; rw [od_upn (by omega), od_up_j (by omega)]) (by unfold mRef; rw [od_upn (by omega), od_up_j (by omega)]) (by unfold mRef; rw [od_upn (by omega), od_up_j (by omega)]) ?_
  obtain ⟨f1, f2⟩ := h.fd
  unfold cRef mRef
  refine ⟨?_, fun i i0 i1 => ?_⟩
  · have a1 : o ≠ o + 85 := by omega
    have a2 : M ≠ M + 1 := by omega
    refine ⟨?_, ?_, ?_, ?_⟩
    · rw [od_upn a1, od_upn a2, od_up_i, od_up_i]
    · rw [od_upn a1, od_upn a2, od_up_j (by omega), od_up_j (by omega)]; exact f1.2.1
    · rw [od_upn a1, od_upn a2, od_up_j (by omega), od_up_j (by omega)]; exact f1.2.2.1
    · rw [od_upn a1, od_upn a2, od_up_j (by omega), od_up_j (by omega)]; exact f1.2.2.2
  · by_cases c : i = -w
    · rw [c, od_up_i, od_up_i, f2 (-w) (by omega) (by omega)]
    · rw [od_up_j c, od_up_j c, od_upn (by omega), od_upn (by omega)]
      exact f2 i i0 i1
theorem k_acc (hE : EW E o M) (h : Rel2 E o M g gm) : Rel2 E o M (cAcc g o) (mGood gm M) := by
  have oM := hE.2.2
  refine k_fd hE h (fun x a b => od_up_ne a) (fun x a b => od_up_ne a) (od_up_j (by omega)) (od_up_j (by omega)) (od_up_j (by omega)) ?_
  obtain ⟨f1, f2⟩ := h.fd
  unfold cAcc mGood
  refine ⟨?_, fun i i0 i1 => ?_⟩
  · rw [od_up_i, od_up_i, od_up_j (by omega), od_up_j (by omega), od_up_j (by omega), od_up_j (by omega), od_up_j (by omega), od_up_j (by omega)]
    exact ⟨rfl, f1.2⟩
  · rw [od_upn (by omega), od_upn (by omega)]
    exact f2 i i0 i1
/-- the street changes, the past with it or not; nothing is told of it yet -/
theorem k_st (hE : EW E o M) (h : Rel2 E o M g gm) (st : StR g' (o + 1) (gm' (M + 2))) (h6 : g' (o + 1 + 6) = g (o + 1 + 6)) (h8 : ∀ y : Int, 0 ≤ y → y < 6 → g' (o + 1 + 8) y = 0 ∨ g' (o + 1 + 8) y = 1) (e47 : gm' (M + 2) 47 = gm (M + 2) 47) (es : SlE (gm (M + 2)) (gm' (M + 2))) (pa : PaR g' (o + 48) gm' M) (e : ∀ x : Int, (x < o + 1 ∨ o + 9 < x) → (x < o + 48 ∨ o + 53 < x) → ¬ CS o M x → g' x = g x) (em : ∀ x y : Int, x ≠ M + 2 → x ≠ M + 14 → ¬ (x = M ∧ y = 33) → ¬ RS M x y → gm' x y = gm x y) : Rel2 E o M g' gm' := by
  have oM := hE.2.2
  refine h.up hE st h6 h8 e47 es pa (h.fd.c (fun y _ _ => by rw [e o (by omega) (by omega) (by unfold CS; omega)]) (e _ (by omega) (by omega) (by unfold CS; omega)) (fun y hy => em _ _ (by omega) (by omega) (by omega) (by unfold RS; omega)) (funext fun y => em _ _ (by omega) (by omega) (by omega) (by unfold RS; omega))) (fun x hx => e x (by omega) (by omega) (by unfold CS; omega)) (fun x hx => funext fun y => em _ _ (by omega) (by omega) (by omega) (by unfold RS; omega)) (em _ _ (by omega) (by omega) (by omega) (by unfold RS; omega)) (em _ _ (by omega) (by omega) (by omega) (by unfold RS; omega))
theorem pa_clear (g gm : od_G) (p M : Int) : PaR (cClear g p) p (od_up gm M 33 0) M := PaR.no (by unfold cClear; rw [od_up_j (by omega), od_up_i]) (by unfold cClear; rw [od_up_i]) od_up_i
theorem cClear_n {p x : Int} (h : x ≠ p) : cClear g p x = g x := by unfold cClear; rw [od_up_ne h, od_up_ne h]
theorem od_sh13b : ∀ m : Fin 13, 1 ≤ od_shl 1 (m.val : Int) ∧ od_shl 1 (m.val : Int) ≤ 4096 := by decide
theorem od_sh_c {m : Int} (h : 0 ≤ m ∧ m ≤ 12) : 1 ≤ od_shl 1 m ∧ od_shl 1 m ≤ 4096 := by
  have z := od_sh13b ⟨m.toNat, by omega⟩
  simp only [show ((m.toNat : Nat) : Int) = m by omega] at z
  exact z
theorem can_iff (l k a p : Int) : cCanHold l k a p ↔ mCan l k a p := by
  unfold cCanHold mCan mLies
  by_cases c : 1 ≤ l ∧ l ≤ 12
  · have z := od_sh_c (m := l) (by omega)
    rw [od_wI (by omega) (by omega)]
    omega
  · constructor
    · intro q; exact absurd ⟨q.1, q.2.1⟩ c
    · intro q; exact absurd q.1 c
/-- a drum comes -/
theorem StR.take {k : Int} {r : Int → Int} (h : StR g k r) (h6 : r 45 < 6) {l kd a p : Int} (hc : cCanHold l kd a p) {r' : Int → Int} (e45 : r' 45 = r 45 + 1) (el : ∀ d : Int, 0 ≤ d → d < 6 → r' (19 + d) = if d = r 45 then l else r (19 + d)) (ek : ∀ d : Int, 0 ≤ d → d < 6 → r' (25 + d) = if d = r 45 then kd else r (25 + d)) (ea : ∀ d : Int, 0 ≤ d → d < 6 → r' (6 + d) = if d = r 45 then a else r (6 + d)) (ep : ∀ d : Int, 0 ≤ d → d < 6 → r' d = if d = r 45 then p else r d) (es : ∀ d : Int, 0 ≤ d → d < 6 → r' (12 + d) = if d = r 45 then 0 else r (12 + d)) (eo : ∀ y : Int, y = 18 ∨ (31 ≤ y ∧ y < 49 ∧ y ≠ 45) → r' y = r y) : StR (cTake1 g k l kd a p) k r' := by
  have n6 := h.1.2
  have z8 := h.1.1
  obtain ⟨h1, h2, h3, h4, h5, h7, h9, h10, h11⟩ := h
  have sb := od_sh_c (m := l) (by have := hc.1; have := hc.2.1; omega)
  obtain ⟨c1, c2, c3, c4, c5, c6, c7, c8⟩ := hc
  have r0 : ∀ y : Int, y ≠ 8 → cTake1 g k l kd a p k y = g k y := fun y hy => by
    unfold cTake1
    rw [od_up_j hy, od_upn (by omega), od_upn (by omega), od_upn (by omega), od_upn (by omega)]
  have r8 : cTake1 g k l kd a p k 8 = g k 8 + 1 := by unfold cTake1; rw [od_up_i]
  have r1 : ∀ y : Int, cTake1 g k l kd a p (k + 1) y = if y = r 45 then l else g (k + 1) y := fun y => by
    unfold cTake1
    rw [od_upn (by omega), od_upn (by omega), od_upn (by omega), od_upn (by omega), od_up_at, z8]
  have r2 : ∀ y : Int, cTake1 g k l kd a p (k + 2) y = if y = r 45 then kd else g (k + 2) y := fun y => by
    unfold cTake1
    rw [od_upn (by omega), od_upn (by omega), od_upn (by omega), od_up_at, od_upn (by omega), z8]
  have r3 : ∀ y : Int, cTake1 g k l kd a p (k + 3) y = if y = r 45 then a else g (k + 3) y := fun y => by
    unfold cTake1
    rw [od_upn (by omega), od_upn (by omega), od_up_at, od_upn (by omega), od_upn (by omega), z8]
  have r4 : ∀ y : Int, cTake1 g k l kd a p (k + 4) y = if y = r 45 then p else g (k + 4) y := fun y => by
    unfold cTake1
    rw [od_upn (by omega), od_up_at, od_upn (by omega), od_upn (by omega), od_upn (by omega), z8]
  have rn : ∀ x : Int, k + 5 ≤ x → cTake1 g k l kd a p x = g x := fun x hx => by
    unfold cTake1
    rw [od_up_ne (by omega), od_up_ne (by omega), od_up_ne (by omega), od_up_ne (by omega), od_up_ne (by omega)]
  have o18 := eo 18 (by omega)
  have o43 := eo 43 (by omega)
  have o44 := eo 44 (by omega)
  have o46 := eo 46 (by omega)
  have o47 := eo 47 (by omega)
  have o48 := eo 48 (by omega)
  unfold StR
  rw [r8, r0 9 (by omega), r0 10 (by omega), r0 11 (by omega), r0 12 (by omega), rn (k + 5) (by omega), rn (k + 7) (by omega), rn (k + 8) (by omega), e45, o18, o43, o44, o46, o47, o48]
  refine ⟨⟨by omega, by omega, by omega⟩, fun d d0 d1 => ?_, ⟨fun d d0 d1 => h3.1 d (by omega) d1, h3.2⟩, h4, h5, h7, h9, h10, fun i i0 i1 => ?_⟩
  · unfold DrR
    rw [r0 9 (by omega), r1, r2, r3, r4, el d d0 (by omega), ek d d0 (by omega), ea d d0 (by omega), ep d d0 (by omega), es d d0 (by omega)]
    by_cases c : d = r 45
    · repeat rw [if_pos c]
      refine ⟨rfl, rfl, rfl, rfl, by omega, by omega, Or.inl rfl, ⟨fun q => absurd q (h3.1 d (by omega) (by omega)), fun q => by omega⟩, by omega, by omega⟩
    · repeat rw [if_neg c]
      exact h2 d d0 (by omega)
  · rw [eo (31 + 2 * i) (by omega), eo (31 + 2 * i + 1) (by omega)]
    exact h11 i i0 i1
theorem mAdds_row (gm : od_G) (M l k a p : Int) (hn : 0 ≤ gm (M + 2) 45 ∧ gm (M + 2) 45 < 6) : (mAdds gm M l k a p (M + 2) 45 = gm (M + 2) 45 + 1) ∧ ∀ y : Int, y ≠ 45 → mAdds gm M l k a p (M + 2) y = if y = 12 + gm (M + 2) 45 then 0 else if y = gm (M + 2) 45 then p else if y = 6 + gm (M + 2) 45 then a else if y = 25 + gm (M + 2) 45 then k else if y = 19 + gm (M + 2) 45 then l else gm (M + 2) y := by
  unfold mAdds
  refine ⟨od_up_i, fun y hy => ?_⟩
  rw [od_up_j hy, od_up_at, od_up_at, od_up_at, od_up_at, od_up_at]
theorem mAdds_n {l k a p x : Int} (h : x ≠ M + 2) : mAdds gm M l k a p x = gm x := by
  unfold mAdds
  rw [od_up_ne h, od_up_ne h, od_up_ne h, od_up_ne h, od_up_ne h, od_up_ne h]
theorem cTake1_n {k l kd a p x : Int} (h : x < k ∨ k + 4 < x) : cTake1 g k l kd a p x = g x := by
  unfold cTake1
  rw [od_up_ne (by omega), od_up_ne (by omega), od_up_ne (by omega), od_up_ne (by omega), od_up_ne (by omega)]
theorem StR.takeM (h : StR g (o + 1) (gm (M + 2))) (h6 : gm (M + 2) 45 < 6) {l kd a p : Int} (hc : cCanHold l kd a p) : StR (cTake1 g (o + 1) l kd a p) (o + 1) (mAdds gm M l kd a p (M + 2)) ∧ mAdds gm M l kd a p (M + 2) 47 = gm (M + 2) 47 ∧ SlE (gm (M + 2)) (mAdds gm M l kd a p (M + 2)) := by
  have n := h.1.2
  obtain ⟨e45, ey⟩ := mAdds_row gm M l kd a p ⟨n.1, h6⟩
  have rw5 : ∀ y : Int, 31 ≤ y → y ≠ 45 → mAdds gm M l kd a p (M + 2) y = gm (M + 2) y := fun y y0 y1 => by
    rw [ey y y1]
    repeat rw [if_neg (by omega)]
  refine ⟨h.take h6 hc e45 (fun d d0 d1 => ?_) (fun d d0 d1 => ?_) (fun d d0 d1 => ?_) (fun d d0 d1 => ?_) (fun d d0 d1 => ?_) (fun y hy => ?_), rw5 47 (by omega) (by omega), SlE.lo (fun y hy => rw5 y (by omega) (by omega))⟩
  · rw [ey _ (by omega), if_neg (by omega), if_neg (by omega), if_neg (by omega), if_neg (by omega)]
    by_cases c : d = gm (M + 2) 45
    · rw [if_pos (by omega), if_pos c]
    · rw [if_neg (by omega), if_neg c]
  · rw [ey _ (by omega), if_neg (by omega), if_neg (by omega), if_neg (by omega)]
    by_cases c : d = gm (M + 2) 45
    · rw [if_pos (by omega), if_pos c]
    · rw [if_neg (by omega), if_neg (by omega), if_neg c]
  · rw [ey _ (by omega), if_neg (by omega), if_neg (by omega)]
    by_cases c : d = gm (M + 2) 45
    · rw [if_pos (by omega), if_pos c]
    · rw [if_neg (by omega), if_neg (by omega), if_neg (by omega), if_neg c]
  · rw [ey _ (by omega), if_neg (by omega)]
    by_cases c : d = gm (M + 2) 45
    · rw [if_pos (by omega), if_pos c]
    · rw [if_neg (by omega), if_neg (by omega), if_neg (by omega), if_neg (by omega), if_neg c]
  · rw [ey _ (by omega)]
    by_cases c : d = gm (M + 2) 45
    · rw [if_pos (by omega), if_pos c]
    · rw [if_neg (by omega), if_neg (by omega), if_neg (by omega), if_neg (by omega), if_neg (by omega), if_neg c]
  · rw [ey y (by omega)]
    repeat rw [if_neg (by omega)]
theorem k_drum (hE : EW E o M) (h : Rel2 E o M g gm) (l k a p : Int) : KR E o M (cDrumM g o l k a p) (mDrum gm M l k a p) := by
  have oM := hE.2.2
  have n := h.st.1
  unfold cDrumM mDrum
  refine KR.ip (can_iff l k a p) (fun hc => ?_) (fun _ => ⟨rfl, k_ref hE h (by omega)⟩)
  by_cases c6 : gm (M + 2) 45 = 6
  · rw [od_ip_f (by omega), od_ip_t c6]
    exact ⟨rfl, k_ref hE h (by omega)⟩
  · rw [od_ip_t (by omega), od_ip_f c6]
    refine ⟨n.1, k_acc (gm := od_up (mAdds gm M l k a p) M 33 0) hE ?_⟩
    obtain ⟨s1, s2, s3⟩ := h.st.takeM (by omega) hc
    have e2 : od_up (mAdds gm M l k a p) M 33 0 (M + 2) = mAdds gm M l k a p (M + 2) := od_up_ne (by omega)
    refine k_st hE h ?_ ?_ ?_ (by rw [e2]; exact s2) (by rw [e2]; exact s3) (pa_clear _ _ _ _) (fun x x1 x2 _ => ?_) (fun x y x1 x2 x3 _ => ?_)
    · rw [e2]
      exact s1.cg (fun x x0 x1 => cClear_n (by omega))
    · rw [cClear_n (by omega), cTake1_n (by omega)]
    · rw [cClear_n (by omega), cTake1_n (by omega)]; exact h.rf.2
    · rw [cClear_n (by omega), cTake1_n (by omega)]
    · rw [od_up_at2, if_neg x3, mAdds_n x1]
theorem p_drum (hE : EW E o M) (hR : Rel2 E o M g g) (l k a p : Int) : od_Pr E o M g 0 2 mX10_drum [(2, o), (0, l), (0, k), (0, a), (0, p)] 3 mX11_drum [(2, M), (0, l), (0, k), (0, a), (0, p)] := by
  refine pr_c hE hR (c_X10_drum hE.1 (by rw [hR.st.1.1]; exact hR.st.1.2) l k a p) ?_ (fun g1 r1 => ⟨_, c_X11_drum hE.2.1 r1.st.1.2 l k a p, ?_, k_drum hE r1 l k a p⟩)
  · unfold cDrumM cTake1
    exact od_fr.ip (od_fr.ip (cAcc_f (cClear_f (((((od_fr.rf.up (by unfold FC; omega)).up (by unfold FC; omega)).up (by unfold FC; omega)).up (by unfold FC; omega)).up (by unfold FC; omega)))) (cRef_f od_fr.rf)) (cRef_f od_fr.rf)
  · unfold mDrum mAdds
    exact od_fr.ip (od_fr.ip (mRef_f od_fr.rf) (mSet_f ((((((od_fr.rf.up (by unfold FM; omega)).up (by unfold FM; omega)).up (by unfold FM; omega)).up (by unfold FM; omega)).up (by unfold FM; omega)).up (by unfold FM; omega)))) (mRef_f od_fr.rf)
end Changes
