/-! the reference: runs -/
def OrI (g : od_G) (M : Int) (pl : Int → Int) (C : Int) : Prop := MI g M ∧ MJ g M ∧ LwF (g (M + 2)) pl C ∧ (0 ≤ g (M + 2) 18 ∧ g (M + 2) 18 ≤ 999) ∧ (0 ≤ g M 33 ∧ g M 33 ≤ 16)
theorem OrI.e {g g' : od_G} {M : Int} {pl : Int → Int} {C : Int} (h : OrI g M pl C) (e2 : g' (M + 2) = g (M + 2)) (e33 : g' M 33 = g M 33) : OrI g' M pl C :=
  ⟨h.1.e e2, h.2.1.e e2, h.2.2.1.e e2, by rw [e2]; exact h.2.2.2.1, by rw [e33]; exact h.2.2.2.2⟩
theorem OrI.m {g g' : od_G} {M : Int} {pl : Int → Int} {C : Int} (h : OrI g M pl C) (hi : ∀ y : Int, 19 ≤ y → g' (M + 2) y = g (M + 2) y) (hj : MJ g' M) (h18 : 0 ≤ g' (M + 2) 18 ∧ g' (M + 2) 18 ≤ 999) (h33 : 0 ≤ g' M 33 ∧ g' M 33 ≤ 16) : OrI g' M pl C :=
  ⟨h.1.mv hi, hj, h.2.2.1.mv hi, h18, h33⟩
def PQ (X : Int → Int → Prop) (a a' : Int × od_G) : Prop := a'.1 = a.1 ∧ od_fr X a.2 a'.2
theorem od_ip_c {X : Int → Int → Prop} {P : Prop} {x y x' y' : Int × od_G} (hx : PQ X x x') (hy : PQ X y y') : PQ X (od_ip P x y) (od_ip P x' y') := by
  by_cases c : P
  · rw [od_ip_t c, od_ip_t c]; exact hx
  · rw [od_ip_f c, od_ip_f c]; exact hy
theorem od_ip_i {P : Prop} {x y : Int × od_G} (R : od_G → Prop) (hx : P → R x.2) (hy : R y.2) : R (od_ip P x y).2 := by
  by_cases c : P
  · rw [od_ip_t c]; exact hx c
  · rw [od_ip_f c]; exact hy
theorem mPinK_c {X : Int → Int → Prop} {g g' : od_G} {M : Int} (pl : Int → Int) (C d b : Int) (hX : XOk M X) (h : od_fr X g g') : PQ X (mPinK g M pl C d b) (mPinK g' M pl C d b) := by
  have e2 := h.row hX.1
  have f := mTurn_c (d := d) (b := b) hX (mKp_c (k := 0) hX h)
  have e3 := f.row hX.1
  have eD : mDr g' M d = mDr g M d := by unfold mDr; rw [e2]
  have eB : (mBeatL g' M d b ∧ (mPin g' M d b ∨ ¬ mNow (g' (M + 2)) pl C 2 d b)) = (mBeatL g M d b ∧ (mPin g M d b ∨ ¬ mNow (g (M + 2)) pl C 2 d b)) := by
    rw [mPin_e e2, e2]
    unfold mBeatL
    rw [e2]
  unfold mPinK
  rw [eD, eB]
  refine od_ip_c (od_ip_c (od_ip_c ⟨?_, f⟩ ⟨rfl, h⟩) ⟨rfl, h⟩) ⟨rfl, h⟩
  show od_ite (mPin (mTurn (mKp g' M 0) M d b) M d b) 1 0 = od_ite (mPin (mTurn (mKp g M 0) M d b) M d b) 1 0
  rw [mPin_e e3]
theorem mShK_c {X : Int → Int → Prop} {g g' : od_G} {M : Int} (d n : Int) (hX : XOk M X) (h : od_fr X g g') : PQ X (mShK g M d n) (mShK g' M d n) := by
  have e2 := h.row hX.1
  have f := mKp_c (k := 1) hX h
  have eD : mDr g' M d = mDr g M d := by unfold mDr; rw [e2]
  unfold mShK
  rw [eD, e2]
  exact od_ip_c (od_ip_c ⟨rfl, f.upc rfl⟩ ⟨rfl, h⟩) ⟨rfl, h⟩
theorem mStK_c {X : Int → Int → Prop} {g g' : od_G} {M : Int} (d : Int) (hX : XOk M X) (h : od_fr X g g') : PQ X (mStK g M d) (mStK g' M d) := by
  have e2 := h.row hX.1
  have f := mKp_c (k := 2) hX h
  have eD : mDr g' M d = mDr g M d := by unfold mDr; rw [e2]
  unfold mStK
  rw [eD, e2]
  exact od_ip_c ⟨rfl, f.upc rfl⟩ ⟨rfl, h⟩
theorem mRow_c {X : Int → Int → Prop} {g g' : od_G} {a : Int} {r : Int → Int} (h : od_fr X g g') : od_fr X (mRow g a r) (mRow g' a r) := fun x y hx => by
  unfold mRow
  rw [h x y hx]
theorem mPaK_c {X : Int → Int → Prop} {g g' : od_G} {M : Int} (pl : Int → Int) (C : Int) (hX : XOk M X) (h : od_fr X g g') : PQ X (mPaK g M pl C) (mPaK g' M pl C) := by
  have e2 := h.row hX.1
  have f := mKp_c (k := 3) hX h
  unfold mPaK
  rw [mLoud_e e2, mHp_e e2, e2]
  exact od_ip_c ⟨rfl, h⟩ ⟨rfl, mRow_c f⟩
def KF (M : Int) : Int → Int → Prop := fun x y => x = M + 14 ∨ (x = M ∧ y = 33) ∨ (x = M + 2 ∧ 0 ≤ y ∧ y < 19)
theorem mKp_f (g : od_G) (M k : Int) : od_fr (KF M) g (mKp g M k) := (mKp_fr g M k).mo (fun x y z => by unfold KQ at z; unfold KF; omega)
theorem mKp_r (g : od_G) (M k : Int) (h : 0 ≤ g M 33 ∧ g M 33 ≤ 16) : 0 ≤ mKp g M k M 33 ∧ mKp g M k M 33 ≤ 16 := by
  rw [mKp_33]
  split <;> omega
theorem OrI.d {g : od_G} {M : Int} {pl : Int → Int} {C d : Int} (h : OrI g M pl C) (hd : mDr g M d) : 0 ≤ d ∧ d < g (M + 2) 45 ∧ d < 6 := by
  have z := h.1.1
  unfold mDr mLies at hd
  omega
theorem mPinK_f {g : od_G} {M : Int} {pl : Int → Int} {C d b : Int} (h : OrI g M pl C) : od_fr (KF M) g (mPinK g M pl C d b).2 := by
  unfold mPinK
  refine od_ip_i (od_fr (KF M) g) (fun _ => od_ip_i (od_fr (KF M) g) (fun hd => od_ip_i (od_fr (KF M) g) (fun _ => ?_) od_fr.rf) od_fr.rf) od_fr.rf
  have z := h.d hd
  show od_fr (KF M) g (mTurn (mKp g M 0) M d b)
  unfold mTurn
  exact (mKp_f g M 0).up (by unfold KF; omega)
theorem mPinK_I {g : od_G} {M : Int} {pl : Int → Int} {C d b : Int} (h : OrI g M pl C) : OrI (mPinK g M pl C d b).2 M pl C := by
  unfold mPinK
  refine od_ip_i (fun z => OrI z M pl C) (fun _ => od_ip_i (fun z => OrI z M pl C) (fun hd => od_ip_i (fun z => OrI z M pl C) (fun _ => ?_) h) h) h
  have z := h.d hd
  have e2 := mKp_2 g M 0
  show OrI (mTurn (mKp g M 0) M d b) M pl C
  unfold mTurn
  have r : ∀ y : Int, y ≠ d → od_up (mKp g M 0) (M + 2) d (od_xor (mKp g M 0 (M + 2) d) (od_shl 1 b)) (M + 2) y = g (M + 2) y := fun y hy => by rw [od_up_at, if_neg hy, e2]
  refine h.m (fun y hy => r y (by omega)) (fun e e0 e1 => ?_) ?_ ?_
  · rw [r 45 (by omega)] at e1
    have i45 := h.1.1
    rw [r _ (by omega), r _ (by omega), r _ (by omega)]
    exact h.2.1 e e0 e1
  · rw [r _ (by omega)]; exact h.2.2.2.1
  · rw [od_upn (by omega)]; exact mKp_r g M 0 h.2.2.2.2
theorem mShK_f {g : od_G} {M : Int} {pl : Int → Int} {C d n : Int} (h : OrI g M pl C) : od_fr (KF M) g (mShK g M d n).2 := by
  unfold mShK
  refine od_ip_i (od_fr (KF M) g) (fun _ => od_ip_i (od_fr (KF M) g) (fun hd => ?_) od_fr.rf) od_fr.rf
  have z := h.d hd
  exact (mKp_f g M 1).up (by unfold KF; omega)
theorem mShK_I {g : od_G} {M : Int} {pl : Int → Int} {C d n : Int} (h : OrI g M pl C) : OrI (mShK g M d n).2 M pl C := by
  unfold mShK
  refine od_ip_i (fun z => OrI z M pl C) (fun hn => od_ip_i (fun z => OrI z M pl C) (fun hd => ?_) h) h
  have z := h.d hd
  have e2 := mKp_2 g M 1
  unfold mLies at hn
  show OrI (od_up (mKp g M 1) (M + 2) (6 + d) ((g (M + 2) (6 + d) + n).tmod (g (M + 2) (19 + d)))) M pl C
  have r : ∀ y : Int, y ≠ 6 + d → od_up (mKp g M 1) (M + 2) (6 + d) ((g (M + 2) (6 + d) + n).tmod (g (M + 2) (19 + d))) (M + 2) y = g (M + 2) y := fun y hy => by rw [od_up_at, if_neg hy, e2]
  refine h.m (fun y hy => r y (by omega)) (fun e e0 e1 => ?_) ?_ ?_
  · rw [r 45 (by omega)] at e1
    have i45 := h.1.1
    rw [r (12 + e) (by omega), r (19 + e) (by omega)]
    have j := h.2.1 e e0 e1
    refine ⟨?_, j.2⟩
    by_cases c : e = d
    · subst c
      rw [od_up_i]
      exact od_rol j.1.1 (by omega) (h.1.2 e e0 e1).1
    · rw [r _ (by omega)]; exact j.1
  · rw [r _ (by omega)]; exact h.2.2.2.1
  · rw [od_upn (by omega)]; exact mKp_r g M 1 h.2.2.2.2
theorem mStK_f {g : od_G} {M : Int} {pl : Int → Int} {C d : Int} (h : OrI g M pl C) : od_fr (KF M) g (mStK g M d).2 := by
  unfold mStK
  refine od_ip_i (od_fr (KF M) g) (fun hd => ?_) od_fr.rf
  have z := h.d hd
  exact (mKp_f g M 2).up (by unfold KF; omega)
theorem mStK_I {g : od_G} {M : Int} {pl : Int → Int} {C d : Int} (h : OrI g M pl C) : OrI (mStK g M d).2 M pl C := by
  unfold mStK
  refine od_ip_i (fun z => OrI z M pl C) (fun hd => ?_) h
  have z := h.d hd
  have e2 := mKp_2 g M 2
  show OrI (od_up (mKp g M 2) (M + 2) (12 + d) (1 - g (M + 2) (12 + d))) M pl C
  have r : ∀ y : Int, y ≠ 12 + d → od_up (mKp g M 2) (M + 2) (12 + d) (1 - g (M + 2) (12 + d)) (M + 2) y = g (M + 2) y := fun y hy => by rw [od_up_at, if_neg hy, e2]
  refine h.m (fun y hy => r y (by omega)) (fun e e0 e1 => ?_) ?_ ?_
  · rw [r 45 (by omega)] at e1
    have i45 := h.1.1
    rw [r (6 + e) (by omega), r (19 + e) (by omega)]
    have j := h.2.1 e e0 e1
    refine ⟨j.1, ?_⟩
    by_cases c : e = d
    · subst c
      rw [od_up_i]
      omega
    · rw [r _ (by omega)]; exact j.2
  · rw [r _ (by omega)]; exact h.2.2.2.1
  · rw [od_upn (by omega)]; exact mKp_r g M 2 h.2.2.2.2
theorem mHp_lo {g : od_G} {M : Int} {pl : Int → Int} {C y : Int} (hI : MI g M) (hy : y < 0) : mHp g M pl C y = g (M + 2) y := by
  have i45 := hI.1
  unfold mHp mHk
  rw [od_u1_ne (by omega), od_ite_f (by omega), od_ite_f (by omega)]
theorem mPaK_f {g : od_G} {M : Int} {pl : Int → Int} {C : Int} (h : OrI g M pl C) : od_fr (KF M) g (mPaK g M pl C).2 := by
  unfold mPaK
  refine od_ip_i (od_fr (KF M) g) (fun _ => od_fr.rf) ?_
  intro x y hx
  show mRow (mKp g M 3) (M + 2) (mHp g M pl C) x y = g x y
  unfold mRow
  by_cases c : x = M + 2
  · rw [if_pos c, c]
    unfold KF at hx
    by_cases c1 : y < 0
    · exact mHp_lo h.1 c1
    · exact mHp_hi h.1 (by omega)
  · rw [if_neg c]
    exact mKp_f g M 3 x y hx
theorem mPaK_I {g : od_G} {M : Int} {pl : Int → Int} {C : Int} (h : OrI g M pl C) : OrI (mPaK g M pl C).2 M pl C := by
  have r : mRow (mKp g M 3) (M + 2) (mHp g M pl C) (M + 2) = mHp g M pl C := by
    funext y
    unfold mRow
    rw [if_pos rfl]
  by_cases c : g (M + 2) 18 = 999
  · unfold mPaK
    rw [od_ip_t c]
    exact h
  · unfold mPaK
    rw [od_ip_f c]
    show OrI (mRow (mKp g M 3) (M + 2) (mHp g M pl C)) M pl C
    have h18 := h.2.2.2.1
    refine h.m (fun y hy => ?_) (MJ_hp h.1 h.2.1 r) ?_ ?_
    · rw [r]; exact mHp_hi h.1 hy
    · rw [r, mHp_18]; omega
    · have e : mRow (mKp g M 3) (M + 2) (mHp g M pl C) M 33 = mKp g M 3 M 33 := by
        unfold mRow
        rw [if_neg (by omega)]
      rw [e]
      exact mKp_r g M 3 h.2.2.2.2
/-- a command obeyed -/
noncomputable def mObx (g : od_G) (M : Int) (pl : Int → Int) (C kd x y : Int) : Int × od_G :=
  if kd = 1 then mShK g M (mSml x) (mSml y)
  else if kd = 2 then mStK g M (mSml x)
  else if kd = 3 then ((mPaK g M pl C).1, od_up (mPaK g M pl C).2 M 28 (if (mPaK g M pl C).1 < 0 then (mPaK g M pl C).2 M 28 else (mPaK g M pl C).1))
  else mPinK g M pl C (mSml x) (mSml y)
theorem mOb_x {g : od_G} {M : Int} {pl : Int → Int} {C kd x y : Int} (hk : 0 ≤ kd ∧ kd ≤ 3) (h44 : g M 44 = mHc kd) (hx : kd ≠ 3 → g (M + 22) 0 = x) (hy : kd = 0 ∨ kd = 1 → g (M + 22) 1 = y) : mOb g M pl C = mObx g M pl C kd x y := by
  unfold mOb mObx
  rw [h44]
  unfold mHc
  by_cases c1 : kd = 1
  · subst c1
    rw [if_pos (by decide), if_pos rfl, hx (by omega), hy (by omega)]
  · by_cases c2 : kd = 2
    · subst c2
      rw [if_neg (by decide), if_pos (by decide), if_neg (by decide), if_pos rfl, hx (by omega)]
    · by_cases c3 : kd = 3
      · subst c3
        rw [if_neg (show ¬ (if (3 : Int) = 0 then (20 : Int) else if (3 : Int) = 1 then 21 else if (3 : Int) = 2 then 23 else 24) = 21 by decide), if_neg (show ¬ (if (3 : Int) = 0 then (20 : Int) else if (3 : Int) = 1 then 21 else if (3 : Int) = 2 then 23 else 24) = 23 by decide), if_pos (show (if (3 : Int) = 0 then (20 : Int) else if (3 : Int) = 1 then 21 else if (3 : Int) = 2 then 23 else 24) = 24 by decide), if_neg (show ¬ (3 : Int) = 1 by decide), if_neg (show ¬ (3 : Int) = 2 by decide), if_pos (show (3 : Int) = 3 from rfl)]
      · have c0 : kd = 0 := by omega
        subst c0
        rw [if_neg (by decide), if_neg (by decide), if_neg (by decide), if_neg (by decide), if_neg (by decide), if_neg (by decide), hx (by omega), hy (by omega)]
theorem mObx_c {X : Int → Int → Prop} {g g' : od_G} {M : Int} (pl : Int → Int) (C kd x y : Int) (hX : XOk M X) (h28 : ¬ X M 28) (h : od_fr X g g') : PQ X (mObx g M pl C kd x y) (mObx g' M pl C kd x y) := by
  unfold mObx
  by_cases c1 : kd = 1
  · rw [if_pos c1, if_pos c1]; exact mShK_c _ _ hX h
  · rw [if_neg c1, if_neg c1]
    by_cases c2 : kd = 2
    · rw [if_pos c2, if_pos c2]; exact mStK_c _ hX h
    · rw [if_neg c2, if_neg c2]
      by_cases c3 : kd = 3
      · rw [if_pos c3, if_pos c3]
        have z := mPaK_c pl C hX h
        refine ⟨z.1, ?_⟩
        show od_fr X (od_up (mPaK g M pl C).2 M 28 (if (mPaK g M pl C).1 < 0 then (mPaK g M pl C).2 M 28 else (mPaK g M pl C).1)) (od_up (mPaK g' M pl C).2 M 28 (if (mPaK g' M pl C).1 < 0 then (mPaK g' M pl C).2 M 28 else (mPaK g' M pl C).1))
        rw [z.1, z.2 M 28 h28]
        exact z.2.upc rfl
      · rw [if_neg c3, if_neg c3]; exact mPinK_c pl C _ _ hX h
def OX (M : Int) : Int → Int → Prop := fun x y => (x = M ∧ ((22 ≤ y ∧ y ≤ 25) ∨ y = 29 ∨ (43 ≤ y ∧ y ≤ 46))) ∨ x = M + 12 ∨ x = M + 13 ∨ x = M + 22
theorem OX_ok (M : Int) : XOk M (OX M) := by
  unfold XOk OX
  refine ⟨fun y => ?_, fun y => ?_, ?_, fun y => ?_, ?_⟩ <;> omega
def OF (M : Int) : Int → Int → Prop := fun x y => OX M x y ∨ KF M x y ∨ (x = M ∧ (y = 27 ∨ y = 28))
theorem mObx_f {g : od_G} {M : Int} {pl : Int → Int} {C kd x y : Int} (h : OrI g M pl C) : od_fr (fun a b => KF M a b ∨ (a = M ∧ b = 28)) g (mObx g M pl C kd x y).2 := by
  unfold mObx
  split
  · exact (mShK_f h).mo (fun _ _ z => Or.inl z)
  · split
    · exact (mStK_f h).mo (fun _ _ z => Or.inl z)
    · split
      · exact ((mPaK_f h).mo (fun _ _ z => Or.inl z)).up (Or.inr ⟨rfl, rfl⟩)
      · exact (mPinK_f h).mo (fun _ _ z => Or.inl z)
theorem mObx_I {g : od_G} {M : Int} {pl : Int → Int} {C kd x y : Int} (h : OrI g M pl C) : OrI (mObx g M pl C kd x y).2 M pl C := by
  unfold mObx
  split
  · exact mShK_I h
  · split
    · exact mStK_I h
    · split
      · exact (mPaK_I h).e (od_up_ne (by omega)) (by show od_up _ _ _ _ _ _ = _; rw [od_up_at, if_neg (by omega)])
      · exact mPinK_I h
/-- one turn of a clause of orders: none where the orders fail -/
noncomputable def mOne (g : od_G) (M : Int) (pl : Int → Int) (C : Int) (q : pC) : Option od_G :=
  if q.2.2.2.2 (mEn g M pl C) = some 1 then
    (match q.2.2.1 (mEn g M pl C), q.2.2.2.1 (mEn g M pl C) with
    | some x, some y => if (mObx g M pl C q.1 x y).1 < 0 then none else some (od_up (mObx g M pl C q.1 x y).2 M 27 ((mObx g M pl C q.1 x y).2 M 27 + 1))
    | _, _ => none)
  else some g
noncomputable def mTms (g : od_G) (M : Int) (pl : Int → Int) (C : Int) (q : pC) : Nat → Option od_G
  | 0 => some g
  | n + 1 => (match mTms g M pl C q n with
    | none => none
    | some g2 => mOne g2 M pl C q)
theorem mTms_n {g : od_G} {M : Int} {pl : Int → Int} {C : Int} {q : pC} {n : Nat} (h : mTms g M pl C q n = none) : ∀ m : Nat, mTms g M pl C q (n + m) = none := by
  intro m
  induction m with
  | zero => exact h
  | succ m ih =>
    show mTms g M pl C q ((n + m) + 1) = none
    unfold mTms
    rw [ih]
theorem mTms_s {g g2 : od_G} {M : Int} {pl : Int → Int} {C k : Int} {q : pC} (hk : 0 ≤ k) (h : mTms g M pl C q k.toNat = some g2) : mTms g M pl C q (k + 1).toNat = mOne g2 M pl C q := by
  rw [show (k + 1).toNat = k.toNat + 1 by omega]
  show (match mTms g M pl C q k.toNat with
    | none => none
    | some g2 => mOne g2 M pl C q) = _
  rw [h]
theorem mOne_n {g : od_G} {M : Int} {pl : Int → Int} {C : Int} {q : pC} (h : ¬ q.2.2.2.2 (mEn g M pl C) = some 1) : mOne g M pl C q = some g := by
  unfold mOne
  rw [if_neg h]
theorem mOne_x {g : od_G} {M : Int} {pl : Int → Int} {C : Int} {q : pC} (h : q.2.2.2.2 (mEn g M pl C) = some 1) (hn : q.2.2.1 (mEn g M pl C) = none ∨ q.2.2.2.1 (mEn g M pl C) = none) : mOne g M pl C q = none := by
  unfold mOne
  rw [if_pos h]
  rcases hn with hn | hn
  · rw [hn]
  · rw [hn]
    cases q.2.2.1 (mEn g M pl C) <;> rfl
theorem mOne_f {g : od_G} {M : Int} {pl : Int → Int} {C x y : Int} {q : pC} (h : q.2.2.2.2 (mEn g M pl C) = some 1) (hx : q.2.2.1 (mEn g M pl C) = some x) (hy : q.2.2.2.1 (mEn g M pl C) = some y) (hb : (mObx g M pl C q.1 x y).1 < 0) : mOne g M pl C q = none := by
  unfold mOne
  rw [if_pos h, hx, hy]
  exact if_pos hb
theorem mOne_t {g : od_G} {M : Int} {pl : Int → Int} {C x y : Int} {q : pC} (h : q.2.2.2.2 (mEn g M pl C) = some 1) (hx : q.2.2.1 (mEn g M pl C) = some x) (hy : q.2.2.2.1 (mEn g M pl C) = some y) (hb : ¬ (mObx g M pl C q.1 x y).1 < 0) : mOne g M pl C q = some (od_up (mObx g M pl C q.1 x y).2 M 27 ((mObx g M pl C q.1 x y).2 M 27 + 1)) := by
  unfold mOne
  rw [if_pos h, hx, hy]
  exact if_neg hb
theorem mEn_c {g g' : od_G} {M : Int} {pl : Int → Int} {C : Int} (e2 : g' (M + 2) = g (M + 2)) (e27 : g' M 27 = g M 27) (e28 : g' M 28 = g M 28) : mEn g' M pl C = mEn g M pl C := by
  unfold mEn
  rw [mLoud_e e2]
  exact mWo_c (by rw [od_up_ne (by omega), od_up_ne (by omega), e2]) (by rw [od_up_at, if_neg (by omega), od_up_at, if_neg (by omega), e27]) (by rw [od_up_at, if_neg (by omega), od_up_at, if_neg (by omega), e28]) (by rw [od_up_i, od_up_i])
theorem pCl_kd {c v pl : Int → Int} {s : pS} (hp : ∀ i : Int, 0 ≤ pl i) (hf : (pCl c v pl false s).1.2.2 = -1) : (0 ≤ (pCl c v pl false s).2.1 ∧ (pCl c v pl false s).2.1 ≤ 3) ∧ (1 ≤ (pCl c v pl false s).2.2.1 ∧ (pCl c v pl false s).2.2.1 ≤ 20) ∧ s.2.2 = -1 ∧ c s.1 ≠ 0 := by
  have hK := pCl_f c v pl s
  have hIf : (pIf c v pl false (pTi c v pl (pHdO c v pl s).1).1).1.2.2 = -1 := by rw [hK] at hf; exact hf
  have hT := pTi_in hp (pIf_in hIf).1
  have hH := pHdO_in hp hT.1
  rw [hK]
  refine ⟨?_, ?_, hH.1, ?_⟩
  · show 0 ≤ (pHdO c v pl s).2.1 ∧ (pHdO c v pl s).2.1 ≤ 3
    rcases hH.2 with ⟨_, _, h⟩ | ⟨_, _, h⟩ | ⟨_, _, h⟩ | ⟨_, h⟩ <;> rw [h] <;> exact ⟨by simp, by simp⟩
  · show 1 ≤ (pTi c v pl (pHdO c v pl s).1).2 ∧ (pTi c v pl (pHdO c v pl s).1).2 ≤ 20
    rcases hT.2 with ⟨_, _, h, e⟩ | ⟨_, e⟩
    · rw [e]; exact h
    · rw [e]; exact ⟨by simp, by simp⟩
  · rcases hH.2 with h | h | h | h <;> omega
def RnQ (g : od_G) (M : Int) (pl : Int → Int) (C : Int) (q : pC) (bh : Int) (v : Option od_V) (g' : od_G) : Prop := (v = some (0, 1) ∧ ∃ g2 : od_G, mTms g M pl C q q.2.1.toNat = some g2 ∧ od_fr (OX M) (od_up g2 M 42 bh) g' ∧ OrI g2 M pl C ∧ od_fr (OF M) g g2 ∧ (0 ≤ g2 M 27 ∧ g2 M 27 ≤ g M 27 + 20)) ∨ (v = some (0, 0) ∧ mTms g M pl C q q.2.1.toNat = none ∧ od_fr (OF M) g g')
theorem GZ_OX {M x y : Int} (h : GZ M x y) : OX M x y := by unfold GZ GX XQ at h; unfold OX; omega
theorem SQ_OX {M x y : Int} (h : SQ M x y) : OX M x y := by unfold SQ at h; unfold OX; omega
theorem OX_OF {M x y : Int} (h : OX M x y) : OF M x y := Or.inl h
set_option maxRecDepth 10000 in
theorem lp_X11_runs {E : od_E} {g : od_G} {M : Int} (hm : MoAt E M) {lp : Int → Int} {C : Int} {N : Int} {c v pl : Int → Int} (hp : ∀ i : Int, 0 ≤ pl i) (hT : TxH g M N c v) (s : pS) (h42 : g M 42 = 2400 + s.1) (hs0 : 0 ≤ s.1) (hf : (pCl c v pl false s).1.2.2 = -1) (hm4 : (pCl c v pl false s).1.1 ≤ 400) {en : Int} (hen : en = 2400 + N) (h27 : 0 ≤ g M 27 ∧ g M 27 ≤ 1000) : ∀ (m : Nat) (k : Int) (g2 gw : od_G), (0 ≤ k ∧ k ≤ (pCl c v pl false s).2.2.1 ∧ mTms g M lp C (pCl c v pl false s).2 k.toNat = some g2 ∧ od_fr (OX M) g2 gw ∧ OrI g2 M lp C ∧ od_fr (OF M) g g2 ∧ (0 ≤ g2 M 27 ∧ g2 M 27 ≤ g M 27 + k)) → (((pCl c v pl false s).2.2.1 - k).toNat) < m → od_Rq 50 mX11_runs od_Z0 E (E, RnQ g M lp C (pCl c v pl false s).2 (2400 + ((pCl c v pl false s).1.1 + 1))) 19 [some (2, M), some (0, en), some (0, (pCl c v pl false s).2.2.1), some (0, 2400 + ((pCl c v pl false s).1.1 + 1)), some (0, k)] [] E gw := by
  intro m
  induction m with
  | zero => intro k g2 gw hi hM; exact absurd hM (Nat.not_lt_zero _)
  | succ m ih =>
    intro k g2 gw hi hM
    obtain ⟨hk0, hk1, hk2, hq, hO, hof, hb27⟩ := hi
    have hkd := pCl_kd hp hf
    have hr2 := hq.row (OX_ok M).1
    have hOw : OrI gw M lp C := hO.e hr2 (hq _ _ (OX_ok M).2.2.1)
    have eEn : mEn gw M lp C = mEn g2 M lp C := mEn_c hr2 (hq _ _ (by unfold OX; omega)) (hq _ _ (by unfold OX; omega))
    have hT2 : TxH gw M N c v := ⟨hT.1, fun i a1 b1 => by rw [hr2, hof _ _ (by unfold OF OX KF; omega), hof _ _ (by unfold OF OX KF; omega)]; exact hT.2.1 i a1 b1, hT.2.2⟩
    have h42w : gw M 42 = 2400 + s.1 := by rw [hq _ _ (by unfold OX; omega), hof _ _ (by unfold OF OX KF; omega)]; exact h42
    refine r_iload dX11_runs_19 rfl ?_
    refine r_iload_n dX11_runs_21 rfl ?_
    refine r_icmp_ge (tgt := 73) dX11_runs_22 rfl (fun c22 => ?_) (fun c22 => ?_)
    · refine r_aload_n dX11_runs_73 rfl ?_
      refine r_iload_n dX11_runs_74 rfl ?_
      refine r_putIj (j := 42) rfl dX11_runs_75 fkX11_431 gf11_42 pf11_42 (mo_o hm) ?_
      refine r_iconst dX11_runs_78 li_1 ?_
      refine r_zretq dX11_runs_79 rfl od_nz1 rfl (Or.inl ⟨rfl, g2, ?_, hq.upc rfl, hO, hof, by omega⟩)
      rw [show (pCl c v pl false s).2.2.1 = k by omega]
      exact hk2
    · refine r_aload_n dX11_runs_25 rfl ?_
      refine r_iload_n dX11_runs_26 rfl ?_
      refine r_iconst dX11_runs_27 li_1 ?_
      refine r_callV2p dX11_runs_28 cvX11_458 (mo_o hm) (c_X11_goesAlong hm hOw.1 hOw.2.2.1 hp hT2 s h42w hs0 hf hm4 (Or.inr rfl) hen) (by decide) (Nat.le_of_ble_eq_true rfl) od_le.rf (fun r28 g28 h28 => ?_)
      obtain ⟨rfl, f28, q28⟩ := h28
      show od_Rq _ _ _ _ _ _ _ [] _ _
      by_cases hT1 : (pCl c v pl false s).2.2.2.2.2 (mEn gw M lp C) = some 1
      · have e46 : g28 M 46 = 1 := by rw [(q28.2.2.2 rfl).1, od_b_t hT1]
        rcases (q28.2.2.2 rfl).2 with ⟨e45, a2⟩ | ⟨e45, x, y, a2, a3, a4, a5⟩
        · refine r_aload_n dX11_runs_31 rfl ?_
          refine r_getIj (j := 46) rfl dX11_runs_32 fkX11_449 gf11_46 (mo_o hm) (by first | exact e46 | exact e45 | rfl) ?_
          refine r_if_ne (tgt := 41) dX11_runs_35 rfl (fun c35 => ?_) (fun h => absurd h (by omega))
          refine r_aload_n dX11_runs_41 rfl ?_
          refine r_getIj (j := 45) rfl dX11_runs_42 fkX11_443 gf11_45 (mo_o hm) (by first | exact e46 | exact e45 | rfl) ?_
          refine r_if_eq (tgt := 55) dX11_runs_45 rfl (fun c45 => ?_) (fun h => absurd h (by omega))
          refine r_iconst dX11_runs_55 li_0 ?_
          refine r_zretq dX11_runs_56 rfl od_nz0 rfl (Or.inr ⟨rfl, ?_, ?_⟩)
          · have z := mTms_s hk0 hk2
            rw [mOne_x (by rw [← eEn]; exact hT1) (by rw [← eEn]; exact a2)] at z
            have z2 := mTms_n z ((pCl c v pl false s).2.2.1 - (k + 1)).toNat
            rw [show (k + 1).toNat + ((pCl c v pl false s).2.2.1 - (k + 1)).toNat = (pCl c v pl false s).2.2.1.toNat by omega] at z2
            exact z2
          · exact (hof.tr (hq.mo (fun _ _ z => OX_OF z))).tr (f28.mo (fun _ _ z => OX_OF (GZ_OX z)))
        · have f28o := hq.tr (f28.mo (fun _ _ z => GZ_OX z))
          have hO28 : OrI g28 M lp C := hO.e (f28o.row (OX_ok M).1) (f28o _ _ (OX_ok M).2.2.1)
          have eB0 := mOb_x (pl := lp) (C := C) hkd.1 q28.2.2.1 a4 a5
          have pq := mObx_c lp C (pCl c v pl false s).2.1 x y (OX_ok M) (by unfold OX; omega) f28o
          have eB1 : (mObx g28 M lp C (pCl c v pl false s).2.1 x y).1 = (mObx g2 M lp C (pCl c v pl false s).2.1 x y).1 := pq.1
          have f2o := pq.2
          have e27 : (mObx g2 M lp C (pCl c v pl false s).2.1 x y).2 M 27 = g2 M 27 := mObx_f hO M 27 (by unfold KF; omega)
          refine r_aload_n dX11_runs_31 rfl ?_
          refine r_getIj (j := 46) rfl dX11_runs_32 fkX11_449 gf11_46 (mo_o hm) (by first | exact e46 | exact e45 | exact e27w | rfl) ?_
          refine r_if_ne (tgt := 41) dX11_runs_35 rfl (fun c35 => ?_) (fun h => absurd h (by omega))
          refine r_aload_n dX11_runs_41 rfl ?_
          refine r_getIj (j := 45) rfl dX11_runs_42 fkX11_443 gf11_45 (mo_o hm) (by first | exact e46 | exact e45 | exact e27w | rfl) ?_
          refine r_if_eq (tgt := 55) dX11_runs_45 rfl (fun h => absurd h (by omega)) (fun c45 => ?_)
          refine r_aload_n dX11_runs_48 rfl ?_
          refine r_callV0x dX11_runs_49 cvX11_462 (mo_o hm) (c_X11_obeys hm hO28.1 hO28.2.1 hO28.2.2.1 hO28.2.2.2.1 hO28.2.2.2.2) (by decide) (Nat.le_of_ble_eq_true rfl) od_le.rf (fun g49 f49 => ?_)
          rw [eB0] at f49
          rw [eB0]
          have e27w : g49 M 27 = g2 M 27 := by rw [f49 _ _ (by unfold SQ; omega), f2o _ _ (by unfold OX; omega)]; exact e27
          refine r_if_ge (tgt := 57) dX11_runs_52 rfl (fun c52 => ?_) (fun c52 => ?_)
          · refine r_aload_n dX11_runs_57 rfl ?_
            refine r_dup dX11_runs_58 (by first | exact od_ne2 | exact od_ne0) ?_
            refine r_getIj (j := 27) rfl dX11_runs_59 fkX11_302 gf11_27 (mo_o hm) (by first | exact e46 | exact e45 | exact e27w | rfl) ?_
            refine r_iconst dX11_runs_62 li_1 ?_
            refine r_iaddE dX11_runs_63 (by first | exact od_w0 (by omega) (by omega) | exact od_wI (by omega) (by omega) | rfl) ?_
            refine r_putIj (j := 27) rfl dX11_runs_64 fkX11_302 gf11_27 pf11_27 (mo_o hm) ?_
            refine r_iincE dX11_runs_67 rfl (by decide) (by first | exact od_w0 (by omega) (by omega) | exact od_wI (by omega) (by omega) | rfl) rfl ?_
            refine r_goto (tgt := 19) dX11_runs_70 rfl ?_
            refine ih _ (od_up (mObx g2 M lp C (pCl c v pl false s).2.1 x y).2 M 27 ((mObx g2 M lp C (pCl c v pl false s).2.1 x y).2 M 27 + 1)) _ ⟨by omega, by omega, ?_, ?_, ?_, ?_, ?_⟩ (by omega)
            · rw [mTms_s hk0 hk2, mOne_t (by rw [← eEn]; exact hT1) (by rw [← eEn]; exact a2) (by rw [← eEn]; exact a3) (by rw [eB1] at c52; omega)]
            · rw [e27]
              exact (f2o.tr (f49.mo (fun _ _ z => SQ_OX z))).upc rfl
            · exact (mObx_I hO).e (od_up_ne (by omega)) (by rw [od_up_at, if_neg (by omega)])
            · refine (hof.tr ((mObx_f hO).mo (fun a b z => ?_))).up (Or.inr (Or.inr ⟨rfl, Or.inl rfl⟩))
              unfold OF
              rcases z with z | z
              · exact Or.inr (Or.inl z)
              · exact Or.inr (Or.inr ⟨z.1, Or.inr z.2⟩)
            · rw [od_up_i, e27]; omega
          · refine r_iconst dX11_runs_55 li_0 ?_
            refine r_zretq dX11_runs_56 rfl od_nz0 rfl (Or.inr ⟨rfl, ?_, ?_⟩)
            · have z := mTms_s hk0 hk2
              rw [mOne_f (by rw [← eEn]; exact hT1) (by rw [← eEn]; exact a2) (by rw [← eEn]; exact a3) (by rw [eB1] at c52; omega)] at z
              have z2 := mTms_n z ((pCl c v pl false s).2.2.1 - (k + 1)).toNat
              rw [show (k + 1).toNat + ((pCl c v pl false s).2.2.1 - (k + 1)).toNat = (pCl c v pl false s).2.2.1.toNat by omega] at z2
              exact z2
            · refine ((hof.tr ((mObx_f hO).mo (fun a b z => ?_))).tr (f2o.mo (fun _ _ z => OX_OF z))).tr (f49.mo (fun _ _ z => OX_OF (SQ_OX z)))
              unfold OF
              rcases z with z | z
              · exact Or.inr (Or.inl z)
              · exact Or.inr (Or.inr ⟨z.1, Or.inr z.2⟩)
      · have e46 : g28 M 46 = 0 := by rw [(q28.2.2.2 rfl).1, od_b_f hT1]
        refine r_aload_n dX11_runs_31 rfl ?_
        refine r_getIj (j := 46) rfl dX11_runs_32 fkX11_449 gf11_46 (mo_o hm) (by first | exact e46 | exact e45 | rfl) ?_
        refine r_if_ne (tgt := 41) dX11_runs_35 rfl (fun h => absurd h (by omega)) (fun c35 => ?_)
        refine r_goto (tgt := 67) dX11_runs_38 rfl ?_
        refine r_iincE dX11_runs_67 rfl (by decide) (by first | exact od_w0 (by omega) (by omega) | exact od_wI (by omega) (by omega) | rfl) rfl ?_
        refine r_goto (tgt := 19) dX11_runs_70 rfl ?_
        refine ih _ _ _ ⟨by omega, by omega, ?_, (hq.tr (f28.mo (fun _ _ z => GZ_OX z))), hO, hof, by omega⟩ (by omega)
        rw [mTms_s hk0 hk2]
        exact mOne_n (by rw [← eEn]; exact hT1)
set_option maxRecDepth 10000 in
theorem c_X11_runs {E : od_E} {g : od_G} {M : Int} (hm : MoAt E M) {lp : Int → Int} {C : Int} {N : Int} {c v pl : Int → Int} (hp : ∀ i : Int, 0 ≤ pl i) (hT : TxH g M N c v) (s : pS) (h42 : g M 42 = 2400 + s.1) (hs0 : 0 ≤ s.1) (hf : (pCl c v pl false s).1.2.2 = -1) (hm4 : (pCl c v pl false s).1.1 ≤ 400) {en : Int} (hen : en = 2400 + N) (h27 : 0 ≤ g M 27 ∧ g M 27 ≤ 1000) (hO : OrI g M lp C) : od_Cq 50 mX11_runs [(2, M), (0, en)] E g (E, RnQ g M lp C (pCl c v pl false s).2 (2400 + ((pCl c v pl false s).1.1 + 1))) := by
  refine od_cqI pnX11 rfl (Nat.le_of_ble_eq_true rfl) od_le.rf ?_
  show od_Rq 50 mX11_runs od_Z0 E (E, RnQ g M lp C (pCl c v pl false s).2 (2400 + ((pCl c v pl false s).1.1 + 1))) 0 [some (2, M), some (0, en), none, none, none] [] E g
  refine r_aload_n dX11_runs_0 rfl ?_
  refine r_iload_n dX11_runs_1 rfl ?_
  refine r_iconst dX11_runs_2 li_0 ?_
  refine r_callV2p dX11_runs_3 cvX11_458 (mo_o hm) (c_X11_goesAlong hm hO.1 hO.2.2.1 hp hT s h42 hs0 hf hm4 (Or.inl rfl) hen) (by decide) (Nat.le_of_ble_eq_true rfl) od_le.rf (fun r3 g3 h3 => ?_)
  obtain ⟨rfl, f3, q3⟩ := h3
  show od_Rq _ _ _ _ _ _ _ [] _ _
  refine r_aload_n dX11_runs_6 rfl ?_
  refine r_getIj (j := 43) rfl dX11_runs_7 fkX11_446 gf11_43 (mo_o hm) (by first | exact q3.2.1 | exact q3.1) ?_
  refine r_istore_n dX11_runs_10 (by decide) rfl ?_
  refine r_aload_n dX11_runs_11 rfl ?_
  refine r_getIj (j := 22) rfl dX11_runs_12 fkX11_263 gf11_22 (mo_o hm) (by first | exact q3.2.1 | exact q3.1) ?_
  refine r_istore_n dX11_runs_15 (by decide) rfl ?_
  refine r_iconst dX11_runs_16 li_0 ?_
  refine r_istore dX11_runs_17 (by decide) rfl ?_
  have hkd := pCl_kd hp hf
  exact lp_X11_runs hm hp hT s h42 hs0 hf hm4 hen h27 _ _ _ _ ⟨by omega, by omega, rfl, f3.mo (fun _ _ z => GZ_OX z), hO, od_fr.rf, by omega⟩ (Nat.lt_succ_self _)
