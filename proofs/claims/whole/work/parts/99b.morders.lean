/-! the reference: orders -/
theorem od_fr.sy {X : Int → Int → Prop} {g g' : od_G} (h : od_fr X g g') : od_fr X g' g := fun x y hx => (h x y hx).symm
def OpQ (X : Int → Int → Prop) (a a' : Option od_G) : Prop := (a = none ∧ a' = none) ∨ ∃ b b' : od_G, a = some b ∧ a' = some b' ∧ od_fr X b b'
theorem mOne_c {X : Int → Int → Prop} {g g' : od_G} {M : Int} (pl : Int → Int) (C : Int) (q : pC) (hX : XOk M X) (h27 : ¬ X M 27) (h28 : ¬ X M 28) (h : od_fr X g g') : OpQ X (mOne g M pl C q) (mOne g' M pl C q) := by
  have eE : mEn g' M pl C = mEn g M pl C := mEn_c (h.row hX.1) (h _ _ h27) (h _ _ h28)
  by_cases c1 : q.2.2.2.2 (mEn g M pl C) = some 1
  · cases c2 : q.2.2.1 (mEn g M pl C) with
    | none => exact Or.inl ⟨mOne_x c1 (Or.inl c2), mOne_x (by rw [eE]; exact c1) (Or.inl (by rw [eE]; exact c2))⟩
    | some x =>
      cases c3 : q.2.2.2.1 (mEn g M pl C) with
      | none => exact Or.inl ⟨mOne_x c1 (Or.inr c3), mOne_x (by rw [eE]; exact c1) (Or.inr (by rw [eE]; exact c3))⟩
      | some y =>
        have pq := mObx_c pl C q.1 x y hX h28 h
        by_cases c4 : (mObx g M pl C q.1 x y).1 < 0
        · exact Or.inl ⟨mOne_f c1 c2 c3 c4, mOne_f (by rw [eE]; exact c1) (by rw [eE]; exact c2) (by rw [eE]; exact c3) (by rw [pq.1]; exact c4)⟩
        · refine Or.inr ⟨_, _, mOne_t c1 c2 c3 c4, mOne_t (by rw [eE]; exact c1) (by rw [eE]; exact c2) (by rw [eE]; exact c3) (by rw [pq.1]; exact c4), ?_⟩
          exact pq.2.upc (by rw [pq.2 _ _ h27])
  · exact Or.inr ⟨_, _, mOne_n c1, mOne_n (by rw [eE]; exact c1), h⟩
theorem mTms_c {X : Int → Int → Prop} {g g' : od_G} {M : Int} (pl : Int → Int) (C : Int) (q : pC) (hX : XOk M X) (h27 : ¬ X M 27) (h28 : ¬ X M 28) (h : od_fr X g g') : ∀ n : Nat, OpQ X (mTms g M pl C q n) (mTms g' M pl C q n) := by
  intro n
  induction n with
  | zero => exact Or.inr ⟨g, g', rfl, rfl, h⟩
  | succ n ih =>
    show OpQ X (match mTms g M pl C q n with
    | none => none
    | some g2 => mOne g2 M pl C q) (match mTms g' M pl C q n with
    | none => none
    | some g2 => mOne g2 M pl C q)
    rcases ih with ⟨e1, e2⟩ | ⟨b, b', e1, e2, f⟩
    · rw [e1, e2]; exact Or.inl ⟨rfl, rfl⟩
    · rw [e1, e2]; exact mOne_c pl C q hX h27 h28 f
/-- the first n clauses of orders -/
noncomputable def mOrd (g : od_G) (M : Int) (pl : Int → Int) (C : Int) (cl : Nat → pC) : Nat → Option od_G
  | 0 => some g
  | n + 1 => (match mOrd g M pl C cl n with
    | none => none
    | some g2 => mTms g2 M pl C (cl n) (cl n).2.1.toNat)
theorem mOrd_s {g g2 : od_G} {M : Int} {pl : Int → Int} {C k : Int} {cl : Nat → pC} (hk : 0 ≤ k) (h : mOrd g M pl C cl k.toNat = some g2) : mOrd g M pl C cl (k + 1).toNat = mTms g2 M pl C (cl k.toNat) (cl k.toNat).2.1.toNat := by
  rw [show (k + 1).toNat = k.toNat + 1 by omega]
  show (match mOrd g M pl C cl k.toNat with
    | none => none
    | some g2 => mTms g2 M pl C (cl k.toNat) (cl k.toNat).2.1.toNat) = _
  rw [h]
noncomputable def pCo (c v pl : Int → Int) (n : Nat) : pC := (pCl c v pl false (pSt c v pl false n)).2
def OY (M : Int) : Int → Int → Prop := fun x y => OX M x y ∨ (x = M ∧ y = 42)
theorem OY_ok (M : Int) : XOk M (OY M) := by
  unfold XOk OY OX
  refine ⟨fun y => ?_, fun y => ?_, ?_, fun y => ?_, ?_⟩ <;> omega
def OG (M : Int) : Int → Int → Prop := fun x y => OF M x y ∨ (x = M ∧ y = 42)
theorem OY_OG {M x y : Int} (h : OY M x y) : OG M x y := by
  rcases h with h | h
  · exact Or.inl (OX_OF h)
  · exact Or.inr h
/-- what may differ as the orders begin -/
def OBg (M : Int) : Int → Int → Prop := fun x y => XE M x y ∨ XL M 6 x y ∨ x = M + 5 ∨ x = M + 15 ∨ (x = M ∧ (y = 27 ∨ y = 28 ∨ y = 41 ∨ y = 42))
def OZ (M : Int) : Int → Int → Prop := fun x y => OX M x y ∨ (x = M ∧ (y = 27 ∨ y = 28 ∨ y = 41 ∨ y = 42)) ∨ (x = M + 14 ∧ ¬ (0 ≤ y ∧ y < 320))
def OrQ (g : od_G) (M : Int) (lp : Int → Int) (C : Int) (B : Int → Int) (n : Int) (w : Option od_V) (g' : od_G) : Prop := ∃ N : Int, (∀ i : Int, 0 ≤ i → (i < N ↔ tQ B n (tpl B n i) ≠ 0)) ∧
  ((mErr B n false N ≠ -1 ∧ w = some (0, -6) ∧ ∃ g1 : od_G, od_fr (fun x y => XE M x y ∨ (x = M ∧ y = 41)) g g1 ∧ g1 M 41 = -1 ∧ g1 M 13 = 0 ∧ g1 M 14 = mErr B n false N ∧ g' = mRef g1 M (-6)) ∨
   (mErr B n false N = -1 ∧ ∃ (Co : Int) (gS : od_G), pDn (tC B n) (tV B n) (tpl B n) false N Co ∧ od_fr (OBg M) g gS ∧ gS M 27 = 0 ∧ gS M 28 = -1 ∧ gS M 41 = -1 ∧ gS M 13 = 0 ∧ gS M 14 = -1 ∧
     ((∃ g2 : od_G, mOrd gS M lp C (pCo (tC B n) (tV B n) (tpl B n)) Co.toNat = some g2 ∧ w = some (0, g2 M 27) ∧ od_fr (OY M) (mGood g2 M) g' ∧ od_fr (OG M) gS g2 ∧ OrI g2 M lp C) ∨
      (∃ (k : Int) (g3 : od_G), (0 ≤ k ∧ k < Co) ∧ (∃ g2 : od_G, mOrd gS M lp C (pCo (tC B n) (tV B n) (tpl B n)) k.toNat = some g2) ∧ mOrd gS M lp C (pCo (tC B n) (tV B n) (tpl B n)) (k + 1).toNat = none ∧ w = some (0, -3) ∧ od_fr (OZ M) gS g3 ∧ g3 M 41 = k ∧ g' = mRef g3 M (-3)))))
theorem LwF.m6 {r r' : Int → Int} {pl : Int → Int} {C : Int} (h : LwF r pl C) (e : ∀ y : Int, y ≠ 55 → ¬ (2456 ≤ y ∧ y < 2856) → ¬ (5256 ≤ y ∧ y < 5656) → r' y = r y) : LwF r' pl C := by
  unfold LwF at h ⊢
  rw [e 48 (by omega) (by omega) (by omega)]
  rcases h with h | ⟨h1, h2, h3, h4⟩
  · exact Or.inl h
  · refine Or.inr ⟨h1, ?_, h3, ?_⟩
    · rw [e _ (by omega) (by omega) (by omega)]; exact h2
    · have eC : kC r' (400 * r 48) (r' (49 + r 48)) = kC r (400 * r 48) (r (49 + r 48)) := by
        funext i
        unfold kC
        rw [e (49 + r 48) (by omega) (by omega) (by omega)]
        by_cases c : 0 ≤ i ∧ i < r (49 + r 48)
        · rw [if_pos c, if_pos c, e _ (by omega) (by omega) (by omega)]
        · rw [if_neg c, if_neg c]
      have eV : kV r' (400 * r 48) (r' (49 + r 48)) = kV r (400 * r 48) (r (49 + r 48)) := by
        funext i
        unfold kV
        rw [e (49 + r 48) (by omega) (by omega) (by omega)]
        by_cases c : 0 ≤ i ∧ i < r (49 + r 48)
        · rw [if_pos c, if_pos c, e _ (by omega) (by omega) (by omega)]
        · rw [if_neg c, if_neg c]
      rw [eC, eV, e _ (by omega) (by omega) (by omega)]
      exact h4
theorem OrI.m6 {g g' : od_G} {M : Int} {pl : Int → Int} {C : Int} (h : OrI g M pl C) (e : ∀ y : Int, y ≠ 55 → ¬ (2456 ≤ y ∧ y < 2856) → ¬ (5256 ≤ y ∧ y < 5656) → g' (M + 2) y = g (M + 2) y) (e33 : g' M 33 = g M 33) : OrI g' M pl C := by
  have i45 := h.1.1
  refine ⟨?_, ?_, h.2.2.1.m6 e, ?_, by rw [e33]; exact h.2.2.2.2⟩
  · unfold MI
    rw [e 45 (by omega) (by omega) (by omega)]
    refine ⟨i45, fun d d0 d1 => ?_⟩
    rw [e _ (by omega) (by omega) (by omega)]
    exact h.1.2 d d0 d1
  · intro d d0 d1
    rw [e 45 (by omega) (by omega) (by omega)] at d1
    rw [e (6 + d) (by omega) (by omega) (by omega), e (12 + d) (by omega) (by omega) (by omega), e (19 + d) (by omega) (by omega) (by omega)]
    exact h.2.1 d d0 d1
  · rw [e _ (by omega) (by omega) (by omega)]; exact h.2.2.2.1
theorem OrI.lo {g g' : od_G} {M : Int} {pl : Int → Int} {C : Int} (h : OrI g M pl C) (e2 : g' (M + 2) = g (M + 2)) (e33 : g' M 33 = g M 33) : OrI g' M pl C := h.e e2 e33
set_option maxRecDepth 10000 in
theorem lp_X11_ordC {E : od_E} {gS : od_G} {Q : Option od_V → od_G → Prop} {M : Int} (hm : MoAt E M) {lp : Int → Int} {C : Int} {B : Int → Int} {n N Co u : Int} (hp : ∀ i : Int, 0 ≤ tpl B n i) (hD : pDn (tC B n) (tV B n) (tpl B n) false N Co) (hT : TxH gS M N (tC B n) (tV B n)) (hx : ∀ (g2 gw : od_G) (x4 : Option od_V), mOrd gS M lp C (pCo (tC B n) (tV B n) (tpl B n)) Co.toNat = some g2 → od_fr (OY M) g2 gw → od_fr (OG M) gS g2 → OrI g2 M lp C → od_Rq 60 mX11_orders od_Z0 E (E, Q) 173 [some (2, M), some (0, u), some (0, 2400 + N), some (0, Co), x4] [] E gw) (hz : ∀ (k : Int) (gw : od_G) (x4 : Option od_V), 0 ≤ k → k < Co → (∃ g2 : od_G, mOrd gS M lp C (pCo (tC B n) (tV B n) (tpl B n)) k.toNat = some g2) → mOrd gS M lp C (pCo (tC B n) (tV B n) (tpl B n)) (k + 1).toNat = none → od_fr (OG M) gS gw → od_Rq 60 mX11_orders od_Z0 E (E, Q) 114 [some (2, M), some (0, u), some (0, 2400 + N), some (0, k), x4] [] E gw) : ∀ (m : Nat) (k : Int) (x4 : Option od_V) (g2 gw : od_G), (0 ≤ k ∧ k ≤ Co ∧ mOrd gS M lp C (pCo (tC B n) (tV B n) (tpl B n)) k.toNat = some g2 ∧ od_fr (OY M) g2 gw ∧ OrI g2 M lp C ∧ od_fr (OG M) gS g2 ∧ (0 ≤ g2 M 27 ∧ g2 M 27 ≤ 20 * k) ∧ (k < Co → gw M 42 = 2400 + (pSt (tC B n) (tV B n) (tpl B n) false k.toNat).1) ∧ (k = Co → 2400 + N ≤ gw M 42)) → ((Co - k).toNat) < m → od_Rq 60 mX11_orders od_Z0 E (E, Q) 95 [some (2, M), some (0, u), some (0, 2400 + N), some (0, k), x4] [] E gw := by
  intro m
  induction m with
  | zero => intro k x4 g2 gw hi hM; exact absurd hM (Nat.not_lt_zero _)
  | succ m ih =>
    intro k x4 g2 gw hi hM
    obtain ⟨hk0, hk1, hk2, hq, hO, hof, hb27, hgo, hen⟩ := hi
    have hC := hD.1
    have hr2 := hq.row (OY_ok M).1
    have hOw : OrI gw M lp C := hO.e hr2 (hq _ _ (OY_ok M).2.2.1)
    have hTw : TxH gw M N (tC B n) (tV B n) := ⟨hT.1, fun i a1 b1 => by rw [hr2, hof _ _ (by unfold OG OF OX KF; omega), hof _ _ (by unfold OG OF OX KF; omega)]; exact hT.2.1 i a1 b1, hT.2.2⟩
    have e27 : gw M 27 = g2 M 27 := hq _ _ (by unfold OY OX; omega)
    have hs0 : 0 ≤ (pSt (tC B n) (tV B n) (tpl B n) false k.toNat).1 := pSt_0 _ _ _ _ _
    have hlt : k < Co → (pCl (tC B n) (tV B n) (tpl B n) false (pSt (tC B n) (tV B n) (tpl B n) false k.toNat)).1.2.2 = -1 ∧ (pCl (tC B n) (tV B n) (tpl B n) false (pSt (tC B n) (tV B n) (tpl B n) false k.toNat)).1.1 ≤ 400 ∧ (pSt (tC B n) (tV B n) (tpl B n) false k.toNat).1 < N := fun hk => by
      have z := hD.2 k hk0 hk
      have zc := (pCl_kd hp z.2.1).2.2.2
      have hN := hT.1
      have h0 : ∀ i : Int, tC B n i ≠ 0 → i < N := fun i hi => by
        by_cases c : i < N
        · exact c
        · exact absurd (hT.2.2 i (by omega)) hi
      refine ⟨z.2.1, ?_, h0 _ zc⟩
      by_cases c : k + 1 = Co
      · exact (z.2.2.2 c).2
      · have z3 := z.2.2.1 (by omega)
        have z4 := h0 (pCl (tC B n) (tV B n) (tpl B n) false (pSt (tC B n) (tV B n) (tpl B n) false k.toNat)).1.1 (by omega)
        omega
    refine r_aload_n dX11_orders_95 rfl ?_
    refine r_getIj (j := 42) rfl dX11_orders_96 fkX11_431 gf11_42 (mo_o hm) (by first | rfl) ?_
    refine r_iload_n dX11_orders_99 rfl ?_
    refine r_icmp_ge (tgt := 173) dX11_orders_100 rfl (fun c100 => ?_) (fun c100 => ?_)
    · have hk9 : k = Co := by
        by_cases c : k < Co
        · have := hgo c
          have := (hlt c).2.2
          omega
        · omega
      subst hk9
      exact hx g2 gw _ hk2 hq hof hO
    · have hkC : k < Co := by
        by_cases c : k < Co
        · exact c
        · have := hen (by omega); omega
      refine r_aload_n dX11_orders_103 rfl ?_
      refine r_iload_n dX11_orders_104 rfl ?_
      refine r_callV1p dX11_orders_105 cvX11_434 (mo_o hm) (c_X11_runs hm hp hTw (pSt (tC B n) (tV B n) (tpl B n) false k.toNat) (hgo hkC) hs0 (hlt hkC).1 (hlt hkC).2.1 rfl (by rw [e27]; omega) hOw) (by decide) (Nat.le_of_ble_eq_true rfl) od_le.rf (fun r105 g105 h105 => ?_)
      rcases h105 with ⟨rfl, h105⟩ | ⟨rfl, h105⟩
      · show od_Rq _ _ _ _ _ _ _ ((0, 1) :: _) _ _
        skip
        refine r_if_eq (tgt := 114) dX11_orders_108 rfl (fun h => absurd h (by decide)) (fun _ => ?_)
        obtain ⟨g5, z1, z2, z3, z4, z5⟩ := h105
        have cq := mTms_c lp C (pCl (tC B n) (tV B n) (tpl B n) false (pSt (tC B n) (tV B n) (tpl B n) false k.toNat)).2 (OY_ok M) (by unfold OY OX; omega) (by unfold OY OX; omega) hq (pCl (tC B n) (tV B n) (tpl B n) false (pSt (tC B n) (tV B n) (tpl B n) false k.toNat)).2.2.1.toNat
        obtain ⟨b, e1, fb⟩ : ∃ b : od_G, mTms g2 M lp C (pCl (tC B n) (tV B n) (tpl B n) false (pSt (tC B n) (tV B n) (tpl B n) false k.toNat)).2 (pCl (tC B n) (tV B n) (tpl B n) false (pSt (tC B n) (tV B n) (tpl B n) false k.toNat)).2.2.1.toNat = some b ∧ od_fr (OY M) b g5 := by
          rcases cq with ⟨e1, e2⟩ | ⟨b, b', e1, e2, f⟩
          · rw [z1] at e2
            exact absurd e2 (by simp)
          · rw [z1] at e2
            injection e2 with e2
            rw [← e2] at f
            exact ⟨b, e1, f⟩
        have hzk := hD.2 k hk0 hkC
        have f105 : od_fr (OY M) b g105 := (fb.up (Or.inr ⟨rfl, rfl⟩)).tr (z2.mo (fun _ _ z => Or.inl z))
        have e42 : g105 M 42 = 2400 + ((pCl (tC B n) (tV B n) (tpl B n) false (pSt (tC B n) (tV B n) (tpl B n) false k.toNat)).1.1 + 1) := by rw [z2 _ _ (by unfold OX; omega), od_up_i]
        refine r_goto (tgt := 167) dX11_orders_111 rfl ?_
        refine r_iincE dX11_orders_167 rfl (by decide) (by first | exact od_w0 (by omega) (by omega) | exact od_wI (by omega) (by omega) | rfl) rfl ?_
        refine r_goto (tgt := 95) dX11_orders_170 rfl ?_
        refine ih _ _ b _ ⟨by omega, by omega, ?_, f105, z3.e (fb.sy.row (OY_ok M).1) (fb.sy _ _ (OY_ok M).2.2.1), ?_, ?_, fun hk => ?_, fun hk => ?_⟩ (by omega)
        · rw [mOrd_s hk0 hk2]
          exact e1
        · exact ((hof.tr (hq.mo (fun x y z => OY_OG z))).tr (z4.mo (fun x y z => Or.inl z))).tr (fb.sy.mo (fun x y z => OY_OG z))
        · rw [fb.sy _ _ (by unfold OY OX; omega)]
          omega
        · rw [e42, pSt_s hk0]
          rfl
        · rw [e42]
          have z := (hzk.2.2.2 hk).1
          omega
      · show od_Rq _ _ _ _ _ _ _ ((0, 0) :: _) _ _
        skip
        refine r_if_eq (tgt := 114) dX11_orders_108 rfl (fun _ => ?_) (fun h => absurd h (by decide))
        obtain ⟨z1, z2⟩ := h105
        have cq := mTms_c lp C (pCl (tC B n) (tV B n) (tpl B n) false (pSt (tC B n) (tV B n) (tpl B n) false k.toNat)).2 (OY_ok M) (by unfold OY OX; omega) (by unfold OY OX; omega) hq (pCl (tC B n) (tV B n) (tpl B n) false (pSt (tC B n) (tV B n) (tpl B n) false k.toNat)).2.2.1.toNat
        refine hz k _ _ hk0 hkC ⟨g2, hk2⟩ ?_ ?_
        · rw [mOrd_s hk0 hk2]
          rcases cq with ⟨e1, e2⟩ | ⟨b, b', e1, e2, f⟩
          · exact e1
          · rw [z1] at e2
            exact absurd e2 (by simp)
        · exact (hof.tr (hq.mo (fun x y z => OY_OG z))).tr (z2.mo (fun x y z => Or.inl z))
theorem TpM_41 {g : od_G} {M : Int} {B : Int → Int} {n x : Int} (h : TpM g M B n) : TpM (od_up g M 41 x) M B n := by
  obtain ⟨h1, h2, h3, h4⟩ := h
  refine ⟨fun j a b => ?_, ?_, h3, fun j a b => ?_⟩
  · rw [od_upn (by omega)]; exact h1 j a b
  · rw [od_up_j (by omega)]; exact h2
  · rw [od_upn (by omega)]; exact h4 j a b
set_option maxRecDepth 10000 in
theorem c_X11_orders {E : od_E} {g : od_G} {M : Int} (hm : MoAt E M) {lp : Int → Int} {C : Int} {B : Int → Int} {n : Int} (hT : TpM g M B n) (hO : OrI g M lp C) (hDn : ∀ N : Int, (∀ i : Int, 0 ≤ i → (i < N ↔ tQ B n (tpl B n i) ≠ 0)) → mErr B n false N = -1 → ∃ Co : Int, pDn (tC B n) (tV B n) (tpl B n) false N Co) : od_Cq 60 mX11_orders [(2, M)] E g (E, OrQ g M lp C B n) := by
  refine od_cqI pnX11 rfl (Nat.le_of_ble_eq_true rfl) od_le.rf ?_
  show od_Rq 60 mX11_orders od_Z0 E (E, OrQ g M lp C B n) 0 [some (2, M), none, none, none, none] [] E g
  refine r_aload_n dX11_orders_0 rfl ?_
  refine r_iconst dX11_orders_1 li_m1 ?_
  refine r_putIj (j := 41) rfl dX11_orders_2 fkX11_94 gf11_41 pf11_41 (mo_o hm) ?_
  refine r_aload_n dX11_orders_5 rfl ?_
  refine r_iconst dX11_orders_6 li_1 ?_
  refine r_callV1p dX11_orders_7 cvX11_250 (mo_o hm) (c_X11_readsAs_f hm (TpM_41 hT)) (by decide) (Nat.le_of_ble_eq_true rfl) od_le.rf (fun r7 g7 h7 => ?_)
  obtain ⟨N, rfl, f7, e13, e14, hN, hk⟩ := h7
  show od_Rq _ _ _ _ _ _ _ ((0, _) :: _) _ _
  refine r_if_ne (tgt := 20) dX11_orders_10 rfl (fun c10 => ?_) (fun c10 => ?_)
  · refine r_aload_n dX11_orders_20 rfl ?_
    refine r_iconst dX11_orders_21 li_1 ?_
    refine r_callV1v dX11_orders_22 cvX11_428 (mo_o hm) (c_X11_laysAside hm _ (by omega)) (by decide) (Nat.le_of_ble_eq_true rfl) od_le.rf ?_
    refine r_iconst dX11_orders_25 li_0 ?_
    refine r_istore_n dX11_orders_26 (by decide) rfl ?_
    have hN4 := hk.2.1
    have hE : mErr B n false N = -1 := Classical.byContradiction (fun z => c10 (od_b_f z))
    obtain ⟨gL, hgL⟩ : ∃ z, z = mLay g7 M 1 := ⟨_, rfl⟩
    rw [← hgL]
    refine lp_X11_ordA (g := gL) hm ?_ _ _ _ ⟨by omega, by omega, (od_cq_0 _ _ _ _ _).symm⟩ (Nat.lt_succ_self _)
    obtain ⟨gK, hgK⟩ : ∃ z, z = od_cq gL (M + 15) 0 (M + 14) 0 320 := ⟨_, rfl⟩
    rw [← hgK]
    have fK : od_fr (fun x y => x = M + 5 ∨ x = M + 15) g7 gK := by
      rw [hgK, hgL]
      intro x y hx
      unfold mLay od_cq
      rw [if_neg (by omega), if_neg (by omega)]
    have k5 : ∀ y : Int, 0 ≤ y → y < 19 → gK (M + 5) (19 + y) = g7 (M + 2) y := fun y y0 y1 => by
      rw [hgK, hgL]
      unfold mLay od_cq
      rw [if_neg (by omega), if_pos (by omega), show 19 + y - 19 * 1 + 0 = y by omega]
    have k15 : ∀ y : Int, 0 ≤ y → y < 320 → gK (M + 15) y = g7 (M + 14) y := fun y y0 y1 => by
      rw [hgK, hgL]
      unfold mLay od_cq
      rw [if_pos (by omega), if_neg (by omega), show y - 0 + 0 = y by omega]
    have f7g : od_fr (fun x y => XE M x y ∨ (x = M ∧ y = 41)) g g7 := (od_fr.rf.up (Or.inr ⟨rfl, rfl⟩)).tr (f7.mo (fun _ _ z => Or.inl z))
    have e33 : gK M 33 = g M 33 := by rw [fK _ _ (by omega), f7g _ _ (by unfold XE XD; omega)]
    have hk2 : TkOk gK M (tC B n) (tV B n) (tpl B n) N := hk.fr fK (by omega) (fun y => by omega)
    refine r_aload_n dX11_orders_52 rfl ?_
    refine r_getIj (j := 33) rfl dX11_orders_53 fkX11_11 gf11_33 (mo_o hm) (by first | exact e33 | exact od_up_i | exact eN | rfl) ?_
    refine r_istore_n dX11_orders_56 (by decide) rfl ?_
    refine r_aload_n dX11_orders_57 rfl ?_
    refine r_bipush dX11_orders_58 lb_6 ?_
    refine r_callV1p dX11_orders_60 cvX11_254 (mo_o hm) (c_X11_lays hm hk2 6 (by omega)) (by decide) (Nat.le_of_ble_eq_true rfl) od_le.rf (fun r60 g60 h60 => ?_)
    obtain ⟨rfl, f60, l60, d60⟩ := h60
    show od_Rq _ _ _ _ _ _ _ [] _ _
    have eN : od_up (od_up (od_up g60 M 27 0) M 28 (-1)) M 42 2400 (M + 2) 55 = N := by
      rw [od_upn (by omega), od_upn (by omega), od_upn (by omega)]
      exact l60
    refine r_aload_n dX11_orders_63 rfl ?_
    refine r_iconst dX11_orders_64 li_0 ?_
    refine r_putIj (j := 27) rfl dX11_orders_65 fkX11_302 gf11_27 pf11_27 (mo_o hm) ?_
    refine r_aload_n dX11_orders_68 rfl ?_
    refine r_iconst dX11_orders_69 li_m1 ?_
    refine r_putIj (j := 28) rfl dX11_orders_70 fkX11_305 gf11_28 pf11_28 (mo_o hm) ?_
    refine r_aload_n dX11_orders_73 rfl ?_
    refine r_sipush dX11_orders_74 ls_2400 ?_
    refine r_putIj (j := 42) rfl dX11_orders_77 fkX11_431 gf11_42 pf11_42 (mo_o hm) ?_
    refine r_aload_n dX11_orders_80 rfl ?_
    refine r_getIj (j := 42) rfl dX11_orders_81 fkX11_431 gf11_42 (mo_o hm) (by first | exact e33 | exact od_up_i | exact eN | rfl) ?_
    refine r_aload_n dX11_orders_84 rfl ?_
    refine r_getR dX11_orders_85 fkX11_28 gf11_2 (mo_o hm) (mo_r2 hm) ?_
    refine r_bipush dX11_orders_88 lb_55 ?_
    refine r_iald dX11_orders_90 (mo_k2 hm) (by omega) (by first | exact e33 | exact od_up_i | exact eN | rfl) ?_
    refine r_iaddE dX11_orders_91 (by first | exact od_w0 (by omega) (by omega) | exact od_wI (by omega) (by omega) | rfl) ?_
    refine r_istore_n dX11_orders_92 (by decide) rfl ?_
    refine r_iconst dX11_orders_93 li_0 ?_
    refine r_istore_n dX11_orders_94 (by decide) rfl ?_
    obtain ⟨gS, hgS⟩ : ∃ z, z = od_up (od_up (od_up g60 M 27 0) M 28 (-1)) M 42 2400 := ⟨_, rfl⟩
    rw [← hgS]
    have f60s : od_fr (fun x y => XL M 6 x y ∨ (x = M ∧ (y = 27 ∨ y = 28 ∨ y = 42))) gK gS := by
      rw [hgS]
      exact (((f60.mo (fun _ _ z => Or.inl z)).up (Or.inr ⟨rfl, by omega⟩)).up (Or.inr ⟨rfl, by omega⟩)).up (Or.inr ⟨rfl, by omega⟩)
    have fS : od_fr (OBg M) g gS := by
      refine (f7g.mo (fun x y z => ?_)).tr ((fK.mo (fun x y z => ?_)).tr (f60s.mo (fun x y z => ?_)))
      · rcases z with z | z
        · exact Or.inl z
        · exact Or.inr (Or.inr (Or.inr (Or.inr (by omega))))
      · rcases z with z | z
        · exact Or.inr (Or.inr (Or.inl z))
        · exact Or.inr (Or.inr (Or.inr (Or.inl z)))
      · rcases z with z | z
        · exact Or.inr (Or.inl z)
        · exact Or.inr (Or.inr (Or.inr (Or.inr (by omega))))
    have s27 : gS M 27 = 0 := by rw [hgS, od_up_j (by omega), od_up_j (by omega), od_up_i]
    have s28 : gS M 28 = -1 := by rw [hgS, od_up_j (by omega), od_up_i]
    have s42 : gS M 42 = 2400 := by rw [hgS, od_up_i]
    have s41 : gS M 41 = -1 := by rw [f60s _ _ (by unfold XL; omega), fK _ _ (by omega), f7 _ _ (by unfold XD; omega), od_up_i]
    have s13 : gS M 13 = 0 := by rw [f60s _ _ (by unfold XL; omega), fK _ _ (by omega), e13]
    have s14 : gS M 14 = -1 := by rw [f60s _ _ (by unfold XL; omega), fK _ _ (by omega), e14]; exact hE
    have hu33 : gS M 33 = g M 33 := by rw [f60s _ _ (by unfold XL; omega), e33]
    have s5 : ∀ y : Int, 0 ≤ y → y < 19 → gS (M + 5) (19 + y) = gS (M + 2) y := fun y y0 y1 => by
      rw [f60s _ _ (by unfold XL; omega), f60s _ _ (by unfold XL; omega), k5 y y0 y1, fK _ _ (by omega)]
    have s15 : ∀ y : Int, 0 ≤ y → y < 320 → gS (M + 15) y = gS (M + 14) y := fun y y0 y1 => by
      rw [f60s _ _ (by unfold XL; omega), f60s _ _ (by unfold XL; omega), k15 y y0 y1, fK _ _ (by omega)]
    have hTx : TxH gS M N (tC B n) (tV B n) := by
      refine ⟨hk.2.1, fun i a1 b1 => ?_, hk.2.2.2.1⟩
      have z := d60 i a1 b1
      rw [hgS, od_upn (by omega), od_upn (by omega), od_upn (by omega), od_upn (by omega), od_upn (by omega), od_upn (by omega), show 56 + (2400 + i) = 56 + 400 * 6 + i by omega, show 2856 + (2400 + i) = 2856 + 400 * 6 + i by omega]
      exact z
    have hOS : OrI gS M lp C := hO.m6 (fun y y1 y2 y3 => fS _ _ (by unfold OBg XE XD XL; omega)) hu33
    obtain ⟨Co, hD⟩ := hDn N hN hE
    have hC := hD.1
    refine lp_X11_ordC (gS := gS) hm hk.2.2.2.2 hD hTx (fun g2 gx x4 h2 hqx hofx hOx => ?_) (fun k gx x4 zk0 zk1 z2 z3 hz5 => ?_) _ 0 _ gS gS ⟨by omega, by omega, rfl, od_fr.rf, hOS, od_fr.rf, by omega, fun _ => ?_, fun z => by omega⟩ (Nat.lt_succ_self _)
    · skip
      refine r_aload_n dX11_orders_173 rfl ?_
      refine r_aload_n dX11_orders_174 rfl ?_
      refine r_getIj (j := 27) rfl dX11_orders_175 fkX11_302 gf11_27 (mo_o hm) (by first | exact e33 | exact od_up_i | exact eN | rfl) ?_
      refine r_callV1i dX11_orders_178 cvX11_14 (mo_o hm) (c_X11_good hm _) (by decide) (Nat.le_of_ble_eq_true rfl) od_le.rf ?_
      refine r_iretq dX11_orders_181 rfl rfl ⟨N, hN, Or.inr ⟨hE, Co, gS, hD, fS, s27, s28, s41, s13, s14, Or.inl ⟨g2, h2, by rw [hqx _ _ (by unfold OY OX; omega)], ?_, hofx, hOx⟩⟩⟩
      exact mGood_c hqx
    · skip
      refine r_aload_n dX11_orders_114 rfl ?_
      refine r_iconst dX11_orders_115 li_1 ?_
      refine r_callV1v dX11_orders_116 cvX11_437 (mo_o hm) (c_X11_takesBack hm _ (by omega)) (by decide) (Nat.le_of_ble_eq_true rfl) od_le.rf ?_
      refine r_iconst dX11_orders_119 li_0 ?_
      refine r_istore dX11_orders_120 (by decide) rfl ?_
      refine lp_X11_ordB (g := mTake gx M 1) hm _ _ _ ?_ _ _ _ ⟨by omega, by omega, (od_cq_0 _ _ _ _ _).symm⟩ (Nat.lt_succ_self _)
      refine r_aload_n dX11_orders_150 rfl ?_
      refine r_iload_n dX11_orders_151 rfl ?_
      refine r_putIj (j := 33) rfl dX11_orders_152 fkX11_11 gf11_33 pf11_33 (mo_o hm) ?_
      refine r_aload_n dX11_orders_155 rfl ?_
      refine r_iload_n dX11_orders_156 rfl ?_
      refine r_putIj (j := 41) rfl dX11_orders_157 fkX11_94 gf11_41 pf11_41 (mo_o hm) ?_
      refine r_aload_n dX11_orders_160 rfl ?_
      refine r_bipush dX11_orders_161 lb_m3 ?_
      refine r_callV1i dX11_orders_163 cvX11_106 (mo_o hm) (c_X11_refuses hm _ (by omega)) (by decide) (Nat.le_of_ble_eq_true rfl) od_le.rf ?_
      refine r_iretq dX11_orders_166 rfl rfl ⟨N, hN, Or.inr ⟨hE, Co, gS, hD, fS, s27, s28, s41, s13, s14, Or.inr ⟨k, _, ⟨zk0, zk1⟩, z2, z3, rfl, ?_, ?_, rfl⟩⟩⟩
      · intro x y hx
        unfold OZ OX at hx
        rw [od_up_at2, if_neg (by omega), od_up_at2]
        by_cases c33 : x = M ∧ y = 33
        · rw [if_pos c33, c33.1, c33.2]
          exact hu33.symm
        · rw [if_neg c33]
          unfold od_cq
          by_cases c14 : x = M + 14 ∧ 0 ≤ y ∧ y < 0 + 320
          · rw [if_pos c14, show y - 0 + 0 = y by omega, c14.1]
            unfold mTake od_cq
            rw [if_neg (by omega), hz5 _ _ (by unfold OG OF OX KF; omega)]
            exact s15 y (by omega) (by omega)
          · rw [if_neg c14]
            unfold mTake od_cq
            by_cases c2 : x = M + 2 ∧ 0 ≤ y ∧ y < 0 + 19
            · rw [if_pos c2, show y - 0 + 19 * 1 = 19 + y by omega, hz5 _ _ (by unfold OG OF OX KF; omega), c2.1]
              exact s5 y (by omega) (by omega)
            · rw [if_neg c2]
              exact hz5 _ _ (by unfold OG OF OX KF; omega)
      · exact od_up_i
    · rw [s42]
      show (2400 : Int) = 2400 + 0
      omega
  · refine r_aload_n dX11_orders_13 rfl ?_
    refine r_bipush dX11_orders_14 lb_m6 ?_
    refine r_callV1i dX11_orders_16 cvX11_106 (mo_o hm) (c_X11_refuses hm _ (by omega)) (by decide) (Nat.le_of_ble_eq_true rfl) od_le.rf ?_
    refine r_iretq dX11_orders_19 rfl rfl ⟨N, hN, Or.inl ⟨fun z => ?_, rfl, g7, ?_, ?_, e13, e14, rfl⟩⟩
    · unfold mErr at z
      rw [od_b_t z] at c10
      exact absurd c10 (by decide)
    · exact (od_fr.rf.up (Or.inr ⟨rfl, rfl⟩)).tr (f7.mo (fun _ _ z => Or.inl z))
    · rw [f7 _ _ (by unfold XD; omega), od_up_i]
