/-! what is looked at -/
theorem StR.cg {g g' : od_G} {k : Int} {r : Int → Int} (h : StR g k r) (e : ∀ x : Int, k ≤ x → x ≤ k + 8 → g' x = g x) : StR g' k r := by
  have z := h.mv
  refine (StR.iff _ _ _).mpr ⟨h.fx.c (fun y _ => by rw [e k (by omega) (by omega)]) (e _ (by omega) (by omega)) (e _ (by omega) (by omega)) (fun y _ => by rw [e (k + 5) (by omega) (by omega)]) (e _ (by omega) (by omega)) (e _ (by omega) (by omega)) (fun y _ _ => rfl), ?_⟩
  rw [e k (by omega) (by omega), e (k + 3) (by omega) (by omega), e (k + 4) (by omega) (by omega), e (k + 5) (by omega) (by omega)]
  exact z
theorem StR.cr {g : od_G} {k : Int} {r r' : Int → Int} (h : StR g k r) (e : ∀ y : Int, 0 ≤ y → y < 49 → r' y = r y) : StR g k r' := by
  have z := h.mv
  have n := h.1.2
  refine (StR.iff _ _ _).mpr ⟨h.fx.c (fun y _ => rfl) rfl rfl (fun y _ => rfl) rfl rfl (fun y _ _ => e y (by omega) (by omega)), ?_⟩
  rw [e 45 (by omega) (by omega)]
  exact z.cc n.2 (fun d d0 d1 => ⟨rfl, rfl, e _ (by omega) (by omega)⟩) (fun y y0 y1 => e y y0 (by omega))
theorem PaR.cg {g g' gm : od_G} {p M : Int} (h : PaR g p gm M) (e : ∀ x : Int, p ≤ x → x ≤ p + 5 → g' x = g x) : PaR g' p gm M := by
  obtain ⟨f, sz, rc⟩ := h
  unfold PaR RcR
  rw [e p (by omega) (by omega), e (p + 1) (by omega) (by omega), e (p + 2) (by omega) (by omega), e (p + 3) (by omega) (by omega), e (p + 4) (by omega) (by omega), e (p + 5) (by omega) (by omega)]
  exact ⟨f, sz, rc⟩
theorem PaR.cm {g gm gm' : od_G} {p M : Int} (h : PaR g p gm M) (hn : gm (M + 2) 45 ≤ 6) (e33 : gm' M 33 = gm M 33) (e45 : gm' (M + 2) 45 = gm (M + 2) 45) (el : ∀ d : Int, 0 ≤ d → d < 6 → gm' (M + 2) (19 + d) = gm (M + 2) (19 + d)) (e14 : ∀ y : Int, 0 ≤ y → y < 320 → gm' (M + 14) y = gm (M + 14) y) : PaR g p gm' M := by
  obtain ⟨f, sz, rc⟩ := h
  refine ⟨f, by rw [e33]; exact sz, fun j j0 j1 => ?_⟩
  rw [e33] at j1
  rw [e45]
  exact (rc j j0 j1).c hn rfl rfl rfl (fun d _ _ => ⟨rfl, rfl⟩) (fun d d0 d1 => el d d0 (by omega)) (fun y y0 y1 => e14 _ (by omega) (by omega))
theorem PaR.no {g gm : od_G} {p M : Int} (e5 : g p 5 = 0) (e6 : g p 6 = 0) (e33 : gm M 33 = 0) : PaR g p gm M := ⟨by omega, by omega, fun j j0 j1 => by omega⟩
/-- what a law's slot holds -/
def SlE (r r' : Int → Int) : Prop := ∀ y : Int, (49 ≤ y ∧ y < 55) ∨ (56 ≤ y ∧ y < 2456) ∨ (2856 ≤ y ∧ y < 5256) → r' y = r y
theorem LwR.c {g g' : od_G} {T t : Int} {r r' pl : Int → Int} {C : Int} {sn : Nat} (h : LwR g T r t pl C sn) (ht : 0 ≤ t ∧ t ≤ 5) (e : TxEq g g' T) (er : SlE r r') : LwR g' T r' t pl C sn := by
  have e49 : r' (49 + t) = r (49 + t) := er _ (by omega)
  have n := h.2.2.1
  have ec : kC r' (400 * t) (r (49 + t)) = kC r (400 * t) (r (49 + t)) := funext fun i => by
    unfold kC
    by_cases c : 0 ≤ i ∧ i < r (49 + t)
    · rw [if_pos c, if_pos c]; exact er _ (by omega)
    · rw [if_neg c, if_neg c]
  have ev : kV r' (400 * t) (r (49 + t)) = kV r (400 * t) (r (49 + t)) := funext fun i => by
    unfold kV
    by_cases c : 0 ≤ i ∧ i < r (49 + t)
    · rw [if_pos c, if_pos c]; exact er _ (by omega)
    · rw [if_neg c, if_neg c]
  have z := h.e e
  unfold LwR at z ⊢
  rw [e49, ec, ev]
  exact z
theorem LwsR.c {E : od_E} {g g' : od_G} {k : Int} {r r' : Int → Int} {lo : Int} {pls : Int → Int → Int} {Cs : Int → Int} {cn sn : Int → Nat} (h : LwsR E g k r lo pls Cs cn sn) (h6 : r 47 ≤ 6) (e6 : g' (k + 6) = g (k + 6)) (eT : ∀ x : Int, lo ≤ x → g' x = g x) (e47 : r' 47 = r 47) (er : SlE r r') : LwsR E g' k r' lo pls Cs cn sn := fun t t0 t1 => by
  rw [e47] at t1
  have z := h t t0 t1
  have z1 := z.1
  rw [e6]
  have eq : TxEq g g' (g (k + 6) t) := ⟨eT _ (by omega), eT _ (by omega), eT _ (by omega), eT _ (by omega), eT _ (by omega), eT _ (by omega), eT _ (by omega)⟩
  refine ⟨z1, z.2.1, by rw [eT _ z1]; exact z.2.2.1, z.2.2.2.c (by omega) eq er⟩
theorem LfR.c {g g' : od_G} {k : Int} {r r' pl : Int → Int} {C : Int} {sn : Nat} (h : LfR g k r pl C sn) (e10 : g' k 10 = g k 10) (e11 : g' k 11 = g k 11) (e6 : g' (k + 6) = g (k + 6)) (eT : cLawOf g k (g k 11) ≠ -1 → TxEq g g' (cLawOf g k (g k 11))) (e48 : r' 48 = r 48) (er : SlE r r') : LfR g' k r' pl C sn := by
  have el : cLawOf g' k (g' k 11) = cLawOf g k (g k 11) := by unfold cLawOf; rw [e10, e11, e6]
  unfold LfR
  rw [el, e48]
  rcases h with h | ⟨h0, h5, h1, h2⟩
  · exact Or.inl h
  · exact Or.inr ⟨h0, h5, h1, h2.c ⟨h0, h5⟩ (eT h1) er⟩
theorem SlE.rf (r : Int → Int) : SlE r r := fun _ _ => rfl
theorem SlE.lo {r r' : Int → Int} (h : ∀ y : Int, 49 ≤ y → r' y = r y) : SlE r r' := fun y hy => h y (by omega)
section Law2
variable {g gm : od_G} {k : Int} {r : Int → Int}
/-- the law in force, or another -/
theorem LwsR.at' {E : od_E} {lo : Int} {pls : Int → Int → Int} {Cs : Int → Int} {cn sn : Int → Nat} (h : LwsR E g k r lo pls Cs cn sn) (hs : StR g k r) (hlo : 0 ≤ lo) {s : Int} (hsl : s + 4 ≤ lo) {n : Int} (hn : n = -1 ∨ (0 ≤ n ∧ n < r 47)) : LawOk E g s (cLawOf g k n) (cn n) (sn n) ∧ (cLawOf g k n ≠ -1 → lo ≤ cLawOf g k n) := by
  have n47 := hs.2.2.2.2.2.1
  rcases hn with hn | hn
  · have e : cLawOf g k n = -1 := by
      unfold cLawOf
      rw [od_ite_f (by omega)]
    rw [e]
    exact ⟨Or.inl rfl, fun q => absurd rfl q⟩
  · have e : cLawOf g k n = g (k + 6) n := by
      unfold cLawOf
      rw [n47.1, od_ite_t (by omega)]
    have z := h n hn.1 hn.2
    rw [e]
    exact ⟨Or.inr ⟨z.2.1, z.2.2.1, by omega⟩, fun _ => z.1⟩
theorem LwsR.f {E : od_E} {lo : Int} {pls : Int → Int → Int} {Cs : Int → Int} {cn sn : Int → Nat} (h : LwsR E g k r lo pls Cs cn sn) (hs : StR g k r) (hlo : 0 ≤ lo) : LfR g k r (pls (r 48)) (Cs (r 48)) (sn (r 48)) := by
  have n47 := hs.2.2.2.2.2.1
  have n48 := hs.2.2.2.2.2.2.1
  rcases n48.2 with hn | hn
  · left
    refine ⟨hn, ?_⟩
    unfold cLawOf
    rw [od_ite_f (by omega)]
  · right
    have e : cLawOf g k (g k 11) = g (k + 6) (r 48) := by
      unfold cLawOf
      rw [n47.1, n48.1, od_ite_t (by omega)]
    have z := h (r 48) hn.1 hn.2
    rw [e]
    exact ⟨hn.1, by omega, by omega, z.2.2.2⟩
end Law2
section Undo
variable {g gm : od_G} {k p M : Int}
/-- the latest change is taken back -/
theorem PaR.give (h : PaR g p gm M) (hs : StR g k (gm (M + 2))) (hkp : k + 9 ≤ p ∨ p + 6 ≤ k) (h0 : gm M 33 ≠ 0) : g (p + 1) (cGiveS g p) = gm (M + 14) (20 * (gm M 33 - 1) + 19) ∧ StR (cGive g p k) k (od_cq (od_up gm M 33 (gm M 33 - 1)) (M + 2) 0 (M + 14) (20 * (gm M 33 - 1)) 19 (M + 2)) ∧ PaR (cGive g p k) p (od_cq (od_up gm M 33 (gm M 33 - 1)) (M + 2) 0 (M + 14) (20 * (gm M 33 - 1)) 19) M := by
  obtain ⟨f, sz, rc⟩ := h
  have n6 := hs.1.2
  have eS : cGiveS g p = (g p 5 + (gm M 33 - 1)) % 16 := by unfold cGiveS; rw [sz.1, Int.tmod_eq_emod_of_nonneg (by omega)]
  have z := rc (gm M 33 - 1) (by omega) (by omega)
  rw [← eS] at z
  have hi : ∀ y : Int, 19 ≤ y → od_cq (od_up gm M 33 (gm M 33 - 1)) (M + 2) 0 (M + 14) (20 * (gm M 33 - 1)) 19 (M + 2) y = gm (M + 2) y := fun y hy => by
    unfold od_cq
    rw [if_neg (by omega), od_upn (by omega)]
  have lo : ∀ y : Int, 0 ≤ y → y < 19 → od_cq (od_up gm M 33 (gm M 33 - 1)) (M + 2) 0 (M + 14) (20 * (gm M 33 - 1)) 19 (M + 2) y = gm (M + 14) (20 * (gm M 33 - 1) + y) := fun y y0 y1 => by
    unfold od_cq
    rw [if_pos (by omega), od_upn (by omega)]
    congr 1
    omega
  have nx : ∀ x : Int, x ≠ p → x ≠ k + 5 → x ≠ k → x ≠ k + 3 → x ≠ k + 4 → cGive g p k x = g x := fun x a1 a2 a3 a4 a5 => by
    funext y
    unfold cGive
    rw [if_neg (fun q => a1 q.1), if_neg (fun q => a2 q.1), if_neg (fun q => a3 q.1), if_neg (fun q => a4 q.1), if_neg (fun q => a5 q.1)]
  refine ⟨z.1, ?_, ?_⟩
  · refine (StR.iff _ _ _).mpr ⟨hs.fx.c (fun y hy => ?_) (nx _ (by omega) (by omega) (by omega) (by omega) (by omega)) (nx _ (by omega) (by omega) (by omega) (by omega) (by omega)) (fun y hy => ?_) (nx _ (by omega) (by omega) (by omega) (by omega) (by omega)) (nx _ (by omega) (by omega) (by omega) (by omega) (by omega)) (fun y y0 _ => hi y y0), ?_⟩
    · unfold cGive
      repeat rw [if_neg (by omega)]
    · unfold cGive
      repeat rw [if_neg (by omega)]
    · have c5 : cGive g p k (k + 5) 0 = g (p + 2) (cGiveS g p) := by
        unfold cGive
        rw [if_neg (by omega), if_pos (by omega)]
      have c9 : cGive g p k k 9 = g (p + 3) (cGiveS g p) := by
        unfold cGive
        rw [if_neg (by omega), if_neg (by omega), if_pos (by omega)]
      rw [c5, c9, hi 45 (by omega)]
      refine z.2.cc n6.2 (fun d d0 d1 => ⟨?_, ?_, ?_⟩) (fun y y0 y1 => lo y y0 y1)
      · unfold cGive
        rw [if_neg (by omega), if_neg (by omega), if_neg (by omega), if_pos (by omega)]
      · unfold cGive
        rw [if_neg (by omega), if_neg (by omega), if_neg (by omega), if_neg (by omega), if_pos (by omega)]
      · exact hi _ (by omega)
  · have p5 : cGive g p k p 5 = g p 5 := by
      unfold cGive
      repeat rw [if_neg (by omega)]
    have p6 : cGive g p k p 6 = g p 6 - 1 := by
      unfold cGive
      rw [if_pos (by omega)]
    have m33 : od_cq (od_up gm M 33 (gm M 33 - 1)) (M + 2) 0 (M + 14) (20 * (gm M 33 - 1)) 19 M 33 = gm M 33 - 1 := by
      unfold od_cq
      rw [if_neg (by omega), od_up_i]
    refine ⟨by rw [p5]; exact f, by rw [p6, m33]; omega, fun j j0 j1 => ?_⟩
    rw [m33] at j1
    rw [p5, hi 45 (by omega)]
    refine (rc j j0 (by omega)).c n6.2 (by rw [nx (p + 1) (by omega) (by omega) (by omega) (by omega) (by omega)]) (by rw [nx (p + 2) (by omega) (by omega) (by omega) (by omega) (by omega)]) (by rw [nx (p + 3) (by omega) (by omega) (by omega) (by omega) (by omega)]) (fun d _ _ => ⟨by rw [nx (p + 4) (by omega) (by omega) (by omega) (by omega) (by omega)], by rw [nx (p + 5) (by omega) (by omega) (by omega) (by omega) (by omega)]⟩) (fun d d0 _ => hi _ (by omega)) (fun y y0 y1 => ?_)
    show od_cq _ _ _ _ _ _ (M + 14) _ = _
    unfold od_cq
    rw [if_neg (by omega), od_upn (by omega)]
end Undo
