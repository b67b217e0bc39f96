/-! law: the relation is kept, in a larger world -/
theorem RfR.x {E E' : od_E} {g : od_G} {k lo : Int} (h : RfR E g k lo) (l0 : 0 ≤ lo) (hk : od_kp E E' 0 ((E.1.1 : Int) - 1)) (hc : E.1.1 ≤ E'.1.1) : RfR E' g k lo := by
  refine ⟨fun y y0 y1 => ?_, h.2⟩
  rcases h.1 y y0 y1 with z | ⟨z1, z2, z3⟩
  · exact Or.inl z
  · refine Or.inr ⟨z1, by omega, ?_⟩
    rw [(hk (g (k + 6) y) (by omega) (by omega)).1]
    exact z3
theorem LsR.x {E E' : od_E} {g : od_G} {k lo : Int} {r : Int → Int} (h : LsR E g k r lo) (rf : RfR E g k lo) (l0 : 0 ≤ lo) (h6 : r 47 ≤ 6) (hk : od_kp E E' 0 ((E.1.1 : Int) - 1)) : LsR E' g k r lo := by
  obtain ⟨pls, Cs, cn, sn, h⟩ := h
  refine ⟨pls, Cs, cn, sn, fun t t0 t1 => ?_⟩
  obtain ⟨a, b, c, d⟩ := h t t0 t1
  rcases rf.1 t t0 (by omega) with z | ⟨z1, z2, z3⟩
  · omega
  · exact ⟨a, TxAt.x (hk.sub (by omega) (by omega)) b, c, d⟩
theorem EvOk.cp {lw : Bool} {row row2 : Int → Int} {f z : Int} {d : pD} (h : EvOk lw row f z d) (e : ∀ j : Int, 0 ≤ j → j < z → row2 j = row j) : EvOk lw row2 f z d := fun row' n w e' hn hw => h row' n w (fun j j0 j1 => (e' j j0 j1).trans (e j j0 j1)) hn hw
theorem ClOk.cp {lw : Bool} {g g' : od_G} {t b c z : Int} {k : pC} (h : ClOk lw g t c z k) (e1 : g' (b + 1) c = g (t + 1) c) (e2 : g' (b + 2) c = g (t + 2) c) (e3 : g' (b + 3) c = g (t + 3) c) (e4 : g' (b + 4) c = g (t + 4) c) (e5 : g' (b + 5) c = g (t + 5) c) (e6 : ∀ j : Int, 0 ≤ j → j < z → g' (b + 6) j = g (t + 6) j) : ClOk lw g' b c z k := by
  obtain ⟨a1, a2, a3, a4, a5⟩ := h
  unfold ClOk
  rw [e1, e2, e3, e4, e5]
  exact ⟨a1, a2, a3.cp e6, a4.cp e6, a5.cp e6⟩
theorem pCs_a {c v c' v' : Int → Int} (h : pAg c v c' v') (pl : Int → Int) (k : Nat) : pCs c' v' pl k = pCs c v pl k := by
  unfold pCs
  rw [pSt_a h pl k, pCl_a h pl (pSt_z0 c v pl true k)]
/-- what is kept of a text is what its tokens were -/
theorem lw_new {g1 gc : od_G} {o b q : Int} {r' : Int → Int} {B : Int → Int} {n N N' C : Int} {sn : Nat} (hn : 0 ≤ n) (hN : ∀ i : Int, 0 ≤ i → (i < N ↔ tQ B n (tpl B n i) ≠ 0)) (hN' : ∀ i : Int, 0 ≤ i → (i < N' ↔ tQ B n (tpl B n i) ≠ 0)) (bN : 0 ≤ N' ∧ N' ≤ 400) (hD : pDn (tC B n) (tV B n) (tpl B n) true N C) (hX : TxO true g1 (o + 63) B n C) (hsn : g1 (o + 63) 7 ≤ sn) (e49 : r' (49 + q) = N') (ek : ∀ i : Int, 0 ≤ i → i < N' → r' (56 + 400 * q + i) = tC B n i ∧ r' (2856 + 400 * q + i) = tV B n i) (e6 : gc b 6 = g1 (o + 63) 6) (e7 : gc b 7 = g1 (o + 63) 7) (ec : ∀ j : Int, 0 ≤ j → j < g1 (o + 63) 6 → gc (b + 1) j = g1 (o + 63 + 1) j ∧ gc (b + 2) j = g1 (o + 63 + 2) j ∧ gc (b + 3) j = g1 (o + 63 + 3) j ∧ gc (b + 4) j = g1 (o + 63 + 4) j ∧ gc (b + 5) j = g1 (o + 63 + 5) j) (es : ∀ j : Int, 0 ≤ j → j < g1 (o + 63) 7 → gc (b + 6) j = g1 (o + 63 + 6) j) : LwR gc b r' q (tpl B n) C sn := by
  have ag : pAg (tC B n) (tV B n) (kC r' (400 * q) (r' (49 + q))) (kV r' (400 * q) (r' (49 + q))) := fun i i0 => by
    unfold kC kV
    rw [e49]
    by_cases c : i < N'
    · have z := ek i i0 c
      rw [if_pos ⟨i0, c⟩, if_pos ⟨i0, c⟩, ← z.1, ← z.2, show 56 + (400 * q + i) = 56 + 400 * q + i by omega, show 2856 + (400 * q + i) = 2856 + 400 * q + i by omega]
      exact ⟨rfl, rfl⟩
    · have qz : tQ B n (tpl B n i) = 0 := by
        by_cases u : tQ B n (tpl B n i) = 0
        · exact u
        · exact absurd ((hN' i i0).mpr u) c
      have z := tC_end qz
      rw [if_neg (fun q => c q.2), if_neg (fun q => c q.2), z.1, z.2]
      exact ⟨rfl, rfl⟩
  have hD' : pDn (tC B n) (tV B n) (tpl B n) true N' C := pDn_N (tok_u hN hN') hD
  obtain ⟨x6, x7, xk⟩ := hX
  refine ⟨e6.trans x6, ?_, by rw [e49]; exact bN, fun i => ⟨(tpl_b hn i).1, ?_⟩, ?_, fun i i0 i1 => ?_⟩
  · rw [e7]; exact ⟨x7.1, x7.2, hsn⟩
  · unfold kV
    by_cases c : 0 ≤ i ∧ i < r' (49 + q)
    · rw [if_pos c]
      rw [e49] at c
      have z := (ek i c.1 c.2).2
      rw [show 2856 + (400 * q + i) = 2856 + 400 * q + i by omega, z]
      exact tV_0 B n i
    · rw [if_neg c]; exact Int.le_refl 0
  · have z := pDn_a ag hD'
    rw [← e49] at z
    exact z
  · rw [pCs_a ag (tpl B n) i.toNat, e7]
    have z := xk i i0 i1
    rw [← x6] at i1
    have y := ec i i0 i1
    exact ClOk.cp z y.1 y.2.1 y.2.2.1 y.2.2.2.1 y.2.2.2.2 es
theorem StR.told {g g' : od_G} {k : Int} {r r' : Int → Int} (h : StR g k r) (h6 : r 47 < 6) (e : ∀ x : Int, (k + 1 ≤ x ∧ x ≤ k + 5) ∨ x = k + 7 ∨ x = k + 8 → g' x = g x) (e0 : ∀ y : Int, y ≠ 10 → g' k y = g k y) (e10 : g' k 10 = r 47 + 1) (e47 : r' 47 = r 47 + 1) (er : ∀ y : Int, 0 ≤ y → y < 49 → y ≠ 47 → r' y = r y) : StR g' k r' := by
  have n := h.1.2
  obtain ⟨h1, h2, h3, h4, h5, h7, h9, h10, h11⟩ := h
  unfold StR
  rw [e0 8 (by omega), e0 9 (by omega), e10, e0 11 (by omega), e0 12 (by omega), e (k + 5) (by omega), e (k + 7) (by omega), e (k + 8) (by omega), er 45 (by omega) (by omega) (by omega), er 18 (by omega) (by omega) (by omega), er 43 (by omega) (by omega) (by omega), er 44 (by omega) (by omega) (by omega), e47, er 48 (by omega) (by omega) (by omega), er 46 (by omega) (by omega) (by omega)]
  refine ⟨h1, fun d d0 d1 => ?_, h3, h4, h5, by omega, by omega, h10, fun i i0 i1 => ?_⟩
  · unfold DrR
    rw [e0 9 (by omega), e (k + 1) (by omega), e (k + 2) (by omega), e (k + 3) (by omega), e (k + 4) (by omega), er (19 + d) (by omega) (by omega) (by omega), er (25 + d) (by omega) (by omega) (by omega), er (6 + d) (by omega) (by omega) (by omega), er (12 + d) (by omega) (by omega) (by omega), er d (by omega) (by omega) (by omega)]
    exact h2 d d0 d1
  · rw [er (31 + 2 * i) (by omega) (by omega) (by omega), er (31 + 2 * i + 1) (by omega) (by omega) (by omega)]
    exact h11 i i0 i1
/-- the call of law of the class, then of the reference -/
def od_PrL (E : od_E) (o M : Int) (g : od_G) : Prop := ∃ Qc : od_E → Option od_V → od_G → Prop, od_Cz 40 mX10_law [(2, o)] E g ((7, 600), Qc) ∧ ∀ E' w g1, Qc E' w g1 → ∃ a : Int, w = some (0, a) ∧ EW E' o M ∧ ∃ Qm, od_Cq 39 mX11_law [(2, M)] E' g1 (E', Qm) ∧ ∀ w' g2, Qm w' g2 → w' = some (0, a) ∧ Rel2 E' o M g2 g2
section Law3
variable {E : od_E} {o M : Int} {g gm g' gm' : od_G}
theorem ImR.x {E' : od_E} {k : Int} (hM : 0 ≤ M) (hk : od_kp E E' 0 ((E.1.1 : Int) - 1)) (hc : E.1.1 ≤ E'.1.1) (h : ImR E g gm o M k) : ImR E' g gm o M k := by
  obtain ⟨h1, h2⟩ := h
  refine ⟨h1.x (by omega) hk hc, ?_⟩
  rcases h2 with h2 | ⟨a, b, c, d⟩
  · exact Or.inl h2
  · exact Or.inr ⟨a, b, c, d.x h1 (by omega) c.2.2.2.2.2.1.2.2 hk⟩
end Law3
