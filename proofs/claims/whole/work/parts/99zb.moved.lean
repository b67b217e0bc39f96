/-! the street's moved part -/
theorem od_bit_lt {x : Int} {n : Nat} (hn : n < 32) (hr : -2147483648 ≤ x ∧ x < 2147483648) (h : ∀ j : Int, (n : Int) ≤ j → j < 32 → ¬ od_bit x j) : 0 ≤ x ∧ x < 2 ^ n := by
  have b : (od_bv x).toNat < 2 ^ n := by
    refine Nat.lt_pow_two_of_testBit _ (fun i hi => ?_)
    by_cases c : i < 32
    · have z := h i (by omega) (by omega)
      rw [od_bit_l (by omega)] at z
      have e : ((i : Int)).toNat = i := by omega
      rw [e] at z
      have : (od_bv x).getLsbD i = false := by
        cases q : (od_bv x).getLsbD i
        · rfl
        · exact absurd q z
      exact this
    · have z : (od_bv x).toNat < 2 ^ i := Nat.lt_of_lt_of_le (od_bv x).isLt (Nat.pow_le_pow_right (by omega) (by omega))
      exact Nat.testBit_lt_two_pow z
  have p31 : 2 ^ n ≤ 2 ^ 31 := Nat.pow_le_pow_right (by omega) (by omega)
  have q := od_bv_toInt (x := x) hr
  rw [BitVec.toInt_eq_toNat_cond] at q
  have e2 : (2 : Int) ^ n = ((2 ^ n : Nat) : Int) := by rw [Int.natCast_pow]; rfl
  rw [e2]
  split at q <;> omega
theorem od_xor_lt {x b : Int} {n : Nat} (hn : n < 32) (hx : 0 ≤ x ∧ x < 2 ^ n) (hb : 0 ≤ b ∧ b < n) : 0 ≤ od_xor x (od_shl 1 b) ∧ od_xor x (od_shl 1 b) < 2 ^ n := by
  refine od_bit_lt hn (od_rng_xor _ _) (fun j j0 j1 => ?_)
  rw [od_bit_xor (by omega), od_bit_s (by omega) (by omega)]
  have z := od_bit_hi hx.1 hx.2 hn (j := j) ⟨j0, j1⟩
  intro q
  exact q ⟨fun y => absurd y z, fun y => by omega⟩
theorem od_bit_flip {x b j : Int} (hb : 0 ≤ b ∧ b < 32) (hj : 0 ≤ j ∧ j < 32) : od_bit (od_xor x (od_shl 1 b)) j ↔ ((j = b ∧ ¬ od_bit x j) ∨ (j ≠ b ∧ od_bit x j)) := by
  rw [od_bit_xor hj, od_bit_s hb hj]
  by_cases c : j = b
  · by_cases q : od_bit x j <;> simp [c, q] <;> (first | (rw [← c]; exact q) | skip)
  · by_cases q : od_bit x j <;> simp [c, q]
def MvR (hr sp : Int) (bt pn : Int → Int) (n : Int) (lg m : Int → Int) : Prop := (hr = m 18 ∧ 0 ≤ m 18 ∧ m 18 ≤ 999) ∧ (∀ d : Int, 0 ≤ d → d < n → bt d = m (6 + d) ∧ pn d = m d ∧ (0 ≤ m (6 + d) ∧ m (6 + d) < lg d) ∧ (m (12 + d) = 0 ∨ m (12 + d) = 1) ∧ (od_bit sp d ↔ m (12 + d) = 1) ∧ (0 ≤ m d ∧ m d < 4096)) ∧ ((∀ d : Int, n ≤ d → d < 6 → ¬ od_bit sp d) ∧ 0 ≤ sp ∧ sp < 64)
def FxR (g : od_G) (k : Int) (r : Int → Int) : Prop := (g k 8 = r 45 ∧ 0 ≤ r 45 ∧ r 45 ≤ 6) ∧ (∀ d : Int, 0 ≤ d → d < r 45 → g (k + 1) d = r (19 + d) ∧ g (k + 2) d = r (25 + d) ∧ (1 ≤ r (19 + d) ∧ r (19 + d) ≤ 12) ∧ (0 ≤ r (25 + d) ∧ r (25 + d) ≤ 3)) ∧ (g (k + 5) 1 = r 43 ∧ g (k + 5) 2 = r 44) ∧ ((0 ≤ r 43 ∧ r 43 ≤ 10) ∧ (0 ≤ r 44 ∧ r 44 ≤ 9)) ∧ (g k 10 = r 47 ∧ 0 ≤ r 47 ∧ r 47 ≤ 6) ∧ (g k 11 = r 48 ∧ (r 48 = -1 ∨ (0 ≤ r 48 ∧ r 48 < r 47))) ∧
  (g k 12 = r 46 ∧ 0 ≤ r 46 ∧ r 46 ≤ 6) ∧ ∀ i : Int, 0 ≤ i → i < r 46 → g (k + 7) i = r (31 + 2 * i) ∧ g (k + 8) i = r (31 + 2 * i + 1) ∧ (0 ≤ r (31 + 2 * i) ∧ r (31 + 2 * i) < 100) ∧ (r (31 + 2 * i + 1) = 0 ∨ r (31 + 2 * i + 1) = 1)
theorem StR.iff (g : od_G) (k : Int) (r : Int → Int) : StR g k r ↔ FxR g k r ∧ MvR (g (k + 5) 0) (g k 9) (g (k + 3)) (g (k + 4)) (r 45) (fun d => r (19 + d)) r := by
  constructor
  · rintro ⟨h1, h2, h3, h4, h5, h6, h7, h8, h9⟩
    refine ⟨⟨h1, fun d d0 d1 => ?_, ⟨h4.2.1, h4.2.2⟩, h5.2, h6, h7, h8, h9⟩, ⟨⟨h4.1, h5.1⟩, fun d d0 d1 => ?_, h3⟩⟩
    · obtain ⟨a1, a2, a3, a4, a5, a6, a7, a8, a9, a10⟩ := h2 d d0 d1
      exact ⟨a1, a2, a5, a9⟩
    · obtain ⟨a1, a2, a3, a4, a5, a6, a7, a8, a9, a10⟩ := h2 d d0 d1
      exact ⟨a3, a4, a6, a7, a8, a10⟩
  · rintro ⟨⟨f1, f2, f3, f4, f5, f6, f7, f8⟩, ⟨m1, m2, m3⟩⟩
    refine ⟨f1, fun d d0 d1 => ?_, m3, ⟨m1.1, f3.1, f3.2⟩, ⟨m1.2, f4.1, f4.2⟩, f5, f6, f7, f8⟩
    obtain ⟨a1, a2, a3, a4⟩ := f2 d d0 d1
    obtain ⟨b1, b2, b3, b4, b5, b6⟩ := m2 d d0 d1
    exact ⟨a1, a2, b1, b2, a3, b3, b4, b5, a4, b6⟩
/-- the fixed part looks at nothing that is moved -/
theorem FxR.c {g g' : od_G} {k : Int} {r r' : Int → Int} (h : FxR g k r) (e0 : ∀ y : Int, y = 8 ∨ 10 ≤ y → g' k y = g k y) (e1 : g' (k + 1) = g (k + 1)) (e2 : g' (k + 2) = g (k + 2)) (e5 : ∀ y : Int, 1 ≤ y → g' (k + 5) y = g (k + 5) y) (e7 : g' (k + 7) = g (k + 7)) (e8 : g' (k + 8) = g (k + 8)) (er : ∀ y : Int, 19 ≤ y → y < 49 → r' y = r y) : FxR g' k r' := by
  obtain ⟨f1, f2, f3, f4, f5, f6, f7, f8⟩ := h
  unfold FxR
  rw [e0 8 (by omega), e0 10 (by omega), e0 11 (by omega), e0 12 (by omega), e1, e2, e5 1 (by omega), e5 2 (by omega), e7, e8, er 45 (by omega) (by omega), er 43 (by omega) (by omega), er 44 (by omega) (by omega), er 46 (by omega) (by omega), er 47 (by omega) (by omega), er 48 (by omega) (by omega)]
  refine ⟨f1, fun d d0 d1 => ?_, f3, f4, f5, f6, f7, fun i i0 i1 => ?_⟩
  · rw [er (19 + d) (by omega) (by omega), er (25 + d) (by omega) (by omega)]; exact f2 d d0 d1
  · rw [er (31 + 2 * i) (by omega) (by omega), er (31 + 2 * i + 1) (by omega) (by omega)]; exact f8 i i0 i1
theorem MvR.c {hr sp : Int} {bt pn : Int → Int} {n : Int} {lg m m' : Int → Int} (hn : n ≤ 6) (h : MvR hr sp bt pn n lg m) (e : ∀ y : Int, 0 ≤ y → y < 19 → m' y = m y) : MvR hr sp bt pn n lg m' := by
  obtain ⟨m1, m2, m3⟩ := h
  refine ⟨by rw [e 18 (by omega) (by omega)]; exact m1, fun d d0 d1 => ?_, m3⟩
  rw [e (6 + d) (by omega) (by omega), e (12 + d) (by omega) (by omega), e d (by omega) (by omega)]
  exact m2 d d0 d1
theorem StR.fx {g : od_G} {k : Int} {r : Int → Int} (h : StR g k r) : FxR g k r := ((StR.iff g k r).mp h).1
theorem StR.mv {g : od_G} {k : Int} {r : Int → Int} (h : StR g k r) : MvR (g (k + 5) 0) (g k 9) (g (k + 3)) (g (k + 4)) (r 45) (fun d => r (19 + d)) r := ((StR.iff g k r).mp h).2
/-- a pin is turned -/
theorem StR.pinG {g : od_G} {k : Int} {r : Int → Int} (h : StR g k r) {d b : Int} (hd : 0 ≤ d ∧ d < r 45) (hb : 0 ≤ b ∧ b < 12) : StR (cPinG g k d b) k (od_u1 r d (od_xor (r d) (od_shl 1 b))) := by
  have n := h.1.2
  obtain ⟨m1, m2, m3⟩ := h.mv
  have ed := (m2 d hd.1 hd.2)
  refine (StR.iff _ _ _).mpr ⟨h.fx.c (fun y _ => od_upn (by omega)) (od_up_ne (by omega)) (od_up_ne (by omega)) (fun y _ => od_upn (by omega)) (od_up_ne (by omega)) (od_up_ne (by omega)) (fun y _ _ => od_u1_ne (by omega)), ?_⟩
  unfold cPinG
  rw [od_upn (by omega), od_upn (by omega), od_up_ne (show k + 3 ≠ k + 4 by omega), od_u1_ne (show (45 : Int) ≠ d by omega)]
  refine ⟨by rw [od_u1_ne (by omega)]; exact m1, fun e e0 e1 => ?_, m3⟩
  show _ ∧ _ ∧ (_ ∧ _ < od_u1 r d (od_xor (r d) (od_shl 1 b)) (19 + e)) ∧ _
  rw [od_u1_ne (show 6 + e ≠ d by omega), od_u1_ne (show 12 + e ≠ d by omega), od_u1_ne (show 19 + e ≠ d by omega)]
  have z := m2 e e0 e1
  by_cases c : e = d
  · subst c
    rw [od_up_i, od_u1_at, z.2.1]
    have x := od_xor_lt (x := r e) (b := b) (n := 12) (by omega) (by omega) (by omega)
    exact ⟨z.1, rfl, z.2.2.1, z.2.2.2.1, z.2.2.2.2.1, by omega⟩
  · rw [od_up_j c, od_u1_ne c]
    exact z
/-- a drum is shifted -/
theorem StR.shiftG {g : od_G} {k : Int} {r : Int → Int} (h : StR g k r) {d n : Int} (hd : 0 ≤ d ∧ d < r 45) (hn : 0 ≤ n ∧ n < 100) : StR (cShiftG g k d n) k (od_u1 r (6 + d) ((r (6 + d) + n).tmod (r (19 + d)))) := by
  have n6 := h.1.2
  obtain ⟨m1, m2, m3⟩ := h.mv
  have ed := m2 d hd.1 hd.2
  have fd := h.fx.2.1 d hd.1 hd.2
  refine (StR.iff _ _ _).mpr ⟨h.fx.c (fun y _ => od_upn (by omega)) (od_up_ne (by omega)) (od_up_ne (by omega)) (fun y _ => od_upn (by omega)) (od_up_ne (by omega)) (od_up_ne (by omega)) (fun y _ _ => od_u1_ne (by omega)), ?_⟩
  have v : (od_w (g (k + 3) d + n)).tmod (g (k + 1) d) = (r (6 + d) + n).tmod (r (19 + d)) := by
    rw [ed.1, fd.1, od_wI (by have := fd.2.2.1; have := ed.2.2.1; simp only [] at this; omega) (by have := fd.2.2.1; have := ed.2.2.1; simp only [] at this; omega)]
  have vb : 0 ≤ (r (6 + d) + n).tmod (r (19 + d)) ∧ (r (6 + d) + n).tmod (r (19 + d)) < r (19 + d) := by
    have e3 := ed.2.2.1
    rw [Int.tmod_eq_emod_of_nonneg (by omega)]
    exact ⟨Int.emod_nonneg _ (by omega), Int.emod_lt_of_pos _ (by omega)⟩
  unfold cShiftG
  rw [v, od_upn (by omega), od_upn (by omega), od_up_ne (show k + 4 ≠ k + 3 by omega), od_u1_ne (show (45 : Int) ≠ 6 + d by omega)]
  generalize (r (6 + d) + n).tmod (r (19 + d)) = u at vb
  refine ⟨by rw [od_u1_ne (by omega)]; exact m1, fun e e0 e1 => ?_, m3⟩
  show _ ∧ _ ∧ (_ ∧ _ < od_u1 r (6 + d) u (19 + e)) ∧ _
  rw [od_u1_ne (show 12 + e ≠ 6 + d by omega), od_u1_ne (show e ≠ 6 + d by omega), od_u1_ne (show 19 + e ≠ 6 + d by omega)]
  have z := m2 e e0 e1
  by_cases c : e = d
  · subst c
    rw [od_up_i, od_u1_at]
    exact ⟨rfl, z.2.1, vb, z.2.2.2⟩
  · rw [od_up_j c, od_u1_ne (by omega)]
    exact z
/-- a drum is stopped, or goes on -/
theorem StR.stopG {g : od_G} {k : Int} {r : Int → Int} (h : StR g k r) {d : Int} (hd : 0 ≤ d ∧ d < r 45) : StR (cStopG g k d) k (od_u1 r (12 + d) (1 - r (12 + d))) := by
  have n6 := h.1.2
  obtain ⟨m1, m2, m3⟩ := h.mv
  have ed := m2 d hd.1 hd.2
  refine (StR.iff _ _ _).mpr ⟨h.fx.c (fun y _ => od_up_j (by omega)) (od_up_ne (by omega)) (od_up_ne (by omega)) (fun y _ => od_upn (by omega)) (od_up_ne (by omega)) (od_up_ne (by omega)) (fun y _ _ => od_u1_ne (by omega)), ?_⟩
  unfold cStopG
  rw [od_upn (by omega), od_up_i, od_up_ne (show k + 3 ≠ k by omega), od_up_ne (show k + 4 ≠ k by omega), od_u1_ne (show (45 : Int) ≠ 12 + d by omega)]
  have x := od_xor_lt (x := g k 9) (b := d) (n := 6) (by omega) (by omega) (by omega)
  refine ⟨by rw [od_u1_ne (by omega)]; exact m1, fun e e0 e1 => ?_, fun e e0 e1 => ?_, by omega, by omega⟩
  · show _ ∧ _ ∧ (_ ∧ _ < od_u1 r (12 + d) (1 - r (12 + d)) (19 + e)) ∧ _
    rw [od_u1_ne (show 6 + e ≠ 12 + d by omega), od_u1_ne (show e ≠ 12 + d by omega), od_u1_ne (show 19 + e ≠ 12 + d by omega), od_bit_flip (by omega) (by omega)]
    have z := m2 e e0 e1
    by_cases c : e = d
    · subst c
      rw [od_u1_at]
      refine ⟨z.1, z.2.1, z.2.2.1, by rcases z.2.2.2.1 with q | q <;> omega, ?_, z.2.2.2.2.2⟩
      have z4 := z.2.2.2.1
      have z5 := z.2.2.2.2.1
      constructor
      · intro q
        rcases q with ⟨_, q⟩ | ⟨q, _⟩
        · rcases z4 with y | y
          · omega
          · exact absurd (z5.mpr y) q
        · exact absurd rfl q
      · intro q
        left
        exact ⟨rfl, fun y => by have := z5.mp y; omega⟩
    · rw [od_u1_ne (by omega)]
      refine ⟨z.1, z.2.1, z.2.2.1, z.2.2.2.1, ?_, z.2.2.2.2.2⟩
      rw [← z.2.2.2.2.1]
      exact ⟨fun q => q.elim (fun y => absurd y.1 c) (fun y => y.2), fun q => Or.inr ⟨c, q⟩⟩
  · rw [od_bit_flip (by omega) (by omega)]
    intro q
    rcases q with ⟨q, _⟩ | ⟨_, q⟩
    · omega
    · exact m3.1 e e0 e1 q
