/-! sets of drums as bits -/
theorem od_1s : od_shl 1 0 = 1 := by decide
theorem od_bit_1 {j : Int} (h : 0 ≤ j ∧ j < 32) : od_bit 1 j ↔ j = 0 := by
  have z := od_bit_s (b := 0) (j := j) (by omega) h
  rw [od_1s] at z
  exact z
theorem od_and_1 (x : Int) : od_and x 1 = 1 ∨ od_and x 1 = 0 := by
  by_cases c : od_bit x 0
  · left
    refine od_bit_ext (od_rng_and x 1) (by omega) (fun j h0 h1 => ?_)
    rw [od_bit_and ⟨h0, h1⟩, od_bit_1 ⟨h0, h1⟩]
    constructor
    · intro z; exact z.2
    · intro z; rw [z]; exact ⟨c, rfl⟩
  · right
    refine od_bit_ext (od_rng_and x 1) (by omega) (fun j h0 h1 => ?_)
    rw [od_bit_and ⟨h0, h1⟩, od_bit_1 ⟨h0, h1⟩]
    constructor
    · intro z; rw [z.2] at z; exact absurd z.1 c
    · intro z; exact absurd z (od_bit_0 ⟨h0, h1⟩)
theorem mIn_bit {s k : Int} : mIn s k ↔ od_bit s k := by
  unfold mIn od_bit
  rcases od_and_1 (od_shr s k) with h | h <;> rw [h] <;> omega
theorem od_bit_set (P : Int → Prop) : ∀ (n : Nat), n ≤ 32 → ∀ j : Int, 0 ≤ j → j < 32 → (od_bit (od_set P n) j ↔ (j < n ∧ P j)) := by
  intro n
  induction n with
  | zero => intro _ j h0 h1; exact ⟨fun z => absurd z (od_bit_0 ⟨h0, h1⟩), fun z => by have z1 := z.1; omega⟩
  | succ n ih =>
    intro hn j h0 h1
    simp only [od_set]
    rw [od_bit_or ⟨h0, h1⟩, ih (by omega) j h0 h1]
    by_cases c : P n
    · rw [od_ite_t c, od_bit_s (by omega) ⟨h0, h1⟩]
      constructor
      · intro z
        rcases z with z | z
        · exact ⟨by have z1 := z.1; omega, z.2⟩
        · rw [z]; exact ⟨by omega, c⟩
      · intro z
        by_cases e : j = n
        · exact Or.inr e
        · exact Or.inl ⟨by have z1 := z.1; omega, z.2⟩
    · rw [od_ite_f c]
      constructor
      · intro z
        rcases z with z | z
        · exact ⟨by have z1 := z.1; omega, z.2⟩
        · exact absurd z (od_bit_0 ⟨h0, h1⟩)
      · intro z
        by_cases e : j = n
        · rw [e] at z; exact absurd z.2 c
        · exact Or.inl ⟨by have z1 := z.1; omega, z.2⟩
theorem mStB_set (g : od_G) (M h : Int) : ∀ n : Nat, mStB g M h n = od_set (fun d => mStrikes g M d h) n := by
  intro n
  induction n with
  | zero => rfl
  | succ n ih => simp only [mStB, od_set]; rw [ih]
theorem mStN_bit {g : od_G} {M : Int} (hI : MI g M) (h : Int) {d : Int} (hd : 0 ≤ d ∧ d < 32) : od_bit (mStN g M h) d ↔ (d < g (M + 2) 45 ∧ mStrikes g M d h) := by
  have i45 := hI.1
  unfold mStN
  rw [mStB_set, od_bit_set _ _ (by omega) d hd.1 hd.2, show (((g (M + 2) 45).toNat : Nat) : Int) = g (M + 2) 45 by omega]
theorem od_ite_i {P Q : Prop} (h : P ↔ Q) (x y : Int) : od_ite P x y = od_ite Q x y := by rw [propext h]
/-- the noise laid out is the loudness -/
theorem mNz_loud {g : od_G} {M : Int} (hI : MI g M) (pl : Int → Int) (C h : Int) : mNz g M pl C h = mLoud g M pl C h := by
  have i45 := hI.1
  unfold mNz mLoud
  refine od_sum_c _ (fun d d0 d1 => ?_)
  unfold mNd mLd
  refine od_ite_i ?_ _ _
  rw [mIn_bit, mStN_bit hI h (by omega)]
  exact ⟨fun z => z.2, fun z => ⟨by omega, z⟩⟩
theorem od_lt64 {x : Int} (hx : -2147483648 ≤ x ∧ x < 2147483648) (h : ∀ j : Int, 6 ≤ j → j < 32 → ¬ od_bit x j) : 0 ≤ x ∧ x < 64 := by
  have hn : (od_bv x).toNat < 2 ^ 6 := by
    refine Nat.lt_pow_two_of_testBit _ (fun i hi => ?_)
    by_cases c : i < 32
    · have z := h i (by omega) (by omega)
      rw [od_bit_l (by omega), show ((i : Int).toNat) = i by omega] at z
      exact Bool.eq_false_iff.mpr z
    · exact Nat.testBit_lt_two_pow (Nat.lt_of_lt_of_le (od_bv x).isLt (Nat.pow_le_pow_right (by decide) (by omega)))
  have e := od_bv_toInt hx
  rw [BitVec.toInt_eq_toNat_of_lt (by omega)] at e
  omega
theorem od_set_r (P : Int → Prop) : ∀ n : Nat, -2147483648 ≤ od_set P n ∧ od_set P n < 2147483648 := by
  intro n
  cases n with
  | zero => show (-2147483648 : Int) ≤ 0 ∧ (0 : Int) < 2147483648; omega
  | succ n => exact od_rng_or _ _
theorem od_set_64 (P : Int → Prop) {n : Nat} (hn : n ≤ 6) : 0 ≤ od_set P n ∧ od_set P n < 64 :=
  od_lt64 (od_set_r P n) (fun j h0 h1 z => by have y := ((od_bit_set P n (by omega) j (by omega) h1).mp z).1; omega)
theorem mStN_64 {g : od_G} {M : Int} (hI : MI g M) (h : Int) : 0 ≤ mStN g M h ∧ mStN g M h < 64 := by
  have i45 := hI.1
  unfold mStN
  rw [mStB_set]
  exact od_set_64 _ (by omega)
