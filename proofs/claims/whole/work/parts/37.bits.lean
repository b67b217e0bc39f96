/-! bits -/
def od_bv (x : Int) : BitVec 32 := (Int32.ofInt x).toBitVec
theorem od_sm : ∀ n : Fin 32, ((Int32.ofInt (n.val : Int) &&& 31).toBitVec.smod (32 : BitVec 32)).toNat = n.val := by decide
theorem od_nz_bv (a : Int32) : a.toInt ≠ 0 ↔ a.toBitVec ≠ 0#32 := by
  constructor
  · intro h q
    apply h
    rw [← Int32.toInt_toBitVec, q]
    rfl
  · intro h q
    apply h
    rw [← Int32.toInt_toBitVec] at q
    exact BitVec.eq_of_toInt_eq (q.trans rfl)
theorem od_bit_l {x j : Int} (h : 0 ≤ j ∧ j < 32) : od_bit x j ↔ (od_bv x).getLsbD j.toNat = true := by
  have hs := od_sm ⟨j.toNat, by omega⟩
  rw [show ((⟨j.toNat, by omega⟩ : Fin 32).val : Int) = j by simp only []; omega] at hs
  simp only [] at hs
  unfold od_bit od_and od_shr od_bv
  rw [Int32.ofInt_toInt, od_nz_bv, Int32.toBitVec_and, show (Int32.ofInt 1).toBitVec = 1#32 by decide, BitVec.and_one_eq_setWidth_ofBool_getLsbD, Int32.toBitVec_shiftRight, BitVec.sshiftRight_eq', hs, BitVec.getLsbD_sshiftRight]
  rw [if_pos (by omega), Nat.add_zero]
  cases (Int32.ofInt x).toBitVec.getLsbD j.toNat <;> simp
theorem od_bv_or (a b : Int) : od_bv (od_or a b) = od_bv a ||| od_bv b := by unfold od_bv od_or; rw [Int32.ofInt_toInt, Int32.toBitVec_or]
theorem od_bv_and (a b : Int) : od_bv (od_and a b) = od_bv a &&& od_bv b := by unfold od_bv od_and; rw [Int32.ofInt_toInt, Int32.toBitVec_and]
theorem od_bv_xor (a b : Int) : od_bv (od_xor a b) = od_bv a ^^^ od_bv b := by unfold od_bv od_xor; rw [Int32.ofInt_toInt, Int32.toBitVec_xor]
theorem od_bit_or {a b j : Int} (h : 0 ≤ j ∧ j < 32) : od_bit (od_or a b) j ↔ od_bit a j ∨ od_bit b j := by
  rw [od_bit_l h, od_bit_l h, od_bit_l h, od_bv_or, BitVec.getLsbD_or, Bool.or_eq_true]
theorem od_bit_and {a b j : Int} (h : 0 ≤ j ∧ j < 32) : od_bit (od_and a b) j ↔ od_bit a j ∧ od_bit b j := by
  rw [od_bit_l h, od_bit_l h, od_bit_l h, od_bv_and, BitVec.getLsbD_and, Bool.and_eq_true]
theorem od_bit_xor {a b j : Int} (h : 0 ≤ j ∧ j < 32) : od_bit (od_xor a b) j ↔ ¬ (od_bit a j ↔ od_bit b j) := by
  rw [od_bit_l h, od_bit_l h, od_bit_l h, od_bv_xor, BitVec.getLsbD_xor]
  cases (od_bv a).getLsbD j.toNat <;> cases (od_bv b).getLsbD j.toNat <;> simp
theorem od_b1s : ∀ b : Fin 32, ∀ j : Fin 32, (od_bv (od_shl 1 (b.val : Int))).getLsbD j.val = decide (j.val = b.val) := by decide +kernel
theorem od_bit_s {b j : Int} (hb : 0 ≤ b ∧ b < 32) (h : 0 ≤ j ∧ j < 32) : od_bit (od_shl 1 b) j ↔ j = b := by
  have q := od_b1s ⟨b.toNat, by omega⟩ ⟨j.toNat, by omega⟩
  simp only [] at q
  rw [show ((b.toNat : Nat) : Int) = b by omega] at q
  rw [od_bit_l h, q, decide_eq_true_eq]
  omega
theorem od_bm1 : ∀ j : Fin 32, (od_bv (-1)).getLsbD j.val = true := by decide
theorem od_bit_m1 {j : Int} (h : 0 ≤ j ∧ j < 32) : od_bit (-1) j := (od_bit_l h).mpr (od_bm1 ⟨j.toNat, by omega⟩)
theorem od_bit_0 {j : Int} (h : 0 ≤ j ∧ j < 32) : ¬ od_bit 0 j := by
  rw [od_bit_l h, show od_bv 0 = 0#32 by decide]
  simp
theorem od_bv_ext {x y : Int} (h : ∀ j : Int, 0 ≤ j → j < 32 → (od_bit x j ↔ od_bit y j)) : od_bv x = od_bv y := by
  apply BitVec.eq_of_getLsbD_eq
  intro i hi
  have q := h i (by omega) (by omega)
  rw [od_bit_l (by omega), od_bit_l (by omega), Int.toNat_natCast] at q
  cases h1 : (od_bv x).getLsbD i <;> cases h2 : (od_bv y).getLsbD i <;> simp_all
theorem od_bv_toInt {x : Int} (h : -2147483648 ≤ x ∧ x < 2147483648) : (od_bv x).toInt = x := by
  unfold od_bv
  rw [Int32.toInt_toBitVec, Int32.toInt_ofInt_of_le (by omega) (by omega)]
theorem od_bit_ext {x y : Int} (hx : -2147483648 ≤ x ∧ x < 2147483648) (hy : -2147483648 ≤ y ∧ y < 2147483648) (h : ∀ j : Int, 0 ≤ j → j < 32 → (od_bit x j ↔ od_bit y j)) : x = y := by
  have q := od_bv_ext h
  rw [← od_bv_toInt hx, q, od_bv_toInt hy]
theorem od_rng_and (a b : Int) : -2147483648 ≤ od_and a b ∧ od_and a b < 2147483648 := by
  unfold od_and
  have h1 := Int32.le_toInt (Int32.ofInt a &&& Int32.ofInt b)
  have h2 := Int32.toInt_lt (Int32.ofInt a &&& Int32.ofInt b)
  omega
theorem od_rng_or (a b : Int) : -2147483648 ≤ od_or a b ∧ od_or a b < 2147483648 := by
  unfold od_or
  have h1 := Int32.le_toInt (Int32.ofInt a ||| Int32.ofInt b)
  have h2 := Int32.toInt_lt (Int32.ofInt a ||| Int32.ofInt b)
  omega
theorem od_rng_xor (a b : Int) : -2147483648 ≤ od_xor a b ∧ od_xor a b < 2147483648 := by
  unfold od_xor
  have h1 := Int32.le_toInt (Int32.ofInt a ^^^ Int32.ofInt b)
  have h2 := Int32.toInt_lt (Int32.ofInt a ^^^ Int32.ofInt b)
  omega
/-- a number below 2^n has no bit from n on -/
theorem od_bit_hi {x : Int} {n : Nat} (h0 : 0 ≤ x) (hx : x < 2 ^ n) (hn : n < 32) {j : Int} (hj : (n : Int) ≤ j ∧ j < 32) : ¬ od_bit x j := by
  rw [od_bit_l (by omega)]
  have e : (od_bv x).toNat = x.toNat := by
    have h2 : x < 2147483648 := by
      have : (2 : Int) ^ n ≤ 2 ^ 31 := by
        have := Nat.pow_le_pow_right (n := 2) (by omega) (show n ≤ 31 by omega)
        have h3 : ((2 ^ n : Nat) : Int) ≤ ((2 ^ 31 : Nat) : Int) := Int.ofNat_le.mpr this
        rw [Int.natCast_pow, Int.natCast_pow] at h3
        exact h3
      omega
    have q := od_bv_toInt (x := x) (by omega)
    rw [BitVec.toInt_eq_toNat_cond] at q
    split at q <;> omega
  have hl : (od_bv x).toNat < 2 ^ j.toNat := by
    rw [e]
    have h3 : x.toNat < 2 ^ n := by
      have : ((x.toNat : Nat) : Int) < ((2 ^ n : Nat) : Int) := by rw [Int.toNat_of_nonneg h0, Int.natCast_pow]; exact hx
      exact Int.ofNat_lt.mp this
    exact Nat.lt_of_lt_of_le h3 (Nat.pow_le_pow_right (by omega) (by omega))
  have q : (od_bv x).getLsbD j.toNat = false := Nat.testBit_lt_two_pow hl
  rw [q]
  simp
