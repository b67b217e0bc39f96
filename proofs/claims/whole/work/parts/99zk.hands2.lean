/-! changes: the hands; feed -/
theorem od_and255 (y : Int) : od_and y 255 = (((od_bv y).toNat % 256 : Nat) : Int) := by
  unfold od_and od_bv
  rw [← Int32.toInt_toBitVec, Int32.toBitVec_and, show (Int32.ofInt 255).toBitVec = 255#32 by decide, BitVec.toInt_eq_toNat_cond, BitVec.toNat_and, show (255#32).toNat = 2 ^ 8 - 1 by decide, Nat.and_two_pow_sub_one_eq_mod]
  have : (Int32.ofInt y).toBitVec.toNat % 2 ^ 8 < 256 := Nat.mod_lt _ (by omega)
  split <;> omega
theorem od_byte_v {y : Int} (h : -2147483648 ≤ y ∧ y < 2147483648) : od_byte y = if y % 256 < 128 then y % 256 else y % 256 - 256 := by
  unfold od_byte
  rw [Int8.toInt_toInt32, Int32.toInt_toInt8, Int32.toInt_ofInt_of_le (by omega) (by omega)]
  unfold Int.bmod
  simp only [show ((2 ^ 8 : Nat) : Int) = 256 by decide]
  split <;> split <;> omega
theorem od_shr_0 (x : Int) : od_shr x 0 = (Int32.ofInt x).toInt / 1 := by
  unfold od_shr
  rw [show (Int32.ofInt 0 &&& 31 : Int32) = 0 by decide, ← Int32.toInt_toBitVec, Int32.toBitVec_shiftRight]
  rw [show ((0 : Int32).toBitVec.smod (32 : BitVec 32)) = 0#32 by decide, BitVec.sshiftRight_eq', BitVec.toInt_sshiftRight, Int32.toInt_toBitVec, show (0#32).toNat = 0 by rfl, Int.shiftRight_eq_div_pow]
  rfl
theorem od_tb0 (x : Int) : TB (od_byte (od_byte (od_shr x 0))) (od_and (od_ushr x 0) 255) := by
  have h := pk_ushr (Int32.ofInt x) (Int32.ofInt 0) 0 (by decide)
  have h2 : (Int32.ofInt x).toBitVec.toNat < 2 ^ 32 := BitVec.isLt _
  have xi : (Int32.ofInt x).toInt = if 2 * (Int32.ofInt x).toBitVec.toNat < 2 ^ 32 then ((Int32.ofInt x).toBitVec.toNat : Int) else ((Int32.ofInt x).toBitVec.toNat : Int) - ((2 ^ 32 : Nat) : Int) := by rw [← Int32.toInt_toBitVec, BitVec.toInt_eq_toNat_cond]
  have eb : od_and (od_ushr x 0) 255 = (((Int32.ofInt x).toBitVec.toNat / 2 ^ 0 % 256 : Nat) : Int) := by
    rw [od_and255]
    unfold od_bv od_ushr
    rw [Int32.ofInt_toInt, h]
  rw [eb, od_shr_0]
  generalize (Int32.ofInt x).toBitVec.toNat = X at *
  generalize (Int32.ofInt x).toInt = xi0 at *
  have ux : xi0 = (X : Int) ∨ xi0 = (X : Int) - 4294967296 := by
    split at xi
    · exact Or.inl xi
    · right; rw [xi]; omega
  have ur : -2147483648 ≤ xi0 ∧ xi0 < 2147483648 := by
    split at xi <;> omega
  have v1 := od_byte_v (y := xi0 / 1) (by omega)
  have r1 : -128 ≤ od_byte (xi0 / 1) ∧ od_byte (xi0 / 1) ≤ 127 := by rw [v1]; split <;> omega
  have v2 := od_byte_v (y := od_byte (xi0 / 1)) (by omega)
  have e2 : od_byte (od_byte (xi0 / 1)) = od_byte (xi0 / 1) := by rw [v2]; split <;> omega
  rw [e2]
  have bt := od_bv_toInt (x := od_byte (xi0 / 1)) (by omega)
  have a255 := od_and255 (od_byte (xi0 / 1))
  have bl : (od_bv (od_byte (xi0 / 1))).toNat < 2 ^ 32 := BitVec.isLt _
  rw [BitVec.toInt_eq_toNat_cond] at bt
  have m : (((X / 2 ^ 0 % 256 : Nat)) : Int) = (xi0 / 1) % 256 := by
    rcases ux with e | e <;> rw [e] <;> omega
  generalize od_byte (xi0 / 1) = tt at *
  generalize (od_bv tt).toNat = T at *
  rw [m]
  generalize xi0 / 1 = u at *
  unfold TB
  refine ⟨by omega, ?_, ?_⟩
  · split at v1 <;> omega
  · rw [a255]
    split at bt <;> split at v1 <;> omega
theorem od_shr_8 (x : Int) : od_shr x 8 = (Int32.ofInt x).toInt / 256 := by
  unfold od_shr
  rw [show (Int32.ofInt 8 &&& 31 : Int32) = 8 by decide, ← Int32.toInt_toBitVec, Int32.toBitVec_shiftRight]
  rw [show ((8 : Int32).toBitVec.smod (32 : BitVec 32)) = 8#32 by decide, BitVec.sshiftRight_eq', BitVec.toInt_sshiftRight, Int32.toInt_toBitVec, show (8#32).toNat = 8 by rfl, Int.shiftRight_eq_div_pow]
  rfl
theorem od_tb8 (x : Int) : TB (od_byte (od_byte (od_shr x 8))) (od_and (od_ushr x 8) 255) := by
  have h := pk_ushr (Int32.ofInt x) (Int32.ofInt 8) 8 (by decide)
  have h2 : (Int32.ofInt x).toBitVec.toNat < 2 ^ 32 := BitVec.isLt _
  have xi : (Int32.ofInt x).toInt = if 2 * (Int32.ofInt x).toBitVec.toNat < 2 ^ 32 then ((Int32.ofInt x).toBitVec.toNat : Int) else ((Int32.ofInt x).toBitVec.toNat : Int) - ((2 ^ 32 : Nat) : Int) := by rw [← Int32.toInt_toBitVec, BitVec.toInt_eq_toNat_cond]
  have eb : od_and (od_ushr x 8) 255 = (((Int32.ofInt x).toBitVec.toNat / 2 ^ 8 % 256 : Nat) : Int) := by
    rw [od_and255]
    unfold od_bv od_ushr
    rw [Int32.ofInt_toInt, h]
  rw [eb, od_shr_8]
  generalize (Int32.ofInt x).toBitVec.toNat = X at *
  generalize (Int32.ofInt x).toInt = xi0 at *
  have ux : xi0 = (X : Int) ∨ xi0 = (X : Int) - 4294967296 := by
    split at xi
    · exact Or.inl xi
    · right; rw [xi]; omega
  have ur : -2147483648 ≤ xi0 ∧ xi0 < 2147483648 := by
    split at xi <;> omega
  have v1 := od_byte_v (y := xi0 / 256) (by omega)
  have r1 : -128 ≤ od_byte (xi0 / 256) ∧ od_byte (xi0 / 256) ≤ 127 := by rw [v1]; split <;> omega
  have v2 := od_byte_v (y := od_byte (xi0 / 256)) (by omega)
  have e2 : od_byte (od_byte (xi0 / 256)) = od_byte (xi0 / 256) := by rw [v2]; split <;> omega
  rw [e2]
  have bt := od_bv_toInt (x := od_byte (xi0 / 256)) (by omega)
  have a255 := od_and255 (od_byte (xi0 / 256))
  have bl : (od_bv (od_byte (xi0 / 256))).toNat < 2 ^ 32 := BitVec.isLt _
  rw [BitVec.toInt_eq_toNat_cond] at bt
  have m : (((X / 2 ^ 8 % 256 : Nat)) : Int) = (xi0 / 256) % 256 := by
    rcases ux with e | e <;> rw [e] <;> omega
  generalize od_byte (xi0 / 256) = tt at *
  generalize (od_bv tt).toNat = T at *
  rw [m]
  generalize xi0 / 256 = u at *
  unfold TB
  refine ⟨by omega, ?_, ?_⟩
  · split at v1 <;> omega
  · rw [a255]
    split at bt <;> split at v1 <;> omega
theorem od_shr_16 (x : Int) : od_shr x 16 = (Int32.ofInt x).toInt / 65536 := by
  unfold od_shr
  rw [show (Int32.ofInt 16 &&& 31 : Int32) = 16 by decide, ← Int32.toInt_toBitVec, Int32.toBitVec_shiftRight]
  rw [show ((16 : Int32).toBitVec.smod (32 : BitVec 32)) = 16#32 by decide, BitVec.sshiftRight_eq', BitVec.toInt_sshiftRight, Int32.toInt_toBitVec, show (16#32).toNat = 16 by rfl, Int.shiftRight_eq_div_pow]
  rfl
theorem od_tb16 (x : Int) : TB (od_byte (od_byte (od_shr x 16))) (od_and (od_ushr x 16) 255) := by
  have h := pk_ushr (Int32.ofInt x) (Int32.ofInt 16) 16 (by decide)
  have h2 : (Int32.ofInt x).toBitVec.toNat < 2 ^ 32 := BitVec.isLt _
  have xi : (Int32.ofInt x).toInt = if 2 * (Int32.ofInt x).toBitVec.toNat < 2 ^ 32 then ((Int32.ofInt x).toBitVec.toNat : Int) else ((Int32.ofInt x).toBitVec.toNat : Int) - ((2 ^ 32 : Nat) : Int) := by rw [← Int32.toInt_toBitVec, BitVec.toInt_eq_toNat_cond]
  have eb : od_and (od_ushr x 16) 255 = (((Int32.ofInt x).toBitVec.toNat / 2 ^ 16 % 256 : Nat) : Int) := by
    rw [od_and255]
    unfold od_bv od_ushr
    rw [Int32.ofInt_toInt, h]
  rw [eb, od_shr_16]
  generalize (Int32.ofInt x).toBitVec.toNat = X at *
  generalize (Int32.ofInt x).toInt = xi0 at *
  have ux : xi0 = (X : Int) ∨ xi0 = (X : Int) - 4294967296 := by
    split at xi
    · exact Or.inl xi
    · right; rw [xi]; omega
  have ur : -2147483648 ≤ xi0 ∧ xi0 < 2147483648 := by
    split at xi <;> omega
  have v1 := od_byte_v (y := xi0 / 65536) (by omega)
  have r1 : -128 ≤ od_byte (xi0 / 65536) ∧ od_byte (xi0 / 65536) ≤ 127 := by rw [v1]; split <;> omega
  have v2 := od_byte_v (y := od_byte (xi0 / 65536)) (by omega)
  have e2 : od_byte (od_byte (xi0 / 65536)) = od_byte (xi0 / 65536) := by rw [v2]; split <;> omega
  rw [e2]
  have bt := od_bv_toInt (x := od_byte (xi0 / 65536)) (by omega)
  have a255 := od_and255 (od_byte (xi0 / 65536))
  have bl : (od_bv (od_byte (xi0 / 65536))).toNat < 2 ^ 32 := BitVec.isLt _
  rw [BitVec.toInt_eq_toNat_cond] at bt
  have m : (((X / 2 ^ 16 % 256 : Nat)) : Int) = (xi0 / 65536) % 256 := by
    rcases ux with e | e <;> rw [e] <;> omega
  generalize od_byte (xi0 / 65536) = tt at *
  generalize (od_bv tt).toNat = T at *
  rw [m]
  generalize xi0 / 65536 = u at *
  unfold TB
  refine ⟨by omega, ?_, ?_⟩
  · split at v1 <;> omega
  · rw [a255]
    split at bt <;> split at v1 <;> omega
theorem od_shr_24 (x : Int) : od_shr x 24 = (Int32.ofInt x).toInt / 16777216 := by
  unfold od_shr
  rw [show (Int32.ofInt 24 &&& 31 : Int32) = 24 by decide, ← Int32.toInt_toBitVec, Int32.toBitVec_shiftRight]
  rw [show ((24 : Int32).toBitVec.smod (32 : BitVec 32)) = 24#32 by decide, BitVec.sshiftRight_eq', BitVec.toInt_sshiftRight, Int32.toInt_toBitVec, show (24#32).toNat = 24 by rfl, Int.shiftRight_eq_div_pow]
  rfl
theorem od_tb24 (x : Int) : TB (od_byte (od_byte (od_shr x 24))) (od_and (od_ushr x 24) 255) := by
  have h := pk_ushr (Int32.ofInt x) (Int32.ofInt 24) 24 (by decide)
  have h2 : (Int32.ofInt x).toBitVec.toNat < 2 ^ 32 := BitVec.isLt _
  have xi : (Int32.ofInt x).toInt = if 2 * (Int32.ofInt x).toBitVec.toNat < 2 ^ 32 then ((Int32.ofInt x).toBitVec.toNat : Int) else ((Int32.ofInt x).toBitVec.toNat : Int) - ((2 ^ 32 : Nat) : Int) := by rw [← Int32.toInt_toBitVec, BitVec.toInt_eq_toNat_cond]
  have eb : od_and (od_ushr x 24) 255 = (((Int32.ofInt x).toBitVec.toNat / 2 ^ 24 % 256 : Nat) : Int) := by
    rw [od_and255]
    unfold od_bv od_ushr
    rw [Int32.ofInt_toInt, h]
  rw [eb, od_shr_24]
  generalize (Int32.ofInt x).toBitVec.toNat = X at *
  generalize (Int32.ofInt x).toInt = xi0 at *
  have ux : xi0 = (X : Int) ∨ xi0 = (X : Int) - 4294967296 := by
    split at xi
    · exact Or.inl xi
    · right; rw [xi]; omega
  have ur : -2147483648 ≤ xi0 ∧ xi0 < 2147483648 := by
    split at xi <;> omega
  have v1 := od_byte_v (y := xi0 / 16777216) (by omega)
  have r1 : -128 ≤ od_byte (xi0 / 16777216) ∧ od_byte (xi0 / 16777216) ≤ 127 := by rw [v1]; split <;> omega
  have v2 := od_byte_v (y := od_byte (xi0 / 16777216)) (by omega)
  have e2 : od_byte (od_byte (xi0 / 16777216)) = od_byte (xi0 / 16777216) := by rw [v2]; split <;> omega
  rw [e2]
  have bt := od_bv_toInt (x := od_byte (xi0 / 16777216)) (by omega)
  have a255 := od_and255 (od_byte (xi0 / 16777216))
  have bl : (od_bv (od_byte (xi0 / 16777216))).toNat < 2 ^ 32 := BitVec.isLt _
  rw [BitVec.toInt_eq_toNat_cond] at bt
  have m : (((X / 2 ^ 24 % 256 : Nat)) : Int) = (xi0 / 16777216) % 256 := by
    rcases ux with e | e <;> rw [e] <;> omega
  generalize od_byte (xi0 / 16777216) = tt at *
  generalize (od_bv tt).toNat = T at *
  rw [m]
  generalize xi0 / 16777216 = u at *
  unfold TB
  refine ⟨by omega, ?_, ?_⟩
  · split at v1 <;> omega
  · rw [a255]
    split at bt <;> split at v1 <;> omega
section Hands2
variable {E : od_E} {o M : Int} {g gm g' gm' : od_G}

theorem p_pin (hE : EW E o M) (hR : Rel2 E o M g g) (d n : Int) : od_Pr E o M g 0 8 mX10_pin [(2, o), (0, d), (0, n)] 49 mX11_pin [(2, M), (0, d), (0, n)] := by
  obtain ⟨pl, C, cn, sn, hL, hW, hT⟩ := hR.law hE
  have oM := hE.2.2
  have hH := hR.st.mv.1
  have h6 := hR.pa.2.1
  exact pr_h (B := fun g1 => mPinK g1 M pl C d n) hE hR hL (c_X10_pin hE.1 hW (fun q => by have := hT q; omega) hR.st.CI hR.pa.1 (by omega) (by omega) d n) (fun g1 r1 l1 => ⟨mPinK_f (r1.orI l1), fun v g' hc => ch_pin r1.st r1.pa l1 hT (by omega) hc, _, c_X11_pin hE.2.1 r1.st.MI l1.F r1.pa.2.1.2 d n, fun w g2 q => q⟩)
theorem p_shift (hE : EW E o M) (hR : Rel2 E o M g g) (d n : Int) : od_Pr E o M g 0 8 mX10_shift [(2, o), (0, d), (0, n)] 4 mX11_shift [(2, M), (0, d), (0, n)] := by
  obtain ⟨pl, C, cn, sn, hL, hW, hT⟩ := hR.law hE
  have oM := hE.2.2
  have hH := hR.st.mv.1
  have h6 := hR.pa.2.1
  exact pr_h (B := fun g1 => mShK g1 M d n) hE hR hL (c_X10_shift hE.1 hW (fun q => by have := hT q; omega) hR.st.CI hR.pa.1 (by omega) (by omega) d n) (fun g1 r1 l1 => ⟨mShK_f (r1.orI l1), fun v g' hc => ch_shift r1.st r1.pa l1 hT (by omega) hc, _, c_X11_shift hE.2.1 r1.st.MI r1.st.MJ r1.pa.2.1.2 d n, fun w g2 q => ⟨q.1, by rw [q.2]; exact od_fr.rf⟩⟩)
theorem p_stop (hE : EW E o M) (hR : Rel2 E o M g g) (d : Int) : od_Pr E o M g 0 8 mX10_stop [(2, o), (0, d)] 4 mX11_stop [(2, M), (0, d)] := by
  obtain ⟨pl, C, cn, sn, hL, hW, hT⟩ := hR.law hE
  have oM := hE.2.2
  have hH := hR.st.mv.1
  have h6 := hR.pa.2.1
  exact pr_h (B := fun g1 => mStK g1 M d) hE hR hL (c_X10_stop hE.1 hW (fun q => by have := hT q; omega) hR.st.CI hR.pa.1 (by omega) (by omega) d) (fun g1 r1 l1 => ⟨mStK_f (r1.orI l1), fun v g' hc => ch_stop r1.st r1.pa l1 hT (by omega) hc, _, c_X11_stop hE.2.1 r1.st.MI r1.st.MJ r1.pa.2.1.2 d, fun w g2 q => ⟨q.1, by rw [q.2]; exact od_fr.rf⟩⟩)
theorem p_pass (hE : EW E o M) (hR : Rel2 E o M g g) : od_Pr E o M g 0 8 mX10_pass [(2, o)] 49 mX11_pass [(2, M)] := by
  obtain ⟨pl, C, cn, sn, hL, hW, hT⟩ := hR.law hE
  have oM := hE.2.2
  have hH := hR.st.mv.1
  have h6 := hR.pa.2.1
  exact pr_h (B := fun g1 => mPaK g1 M pl C) hE hR hL (c_X10_pass hE.1 hW (fun q => by have := hT q; omega) hR.st.CI hR.pa.1 (by omega) (by omega)) (fun g1 r1 l1 => ⟨mPaK_f (r1.orI l1), fun v g' hc => ch_pass r1.st r1.pa l1 hT (by omega) hc, _, c_X11_pass hE.2.1 r1.st.MI l1.F r1.st.mv.1.2 r1.pa.2.1.2, fun w g2 q => q⟩)
theorem cPut1_r (g : od_G) (t n s y : Int) : cPut1 g t n s (t + 1) y = if y = g t 1 then od_and (od_ushr n s) 255 else g (t + 1) y := by
  unfold cPut1
  rw [od_upn (by omega), od_up_at]
theorem cPut1_n {t n s x : Int} (h0 : x ≠ t) (h1 : x ≠ t + 1) : cPut1 g t n s x = g x := by
  unfold cPut1
  rw [od_up_ne h0, od_up_ne h1]
theorem cPut_x {t n x : Int} (h0 : x ≠ t) (h1 : x ≠ t + 1) : cPut g t n x = g x := by
  unfold cPut
  rw [cPut1_n h0 h1, cPut1_n h0 h1, cPut1_n h0 h1, cPut1_n h0 h1]
theorem cPut_r (g : od_G) (t n y : Int) : cPut g t n (t + 1) y = if y = g t 1 then od_and (od_ushr n 24) 255 else if y = g t 1 + 1 then od_and (od_ushr n 16) 255 else if y = g t 1 + 2 then od_and (od_ushr n 8) 255 else if y = g t 1 + 3 then od_and (od_ushr n 0) 255 else g (t + 1) y := by
  unfold cPut
  rw [cPut1_r, cPut1_r, cPut1_r, cPut1_r, cPut1_l, cPut1_l, cPut1_l]
  by_cases c0 : y = g t 1
  · rw [if_neg (by omega), if_neg (by omega), if_neg (by omega), if_pos c0, if_pos c0]
  · rw [if_neg c0, if_neg c0]
    by_cases c1 : y = g t 1 + 1
    · rw [if_neg (by omega), if_neg (by omega), if_pos c1, if_pos c1]
    · rw [if_neg c1, if_neg c1]
      by_cases c2 : y = g t 1 + 2
      · rw [if_neg (by omega), if_pos (by omega), if_pos c2]
      · rw [if_neg (show ¬ y = g t 1 + 1 + 1 by omega), if_neg c2]
        by_cases c3 : y = g t 1 + 3
        · rw [if_pos (by omega), if_pos c3]
        · rw [if_neg (by omega), if_neg c3]
/-- what four bytes the class puts, and the reference -/
theorem tb_put {t n j : Int} (hj : 0 ≤ j ∧ j < 4) : TB (od_byte (od_byte (od_shr n (24 - 8 * j)))) (cPut g t n (t + 1) (g t 1 + j)) := by
  rw [cPut_r]
  by_cases c0 : j = 0
  · rw [if_pos (by omega), c0]; exact od_tb24 n
  · rw [if_neg (by omega)]
    by_cases c1 : j = 1
    · rw [if_pos (by omega), c1]; exact od_tb16 n
    · rw [if_neg (by omega)]
      by_cases c2 : j = 2
      · rw [if_pos (by omega), c2]; exact od_tb8 n
      · rw [if_neg (by omega), if_pos (by omega), show j = 3 by omega]; exact od_tb0 n
theorem cPut_lo {t n y : Int} (hy : y < g t 1) : cPut g t n (t + 1) y = g (t + 1) y := by
  rw [cPut_r]
  repeat rw [if_neg (by omega)]
theorem cPut_lo2 {t n m y : Int} (hy : y < m) (hm : g t 1 = m) : cPut g t n (t + 1) y = g (t + 1) y := cPut_lo (by omega)
theorem tb_five {t a b c d e : Int} {j : Int} (hj : 0 ≤ j ∧ j < 20) : TB (mFb a b c d e j) (cPut (cPut (cPut (cPut (cPut g t a) t b) t c) t d) t e (t + 1) (g t 1 + j)) := by
  have n1 := cPut_n g t a
  have n2 := cPut_n (cPut g t a) t b
  have n3 := cPut_n (cPut (cPut g t a) t b) t c
  have n4 := cPut_n (cPut (cPut (cPut g t a) t b) t c) t d
  unfold mFb mFv
  by_cases c0 : j / 4 = 0
  · rw [if_pos c0, cPut_lo (by omega), cPut_lo (by omega), cPut_lo (by omega), cPut_lo (by omega), show j % 4 = j by omega]
    exact tb_put (by omega)
  · rw [if_neg c0]
    by_cases c1 : j / 4 = 1
    · rw [if_pos c1, cPut_lo (by omega), cPut_lo (by omega), cPut_lo (by omega), show g t 1 + j = cPut g t a t 1 + j % 4 by omega]
      exact tb_put (by omega)
    · rw [if_neg c1]
      by_cases c2 : j / 4 = 2
      · rw [if_pos c2, cPut_lo (by omega), cPut_lo (by omega), show g t 1 + j = cPut (cPut g t a) t b t 1 + j % 4 by omega]
        exact tb_put (by omega)
      · rw [if_neg c2]
        by_cases c3 : j / 4 = 3
        · rw [if_pos c3, cPut_lo (by omega), show g t 1 + j = cPut (cPut (cPut g t a) t b) t c t 1 + j % 4 by omega]
          exact tb_put (by omega)
        · rw [if_neg c3, show g t 1 + j = cPut (cPut (cPut (cPut g t a) t b) t c) t d t 1 + j % 4 by omega]
          exact tb_put (by omega)
theorem p_feed (hE : EW E o M) (hR : Rel2 E o M g g) (a b c d e : Int) : od_Pr E o M g 0 2 mX10_feed [(2, o), (0, a), (0, b), (0, c), (0, d), (0, e)] 1 mX11_feed [(2, M), (0, a), (0, b), (0, c), (0, d), (0, e)] := by
  have oM := hE.2.2
  have t0 := hR.tp.1.2.2.1
  refine pr_i hE hR (c_X10_feed hE.1 t0 a b c d e) (fun w g1 q => ?_)
  obtain ⟨ew, eg⟩ := q
  have eg' : g1 = (cFeedM g o a b c d e).2 := eg
  have ew' : w = some (0, (cFeedM g o a b c d e).1) := ew
  have cn : ∀ x : Int, x ≠ o + 60 → x ≠ o + 60 + 1 → g1 x = g x := fun x x0 x1 => by
    rw [eg']
    unfold cFeedM
    by_cases cc : g (o + 60) 1 + 20 ≤ 400
    · rw [od_ip_t cc]
      show cPut _ _ _ x = _
      rw [cPut_x x0 x1, cPut_x x0 x1, cPut_x x0 x1, cPut_x x0 x1, cPut_x x0 x1]
    · rw [od_ip_f cc]
  refine ⟨fun x x0 x1 => cn x (by omega) (by omega), fun r1 => ⟨_, ew', _, c_X11_feed hE.2.1 (by rw [r1.tp.2.2.1]; exact t0) a b c d e, fun w' g2 q' => ?_⟩⟩
  have e13 : g1 M 13 = g (o + 60) 1 := r1.tp.2.2.1
  unfold cFeedM at eg' ⊢
  rcases q' with ⟨c1, ew2, eg2⟩ | ⟨c1, ew2, f2, m13, mb⟩
  · have cc : ¬ (g (o + 60) 1 + 20 ≤ 400) := by omega
    rw [od_ip_f cc] at eg' ⊢
    have eg3 : g1 = g := eg'
    rw [eg2, eg3]
    exact ⟨ew2, fun x _ => rfl, hR⟩
  · have cc : g (o + 60) 1 + 20 ≤ 400 := by omega
    rw [od_ip_t cc] at eg' ⊢
    have eg3 : g1 = cPut (cPut (cPut (cPut (cPut g (o + 60) a) (o + 60) b) (o + 60) c) (o + 60) d) (o + 60) e := eg'
    have n1 := cPut_n g (o + 60) a
    have n2 := cPut_n (cPut g (o + 60) a) (o + 60) b
    have n3 := cPut_n (cPut (cPut g (o + 60) a) (o + 60) b) (o + 60) c
    have n4 := cPut_n (cPut (cPut (cPut g (o + 60) a) (o + 60) b) (o + 60) c) (o + 60) d
    have n5 := cPut_n (cPut (cPut (cPut (cPut g (o + 60) a) (o + 60) b) (o + 60) c) (o + 60) d) (o + 60) e
    have l1 : g1 (o + 60) 1 = g (o + 60) 1 + 20 := by rw [eg3]; omega
    have lo : ∀ y : Int, y < g (o + 60) 1 → g1 (o + 60 + 1) y = g (o + 60 + 1) y := fun y hy => by
      rw [eg3, cPut_lo (by omega), cPut_lo (by omega), cPut_lo (by omega), cPut_lo (by omega), cPut_lo (by omega)]
    have hi : ∀ j : Int, 0 ≤ j → j < 20 → TB (mFb a b c d e j) (g1 (o + 60 + 1) (g (o + 60) 1 + j)) := fun j j0 j1 => by
      rw [eg3]; exact tb_five ⟨j0, j1⟩
    refine ⟨?_, fun x hx => f2.row (fun y z => by unfold FQ at z; omega), ?_⟩
    · rw [ew2]
      show some (0, g1 M 13 + 20) = some (0, _)
      rw [← eg3, l1, e13]
    · refine r1.tape hE ?_ (fun x x0 x1 _ => cn x x0 (by omega)) (fun x y x0 x1 x2 => f2 x y (fun z => by unfold FQ at z; unfold RS at x2; omega))
      obtain ⟨⟨a1, a2, a3, a4⟩, ⟨b1, b2, b3, b4⟩⟩ := r1.tp
      have tb : ∀ j : Int, 0 ≤ j → j < g1 (o + 60) 1 → TB (g2 (M + 7) j) (g1 (o + 60 + 1) j) := fun j j0 j1 => by
        by_cases cj : j < g (o + 60) 1
        · rw [lo j cj, f2 (M + 7) j (fun z => by unfold FQ at z; omega)]
          exact b4 j j0 cj
        · have z := mb (j - g1 M 13) (by omega) (by omega)
          rw [show g1 M 13 + (j - g1 M 13) = j by omega] at z
          rw [z]
          have y := hi (j - g1 M 13) (by omega) (by omega)
          rw [show g (o + 60) 1 + (j - g1 M 13) = j by omega] at y
          exact y
      refine ⟨⟨rfl, rfl, by omega, fun p p0 p1 => ?_⟩, ⟨fun j j0 j1 => ?_, by rw [m13]; omega, by omega, tb⟩⟩
      · exact (tb p p0 p1).1
      · rw [f2 (M + 6) j (fun z => by unfold FQ at z; omega)]
        exact b1 j j0 j1
end Hands2
