/-! truth as a number -/
noncomputable def od_ite (P : Prop) (x y : Int) : Int := @ite Int P (Classical.propDecidable P) x y
theorem od_ite_t {P : Prop} {x y : Int} (h : P) : od_ite P x y = x := by unfold od_ite; exact if_pos h
theorem od_ite_f {P : Prop} {x y : Int} (h : ¬ P) : od_ite P x y = y := by unfold od_ite; exact if_neg h
noncomputable def od_b (P : Prop) : Int := od_ite P 1 0
theorem od_b_t {P : Prop} (h : P) : od_b P = 1 := od_ite_t h
theorem od_b_f {P : Prop} (h : ¬ P) : od_b P = 0 := od_ite_f h
theorem od_b_01 (P : Prop) : od_b P = 0 ∨ od_b P = 1 := (Classical.em P).elim (fun h => Or.inr (od_b_t h)) (fun h => Or.inl (od_b_f h))
theorem od_b_iff {P Q : Prop} (h : P ↔ Q) : od_b P = od_b Q := by rw [propext h]
theorem od_lt1 {P : Prop} {E : od_E} {g : od_G} (h : P) : ((some (0, od_b P), E, g) : od_Rs) = (some (0, 1), E, g) := by rw [od_b_t h]
theorem od_lt0 {P : Prop} {E : od_E} {g : od_G} (h : ¬ P) : ((some (0, od_b P), E, g) : od_Rs) = (some (0, 0), E, g) := by rw [od_b_f h]
theorem od_nz0 : narrow .boolean (.int (Int32.ofInt 0)) = .int (Int32.ofInt 0) := rfl
theorem od_nz1 : narrow .boolean (.int (Int32.ofInt 1)) = .int (Int32.ofInt 1) := rfl
/-- bit b of x -/
def od_bit (x b : Int) : Prop := od_and (od_shr x b) 1 ≠ 0
section Rows12
variable {d : Nat} {M : od_M} {Z : od_Zt} {E0 : od_E} {res : od_Q} {pc : Nat} {L : od_L} {st : List od_V} {E : od_E} {g : od_G}
theorem r_callV0b {P : Prop} {d' : Nat} {M' : od_M} {b : Int} {c : Nat} {i : Nat} {E' : od_E} {g' : od_G} (hd : decode M.2.2.1 pc = .ok (.invokevirtual i, 3)) (hw : od_CV M.1 i M' c 0) (hk : (E.2.1 b).1 = c) (hc : od_Ct d' M' [(2, b)] E g (some (0, od_b P), E', g')) (hdd : d' + 1 ≤ d) (hcat : od_cats st ≤ 8) (hle : od_le E' res.1) (kt : P → od_Rq d M Z E0 res (pc + 3) L ((0, 1) :: st) E' g') (kf : ¬ P → od_Rq d M Z E0 res (pc + 3) L ((0, 0) :: st) E' g') : od_Rq d M Z E0 res pc L ((2, b) :: st) E g := by
  refine r_callV hd hw hk hc rfl hdd rfl hcat hle ?_
  by_cases h : P
  · rw [od_b_t h]; exact kt h
  · rw [od_b_f h]; exact kf h
theorem r_callV1b {P : Prop} {d' : Nat} {M' : od_M} {x1 : od_V} {b : Int} {c : Nat} {i : Nat} {E' : od_E} {g' : od_G} (hd : decode M.2.2.1 pc = .ok (.invokevirtual i, 3)) (hw : od_CV M.1 i M' c 1) (hk : (E.2.1 b).1 = c) (hc : od_Ct d' M' [(2, b), x1] E g (some (0, od_b P), E', g')) (hdd : d' + 1 ≤ d) (hcat : od_cats st ≤ 8) (hle : od_le E' res.1) (kt : P → od_Rq d M Z E0 res (pc + 3) L ((0, 1) :: st) E' g') (kf : ¬ P → od_Rq d M Z E0 res (pc + 3) L ((0, 0) :: st) E' g') : od_Rq d M Z E0 res pc L (x1 :: (2, b) :: st) E g := by
  refine r_callV hd hw hk hc rfl hdd rfl hcat hle ?_
  by_cases h : P
  · rw [od_b_t h]; exact kt h
  · rw [od_b_f h]; exact kf h
theorem r_callV2b {P : Prop} {d' : Nat} {M' : od_M} {x1 x2 : od_V} {b : Int} {c : Nat} {i : Nat} {E' : od_E} {g' : od_G} (hd : decode M.2.2.1 pc = .ok (.invokevirtual i, 3)) (hw : od_CV M.1 i M' c 2) (hk : (E.2.1 b).1 = c) (hc : od_Ct d' M' [(2, b), x1, x2] E g (some (0, od_b P), E', g')) (hdd : d' + 1 ≤ d) (hcat : od_cats st ≤ 8) (hle : od_le E' res.1) (kt : P → od_Rq d M Z E0 res (pc + 3) L ((0, 1) :: st) E' g') (kf : ¬ P → od_Rq d M Z E0 res (pc + 3) L ((0, 0) :: st) E' g') : od_Rq d M Z E0 res pc L (x2 :: x1 :: (2, b) :: st) E g := by
  refine r_callV hd hw hk hc rfl hdd rfl hcat hle ?_
  by_cases h : P
  · rw [od_b_t h]; exact kt h
  · rw [od_b_f h]; exact kf h
theorem r_callV3b {P : Prop} {d' : Nat} {M' : od_M} {x1 x2 x3 : od_V} {b : Int} {c : Nat} {i : Nat} {E' : od_E} {g' : od_G} (hd : decode M.2.2.1 pc = .ok (.invokevirtual i, 3)) (hw : od_CV M.1 i M' c 3) (hk : (E.2.1 b).1 = c) (hc : od_Ct d' M' [(2, b), x1, x2, x3] E g (some (0, od_b P), E', g')) (hdd : d' + 1 ≤ d) (hcat : od_cats st ≤ 8) (hle : od_le E' res.1) (kt : P → od_Rq d M Z E0 res (pc + 3) L ((0, 1) :: st) E' g') (kf : ¬ P → od_Rq d M Z E0 res (pc + 3) L ((0, 0) :: st) E' g') : od_Rq d M Z E0 res pc L (x3 :: x2 :: x1 :: (2, b) :: st) E g := by
  refine r_callV hd hw hk hc rfl hdd rfl hcat hle ?_
  by_cases h : P
  · rw [od_b_t h]; exact kt h
  · rw [od_b_f h]; exact kf h
theorem r_callV4b {P : Prop} {d' : Nat} {M' : od_M} {x1 x2 x3 x4 : od_V} {b : Int} {c : Nat} {i : Nat} {E' : od_E} {g' : od_G} (hd : decode M.2.2.1 pc = .ok (.invokevirtual i, 3)) (hw : od_CV M.1 i M' c 4) (hk : (E.2.1 b).1 = c) (hc : od_Ct d' M' [(2, b), x1, x2, x3, x4] E g (some (0, od_b P), E', g')) (hdd : d' + 1 ≤ d) (hcat : od_cats st ≤ 8) (hle : od_le E' res.1) (kt : P → od_Rq d M Z E0 res (pc + 3) L ((0, 1) :: st) E' g') (kf : ¬ P → od_Rq d M Z E0 res (pc + 3) L ((0, 0) :: st) E' g') : od_Rq d M Z E0 res pc L (x4 :: x3 :: x2 :: x1 :: (2, b) :: st) E g := by
  refine r_callV hd hw hk hc rfl hdd rfl hcat hle ?_
  by_cases h : P
  · rw [od_b_t h]; exact kt h
  · rw [od_b_f h]; exact kf h
theorem r_callV5b {P : Prop} {d' : Nat} {M' : od_M} {x1 x2 x3 x4 x5 : od_V} {b : Int} {c : Nat} {i : Nat} {E' : od_E} {g' : od_G} (hd : decode M.2.2.1 pc = .ok (.invokevirtual i, 3)) (hw : od_CV M.1 i M' c 5) (hk : (E.2.1 b).1 = c) (hc : od_Ct d' M' [(2, b), x1, x2, x3, x4, x5] E g (some (0, od_b P), E', g')) (hdd : d' + 1 ≤ d) (hcat : od_cats st ≤ 8) (hle : od_le E' res.1) (kt : P → od_Rq d M Z E0 res (pc + 3) L ((0, 1) :: st) E' g') (kf : ¬ P → od_Rq d M Z E0 res (pc + 3) L ((0, 0) :: st) E' g') : od_Rq d M Z E0 res pc L (x5 :: x4 :: x3 :: x2 :: x1 :: (2, b) :: st) E g := by
  refine r_callV hd hw hk hc rfl hdd rfl hcat hle ?_
  by_cases h : P
  · rw [od_b_t h]; exact kt h
  · rw [od_b_f h]; exact kf h
theorem r_callV6b {P : Prop} {d' : Nat} {M' : od_M} {x1 x2 x3 x4 x5 x6 : od_V} {b : Int} {c : Nat} {i : Nat} {E' : od_E} {g' : od_G} (hd : decode M.2.2.1 pc = .ok (.invokevirtual i, 3)) (hw : od_CV M.1 i M' c 6) (hk : (E.2.1 b).1 = c) (hc : od_Ct d' M' [(2, b), x1, x2, x3, x4, x5, x6] E g (some (0, od_b P), E', g')) (hdd : d' + 1 ≤ d) (hcat : od_cats st ≤ 8) (hle : od_le E' res.1) (kt : P → od_Rq d M Z E0 res (pc + 3) L ((0, 1) :: st) E' g') (kf : ¬ P → od_Rq d M Z E0 res (pc + 3) L ((0, 0) :: st) E' g') : od_Rq d M Z E0 res pc L (x6 :: x5 :: x4 :: x3 :: x2 :: x1 :: (2, b) :: st) E g := by
  refine r_callV hd hw hk hc rfl hdd rfl hcat hle ?_
  by_cases h : P
  · rw [od_b_t h]; exact kt h
  · rw [od_b_f h]; exact kf h
theorem r_callS0b {P : Prop} {d' : Nat} {M' : od_M} {i : Nat} {E' : od_E} {g' : od_G} (hd : decode M.2.2.1 pc = .ok (.invokestatic i, 3)) (hw : od_CS M.1 i M' 0) (hc : od_Ct d' M' [] E g (some (0, od_b P), E', g')) (hdd : d' + 1 ≤ d) (hcat : od_cats st ≤ 8) (hle : od_le E' res.1) (kt : P → od_Rq d M Z E0 res (pc + 3) L ((0, 1) :: st) E' g') (kf : ¬ P → od_Rq d M Z E0 res (pc + 3) L ((0, 0) :: st) E' g') : od_Rq d M Z E0 res pc L (st) E g := by
  refine r_callS hd hw hc rfl hdd rfl hcat hle ?_
  by_cases h : P
  · rw [od_b_t h]; exact kt h
  · rw [od_b_f h]; exact kf h
theorem r_callS1b {P : Prop} {d' : Nat} {M' : od_M} {x1 : od_V} {i : Nat} {E' : od_E} {g' : od_G} (hd : decode M.2.2.1 pc = .ok (.invokestatic i, 3)) (hw : od_CS M.1 i M' 1) (hc : od_Ct d' M' [x1] E g (some (0, od_b P), E', g')) (hdd : d' + 1 ≤ d) (hcat : od_cats st ≤ 8) (hle : od_le E' res.1) (kt : P → od_Rq d M Z E0 res (pc + 3) L ((0, 1) :: st) E' g') (kf : ¬ P → od_Rq d M Z E0 res (pc + 3) L ((0, 0) :: st) E' g') : od_Rq d M Z E0 res pc L (x1 :: st) E g := by
  refine r_callS hd hw hc rfl hdd rfl hcat hle ?_
  by_cases h : P
  · rw [od_b_t h]; exact kt h
  · rw [od_b_f h]; exact kf h
theorem r_callS2b {P : Prop} {d' : Nat} {M' : od_M} {x1 x2 : od_V} {i : Nat} {E' : od_E} {g' : od_G} (hd : decode M.2.2.1 pc = .ok (.invokestatic i, 3)) (hw : od_CS M.1 i M' 2) (hc : od_Ct d' M' [x1, x2] E g (some (0, od_b P), E', g')) (hdd : d' + 1 ≤ d) (hcat : od_cats st ≤ 8) (hle : od_le E' res.1) (kt : P → od_Rq d M Z E0 res (pc + 3) L ((0, 1) :: st) E' g') (kf : ¬ P → od_Rq d M Z E0 res (pc + 3) L ((0, 0) :: st) E' g') : od_Rq d M Z E0 res pc L (x2 :: x1 :: st) E g := by
  refine r_callS hd hw hc rfl hdd rfl hcat hle ?_
  by_cases h : P
  · rw [od_b_t h]; exact kt h
  · rw [od_b_f h]; exact kf h
theorem r_callS3b {P : Prop} {d' : Nat} {M' : od_M} {x1 x2 x3 : od_V} {i : Nat} {E' : od_E} {g' : od_G} (hd : decode M.2.2.1 pc = .ok (.invokestatic i, 3)) (hw : od_CS M.1 i M' 3) (hc : od_Ct d' M' [x1, x2, x3] E g (some (0, od_b P), E', g')) (hdd : d' + 1 ≤ d) (hcat : od_cats st ≤ 8) (hle : od_le E' res.1) (kt : P → od_Rq d M Z E0 res (pc + 3) L ((0, 1) :: st) E' g') (kf : ¬ P → od_Rq d M Z E0 res (pc + 3) L ((0, 0) :: st) E' g') : od_Rq d M Z E0 res pc L (x3 :: x2 :: x1 :: st) E g := by
  refine r_callS hd hw hc rfl hdd rfl hcat hle ?_
  by_cases h : P
  · rw [od_b_t h]; exact kt h
  · rw [od_b_f h]; exact kf h
theorem r_callS4b {P : Prop} {d' : Nat} {M' : od_M} {x1 x2 x3 x4 : od_V} {i : Nat} {E' : od_E} {g' : od_G} (hd : decode M.2.2.1 pc = .ok (.invokestatic i, 3)) (hw : od_CS M.1 i M' 4) (hc : od_Ct d' M' [x1, x2, x3, x4] E g (some (0, od_b P), E', g')) (hdd : d' + 1 ≤ d) (hcat : od_cats st ≤ 8) (hle : od_le E' res.1) (kt : P → od_Rq d M Z E0 res (pc + 3) L ((0, 1) :: st) E' g') (kf : ¬ P → od_Rq d M Z E0 res (pc + 3) L ((0, 0) :: st) E' g') : od_Rq d M Z E0 res pc L (x4 :: x3 :: x2 :: x1 :: st) E g := by
  refine r_callS hd hw hc rfl hdd rfl hcat hle ?_
  by_cases h : P
  · rw [od_b_t h]; exact kt h
  · rw [od_b_f h]; exact kf h
theorem r_callS5b {P : Prop} {d' : Nat} {M' : od_M} {x1 x2 x3 x4 x5 : od_V} {i : Nat} {E' : od_E} {g' : od_G} (hd : decode M.2.2.1 pc = .ok (.invokestatic i, 3)) (hw : od_CS M.1 i M' 5) (hc : od_Ct d' M' [x1, x2, x3, x4, x5] E g (some (0, od_b P), E', g')) (hdd : d' + 1 ≤ d) (hcat : od_cats st ≤ 8) (hle : od_le E' res.1) (kt : P → od_Rq d M Z E0 res (pc + 3) L ((0, 1) :: st) E' g') (kf : ¬ P → od_Rq d M Z E0 res (pc + 3) L ((0, 0) :: st) E' g') : od_Rq d M Z E0 res pc L (x5 :: x4 :: x3 :: x2 :: x1 :: st) E g := by
  refine r_callS hd hw hc rfl hdd rfl hcat hle ?_
  by_cases h : P
  · rw [od_b_t h]; exact kt h
  · rw [od_b_f h]; exact kf h
theorem r_callS6b {P : Prop} {d' : Nat} {M' : od_M} {x1 x2 x3 x4 x5 x6 : od_V} {i : Nat} {E' : od_E} {g' : od_G} (hd : decode M.2.2.1 pc = .ok (.invokestatic i, 3)) (hw : od_CS M.1 i M' 6) (hc : od_Ct d' M' [x1, x2, x3, x4, x5, x6] E g (some (0, od_b P), E', g')) (hdd : d' + 1 ≤ d) (hcat : od_cats st ≤ 8) (hle : od_le E' res.1) (kt : P → od_Rq d M Z E0 res (pc + 3) L ((0, 1) :: st) E' g') (kf : ¬ P → od_Rq d M Z E0 res (pc + 3) L ((0, 0) :: st) E' g') : od_Rq d M Z E0 res pc L (x6 :: x5 :: x4 :: x3 :: x2 :: x1 :: st) E g := by
  refine r_callS hd hw hc rfl hdd rfl hcat hle ?_
  by_cases h : P
  · rw [od_b_t h]; exact kt h
  · rw [od_b_f h]; exact kf h
theorem r_callV0g {P : Prop} {d' : Nat} {M' : od_M} {b : Int} {c : Nat} {i : Nat} {X : Int → Int → Prop} (hd : decode M.2.2.1 pc = .ok (.invokevirtual i, 3)) (hw : od_CV M.1 i M' c 0) (hk : (E.2.1 b).1 = c) (hc : od_Cf d' M' [(2, b)] E g (some (0, od_b P)) X) (hdd : d' + 1 ≤ d) (hcat : od_cats st ≤ 8) (hle : od_le E res.1) (kt : P → ∀ g' : od_G, od_fr X g g' → od_Rq d M Z E0 res (pc + 3) L ((0, 1) :: st) E g') (kf : ¬ P → ∀ g' : od_G, od_fr X g g' → od_Rq d M Z E0 res (pc + 3) L ((0, 0) :: st) E g') : od_Rq d M Z E0 res pc L ((2, b) :: st) E g := by
  refine r_callVq hd hw hk hc rfl hdd rfl hcat hle (fun r1 g1 h => ?_)
  obtain ⟨rfl, h2⟩ := h
  by_cases h : P
  · rw [od_b_t h]; exact kt h g1 h2
  · rw [od_b_f h]; exact kf h g1 h2
theorem r_callV1g {P : Prop} {d' : Nat} {M' : od_M} {x1 : od_V} {b : Int} {c : Nat} {i : Nat} {X : Int → Int → Prop} (hd : decode M.2.2.1 pc = .ok (.invokevirtual i, 3)) (hw : od_CV M.1 i M' c 1) (hk : (E.2.1 b).1 = c) (hc : od_Cf d' M' [(2, b), x1] E g (some (0, od_b P)) X) (hdd : d' + 1 ≤ d) (hcat : od_cats st ≤ 8) (hle : od_le E res.1) (kt : P → ∀ g' : od_G, od_fr X g g' → od_Rq d M Z E0 res (pc + 3) L ((0, 1) :: st) E g') (kf : ¬ P → ∀ g' : od_G, od_fr X g g' → od_Rq d M Z E0 res (pc + 3) L ((0, 0) :: st) E g') : od_Rq d M Z E0 res pc L (x1 :: (2, b) :: st) E g := by
  refine r_callVq hd hw hk hc rfl hdd rfl hcat hle (fun r1 g1 h => ?_)
  obtain ⟨rfl, h2⟩ := h
  by_cases h : P
  · rw [od_b_t h]; exact kt h g1 h2
  · rw [od_b_f h]; exact kf h g1 h2
theorem r_callV2g {P : Prop} {d' : Nat} {M' : od_M} {x1 x2 : od_V} {b : Int} {c : Nat} {i : Nat} {X : Int → Int → Prop} (hd : decode M.2.2.1 pc = .ok (.invokevirtual i, 3)) (hw : od_CV M.1 i M' c 2) (hk : (E.2.1 b).1 = c) (hc : od_Cf d' M' [(2, b), x1, x2] E g (some (0, od_b P)) X) (hdd : d' + 1 ≤ d) (hcat : od_cats st ≤ 8) (hle : od_le E res.1) (kt : P → ∀ g' : od_G, od_fr X g g' → od_Rq d M Z E0 res (pc + 3) L ((0, 1) :: st) E g') (kf : ¬ P → ∀ g' : od_G, od_fr X g g' → od_Rq d M Z E0 res (pc + 3) L ((0, 0) :: st) E g') : od_Rq d M Z E0 res pc L (x2 :: x1 :: (2, b) :: st) E g := by
  refine r_callVq hd hw hk hc rfl hdd rfl hcat hle (fun r1 g1 h => ?_)
  obtain ⟨rfl, h2⟩ := h
  by_cases h : P
  · rw [od_b_t h]; exact kt h g1 h2
  · rw [od_b_f h]; exact kf h g1 h2
theorem r_callV3g {P : Prop} {d' : Nat} {M' : od_M} {x1 x2 x3 : od_V} {b : Int} {c : Nat} {i : Nat} {X : Int → Int → Prop} (hd : decode M.2.2.1 pc = .ok (.invokevirtual i, 3)) (hw : od_CV M.1 i M' c 3) (hk : (E.2.1 b).1 = c) (hc : od_Cf d' M' [(2, b), x1, x2, x3] E g (some (0, od_b P)) X) (hdd : d' + 1 ≤ d) (hcat : od_cats st ≤ 8) (hle : od_le E res.1) (kt : P → ∀ g' : od_G, od_fr X g g' → od_Rq d M Z E0 res (pc + 3) L ((0, 1) :: st) E g') (kf : ¬ P → ∀ g' : od_G, od_fr X g g' → od_Rq d M Z E0 res (pc + 3) L ((0, 0) :: st) E g') : od_Rq d M Z E0 res pc L (x3 :: x2 :: x1 :: (2, b) :: st) E g := by
  refine r_callVq hd hw hk hc rfl hdd rfl hcat hle (fun r1 g1 h => ?_)
  obtain ⟨rfl, h2⟩ := h
  by_cases h : P
  · rw [od_b_t h]; exact kt h g1 h2
  · rw [od_b_f h]; exact kf h g1 h2
theorem r_callV4g {P : Prop} {d' : Nat} {M' : od_M} {x1 x2 x3 x4 : od_V} {b : Int} {c : Nat} {i : Nat} {X : Int → Int → Prop} (hd : decode M.2.2.1 pc = .ok (.invokevirtual i, 3)) (hw : od_CV M.1 i M' c 4) (hk : (E.2.1 b).1 = c) (hc : od_Cf d' M' [(2, b), x1, x2, x3, x4] E g (some (0, od_b P)) X) (hdd : d' + 1 ≤ d) (hcat : od_cats st ≤ 8) (hle : od_le E res.1) (kt : P → ∀ g' : od_G, od_fr X g g' → od_Rq d M Z E0 res (pc + 3) L ((0, 1) :: st) E g') (kf : ¬ P → ∀ g' : od_G, od_fr X g g' → od_Rq d M Z E0 res (pc + 3) L ((0, 0) :: st) E g') : od_Rq d M Z E0 res pc L (x4 :: x3 :: x2 :: x1 :: (2, b) :: st) E g := by
  refine r_callVq hd hw hk hc rfl hdd rfl hcat hle (fun r1 g1 h => ?_)
  obtain ⟨rfl, h2⟩ := h
  by_cases h : P
  · rw [od_b_t h]; exact kt h g1 h2
  · rw [od_b_f h]; exact kf h g1 h2
theorem r_callV5g {P : Prop} {d' : Nat} {M' : od_M} {x1 x2 x3 x4 x5 : od_V} {b : Int} {c : Nat} {i : Nat} {X : Int → Int → Prop} (hd : decode M.2.2.1 pc = .ok (.invokevirtual i, 3)) (hw : od_CV M.1 i M' c 5) (hk : (E.2.1 b).1 = c) (hc : od_Cf d' M' [(2, b), x1, x2, x3, x4, x5] E g (some (0, od_b P)) X) (hdd : d' + 1 ≤ d) (hcat : od_cats st ≤ 8) (hle : od_le E res.1) (kt : P → ∀ g' : od_G, od_fr X g g' → od_Rq d M Z E0 res (pc + 3) L ((0, 1) :: st) E g') (kf : ¬ P → ∀ g' : od_G, od_fr X g g' → od_Rq d M Z E0 res (pc + 3) L ((0, 0) :: st) E g') : od_Rq d M Z E0 res pc L (x5 :: x4 :: x3 :: x2 :: x1 :: (2, b) :: st) E g := by
  refine r_callVq hd hw hk hc rfl hdd rfl hcat hle (fun r1 g1 h => ?_)
  obtain ⟨rfl, h2⟩ := h
  by_cases h : P
  · rw [od_b_t h]; exact kt h g1 h2
  · rw [od_b_f h]; exact kf h g1 h2
theorem r_callV6g {P : Prop} {d' : Nat} {M' : od_M} {x1 x2 x3 x4 x5 x6 : od_V} {b : Int} {c : Nat} {i : Nat} {X : Int → Int → Prop} (hd : decode M.2.2.1 pc = .ok (.invokevirtual i, 3)) (hw : od_CV M.1 i M' c 6) (hk : (E.2.1 b).1 = c) (hc : od_Cf d' M' [(2, b), x1, x2, x3, x4, x5, x6] E g (some (0, od_b P)) X) (hdd : d' + 1 ≤ d) (hcat : od_cats st ≤ 8) (hle : od_le E res.1) (kt : P → ∀ g' : od_G, od_fr X g g' → od_Rq d M Z E0 res (pc + 3) L ((0, 1) :: st) E g') (kf : ¬ P → ∀ g' : od_G, od_fr X g g' → od_Rq d M Z E0 res (pc + 3) L ((0, 0) :: st) E g') : od_Rq d M Z E0 res pc L (x6 :: x5 :: x4 :: x3 :: x2 :: x1 :: (2, b) :: st) E g := by
  refine r_callVq hd hw hk hc rfl hdd rfl hcat hle (fun r1 g1 h => ?_)
  obtain ⟨rfl, h2⟩ := h
  by_cases h : P
  · rw [od_b_t h]; exact kt h g1 h2
  · rw [od_b_f h]; exact kf h g1 h2
theorem r_callS0g {P : Prop} {d' : Nat} {M' : od_M} {i : Nat} {X : Int → Int → Prop} (hd : decode M.2.2.1 pc = .ok (.invokestatic i, 3)) (hw : od_CS M.1 i M' 0) (hc : od_Cf d' M' [] E g (some (0, od_b P)) X) (hdd : d' + 1 ≤ d) (hcat : od_cats st ≤ 8) (hle : od_le E res.1) (kt : P → ∀ g' : od_G, od_fr X g g' → od_Rq d M Z E0 res (pc + 3) L ((0, 1) :: st) E g') (kf : ¬ P → ∀ g' : od_G, od_fr X g g' → od_Rq d M Z E0 res (pc + 3) L ((0, 0) :: st) E g') : od_Rq d M Z E0 res pc L (st) E g := by
  refine r_callSq hd hw hc rfl hdd rfl hcat hle (fun r1 g1 h => ?_)
  obtain ⟨rfl, h2⟩ := h
  by_cases h : P
  · rw [od_b_t h]; exact kt h g1 h2
  · rw [od_b_f h]; exact kf h g1 h2
theorem r_callS1g {P : Prop} {d' : Nat} {M' : od_M} {x1 : od_V} {i : Nat} {X : Int → Int → Prop} (hd : decode M.2.2.1 pc = .ok (.invokestatic i, 3)) (hw : od_CS M.1 i M' 1) (hc : od_Cf d' M' [x1] E g (some (0, od_b P)) X) (hdd : d' + 1 ≤ d) (hcat : od_cats st ≤ 8) (hle : od_le E res.1) (kt : P → ∀ g' : od_G, od_fr X g g' → od_Rq d M Z E0 res (pc + 3) L ((0, 1) :: st) E g') (kf : ¬ P → ∀ g' : od_G, od_fr X g g' → od_Rq d M Z E0 res (pc + 3) L ((0, 0) :: st) E g') : od_Rq d M Z E0 res pc L (x1 :: st) E g := by
  refine r_callSq hd hw hc rfl hdd rfl hcat hle (fun r1 g1 h => ?_)
  obtain ⟨rfl, h2⟩ := h
  by_cases h : P
  · rw [od_b_t h]; exact kt h g1 h2
  · rw [od_b_f h]; exact kf h g1 h2
theorem r_callS2g {P : Prop} {d' : Nat} {M' : od_M} {x1 x2 : od_V} {i : Nat} {X : Int → Int → Prop} (hd : decode M.2.2.1 pc = .ok (.invokestatic i, 3)) (hw : od_CS M.1 i M' 2) (hc : od_Cf d' M' [x1, x2] E g (some (0, od_b P)) X) (hdd : d' + 1 ≤ d) (hcat : od_cats st ≤ 8) (hle : od_le E res.1) (kt : P → ∀ g' : od_G, od_fr X g g' → od_Rq d M Z E0 res (pc + 3) L ((0, 1) :: st) E g') (kf : ¬ P → ∀ g' : od_G, od_fr X g g' → od_Rq d M Z E0 res (pc + 3) L ((0, 0) :: st) E g') : od_Rq d M Z E0 res pc L (x2 :: x1 :: st) E g := by
  refine r_callSq hd hw hc rfl hdd rfl hcat hle (fun r1 g1 h => ?_)
  obtain ⟨rfl, h2⟩ := h
  by_cases h : P
  · rw [od_b_t h]; exact kt h g1 h2
  · rw [od_b_f h]; exact kf h g1 h2
theorem r_callS3g {P : Prop} {d' : Nat} {M' : od_M} {x1 x2 x3 : od_V} {i : Nat} {X : Int → Int → Prop} (hd : decode M.2.2.1 pc = .ok (.invokestatic i, 3)) (hw : od_CS M.1 i M' 3) (hc : od_Cf d' M' [x1, x2, x3] E g (some (0, od_b P)) X) (hdd : d' + 1 ≤ d) (hcat : od_cats st ≤ 8) (hle : od_le E res.1) (kt : P → ∀ g' : od_G, od_fr X g g' → od_Rq d M Z E0 res (pc + 3) L ((0, 1) :: st) E g') (kf : ¬ P → ∀ g' : od_G, od_fr X g g' → od_Rq d M Z E0 res (pc + 3) L ((0, 0) :: st) E g') : od_Rq d M Z E0 res pc L (x3 :: x2 :: x1 :: st) E g := by
  refine r_callSq hd hw hc rfl hdd rfl hcat hle (fun r1 g1 h => ?_)
  obtain ⟨rfl, h2⟩ := h
  by_cases h : P
  · rw [od_b_t h]; exact kt h g1 h2
  · rw [od_b_f h]; exact kf h g1 h2
theorem r_callS4g {P : Prop} {d' : Nat} {M' : od_M} {x1 x2 x3 x4 : od_V} {i : Nat} {X : Int → Int → Prop} (hd : decode M.2.2.1 pc = .ok (.invokestatic i, 3)) (hw : od_CS M.1 i M' 4) (hc : od_Cf d' M' [x1, x2, x3, x4] E g (some (0, od_b P)) X) (hdd : d' + 1 ≤ d) (hcat : od_cats st ≤ 8) (hle : od_le E res.1) (kt : P → ∀ g' : od_G, od_fr X g g' → od_Rq d M Z E0 res (pc + 3) L ((0, 1) :: st) E g') (kf : ¬ P → ∀ g' : od_G, od_fr X g g' → od_Rq d M Z E0 res (pc + 3) L ((0, 0) :: st) E g') : od_Rq d M Z E0 res pc L (x4 :: x3 :: x2 :: x1 :: st) E g := by
  refine r_callSq hd hw hc rfl hdd rfl hcat hle (fun r1 g1 h => ?_)
  obtain ⟨rfl, h2⟩ := h
  by_cases h : P
  · rw [od_b_t h]; exact kt h g1 h2
  · rw [od_b_f h]; exact kf h g1 h2
theorem r_callS5g {P : Prop} {d' : Nat} {M' : od_M} {x1 x2 x3 x4 x5 : od_V} {i : Nat} {X : Int → Int → Prop} (hd : decode M.2.2.1 pc = .ok (.invokestatic i, 3)) (hw : od_CS M.1 i M' 5) (hc : od_Cf d' M' [x1, x2, x3, x4, x5] E g (some (0, od_b P)) X) (hdd : d' + 1 ≤ d) (hcat : od_cats st ≤ 8) (hle : od_le E res.1) (kt : P → ∀ g' : od_G, od_fr X g g' → od_Rq d M Z E0 res (pc + 3) L ((0, 1) :: st) E g') (kf : ¬ P → ∀ g' : od_G, od_fr X g g' → od_Rq d M Z E0 res (pc + 3) L ((0, 0) :: st) E g') : od_Rq d M Z E0 res pc L (x5 :: x4 :: x3 :: x2 :: x1 :: st) E g := by
  refine r_callSq hd hw hc rfl hdd rfl hcat hle (fun r1 g1 h => ?_)
  obtain ⟨rfl, h2⟩ := h
  by_cases h : P
  · rw [od_b_t h]; exact kt h g1 h2
  · rw [od_b_f h]; exact kf h g1 h2
theorem r_callS6g {P : Prop} {d' : Nat} {M' : od_M} {x1 x2 x3 x4 x5 x6 : od_V} {i : Nat} {X : Int → Int → Prop} (hd : decode M.2.2.1 pc = .ok (.invokestatic i, 3)) (hw : od_CS M.1 i M' 6) (hc : od_Cf d' M' [x1, x2, x3, x4, x5, x6] E g (some (0, od_b P)) X) (hdd : d' + 1 ≤ d) (hcat : od_cats st ≤ 8) (hle : od_le E res.1) (kt : P → ∀ g' : od_G, od_fr X g g' → od_Rq d M Z E0 res (pc + 3) L ((0, 1) :: st) E g') (kf : ¬ P → ∀ g' : od_G, od_fr X g g' → od_Rq d M Z E0 res (pc + 3) L ((0, 0) :: st) E g') : od_Rq d M Z E0 res pc L (x6 :: x5 :: x4 :: x3 :: x2 :: x1 :: st) E g := by
  refine r_callSq hd hw hc rfl hdd rfl hcat hle (fun r1 g1 h => ?_)
  obtain ⟨rfl, h2⟩ := h
  by_cases h : P
  · rw [od_b_t h]; exact kt h g1 h2
  · rw [od_b_f h]; exact kf h g1 h2
end Rows12
theorem pnX0 : plainName RX0 = true := by decide +kernel
theorem pnX1 : plainName RX1 = true := by decide +kernel
theorem pnX2 : plainName RX2 = true := by decide +kernel
theorem pnX3 : plainName RX3 = true := by decide +kernel
theorem pnX4 : plainName RX4 = true := by decide +kernel
theorem pnX5 : plainName RX5 = true := by decide +kernel
theorem pnX6 : plainName RX6 = true := by decide +kernel
theorem pnX7 : plainName RX7 = true := by decide +kernel
theorem pnX8 : plainName RX8 = true := by decide +kernel
theorem pnX9 : plainName RX9 = true := by decide +kernel
theorem pnX10 : plainName RX10 = true := by decide +kernel
theorem pnX11 : plainName RX11 = true := by decide +kernel
theorem pnJ6 : plainName RJ6 = true := by decide +kernel
theorem pnJ0 : plainName RJ0 = true := by decide +kernel
theorem pnJ1 : plainName RJ1 = true := by decide +kernel
theorem pnJ2 : plainName RJ2 = true := by decide +kernel
theorem pnJ3 : plainName RJ3 = true := by decide +kernel
