/-! answers are alike: quiet -/
theorem od_fst_p {P : Int → Prop} : ∀ (f : Nat) (i : Int), 0 ≤ i → (od_fst P f i = -1 ∧ ∀ j : Int, i ≤ j → j < i + f → ¬ P j) ∨ (i ≤ od_fst P f i ∧ od_fst P f i < i + f ∧ P (od_fst P f i)) := by
  intro f
  induction f with
  | zero => intro i i0; exact Or.inl ⟨rfl, fun j j0 j1 => by omega⟩
  | succ f ih =>
    intro i i0
    have e : od_fst P (f + 1) i = od_ite (P i) i (od_fst P f (i + 1)) := rfl
    rw [e]
    by_cases c : P i
    · rw [od_ite_t c]
      exact Or.inr ⟨Int.le_refl _, by omega, c⟩
    · rw [od_ite_f c]
      rcases ih (i + 1) (by omega) with ⟨z1, z2⟩ | ⟨z1, z2, z3⟩
      · refine Or.inl ⟨z1, fun j j0 j1 => ?_⟩
        by_cases cj : j = i
        · rw [cj]; exact c
        · exact z2 j (by omega) (by omega)
      · exact Or.inr ⟨by omega, by omega, z3⟩
section Answers7
variable {g gm : od_G} {k M : Int}
theorem e_quiet (h : StR g k (gm (M + 2))) (w : Int) : cQuietM g k w = od_ite (mLies w 0 1) (mQu gm M w) (-1) := by
  unfold cQuietM
  refine od_ite_c Iff.rfl (fun hw => ?_) rfl
  rw [h.round]
  have r := h.rr
  have zq : ∀ x : Int, 0 ≤ x → x ≤ 100000 → (cBt (cC g k (-1) 0 0) x = 0 ↔ mStN gm M x = 0) := fun x x0 x1 => by rw [h.bt ⟨x0, x1⟩]
  have hz : ∀ a i : Int, 0 ≤ a → 0 ≤ i → a + i ≤ 100000 → (mQz gm M a i ↔ cBt (cC g k (-1) 0 0) (a + i) = 0) := fun a i a0 i0 ai => by
    rw [zq _ (by omega) ai, h.stR ⟨by omega, ai⟩]
    unfold mQz
    rw [Int.tmod_eq_emod_of_nonneg (by omega)]
  generalize hZ : (fun x => cBt (cC g k (-1) 0 0) x = 0) = Z
  have zz : ∀ a i : Int, 0 ≤ a → 0 ≤ i → a + i ≤ 100000 → (mQz gm M a i ↔ Z (a + i)) := by rw [← hZ]; exact hz
  have zp : ∀ x : Int, 0 ≤ x → x < mRd gm M → (Z (x + mRd gm M) ↔ Z x) := fun x x0 x1 => by
    rw [← hZ]
    show cBt (cC g k (-1) 0 0) (x + mRd gm M) = 0 ↔ cBt (cC g k (-1) 0 0) x = 0
    rw [zq _ (by omega) (by omega), zq _ (by omega) (by omega), h.stR ⟨by omega, by omega⟩, Int.add_emod_right, Int.emod_eq_of_lt x0 x1]
  clear hZ hz zq
  have rn : ((mRd gm M).toNat : Int) = mRd gm M := by omega
  have qb : ∀ a : Int, 0 ≤ mQf gm M a ∧ mQf gm M a ≤ mRd gm M := fun a => by
    have z := od_run_b (mQz gm M a) (mRd gm M).toNat 0
    unfold mQf
    omega
  have qq : ∀ a v : Int, 0 ≤ a → a < mRd gm M → 0 ≤ v → v ≤ mRd gm M → (v ≤ mQf gm M a ↔ ∀ i : Int, 0 ≤ i → i < v → Z (a + i)) := fun a v a0 a1 v0 v1 => by
    have z := od_run_p (P := mQz gm M a) (mRd gm M).toNat 0
    constructor
    · intro hv i i0 i1
      exact (zz a i a0 i0 (by omega)).mp (z.1 i i0 (by unfold mQf at hv; omega))
    · intro hv
      have y := z.2 v v0 (by omega) (fun j j0 j1 => (zz a j a0 j0 (by omega)).mpr (hv j j0 (by omega)))
      unfold mQf
      omega
  unfold cQuiet mQu
  rcases od_fst_p (P := fun x => ¬ Z x) (mRd gm M).toNat 0 (by omega) with ⟨e, ne⟩ | ⟨s0, s1, sZ⟩
  · rw [if_pos e]
    have q0 : mQf gm M 0 = mRd gm M := by
      have y := (qq 0 (mRd gm M) (by omega) (by omega) (by omega) (by omega)).mpr (fun i i0 i1 => by
        have n := ne i i0 (by omega)
        rw [Int.zero_add]
        exact Classical.byContradiction n)
      have x := qb 0
      omega
    obtain ⟨n, en⟩ : ∃ n : Nat, (mRd gm M).toNat = n + 1 := ⟨(mRd gm M).toNat - 1, by omega⟩
    have eq : od_qu (mQf gm M) (mRd gm M) (mRd gm M).toNat 0 (-1) 0 = (mRd gm M, 0) := by
      rw [en]
      have e1 : od_qu (mQf gm M) (mRd gm M) (n + 1) 0 (-1) 0 = if (0 : Int) < mRd gm M then (if (0 : Int) < mQf gm M 0 then od_qu (mQf gm M) (mRd gm M) n (mQf gm M 0) 0 (0 + (mQf gm M 0 + 1)) else od_qu (mQf gm M) (mRd gm M) n 0 (-1) (0 + (mQf gm M 0 + 1))) else (0, -1) := rfl
      rw [e1, q0, if_pos (by omega), if_pos (by omega), od_qu_x n (by omega)]
    rw [eq]
  · rw [if_neg (by omega)]
    generalize od_fst (fun x => ¬ Z x) (mRd gm M).toNat 0 = s at s0 s1 sZ
    have lt : ∀ a : Int, 0 ≤ a → a < mRd gm M → mQf gm M a < mRd gm M := fun a a0 a1 => Classical.byContradiction fun n => by
      have z := (qq a (mRd gm M) a0 a1 (by omega) (by omega)).mp (by omega)
      by_cases c : a ≤ s
      · have y := z (s - a) (by omega) (by omega)
        rw [show a + (s - a) = s by omega] at y
        exact sZ y
      · have y := z (s + mRd gm M - a) (by omega) (by omega)
        rw [show a + (s + mRd gm M - a) = s + mRd gm M by omega] at y
        exact sZ ((zp s s0 (by omega)).mp y)
    have hb := od_qu_v (q := mQf gm M) (R := mRd gm M) (fun a a0 a1 => (qb a).1) (fun a i a0 a1 i0 i1 ai => Classical.byContradiction fun n => by
      -- a run that begins within the run at a and is no shorter would make the run at a longer
      have l1 := (qq a (mQf gm M a) a0 a1 (qb a).1 (qb a).2).mp (Int.le_refl _)
      have l2 := (qq (a + i) (mQf gm M a) (by omega) ai (qb a).1 (qb a).2).mp (by omega)
      have lq := lt a a0 a1
      have y := (qq a (mQf gm M a + 1) a0 a1 (by omega) (by omega)).mpr (fun j j0 j1 => by
        by_cases c : j < mQf gm M a
        · exact l1 j j0 c
        · have x := l2 (j - i) (by omega) (by omega)
          rw [show a + i + (j - i) = a + j by omega] at x
          exact x)
      omega) (mRd gm M).toNat 0 (-1) 0 (by omega) (by omega) ⟨fun x x0 x1 => by omega, Or.inl ⟨rfl, rfl⟩⟩
    have z := quiet_eq (Z := Z) (R := mRd gm M) (s := s) (q := mQf gm M) (by omega) zp ⟨s0, by omega, sZ⟩ (fun a a0 a1 => ⟨(qb a).1, lt a a0 a1⟩) (fun a v a0 a1 v0 v1 => qq a v a0 a1 v0 (by omega)) hb
    rw [z.1, z.2]
end Answers7
