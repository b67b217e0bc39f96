/-! the reference: which sets strike together -/
def mSup (d x s : Int) : Prop := ∀ k : Int, 0 ≤ k → k < 6 → (od_bit s k → od_bit x k) ∧ (d ≤ k → od_bit x k → od_bit s k)
def mClo (g : od_G) (M d s : Int) : Prop := ∃ j : Int, 0 ≤ j ∧ j < mRd g M ∧ mSup d (mStN g M j) s
theorem od_or64 : ∀ s : Fin 64, ∀ d : Fin 6, (s.val : Int) ≤ od_or (s.val : Int) (od_shl 1 (d.val : Int)) ∧ od_or (s.val : Int) (od_shl 1 (d.val : Int)) < 64 := by decide +kernel
theorem od_or_b {s d : Int} (hs : 0 ≤ s ∧ s < 64) (hd : 0 ≤ d ∧ d < 6) : s ≤ od_or s (od_shl 1 d) ∧ od_or s (od_shl 1 d) < 64 := by
  have z := od_or64 ⟨s.toNat, by omega⟩ ⟨d.toNat, by omega⟩
  simp only [show ((s.toNat : Nat) : Int) = s by omega, show ((d.toNat : Nat) : Int) = d by omega] at z
  exact z
theorem mClo_s {g : od_G} {M d s : Int} (hd : 0 ≤ d ∧ d < 6) : mClo g M (d + 1) s ↔ (mClo g M d s ∨ mClo g M d (od_or s (od_shl 1 d))) := by
  have hu : ∀ k : Int, 0 ≤ k → k < 6 → (od_bit (od_or s (od_shl 1 d)) k ↔ (od_bit s k ∨ k = d)) := fun k k0 k1 => by
    rw [od_bit_or (by omega), od_bit_s (by omega) (by omega)]
  constructor
  · rintro ⟨j, j0, j1, h⟩
    by_cases c : od_bit (mStN g M j) d → od_bit s d
    · refine Or.inl ⟨j, j0, j1, fun k k0 k1 => ⟨(h k k0 k1).1, fun dk z => ?_⟩⟩
      by_cases e : k = d
      · rw [e] at z ⊢; exact c z
      · exact (h k k0 k1).2 (by omega) z
    · have c1 : od_bit (mStN g M j) d := Classical.byContradiction (fun z => c (fun y => absurd y z))
      refine Or.inr ⟨j, j0, j1, fun k k0 k1 => ⟨fun z => ?_, fun dk z => ?_⟩⟩
      · rcases (hu k k0 k1).mp z with y | y
        · exact (h k k0 k1).1 y
        · rw [y]; exact c1
      · refine (hu k k0 k1).mpr ?_
        by_cases e : k = d
        · exact Or.inr e
        · exact Or.inl ((h k k0 k1).2 (by omega) z)
  · rintro (⟨j, j0, j1, h⟩ | ⟨j, j0, j1, h⟩)
    · exact ⟨j, j0, j1, fun k k0 k1 => ⟨(h k k0 k1).1, fun dk z => (h k k0 k1).2 (by omega) z⟩⟩
    · refine ⟨j, j0, j1, fun k k0 k1 => ⟨fun z => (h k k0 k1).1 ((hu k k0 k1).mpr (Or.inl z)), fun dk z => ?_⟩⟩
      rcases (hu k k0 k1).mp ((h k k0 k1).2 (by omega) z) with y | y
      · exact y
      · omega
/-- of sets within 64: the closure before any pass is being struck just so -/
theorem mClo_0 {g : od_G} {M s : Int} (hI : MI g M) (hs : 0 ≤ s ∧ s < 64) : mClo g M 0 s ↔ ∃ j : Int, 0 ≤ j ∧ j < mRd g M ∧ mStN g M j = s := by
  constructor
  · rintro ⟨j, j0, j1, h⟩
    have b := mStN_64 hI j
    refine ⟨j, j0, j1, od_bit_ext (by omega) (by omega) (fun k k0 k1 => ?_)⟩
    by_cases k6 : k < 6
    · exact ⟨(h k k0 k6).2 k0, (h k k0 k6).1⟩
    · exact ⟨fun z => absurd z (od_bit_hi (n := 6) b.1 (by omega) (by omega) (by omega)), fun z => absurd z (od_bit_hi (n := 6) hs.1 (by omega) (by omega) (by omega))⟩
  · rintro ⟨j, j0, j1, h⟩
    exact ⟨j, j0, j1, fun k _ _ => by rw [h]; exact ⟨id, fun _ => id⟩⟩
/-- behind all passes: some hour strikes all of the set -/
theorem mClo_6 {g : od_G} {M s : Int} (hs : 0 ≤ s ∧ s < 64) : mClo g M 6 s ↔ ∃ j : Int, 0 ≤ j ∧ j < mRd g M ∧ od_and (mStN g M j) s = s := by
  constructor
  · rintro ⟨j, j0, j1, h⟩
    refine ⟨j, j0, j1, od_bit_ext (od_rng_and _ _) (by omega) (fun k k0 k1 => ?_)⟩
    rw [od_bit_and ⟨k0, k1⟩]
    refine ⟨fun z => z.2, fun z => ⟨?_, z⟩⟩
    by_cases k6 : k < 6
    · exact (h k k0 k6).1 z
    · exact absurd z (od_bit_hi (n := 6) hs.1 (by omega) (by omega) (by omega))
  · rintro ⟨j, j0, j1, h⟩
    refine ⟨j, j0, j1, fun k k0 k1 => ⟨fun z => ?_, fun _ => by omega⟩⟩
    rw [← h, od_bit_and (by omega)] at z
    exact z.1
