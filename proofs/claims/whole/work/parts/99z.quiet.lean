/-! answers are alike: quiet -/
theorem od_run_p {P : Int → Prop} : ∀ (f : Nat) (i : Int), (∀ j : Int, i ≤ j → j < od_run P f i → P j) ∧ ∀ v : Int, 0 ≤ v → v ≤ f → (∀ j : Int, i ≤ j → j < i + v → P j) → i + v ≤ od_run P f i := by
  intro f
  induction f with
  | zero => intro i; exact ⟨fun j j0 j1 => by simp only [od_run] at j1; omega, fun v v0 v1 _ => by simp only [od_run]; omega⟩
  | succ f ih =>
    intro i
    obtain ⟨i1, i2⟩ := ih (i + 1)
    have e : od_run P (f + 1) i = od_ite (P i) (od_run P f (i + 1)) i := rfl
    rw [e]
    by_cases c : P i
    · rw [od_ite_t c]
      refine ⟨fun j j0 j1 => ?_, fun v v0 v1 h => ?_⟩
      · by_cases cj : j = i
        · rw [cj]; exact c
        · exact i1 j (by omega) j1
      · by_cases cv : v = 0
        · have := (od_run_b P f (i + 1)).1
          omega
        · have z := i2 (v - 1) (by omega) (by omega) (fun j j0 j1 => h j (by omega) (by omega))
          omega
    · rw [od_ite_f c]
      refine ⟨fun j j0 j1 => by omega, fun v v0 v1 h => ?_⟩
      by_cases cv : v = 0
      · omega
      · exact absurd (h i (by omega) (by omega)) c
/-- the longest of all, and the first of them -/
def qBest (q : Int → Int) (R b a : Int) : Prop := (∀ h : Int, 0 ≤ h → h < R → q h ≤ b) ∧ ((b = 0 ∧ a = -1) ∨ (0 < b ∧ 0 ≤ a ∧ a < R ∧ q a = b ∧ ∀ h : Int, 0 ≤ h → h < a → q h < b))
theorem od_qu_v {q : Int → Int} {R : Int} (q0 : ∀ h : Int, 0 ≤ h → h < R → 0 ≤ q h) (qs : ∀ h i : Int, 0 ≤ h → h < R → 0 < i → i ≤ q h → h + i < R → q (h + i) < q h) : ∀ (f : Nat) (b a h : Int), 0 ≤ h → R - h ≤ f → qBest q (min h R) b a → qBest q R (od_qu q R f b a h).1 (od_qu q R f b a h).2 := by
  intro f
  induction f with
  | zero =>
    intro b a h h0 h1 hb
    rw [show min h R = R by omega] at hb
    exact hb
  | succ f ih =>
    intro b a h h0 h1 hb
    have e : od_qu q R (f + 1) b a h = if h < R then (if b < q h then od_qu q R f (q h) h (h + (q h + 1)) else od_qu q R f b a (h + (q h + 1))) else (b, a) := rfl
    rw [e]
    by_cases c : h < R
    · rw [if_pos c]
      rw [show min h R = h by omega] at hb
      have qh := q0 h h0 c
      by_cases c2 : b < q h
      · rw [if_pos c2]
        have bn : 0 ≤ b := by
          rcases hb.2 with z | z <;> omega
        refine ih (q h) h (h + (q h + 1)) (by omega) (by omega) ⟨fun x x0 x1 => ?_, Or.inr ⟨by omega, h0, by omega, rfl, fun x x0 x1 => ?_⟩⟩
        · by_cases cx : x < h
          · have := hb.1 x x0 cx; omega
          · by_cases ce : x = h
            · rw [ce]; omega
            · have z := qs h (x - h) h0 c (by omega) (by omega) (by omega)
              rw [show h + (x - h) = x by omega] at z
              omega
        · have := hb.1 x x0 x1; omega
      · rw [if_neg c2]
        refine ih b a (h + (q h + 1)) (by omega) (by omega) ⟨fun x x0 x1 => ?_, ?_⟩
        · by_cases cx : x < h
          · exact hb.1 x x0 cx
          · by_cases ce : x = h
            · rw [ce]; omega
            · have z := qs h (x - h) h0 c (by omega) (by omega) (by omega)
              rw [show h + (x - h) = x by omega] at z
              omega
        · rcases hb.2 with z | ⟨z1, z2, z3, z4, z5⟩
          · exact Or.inl z
          · exact Or.inr ⟨z1, z2, by omega, z4, z5⟩
    · rw [if_neg c]
      rw [show min h R = R by omega] at hb
      exact hb
/-- how long it has been quiet, n hours behind hour s -/
noncomputable def cLe (Z : Int → Prop) (s : Int) : Nat → Int
  | 0 => 0
  | n + 1 => cQl Z (s + 1 + n) (cLe Z s n)
theorem cLe_v {Z : Int → Prop} {s : Int} (hs : ¬ Z s) : ∀ n : Nat, 0 ≤ cLe Z s n ∧ cLe Z s n ≤ n ∧ (∀ x : Int, s + n - cLe Z s n < x → x ≤ s + n → Z x) ∧ ¬ Z (s + n - cLe Z s n) := by
  intro n
  induction n with
  | zero =>
    have e : cLe Z s 0 = 0 := rfl
    rw [e]
    exact ⟨by omega, by omega, fun x x0 x1 => by omega, by rw [show s + ((0 : Nat) : Int) - 0 = s by omega]; exact hs⟩
  | succ n ih =>
    obtain ⟨i1, i2, i3, i4⟩ := ih
    have e : cLe Z s (n + 1) = od_ite (Z (s + 1 + n)) (cLe Z s n + 1) 0 := rfl
    rw [e]
    by_cases c : Z (s + 1 + n)
    · rw [od_ite_t c]
      refine ⟨by omega, by omega, fun x x0 x1 => ?_, ?_⟩
      · by_cases cx : x = s + 1 + n
        · rw [cx]; exact c
        · exact i3 x (by omega) (by omega)
      · rw [show s + ((n + 1 : Nat) : Int) - (cLe Z s n + 1) = s + n - cLe Z s n by omega]
        exact i4
    · rw [od_ite_f c]
      refine ⟨by omega, by omega, fun x x0 x1 => by omega, ?_⟩
      rw [show s + ((n + 1 : Nat) : Int) - 0 = s + 1 + n by omega]
      exact c
theorem cQn_v {Z : Int → Prop} {H s : Int} : ∀ n : Nat, (cQn Z H s n).2.2 = cLe Z s n ∧ 0 ≤ (cQn Z H s n).1 ∧ (∀ j : Nat, j ≤ n → cLe Z s j ≤ (cQn Z H s n).1 ∧ (cLe Z s j = (cQn Z H s n).1 → 0 < (cQn Z H s n).1 → (cQn Z H s n).2.1 ≤ cQb H (s + j) (cLe Z s j))) ∧ (((cQn Z H s n).1 = 0 ∧ (cQn Z H s n).2.1 = -1) ∨ (0 < (cQn Z H s n).1 ∧ ∃ j : Nat, j ≤ n ∧ cLe Z s j = (cQn Z H s n).1 ∧ cQb H (s + j) (cLe Z s j) = (cQn Z H s n).2.1)) := by
  intro n
  induction n with
  | zero =>
    refine ⟨rfl, Int.le_refl _, fun j hj => ?_, Or.inl ⟨rfl, rfl⟩⟩
    have e : j = 0 := by omega
    subst e
    exact ⟨Int.le_refl _, fun _ q => absurd q (by show ¬ (0 : Int) < 0; omega)⟩
  | succ n ih =>
    obtain ⟨i1, i2, i3, i4⟩ := ih
    have e : cQn Z H s (n + 1) = cQu H (s + 1 + n) (cQn Z H s n).1 (cQn Z H s n).2.1 (cQl Z (s + 1 + n) (cQn Z H s n).2.2) := rfl
    have el : cLe Z s (n + 1) = cQl Z (s + 1 + n) (cLe Z s n) := rfl
    rw [e, i1, ← el]
    have ex : s + 1 + (n : Int) = s + ((n + 1 : Nat) : Int) := by omega
    rw [ex]
    unfold cQu
    by_cases c : (cQn Z H s n).1 < cLe Z s (n + 1) ∨ (0 < cLe Z s (n + 1) ∧ cLe Z s (n + 1) = (cQn Z H s n).1 ∧ cQb H (s + ((n + 1 : Nat) : Int)) (cLe Z s (n + 1)) < (cQn Z H s n).2.1)
    · rw [if_pos c]
      refine ⟨rfl, by show 0 ≤ cLe Z s (n + 1); omega, fun j hj => ?_, Or.inr ⟨by show 0 < cLe Z s (n + 1); omega, n + 1, Nat.le_refl _, rfl, rfl⟩⟩
      show cLe Z s j ≤ cLe Z s (n + 1) ∧ (cLe Z s j = cLe Z s (n + 1) → 0 < cLe Z s (n + 1) → cQb H (s + ((n + 1 : Nat) : Int)) (cLe Z s (n + 1)) ≤ cQb H (s + j) (cLe Z s j))
      by_cases cj : j = n + 1
      · subst cj
        exact ⟨Int.le_refl _, fun _ _ => Int.le_refl _⟩
      · have z := i3 j (by omega)
        refine ⟨by omega, fun q1 q2 => ?_⟩
        have y := z.2 (by omega) (by omega)
        omega
    · rw [if_neg c]
      refine ⟨rfl, i2, fun j hj => ?_, ?_⟩
      · show cLe Z s j ≤ (cQn Z H s n).1 ∧ (cLe Z s j = (cQn Z H s n).1 → 0 < (cQn Z H s n).1 → (cQn Z H s n).2.1 ≤ cQb H (s + j) (cLe Z s j))
        by_cases cj : j = n + 1
        · subst cj
          exact ⟨by omega, fun q1 q2 => by omega⟩
        · exact i3 j (by omega)
      · rcases i4 with z | ⟨z1, j, z2, z3, z4⟩
        · exact Or.inl z
        · exact Or.inr ⟨z1, j, by omega, z3, z4⟩
/-- the two ways come to the same -/
theorem quiet_eq {Z : Int → Prop} {R s : Int} {q : Int → Int} (hR : 1 ≤ R) (zp : ∀ x : Int, 0 ≤ x → x < R → (Z (x + R) ↔ Z x)) (hs : 0 ≤ s ∧ s < R ∧ ¬ Z s) (q0 : ∀ h : Int, 0 ≤ h → h < R → 0 ≤ q h ∧ q h < R) (qq : ∀ h v : Int, 0 ≤ h → h < R → 0 ≤ v → v < R → (v ≤ q h ↔ ∀ i : Int, 0 ≤ i → i < v → Z (h + i))) {b a : Int} (hb : qBest q R b a) : (cQn Z R s (R - 1).toNat).1 = b ∧ (cQn Z R s (R - 1).toNat).2.1 = a := by
  obtain ⟨_, i2, i3, i4⟩ := cQn_v (Z := Z) (H := R) (s := s) (R - 1).toNat
  have cb : ∀ j : Nat, j ≤ (R - 1).toNat → 0 < cLe Z s j → (0 ≤ cQb R (s + j) (cLe Z s j) ∧ cQb R (s + j) (cLe Z s j) < R) ∧ cLe Z s j ≤ q (cQb R (s + j) (cLe Z s j)) := fun j hj hp => by
    obtain ⟨l1, l2, l3, l4⟩ := cLe_v hs.2.2 j
    have rg : 0 ≤ cQb R (s + j) (cLe Z s j) ∧ cQb R (s + j) (cLe Z s j) < R := by
      unfold cQb
      split <;> omega
    refine ⟨rg, (qq _ _ rg.1 rg.2 l1 (by omega)).mpr (fun i i0 i1 => ?_)⟩
    have z := l3 (s + j - cLe Z s j + 1 + i) (by omega) (by omega)
    unfold cQb
    split
    · rw [show s + (j : Int) - cLe Z s j + 1 + i = s + j - cLe Z s j + 1 + i from rfl]; exact z
    · rename_i c
      have y := zp (s + j - cLe Z s j + 1 - R + i) (by omega) (by omega)
      rw [show s + (j : Int) - cLe Z s j + 1 - R + i + R = s + j - cLe Z s j + 1 + i by omega] at y
      exact y.mp z
  have lob : (cQn Z R s (R - 1).toNat).1 ≤ b := by
    rcases i4 with z | ⟨z1, j, z2, z3, z4⟩
    · rcases hb.2 with y | y <;> omega
    · have y := cb j z2 (by omega)
      have x := hb.1 _ y.1.1 y.1.2
      omega
  rcases hb.2 with ⟨b0, a0⟩ | ⟨b1, a1, a2, a3, a4⟩
  · rcases i4 with ⟨z1, z2⟩ | ⟨z1, _⟩
    · exact ⟨by omega, by omega⟩
    · omega
  · -- the run that begins at a
    have qa := q0 a a1 a2
    have run := (qq a b a1 a2 (by omega) (by omega)).mp (by omega)
    have nas : a ≠ s := fun e => by
      have z := run 0 (by omega) b1
      rw [Int.add_zero, e] at z
      exact hs.2.2 z
    obtain ⟨h', hh, hz⟩ : ∃ h' : Int, (s < h' ∧ h' < s + R) ∧ ((h' = a ∧ s < a) ∨ (h' = a + R ∧ a < s)) := by
      by_cases c : s < a
      · exact ⟨a, by omega, Or.inl ⟨rfl, c⟩⟩
      · exact ⟨a + R, by omega, Or.inr ⟨rfl, by omega⟩⟩
    have zr : ∀ i : Int, 0 ≤ i → i < b → h' + i < s + R + 1 → Z (h' + i) := fun i i0 i1 i2 => by
      rcases hz with ⟨e, _⟩ | ⟨e, e2⟩
      · rw [e]; exact run i i0 i1
      · have y := (zp (a + i) (by omega) (by omega)).mpr (run i i0 i1)
        rw [e, show a + R + i = a + i + R by omega]
        exact y
    have sR : ¬ Z (s + R) := fun z => hs.2.2 ((zp s hs.1 hs.2.1).mp z)
    have fit : h' + b - 1 < s + R := Classical.byContradiction fun z => by
      have y := zr (s + R - h') (by omega) (by omega) (by omega)
      rw [show h' + (s + R - h') = s + R by omega] at y
      exact sR y
    have bef : ¬ Z (h' - 1) := fun z => by
      by_cases c : h' - 1 = s
      · rw [c] at z; exact hs.2.2 z
      · -- one hour earlier it would be longer
        by_cases cz : h' - 1 < R
        · have l : b + 1 ≤ q (h' - 1) := by
            by_cases bR : b + 1 < R
            · refine (qq (h' - 1) (b + 1) (by omega) cz (by omega) bR).mpr (fun i i0 i1 => ?_)
              by_cases ci : i = 0
              · rw [ci, Int.add_zero]; exact z
              · have y := zr (i - 1) (by omega) (by omega) (by omega)
                rw [show h' + (i - 1) = h' - 1 + i by omega] at y
                exact y
            · omega
          have x := hb.1 (h' - 1) (by omega) cz
          omega
        · have e : h' = a + R := by rcases hz with ⟨e, _⟩ | ⟨e, _⟩ <;> omega
          have a1' : 0 < a ∨ a = 0 := by omega
          have zl : Z (h' - 1 - R) := by
            have y := zp (h' - 1 - R) (by omega) (by omega)
            rw [show h' - 1 - R + R = h' - 1 by omega] at y
            exact y.mp z
          have l : b + 1 ≤ q (h' - 1 - R) := by
            refine (qq (h' - 1 - R) (b + 1) (by omega) (by omega) (by omega) (by omega)).mpr (fun i i0 i1 => ?_)
            by_cases ci : i = 0
            · rw [ci, Int.add_zero]; exact zl
            · have y := run (i - 1) (by omega) (by omega)
              rw [show a + (i - 1) = h' - 1 - R + i by omega] at y
              exact y
          have x := hb.1 (h' - 1 - R) (by omega) (by omega)
          omega
    have jn : (((h' + b - 1 - s).toNat : Nat) : Int) = h' + b - 1 - s := by omega
    obtain ⟨l1, l2, l3, l4⟩ := cLe_v hs.2.2 (h' + b - 1 - s).toNat
    rw [jn] at l2 l3 l4
    have le : cLe Z s (h' + b - 1 - s).toNat = b := by
      by_cases c1 : b < cLe Z s (h' + b - 1 - s).toNat
      · exact absurd (l3 (h' - 1) (by omega) (by omega)) bef
      · by_cases c2 : cLe Z s (h' + b - 1 - s).toNat < b
        · have y := zr (s + (h' + b - 1 - s) - cLe Z s (h' + b - 1 - s).toNat - h') (by omega) (by omega) (by omega)
          rw [show h' + (s + (h' + b - 1 - s) - cLe Z s (h' + b - 1 - s).toNat - h') = s + (h' + b - 1 - s) - cLe Z s (h' + b - 1 - s).toNat by omega] at y
          exact absurd y l4
        · omega
    have z := i3 (h' + b - 1 - s).toNat (by omega)
    rw [le] at z
    have lo : (cQn Z R s (R - 1).toNat).1 = b := by omega
    refine ⟨lo, ?_⟩
    have at' : cQb R (s + (((h' + b - 1 - s).toNat : Nat) : Int)) b = a := by
      rw [jn]
      unfold cQb
      rcases hz with ⟨e, _⟩ | ⟨e, _⟩
      · rw [if_pos (by omega)]; omega
      · rw [if_neg (by omega)]; omega
    have le1 := z.2 lo.symm (by omega)
    rw [at'] at le1
    rcases i4 with y | ⟨_, j, y2, y3, y4⟩
    · omega
    · have x := cb j y2 (by omega)
      rw [y4, y3, lo] at x
      by_cases c : (cQn Z R s (R - 1).toNat).2.1 < a
      · have := a4 _ x.1.1 c
        omega
      · omega
section Answers6
variable {g gm : od_G} {k M : Int}
theorem StR.stR (h : StR g k (gm (M + 2))) {x : Int} (hx : 0 ≤ x ∧ x ≤ 100000) : mStN gm M x = mStN gm M (x % mRd gm M) := by
  have n := h.1.2
  have r := h.rr
  have y0 : 0 ≤ x % mRd gm M := Int.emod_nonneg _ (by omega)
  have y1 : x % mRd gm M < mRd gm M := Int.emod_lt_of_pos _ (by omega)
  have dm := Int.mul_ediv_add_emod x (mRd gm M)
  rw [(mStN_sum gm M x n).1, (mStN_sum gm M (x % mRd gm M) n).1]
  refine od_sum_c _ (fun i i0 i1 => ?_)
  have hd : 0 ≤ i ∧ i < gm (M + 2) 45 := by omega
  have z := h.2.1 i hd.1 hd.2
  have l := z.2.2.2.2.1
  have p := z.2.2.2.2.2.1
  have eb : ¬ mStop gm M i → mBeat gm M i x = mBeat gm M i (x % mRd gm M) := fun c => by
    obtain ⟨q, hq⟩ := h.dv.2 i hd.1 hd.2 c
    unfold mBeat
    rw [od_ite_f c, od_ite_f c, od_wI (by omega) (by omega), od_wI (by omega) (by omega), Int.tmod_eq_emod_of_nonneg (by omega), Int.tmod_eq_emod_of_nonneg (by omega)]
    have e : gm (M + 2) (6 + i) + x = gm (M + 2) (6 + i) + x % mRd gm M + gm (M + 2) (19 + i) * (q * (x / mRd gm M)) := by
      rw [← Int.mul_assoc, ← hq]
      omega
    rw [e, Int.add_mul_emod_self_left]
  unfold cBit mStrikes
  by_cases c : mStop gm M i
  · rw [od_ite_f (fun q => q.1 c), od_ite_f (fun q => q.1 c)]
  · rw [eb c]
end Answers6
