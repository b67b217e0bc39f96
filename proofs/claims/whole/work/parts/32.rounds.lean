/-! rounds: common multiples -/
def od_lcm (a b : Int) : Int := ((Nat.lcm a.toNat b.toNat : Nat) : Int)
theorem od_tmd {a : Nat} {i : Nat} {l : Int} (h0 : (a * i : Nat) < 2147483648) (hl : 0 < l) : (od_w ((a : Int) * (i : Int))).tmod l = 0 ↔ l.toNat ∣ a * i := by
  have e : (a : Int) * (i : Int) = ((a * i : Nat) : Int) := by rw [Int.natCast_mul]
  rw [e, od_wI (by omega) (by omega), ← Int.dvd_iff_tmod_eq_zero]
  rw [show l = ((l.toNat : Nat) : Int) by omega, Int.natCast_dvd_natCast, Int.toNat_natCast]
theorem cMultF_lcm {H L : Nat} (h1 : 1 ≤ H) (h2 : H ≤ 100000) (l1 : 1 ≤ L) (l2 : L ≤ 12) : ∀ (f i : Nat), f + i = 13 → 1 ≤ i → H * i ≤ Nat.lcm H L → cMultF H L f i = ((Nat.lcm H L : Nat) : Int) := by
  intro f
  have hm : Nat.lcm H L ≤ H * L := Nat.lcm_le_mul (by omega) (by omega)
  induction f with
  | zero =>
    intro i e i1 hi
    have : i = 13 := by omega
    subst this
    have : H * L ≤ H * 12 := Nat.mul_le_mul_left H l2
    omega
  | succ f ih =>
    intro i e i1 hi
    have hb : H * i ≤ 100000 * 12 := Nat.mul_le_mul h2 (by omega)
    simp only [cMultF]
    have hd := od_tmd (a := H) (i := i) (l := (L : Int)) (by omega) (by omega)
    rw [Int.toNat_natCast] at hd
    by_cases c : L ∣ H * i
    · rw [if_pos ⟨by omega, hd.mpr c⟩]
      have q : Nat.lcm H L ≤ H * i := Nat.le_of_dvd (Nat.mul_pos (by omega) (by omega)) (Nat.lcm_dvd (Nat.dvd_mul_right H i) c)
      have e2 : (H : Int) * (i : Int) = ((H * i : Nat) : Int) := by rw [Int.natCast_mul]
      rw [e2, od_wI (by omega) (by omega)]
      omega
    · rw [if_neg (fun z => c (hd.mp z.2))]
      have q2 : Nat.lcm H L ≠ H * i := fun z => c (z ▸ Nat.dvd_lcm_right H L)
      obtain ⟨j, hj⟩ := Nat.dvd_lcm_left H L
      have ij : i < j := by
        apply Nat.lt_of_mul_lt_mul_left (a := H)
        omega
      have := ih (i + 1) (by omega) (by omega) (by rw [hj]; exact Nat.mul_le_mul_left H (by omega))
      rw [← this, Int.natCast_add, Int.natCast_one]
theorem cMult_lcm {h l : Int} (h1 : 1 ≤ h) (h2 : h ≤ 100000) (l1 : 1 ≤ l) (l2 : l ≤ 12) : cMult h l = od_lcm h l := by
  have q := cMultF_lcm (H := h.toNat) (L := l.toNat) (by omega) (by omega) (by omega) (by omega) 12 1 rfl (by omega) (by rw [Nat.mul_one]; exact Nat.le_lcm_left _ (by omega))
  unfold cMult od_lcm
  rw [← q, show ((h.toNat : Nat) : Int) = h by omega, show ((l.toNat : Nat) : Int) = l by omega]
  rfl
theorem od_lcm_d1 {a b : Int} (ha : 0 ≤ a) : a ∣ od_lcm a b := by
  unfold od_lcm
  have := Int.natCast_dvd_natCast.mpr (Nat.dvd_lcm_left a.toNat b.toNat)
  rwa [show ((a.toNat : Nat) : Int) = a by omega] at this
theorem od_lcm_d2 {a b : Int} (hb : 0 ≤ b) : b ∣ od_lcm a b := by
  unfold od_lcm
  have := Int.natCast_dvd_natCast.mpr (Nat.dvd_lcm_right a.toNat b.toNat)
  rwa [show ((b.toNat : Nat) : Int) = b by omega] at this
theorem od_lcm_p {a b : Int} (ha : 1 ≤ a) (hb : 1 ≤ b) : 1 ≤ od_lcm a b := by
  unfold od_lcm
  have := Nat.lcm_pos (m := a.toNat) (n := b.toNat) (by omega) (by omega)
  omega
theorem od_lcm_l {a b N : Int} (ha : 0 ≤ a) (hb : 0 ≤ b) (hN : 0 ≤ N) (h1 : a ∣ N) (h2 : b ∣ N) : od_lcm a b ∣ N := by
  unfold od_lcm
  rw [show N = ((N.toNat : Nat) : Int) by omega]
  refine Int.natCast_dvd_natCast.mpr (Nat.lcm_dvd ?_ ?_)
  · rw [← Int.natCast_dvd_natCast, show ((a.toNat : Nat) : Int) = a by omega, show ((N.toNat : Nat) : Int) = N by omega]; exact h1
  · rw [← Int.natCast_dvd_natCast, show ((b.toNat : Nat) : Int) = b by omega, show ((N.toNat : Nat) : Int) = N by omega]; exact h2
/-- after how many hours those of f drums from d on for which P is are where they were -/
noncomputable def od_rd (P : Int → Prop) (L : Int → Int) : Nat → Int → Int → Int
  | 0, _, h => h
  | f + 1, d, h => od_rd P L f (d + 1) (od_ite (P d) (od_lcm h (L d)) h)
theorem od_d27 {l : Int} (h1 : 1 ≤ l) (h2 : l ≤ 12) : l ∣ 27720 := by
  rcases (by omega : l = 1 ∨ l = 2 ∨ l = 3 ∨ l = 4 ∨ l = 5 ∨ l = 6 ∨ l = 7 ∨ l = 8 ∨ l = 9 ∨ l = 10 ∨ l = 11 ∨ l = 12) with rfl | rfl | rfl | rfl | rfl | rfl | rfl | rfl | rfl | rfl | rfl | rfl <;> decide
theorem od_rd_x {P : Int → Prop} {L : Int → Int} : ∀ (f : Nat) (d h : Int), (∀ e : Int, d ≤ e → e < d + f → P e → 1 ≤ L e ∧ L e ≤ 12) → 1 ≤ h → h ∣ 27720 → (1 ≤ od_rd P L f d h ∧ od_rd P L f d h ∣ 27720 ∧ h ∣ od_rd P L f d h ∧ ∀ e : Int, d ≤ e → e < d + f → P e → L e ∣ od_rd P L f d h) := by
  intro f
  induction f with
  | zero => intro d h hL h1 h2; exact ⟨h1, h2, Int.dvd_refl h, fun e e0 e1 => by omega⟩
  | succ f ih =>
    intro d h hL h1 h2
    simp only [od_rd]
    by_cases c : P d
    · rw [od_ite_t c]
      have l12 := hL d (by omega) (by omega) c
      obtain ⟨q1, q2, q3, q4⟩ := ih (d + 1) (od_lcm h (L d)) (fun e e0 e1 => hL e (by omega) (by omega)) (od_lcm_p h1 l12.1) (od_lcm_l (by omega) (by omega) (by omega) h2 (od_d27 l12.1 l12.2))
      refine ⟨q1, q2, Int.dvd_trans (od_lcm_d1 (by omega)) q3, fun e e0 e1 p => ?_⟩
      by_cases ce : e = d
      · rw [ce]; exact Int.dvd_trans (od_lcm_d2 (by omega)) q3
      · exact q4 e (by omega) (by omega) p
    · rw [od_ite_f c]
      obtain ⟨q1, q2, q3, q4⟩ := ih (d + 1) h (fun e e0 e1 => hL e (by omega) (by omega)) h1 h2
      refine ⟨q1, q2, q3, fun e e0 e1 p => ?_⟩
      by_cases ce : e = d
      · rw [ce] at p; exact absurd p c
      · exact q4 e (by omega) (by omega) p
theorem od_rd_le {P : Int → Prop} {L : Int → Int} {f : Nat} {d : Int} (hL : ∀ e : Int, d ≤ e → e < d + f → P e → 1 ≤ L e ∧ L e ≤ 12) : 1 ≤ od_rd P L f d 1 ∧ od_rd P L f d 1 ≤ 27720 := by
  have q := od_rd_x f d 1 hL (by omega) (Int.one_dvd _)
  exact ⟨q.1, Int.le_of_dvd (by omega) q.2.1⟩
theorem od_l3 : ∀ a : Fin 12, ∀ b : Fin 12, ∀ c : Fin 12, Nat.lcm (Nat.lcm (Nat.lcm 1 (a.val + 1)) (b.val + 1)) (c.val + 1) ≤ 990 := by decide +kernel
theorem od_rd3 {P : Int → Prop} {L : Int → Int} {d : Int} (hL : ∀ e : Int, d ≤ e → e < d + 3 → P e → 1 ≤ L e ∧ L e ≤ 12) : od_rd P L 3 d 1 ≤ 990 := by
  have st : ∀ (e h : Int), d ≤ e → e < d + 3 → ∃ a : Fin 12, ∀ h : Int, 0 ≤ h → od_ite (P e) (od_lcm h (L e)) h = ((Nat.lcm h.toNat (a.val + 1) : Nat) : Int) := by
    intro e h e0 e1
    by_cases c : P e
    · have l12 := hL e e0 e1 c
      refine ⟨⟨(L e).toNat - 1, by omega⟩, fun h h0 => ?_⟩
      rw [od_ite_t c]
      unfold od_lcm
      rw [show (L e).toNat - 1 + 1 = (L e).toNat by omega]
    · refine ⟨⟨0, by omega⟩, fun h h0 => ?_⟩
      rw [od_ite_f c]
      show h = ((Nat.lcm h.toNat 1 : Nat) : Int)
      rw [Nat.lcm_one_right]
      omega
  obtain ⟨a, ha⟩ := st d 0 (by omega) (by omega)
  obtain ⟨b, hb⟩ := st (d + 1) 0 (by omega) (by omega)
  obtain ⟨c, hc⟩ := st (d + 1 + 1) 0 (by omega) (by omega)
  simp only [od_rd]
  rw [ha 1 (by omega), hb _ (by omega), hc _ (by omega), Int.toNat_natCast, Int.toNat_natCast]
  have := od_l3 a b c
  exact Int.ofNat_le.mpr this
theorem cRoundF_rd {g : od_G} {k : Int} : ∀ (f : Nat) (d h : Int), (∀ e : Int, d ≤ e → e < d + f → cHas g k e ∧ ¬ cStop g k e → 1 ≤ g (k + 1) e ∧ g (k + 1) e ≤ 12) → 1 ≤ h → h ∣ 27720 → cRoundF g k f d h = od_rd (fun e => cHas g k e ∧ ¬ cStop g k e) (g (k + 1)) f d h := by
  intro f
  induction f with
  | zero => intro d h _ _ _; rfl
  | succ f ih =>
    intro d h hL h1 h2
    simp only [cRoundF, od_rd]
    have hle := Int.le_of_dvd (by omega) h2
    by_cases c : cHas g k d ∧ ¬ cStop g k d
    · have l12 := hL d (by omega) (by omega) c
      rw [od_ite_t c, od_ite_t c, cMult_lcm h1 (by omega) l12.1 l12.2]
      exact ih _ _ (fun e e0 e1 => hL e (by omega) (by omega)) (od_lcm_p h1 l12.1) (od_lcm_l (by omega) (by omega) (by omega) h2 (od_d27 l12.1 l12.2))
    · rw [od_ite_f c, od_ite_f c]
      exact ih _ _ (fun e e0 e1 => hL e (by omega) (by omega)) h1 h2
/-- what a street of the class always keeps to -/
def CI (g : od_G) (k : Int) : Prop := (0 ≤ g k 8 ∧ g k 8 ≤ 6) ∧ ∀ d : Int, 0 ≤ d → d < g k 8 → (1 ≤ g (k + 1) d ∧ g (k + 1) d ≤ 12) ∧ (0 ≤ g (k + 3) d ∧ g (k + 3) d < g (k + 1) d)
theorem CI.has {g : od_G} {k d : Int} (h : CI g k) (hd : cHas g k d) : (1 ≤ g (k + 1) d ∧ g (k + 1) d ≤ 12) ∧ (0 ≤ g (k + 3) d ∧ g (k + 3) d < g (k + 1) d) := by
  unfold cHas at hd
  exact h.2 d (by omega) (by omega)
theorem CI.e {g g' : od_G} {k : Int} (h : CI g k) (e : StEq g g' k) : CI g' k := by
  unfold CI
  rw [e.1, e.2.1, e.2.2.2.1]
  exact h
theorem CI.rd {g : od_G} {k : Int} (h : CI g k) {a b : Int} (hab : 0 ≤ a ∧ a ≤ b ∧ b ≤ 6) : cRound g k a b = od_rd (fun e => cHas g k e ∧ ¬ cStop g k e) (g (k + 1)) (b - a).toNat a 1 := by
  unfold cRound
  exact cRoundF_rd _ _ _ (fun e e0 e1 c => (h.has c.1).1) (by omega) (Int.one_dvd _)
theorem CI.r1 {g : od_G} {k : Int} (h : CI g k) {a b : Int} (hab : 0 ≤ a ∧ a ≤ b ∧ b ≤ 6) : 1 ≤ cRound g k a b ∧ cRound g k a b ≤ 27720 := by
  rw [h.rd hab]
  exact od_rd_le (fun e e0 e1 c => (h.has c.1).1)
theorem CI.r3 {g : od_G} {k : Int} (h : CI g k) {a : Int} (hab : 0 ≤ a ∧ a ≤ 3) : cRound g k a (a + 3) ≤ 990 := by
  rw [h.rd (by omega), show (a + 3 - a).toNat = 3 by omega]
  exact od_rd3 (fun e e0 e1 c => (h.has c.1).1)
theorem CI.rv {g : od_G} {k : Int} (h : CI g k) {a b d : Int} (hab : 0 ≤ a ∧ a ≤ b ∧ b ≤ 6) (hd : a ≤ d ∧ d < b) (hh : cHas g k d) (hs : ¬ cStop g k d) : g (k + 1) d ∣ cRound g k a b := by
  rw [h.rd hab]
  exact (od_rd_x _ a 1 (fun e e0 e1 c => (h.has c.1).1) (by omega) (Int.one_dvd _)).2.2.2 d hd.1 (by omega) ⟨hh, hs⟩
