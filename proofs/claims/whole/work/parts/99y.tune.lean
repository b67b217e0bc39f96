/-! answers are alike: tune -/
def nPer (f : Nat → Int) (t : Nat) : Prop := ∀ n : Nat, f (n + t) = f n
theorem nPer_mul {f : Nat → Int} {t : Nat} (h : nPer f t) : ∀ q : Nat, nPer f (t * q) := by
  intro q
  induction q with
  | zero => intro n; rw [Nat.mul_zero, Nat.add_zero]
  | succ q ih => intro n; rw [Nat.mul_succ, ← Nat.add_assoc, h, ih]
theorem nPer_min {f : Nat → Int} : ∀ R : Nat, 0 < R → nPer f R → ∃ m : Nat, 0 < m ∧ nPer f m ∧ ∀ t : Nat, 0 < t → nPer f t → m ≤ t := by
  intro R
  induction R using Nat.strongRecOn with
  | _ R ih =>
    intro h0 h
    by_cases c : ∃ t : Nat, 0 < t ∧ t < R ∧ nPer f t
    · obtain ⟨t, t0, t1, t2⟩ := c
      exact ih t t1 t0 t2
    · exact ⟨R, h0, h, fun t t0 t1 => Nat.not_lt.mp fun q => c ⟨t, t0, q, t1⟩⟩
theorem nPer_dvd {f : Nat → Int} {m : Nat} (h : nPer f m) (hm : ∀ t : Nat, 0 < t → nPer f t → m ≤ t) (m0 : 0 < m) (t : Nat) : nPer f t ↔ m ∣ t := by
  refine ⟨fun ht => ?_, fun ⟨q, hq⟩ => by rw [hq]; exact nPer_mul h q⟩
  have e := Nat.div_add_mod t m
  have r : nPer f (t % m) := fun n => by
    have a := nPer_mul h (t / m) (n + t % m)
    rw [show n + t % m + m * (t / m) = n + t by omega, ht] at a
    exact a.symm
  have lt := Nat.mod_lt t m0
  by_cases c : t % m = 0
  · exact Nat.dvd_of_mod_eq_zero c
  · have := hm _ (Nat.pos_of_ne_zero c) r
    omega
theorem od_pdv : ∀ p : Fin 12, (p.val = 2 ∨ p.val = 3 ∨ p.val = 5 ∨ p.val = 7 ∨ p.val = 11) → ∀ d : Fin 12, d.val ∣ p.val → d.val = 1 ∨ d.val = p.val := by decide +kernel
theorem od_cop {p c : Nat} (hp : p = 2 ∨ p = 3 ∨ p = 5 ∨ p = 7 ∨ p = 11) (h : ¬ p ∣ c) : Nat.Coprime c p := by
  have d1 := Nat.gcd_dvd_right c p
  have le := Nat.le_of_dvd (by omega) d1
  have z := od_pdv ⟨p, by omega⟩ hp ⟨Nat.gcd c p, by omega⟩ d1
  rcases z with z | z
  · exact z
  · exact absurd (show p ∣ c from by have e : Nat.gcd c p = p := z; rw [← e]; exact Nat.gcd_dvd_left c p) h
theorem od_277 {c : Nat} (h : c ∣ 27720) (h2 : ¬ 2 ∣ c) (h3 : ¬ 3 ∣ c) (h5 : ¬ 5 ∣ c) (h7 : ¬ 7 ∣ c) (h11 : ¬ 11 ∣ c) : c = 1 := by
  have c2 := od_cop (Or.inl rfl) h2
  have c3 := od_cop (Or.inr (Or.inl rfl)) h3
  have c5 := od_cop (Or.inr (Or.inr (Or.inl rfl))) h5
  have c7 := od_cop (Or.inr (Or.inr (Or.inr (Or.inl rfl)))) h7
  have c11 := od_cop (Or.inr (Or.inr (Or.inr (Or.inr rfl)))) h11
  have a1 : c ∣ 13860 := c2.dvd_of_dvd_mul_left (show c ∣ 2 * 13860 from h)
  have a2 : c ∣ 6930 := c2.dvd_of_dvd_mul_left (show c ∣ 2 * 6930 from a1)
  have a3 : c ∣ 3465 := c2.dvd_of_dvd_mul_left (show c ∣ 2 * 3465 from a2)
  have a4 : c ∣ 1155 := c3.dvd_of_dvd_mul_left (show c ∣ 3 * 1155 from a3)
  have a5 : c ∣ 385 := c3.dvd_of_dvd_mul_left (show c ∣ 3 * 385 from a4)
  have a6 : c ∣ 77 := c5.dvd_of_dvd_mul_left (show c ∣ 5 * 77 from a5)
  have a7 : c ∣ 11 := c7.dvd_of_dvd_mul_left (show c ∣ 7 * 11 from a6)
  have a8 : c ∣ 1 := c11.dvd_of_dvd_mul_left (show c ∣ 11 * 1 from a7)
  exact Nat.dvd_one.mp a8
/-- a tune comes again where the least period says so -/
theorem cCA_iff {C : Int → Int} {f : Nat → Int} (hf : ∀ n : Nat, n ≤ 60000 → cLn C n = f n) {m : Nat} (hp : ∀ t : Nat, nPer f t ↔ m ∣ t) {tn p : Nat} (ht : 0 < tn ∧ tn ≤ 27720) (h2 : 2 ≤ p) (hm : m ∣ tn) : cCA C tn p ↔ p * m ∣ tn := by
  have pt := (hp tn).mpr hm
  have e1 : ((tn : Int).tmod (p : Int) = 0) ↔ p ∣ tn := by
    rw [Int.tmod_eq_emod_of_nonneg (by omega)]
    constructor
    · intro q
      exact Int.natCast_dvd_natCast.mp (Int.dvd_of_emod_eq_zero q)
    · intro q
      exact Int.emod_eq_zero_of_dvd (Int.natCast_dvd_natCast.mpr q)
  have e2 : (tn : Int).tdiv (p : Int) = ((tn / p : Nat) : Int) := by
    rw [Int.tdiv_eq_ediv_of_nonneg (by omega)]
    rfl
  have le : tn / p ≤ tn := Nat.div_le_self _ _
  unfold cCA
  rw [e1, e2]
  constructor
  · rintro ⟨q1, q2⟩
    have per : nPer f (tn / p) := fun n => by
      have a := nPer_mul pt (n / tn)
      have lt := Nat.mod_lt n ht.1
      have dm := Nat.div_add_mod n tn
      have b := q2 ((n % tn : Nat) : Int) (by omega) (by omega)
      have s1 : cLn C ((n % tn : Nat) : Int) = f (n % tn) := hf _ (by omega)
      have s2 : cLn C (((n % tn : Nat) : Int) + ((tn / p : Nat) : Int)) = f (n % tn + tn / p) := by
        rw [← Int.natCast_add]
        exact hf _ (by omega)
      rw [s1, s2] at b
      have c1 := a (n % tn)
      have c2 := a (n % tn + tn / p)
      rw [show n % tn + tn * (n / tn) = n by omega] at c1
      rw [show n % tn + tn / p + tn * (n / tn) = n + tn / p by omega] at c2
      rw [c1, c2, b]
    obtain ⟨x, hx⟩ := (hp _).mp per
    have e := Nat.mul_div_cancel' q1
    exact ⟨x, by rw [← e, hx, Nat.mul_assoc]⟩
  · rintro ⟨x, hx⟩
    have pd : p ∣ tn := ⟨m * x, by rw [hx, Nat.mul_assoc]⟩
    have dv : tn / p = m * x := by rw [hx, Nat.mul_assoc]; exact Nat.mul_div_cancel_left _ (by omega)
    have per := (hp (tn / p)).mpr ⟨x, dv⟩
    refine ⟨pd, fun h h0 h1 => ?_⟩
    have s1 : cLn C h = f h.toNat := by
      have z := hf h.toNat (by omega)
      rw [show ((h.toNat : Nat) : Int) = h by omega] at z
      exact z
    have s2 : cLn C (h + ((tn / p : Nat) : Int)) = f (h.toNat + tn / p) := by
      have z := hf (h.toNat + tn / p) (by omega)
      rw [show ((h.toNat + tn / p : Nat) : Int) = h + ((tn / p : Nat) : Int) by omega] at z
      exact z
    rw [s1, s2, per]
theorem cT1_v {C : Int → Int} {f : Nat → Int} (hf : ∀ n : Nat, n ≤ 60000 → cLn C n = f n) {m : Nat} (hp : ∀ t : Nat, nPer f t ↔ m ∣ t) {p : Nat} (h2 : 2 ≤ p) : ∀ (k tn : Nat), 0 < tn → tn ≤ 27720 → m ∣ tn → ∃ (r j : Nat), cT1 C p k tn = (r : Int) ∧ tn = p ^ j * r ∧ m ∣ r ∧ (j = k ∨ ¬ p * m ∣ r) := by
  intro k
  induction k with
  | zero => intro tn _ _ hm; exact ⟨tn, 0, rfl, by rw [Nat.pow_zero, Nat.one_mul], hm, Or.inl rfl⟩
  | succ k ih =>
    intro tn h0 h1 hm
    have e : cT1 C p (k + 1) tn = @ite Int (cCA C tn p) (Classical.propDecidable _) (cT1 C p k ((tn : Int).tdiv p)) tn := rfl
    have iff := cCA_iff hf hp (tn := tn) (p := p) ⟨h0, h1⟩ h2 hm
    rw [e]
    by_cases c : p * m ∣ tn
    · rw [if_pos (iff.mpr c)]
      obtain ⟨x, hx⟩ := c
      have dv : tn / p = m * x := by rw [hx, Nat.mul_assoc]; exact Nat.mul_div_cancel_left _ (by omega)
      have e2 : (tn : Int).tdiv (p : Int) = ((tn / p : Nat) : Int) := by
        rw [Int.tdiv_eq_ediv_of_nonneg (by omega)]
        rfl
      have ep : p * (tn / p) = tn := by rw [dv, hx, Nat.mul_assoc]
      have pos : 0 < tn / p := by
        rcases Nat.eq_zero_or_pos (tn / p) with z | z
        · rw [z, Nat.mul_zero] at ep; omega
        · exact z
      rw [e2]
      obtain ⟨r, j, r1, r2, r3, r4⟩ := ih (tn / p) pos (Nat.le_trans (Nat.div_le_self _ _) h1) ⟨x, dv⟩
      refine ⟨r, j + 1, r1, ?_, r3, ?_⟩
      · rw [← ep, r2, Nat.pow_succ, Nat.mul_comm (p ^ j) p, Nat.mul_assoc]
      · rcases r4 with q | q
        · exact Or.inl (by omega)
        · exact Or.inr q
    · rw [if_neg (fun q => c (iff.mp q))]
      exact ⟨tn, 0, rfl, by rw [Nat.pow_zero, Nat.one_mul], hm, Or.inr c⟩
theorem cT1_w {C : Int → Int} {f : Nat → Int} (hf : ∀ n : Nat, n ≤ 60000 → cLn C n = f n) {m : Nat} (hp : ∀ t : Nat, nPer f t ↔ m ∣ t) {p : Nat} (h2 : 2 ≤ p) (h12 : ¬ p ^ 12 ∣ 27720) {tn : Nat} (h0 : 0 < tn) (hd : tn ∣ 27720) (hm : m ∣ tn) : ∃ r : Nat, cT1 C p 12 tn = (r : Int) ∧ r ∣ tn ∧ m ∣ r ∧ ¬ p * m ∣ r := by
  obtain ⟨r, j, r1, r2, r3, r4⟩ := cT1_v hf hp h2 12 tn h0 (Nat.le_of_dvd (by decide) hd) hm
  refine ⟨r, r1, ⟨p ^ j, by rw [r2, Nat.mul_comm]⟩, r3, ?_⟩
  rcases r4 with q | q
  · rw [q] at r2
    exact absurd (Nat.dvd_trans ⟨r, r2⟩ hd) h12
  · exact q
theorem cT2_v {C : Int → Int} {f : Nat → Int} (hf : ∀ n : Nat, n ≤ 60000 → cLn C n = f n) {m R : Nat} (hp : ∀ t : Nat, nPer f t ↔ m ∣ t) (m0 : 0 < m) (h0 : 0 < R) (hd : R ∣ 27720) (hm : m ∣ R) : cT2 C 5 0 R = (m : Int) := by
  have pos : ∀ {a b : Nat}, a ∣ b → 0 < b → 0 < a := fun h hb => Nat.pos_of_dvd_of_pos h hb
  obtain ⟨r1, a1, b1, c1, d1⟩ := cT1_w hf hp (p := 2) (by decide) (by decide) h0 hd hm
  obtain ⟨r2, a2, b2, c2, d2⟩ := cT1_w hf hp (p := 3) (by decide) (by decide) (pos b1 h0) (Nat.dvd_trans b1 hd) c1
  have p2 := pos b2 (pos b1 h0)
  have e2 := Nat.dvd_trans b2 (Nat.dvd_trans b1 hd)
  obtain ⟨r3, a3, b3, c3, d3⟩ := cT1_w hf hp (p := 5) (by decide) (by decide) p2 e2 c2
  have p3 := pos b3 p2
  have e3 := Nat.dvd_trans b3 e2
  obtain ⟨r4, a4, b4, c4, d4⟩ := cT1_w hf hp (p := 7) (by decide) (by decide) p3 e3 c3
  have p4 := pos b4 p3
  have e4 := Nat.dvd_trans b4 e3
  obtain ⟨r5, a5, b5, c5, d5⟩ := cT1_w hf hp (p := 11) (by decide) (by decide) p4 e4 c4
  have e5 := Nat.dvd_trans b5 e4
  have step : cT2 C 5 0 R = cT1 C (cPr 4) 12 (cT1 C (cPr 3) 12 (cT1 C (cPr 2) 12 (cT1 C (cPr 1) 12 (cT1 C (cPr 0) 12 R)))) := rfl
  rw [step, show cPr 0 = ((2 : Nat) : Int) by decide, show cPr 1 = ((3 : Nat) : Int) by decide, show cPr 2 = ((5 : Nat) : Int) by decide, show cPr 3 = ((7 : Nat) : Int) by decide, show cPr 4 = ((11 : Nat) : Int) by decide, a1, a2, a3, a4, a5]
  obtain ⟨c, hc⟩ := c5
  have nd : ∀ {p q : Nat}, r5 ∣ q → ¬ p * m ∣ q → ¬ p ∣ c := fun {p q} hq hn ⟨y, hy⟩ => hn (Nat.dvd_trans ⟨y, by rw [hc, hy, ← Nat.mul_assoc, Nat.mul_comm m p]⟩ hq)
  have one : c = 1 := od_277 (Nat.dvd_trans ⟨m, by rw [hc, Nat.mul_comm]⟩ e5) (nd (Nat.dvd_trans b5 (Nat.dvd_trans b4 (Nat.dvd_trans b3 b2))) d1) (nd (Nat.dvd_trans b5 (Nat.dvd_trans b4 b3)) d2) (nd (Nat.dvd_trans b5 b4) d3) (nd b5 d4) (nd (Nat.dvd_refl _) d5)
  rw [hc, one, Nat.mul_one]
theorem od_fst_at {P : Int → Prop} : ∀ (n : Nat) (i x : Int), i ≤ x → x < i + n → P x → (∀ j : Int, i ≤ j → j < x → ¬ P j) → od_fst P n i = x := by
  intro n
  induction n with
  | zero => intro i x h0 h1; omega
  | succ n ih =>
    intro i x h0 h1 hx hn
    show od_ite (P i) i (od_fst P n (i + 1)) = x
    by_cases c : i = x
    · rw [c, od_ite_t hx]
    · rw [od_ite_f (hn i (by omega) (by omega))]
      exact ih (i + 1) x (by omega) (by omega) hx (fun j j0 j1 => hn j (by omega) j1)
section Answers5
variable {g gm : od_G} {k M : Int}
theorem StR.dv (h : StR g k (gm (M + 2))) : mRd gm M ∣ 27720 ∧ ∀ d : Int, 0 ≤ d → d < gm (M + 2) 45 → ¬ mStop gm M d → gm (M + 2) (19 + d) ∣ mRd gm M := by
  have n := h.1.2
  have z := od_rd_x (P := fun e => ¬ mStop gm M e) (L := fun e => gm (M + 2) (19 + e)) (gm (M + 2) 45).toNat 0 1 (fun e e0 e1 _ => (h.2.1 e e0 (by omega)).2.2.2.2.1) (by omega) (Int.one_dvd _)
  exact ⟨z.2.1, fun d d0 d1 s => z.2.2.2 d d0 (by omega) s⟩
theorem StR.loudR (h : StR g k (gm (M + 2))) (pl : Int → Int) (C : Int) {x : Int} (hx : 0 ≤ x ∧ x ≤ 100000) : mLoud gm M pl C x = mLoud gm M pl C (x % mRd gm M) := by
  have n := h.1.2
  have r := h.rr
  have y0 : 0 ≤ x % mRd gm M := Int.emod_nonneg _ (by omega)
  have y1 : x % mRd gm M < mRd gm M := Int.emod_lt_of_pos _ (by omega)
  have dm := Int.mul_ediv_add_emod x (mRd gm M)
  unfold mLoud
  refine od_sum_c _ (fun i i0 i1 => ?_)
  have hd : 0 ≤ i ∧ i < gm (M + 2) 45 := by omega
  have z := h.2.1 i hd.1 hd.2
  have l := z.2.2.2.2.1
  have p := z.2.2.2.2.2.1
  have eb : ¬ mStop gm M i → mBeat gm M i x = mBeat gm M i (x % mRd gm M) := fun c => by
    obtain ⟨q, hq⟩ := h.dv.2 i hd.1 hd.2 c
    unfold mBeat
    rw [od_ite_f c, od_ite_f c, od_wI (by omega) (by omega), od_wI (by omega) (by omega), Int.tmod_eq_emod_of_nonneg (by omega), Int.tmod_eq_emod_of_nonneg (by omega)]
    have e : gm (M + 2) (6 + i) + x = gm (M + 2) (6 + i) + x % mRd gm M + gm (M + 2) (19 + i) * (q * (x / mRd gm M)) := by
      rw [← Int.mul_assoc, ← hq]
      omega
    rw [e, Int.add_mul_emod_self_left]
  unfold mLd mStrikes
  by_cases c : mStop gm M i
  · rw [od_ite_f (fun q => q.1 c), od_ite_f (fun q => q.1 c)]
  · rw [eb c]
theorem e_tune (h : StR g k (gm (M + 2))) {pl : Int → Int} {C : Int} {sn : Nat} (hL : LfR g k (gm (M + 2)) pl C sn) : cTuneM g k sn = mTune gm M pl C := by
  have r := h.rr
  have hR : (((mRd gm M).toNat : Nat) : Int) = mRd gm M := by omega
  have R0 : 0 < (mRd gm M).toNat := by omega
  have hD : (mRd gm M).toNat ∣ 27720 := by
    have z := h.dv.1
    rw [← hR] at z
    exact Int.natCast_dvd_natCast.mp z
  have perR : nPer (fun n : Nat => mLoud gm M pl C ((n % (mRd gm M).toNat : Nat) : Int)) (mRd gm M).toNat := fun n => by
    show mLoud gm M pl C (((n + (mRd gm M).toNat) % (mRd gm M).toNat : Nat) : Int) = _
    rw [Nat.add_mod_right]
  obtain ⟨m, m0, m1, m2⟩ := nPer_min (mRd gm M).toNat R0 perR
  have hp := nPer_dvd m1 m2 m0
  have hf : ∀ n : Nat, n ≤ 60000 → cLn (cC g k (cLawOf g k (g k 11)) sn 1) n = mLoud gm M pl C ((n % (mRd gm M).toNat : Nat) : Int) := fun n hn => by
    rw [h.ln hL (by omega), h.loudR pl C (by omega), Int.natCast_emod, hR]
  unfold cTuneM
  rw [h.round, ← hR, cT2_v hf hp m0 R0 hD ((hp _).mp perR)]
  have iff : ∀ t : Int, 1 ≤ t → (mIsTn (mNz gm M pl C) (mRd gm M) t ↔ t.toNat ∣ (mRd gm M).toNat ∧ nPer (fun n : Nat => mLoud gm M pl C ((n % (mRd gm M).toNat : Nat) : Int)) t.toNat) := fun t ht => by
    unfold mIsTn
    have e1 : ((mRd gm M).tmod t = 0) ↔ t.toNat ∣ (mRd gm M).toNat := by
      rw [Int.tmod_eq_emod_of_nonneg (by omega)]
      constructor
      · intro q
        have z := Int.dvd_of_emod_eq_zero q
        rw [← hR, show t = ((t.toNat : Nat) : Int) by omega] at z
        exact Int.natCast_dvd_natCast.mp z
      · intro q
        have z := Int.natCast_dvd_natCast.mpr q
        rw [hR, show ((t.toNat : Nat) : Int) = t by omega] at z
        exact Int.emod_eq_zero_of_dvd z
    rw [e1]
    refine and_congr Iff.rfl ⟨fun q n => ?_, fun q x x0 x1 => ?_⟩
    · show mLoud gm M pl C (((n + t.toNat) % (mRd gm M).toNat : Nat) : Int) = mLoud gm M pl C ((n % (mRd gm M).toNat : Nat) : Int)
      have lt := Nat.mod_lt n R0
      have z := q ((n % (mRd gm M).toNat : Nat) : Int) (by omega) (by omega)
      rw [mNz_loud h.MI, mNz_loud h.MI, Int.tmod_eq_emod_of_nonneg (by omega)] at z
      rw [z]
      congr 1
      rw [Int.natCast_emod, Int.natCast_emod, hR, Int.natCast_add, show ((t.toNat : Nat) : Int) = t by omega, Int.emod_add_emod]
    · have z : mLoud gm M pl C (((x.toNat + t.toNat) % (mRd gm M).toNat : Nat) : Int) = mLoud gm M pl C ((x.toNat % (mRd gm M).toNat : Nat) : Int) := q x.toNat
      rw [mNz_loud h.MI, mNz_loud h.MI, Int.tmod_eq_emod_of_nonneg (by omega)]
      rw [Int.natCast_emod, Int.natCast_emod, hR, Int.natCast_add, show ((t.toNat : Nat) : Int) = t by omega, show ((x.toNat : Nat) : Int) = x by omega, Int.emod_eq_of_lt x0 x1] at z
      exact z.symm
  unfold mTune
  have mR : m ≤ (mRd gm M).toNat := m2 _ R0 perR
  refine (od_fst_at (mRd gm M).toNat 1 m (by omega) (by omega) ?_ (fun j j0 j1 q => ?_)).symm
  · rw [iff m (by omega), show ((m : Int)).toNat = m by omega]
    exact ⟨(hp _).mp perR, m1⟩
  · have z := ((iff j j0).mp q).2
    have := m2 j.toNat (by omega) z
    omega
end Answers5
