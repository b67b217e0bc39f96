/-! the round: who strikes, how loud -/
theorem od_c63 : ∀ a : Fin 64, ∀ b : Fin 64, od_and ((a.val + 64 * b.val : Nat) : Int) 63 = (a.val : Int) ∧ od_shr ((a.val + 64 * b.val : Nat) : Int) 6 = (b.val : Int) := by decide +kernel
theorem od_c63i {a b : Int} (ha : 0 ≤ a ∧ a < 64) (hb : 0 ≤ b ∧ b < 64) : od_and (a + 64 * b) 63 = a ∧ od_shr (a + 64 * b) 6 = b := by
  have z := od_c63 ⟨a.toNat, by omega⟩ ⟨b.toNat, by omega⟩
  have e : ((a.toNat + 64 * b.toNat : Nat) : Int) = a + 64 * b := by omega
  have ea : ((a.toNat : Nat) : Int) = a := by omega
  have eb : ((b.toNat : Nat) : Int) = b := by omega
  rw [show ((((⟨a.toNat, by omega⟩ : Fin 64).val + 64 * (⟨b.toNat, by omega⟩ : Fin 64).val : Nat)) : Int) = a + 64 * b from e, show (((⟨a.toNat, by omega⟩ : Fin 64).val : Nat) : Int) = a from ea, show (((⟨b.toNat, by omega⟩ : Fin 64).val : Nat) : Int) = b from eb] at z
  exact z
theorem od_or2 : ∀ n : Fin 6, ∀ x : Fin 64, x.val < 2 ^ n.val → od_or (x.val : Int) (od_shl 1 (n.val : Int)) = (x.val : Int) + od_shl 1 (n.val : Int) ∧ od_shl 1 (n.val : Int) = ((2 ^ n.val : Nat) : Int) := by decide +kernel
theorem od_or0f : ∀ x : Fin 64, od_or (x.val : Int) 0 = (x.val : Int) := by decide +kernel
theorem od_or0 {x : Int} (h : 0 ≤ x ∧ x < 64) : od_or x 0 = x := by
  have z : od_or ((x.toNat : Nat) : Int) 0 = ((x.toNat : Nat) : Int) := od_or0f ⟨x.toNat, by omega⟩
  rw [show ((x.toNat : Nat) : Int) = x by omega] at z
  exact z
theorem od_sum_add (f h : Int → Int) : ∀ n : Nat, od_sum (fun e => f e + 64 * h e) n = od_sum f n + 64 * od_sum h n := by
  intro n
  induction n with
  | zero => rfl
  | succ n ih =>
    show od_sum (fun e => f e + 64 * h e) n + (f n + 64 * h n) = od_sum f n + f n + 64 * (od_sum h n + h n)
    rw [ih]
    omega
section Rounds
variable {g gm : od_G} {k M : Int}
noncomputable def cBit (gm : od_G) (M h : Int) : Int → Int := fun e => od_ite (mStrikes gm M e h) (od_shl 1 e) 0
theorem mStB_sum (gm : od_G) (M h : Int) : ∀ n : Nat, n ≤ 6 → mStB gm M h n = od_sum (cBit gm M h) n ∧ 0 ≤ mStB gm M h n ∧ mStB gm M h n < ((2 ^ n : Nat) : Int) := by
  intro n
  induction n with
  | zero => intro _; exact ⟨rfl, Int.le_refl _, by show (0 : Int) < 1; omega⟩
  | succ n ih =>
    intro hn
    obtain ⟨e1, e2, e3⟩ := ih (by omega)
    have p6 : (2 : Nat) ^ n ≤ 2 ^ 5 := Nat.pow_le_pow_right (by decide) (by omega)
    have p1 : (2 : Nat) ^ (n + 1) = 2 * 2 ^ n := by rw [Nat.pow_succ, Nat.mul_comm]
    have z := od_or2 ⟨n, by omega⟩ ⟨(mStB gm M h n).toNat, by omega⟩ (by show (mStB gm M h n).toNat < 2 ^ n; omega)
    have ez : (((mStB gm M h n).toNat : Nat) : Int) = mStB gm M h n := by omega
    have z1 : od_or (((mStB gm M h n).toNat : Nat) : Int) (od_shl 1 (n : Int)) = (((mStB gm M h n).toNat : Nat) : Int) + od_shl 1 (n : Int) := z.1
    have z2 : od_shl 1 (n : Int) = ((2 ^ n : Nat) : Int) := z.2
    rw [ez] at z1
    show od_or (mStB gm M h n) (od_ite (mStrikes gm M n h) (od_shl 1 n) 0) = od_sum (cBit gm M h) n + cBit gm M h n ∧ 0 ≤ od_or (mStB gm M h n) (od_ite (mStrikes gm M n h) (od_shl 1 n) 0) ∧ od_or (mStB gm M h n) (od_ite (mStrikes gm M n h) (od_shl 1 n) 0) < ((2 ^ (n + 1) : Nat) : Int)
    rw [p1, ← e1, show cBit gm M h n = od_ite (mStrikes gm M n h) (od_shl 1 n) 0 from rfl]
    by_cases c : mStrikes gm M n h
    · rw [od_ite_t c, z1]
      exact ⟨rfl, by omega, by omega⟩
    · rw [od_ite_f c]
      have w0 : od_or (mStB gm M h n) 0 = mStB gm M h n := od_or0 ⟨e2, by omega⟩
      rw [w0]
      exact ⟨by omega, e2, by omega⟩
theorem mStN_sum (gm : od_G) (M h : Int) (hn : 0 ≤ gm (M + 2) 45 ∧ gm (M + 2) 45 ≤ 6) : mStN gm M h = od_sum (cBit gm M h) (gm (M + 2) 45).toNat ∧ 0 ≤ mStN gm M h ∧ mStN gm M h < 64 := by
  obtain ⟨a, b, c⟩ := mStB_sum gm M h (gm (M + 2) 45).toNat (by omega)
  have p6 : (2 : Nat) ^ (gm (M + 2) 45).toNat ≤ 2 ^ 6 := Nat.pow_le_pow_right (by decide) (by omega)
  unfold mStN
  exact ⟨a, b, by omega⟩
theorem StR.cell (h : StR g k (gm (M + 2))) {x : Int} (hx : 0 ≤ x ∧ x ≤ 100000) (t : Int) (sn : Nat) (ws : Int) : cC g k t sn ws x = mStN gm M x + 64 * od_sum (fun e => od_ite (mStrikes gm M e x) (od_ite (ws = 1) (cSound g k t e (mBeat gm M e x) sn) 0) 0) (gm (M + 2) 45).toNat := by
  rw [(mStN_sum gm M x h.1.2).1, ← od_sum_add]
  unfold cC
  rw [h.1.1]
  refine od_sum_c _ (fun i i0 i1 => ?_)
  have hd : 0 ≤ i ∧ i < gm (M + 2) 45 := by have := h.1.2; omega
  unfold cF cBit
  rw [show cStrikes g k i x = mStrikes gm M i x from propext (h.strikes hd hx), h.beat hd]
  by_cases c : mStrikes gm M i x
  · rw [od_ite_t c, od_ite_t c, od_ite_t c]
  · rw [od_ite_f c, od_ite_f c, od_ite_f c]
    rfl
theorem StR.cell_b (h : StR g k (gm (M + 2))) (x t : Int) (sn : Nat) (ws : Int) : 0 ≤ od_sum (fun e => od_ite (mStrikes gm M e x) (od_ite (ws = 1) (cSound g k t e (mBeat gm M e x) sn) 0) 0) (gm (M + 2) 45).toNat ∧ od_sum (fun e => od_ite (mStrikes gm M e x) (od_ite (ws = 1) (cSound g k t e (mBeat gm M e x) sn) 0) 0) (gm (M + 2) 45).toNat < 64 := by
  have n := h.1.2
  have z := od_sum_b (f := fun e => od_ite (mStrikes gm M e x) (od_ite (ws = 1) (cSound g k t e (mBeat gm M e x) sn) 0) 0) (m := 9) (gm (M + 2) 45).toNat (fun i _ _ => by
    have s := cSound_b g k t i (mBeat gm M i x) sn
    by_cases c : mStrikes gm M i x
    · rw [od_ite_t c]
      by_cases c2 : ws = 1
      · rw [od_ite_t c2]; exact s
      · rw [od_ite_f c2]; omega
    · rw [od_ite_f c]; omega)
  omega
theorem StR.bt (h : StR g k (gm (M + 2))) {x : Int} (hx : 0 ≤ x ∧ x ≤ 100000) (t : Int) (sn : Nat) (ws : Int) : cBt (cC g k t sn ws) x = mStN gm M x := by
  unfold cBt
  rw [h.cell hx]
  exact (od_c63i (mStN_sum gm M x h.1.2).2 (h.cell_b x t sn ws)).1
theorem StR.ln (h : StR g k (gm (M + 2))) {pl : Int → Int} {C : Int} {sn : Nat} (hL : LfR g k (gm (M + 2)) pl C sn) {x : Int} (hx : 0 ≤ x ∧ x ≤ 100000) : cLn (cC g k (cLawOf g k (g k 11)) sn 1) x = mLoud gm M pl C x := by
  unfold cLn
  rw [h.cell hx, (od_c63i (mStN_sum gm M x h.1.2).2 (h.cell_b x _ sn 1)).2]
  unfold mLoud
  refine od_sum_c _ (fun i i0 i1 => ?_)
  have hd : 0 ≤ i ∧ i < gm (M + 2) 45 := by have := h.1.2; omega
  have bb := h.beat_b hd hx
  have l := (h.2.1 i hd.1 hd.2).2.2.2.2.1
  unfold mLd
  rw [od_ite_t (P := (1 : Int) = 1) rfl, h.sound hd (by omega) hL]
theorem StR.set (h : StR g k (gm (M + 2))) (s : Int) : cHasAll g k s ↔ mIsSet gm M s := by
  unfold cHasAll mIsSet mLies
  rw [h.1.1]
  have n := h.1.2
  rcases (show gm (M + 2) 45 = 0 ∨ gm (M + 2) 45 = 1 ∨ gm (M + 2) 45 = 2 ∨ gm (M + 2) 45 = 3 ∨ gm (M + 2) 45 = 4 ∨ gm (M + 2) 45 = 5 ∨ gm (M + 2) 45 = 6 by omega) with e | e | e | e | e | e | e <;> rw [e] <;> first
    | (rw [show od_shl 1 0 = 1 from by decide, show od_w (1 - 1) = 0 from by decide]; omega)
    | (rw [show od_shl 1 1 = 2 from by decide, show od_w (2 - 1) = 1 from by decide]; omega)
    | (rw [show od_shl 1 2 = 4 from by decide, show od_w (4 - 1) = 3 from by decide]; omega)
    | (rw [show od_shl 1 3 = 8 from by decide, show od_w (8 - 1) = 7 from by decide]; omega)
    | (rw [show od_shl 1 4 = 16 from by decide, show od_w (16 - 1) = 15 from by decide]; omega)
    | (rw [show od_shl 1 5 = 32 from by decide, show od_w (32 - 1) = 31 from by decide]; omega)
    | (rw [show od_shl 1 6 = 64 from by decide, show od_w (64 - 1) = 63 from by decide]; omega)
theorem od_ite_c {P Q : Prop} {x y x' y' : Int} (h : P ↔ Q) (hx : P → x = x') (hy : y = y') : od_ite P x y = od_ite Q x' y' := by
  by_cases c : P
  · rw [od_ite_t c, od_ite_t (h.mp c), hx c]
  · rw [od_ite_f c, od_ite_f (fun q => c (h.mpr q)), hy]
theorem StR.rr (h : StR g k (gm (M + 2))) : 1 ≤ mRd gm M ∧ mRd gm M ≤ 27720 := mRd_b h.MI
theorem e_when (h : StR g k (gm (M + 2))) (s : Int) : cWhenM g k s = od_ite (mIsSet gm M s) (mWhen gm M s) (-1) := by
  have r := h.rr
  unfold cWhenM mWhen
  refine od_ite_c (h.set s) (fun _ => ?_) rfl
  rw [h.round]
  exact od_fst_c _ _ (fun e e0 e1 => by rw [h.bt (by omega)])
theorem e_often (h : StR g k (gm (M + 2))) (s : Int) : cOftenM g k s = od_ite (mIsSet gm M s) (mOften gm M s) (-1) := by
  have r := h.rr
  unfold cOftenM mOften od_cnt
  refine od_ite_c (h.set s) (fun _ => ?_) rfl
  rw [h.round]
  exact od_sum_c _ (fun e e0 e1 => by rw [h.bt (by omega)])
theorem od_and63 : ∀ a : Fin 64, od_and (a.val : Int) 63 = (a.val : Int) := by decide +kernel
theorem e_alone (h : StR g k (gm (M + 2))) (d : Int) : cAloneM g k d = od_ite (mDr gm M d) (mAlone gm M d) (-1) := by
  have r := h.rr
  unfold cAloneM mAlone od_cnt
  refine od_ite_c (h.hasD d) (fun _ => ?_) rfl
  rw [h.round]
  refine od_sum_c _ (fun e e0 e1 => ?_)
  have z := mStN_sum gm M e h.1.2
  have w := od_and63 ⟨(mStN gm M e).toNat, by omega⟩
  have w1 : od_and (((mStN gm M e).toNat : Nat) : Int) 63 = (((mStN gm M e).toNat : Nat) : Int) := w
  rw [show (((mStN gm M e).toNat : Nat) : Int) = mStN gm M e by omega] at w1
  rw [h.bt (by omega), w1]
end Rounds
