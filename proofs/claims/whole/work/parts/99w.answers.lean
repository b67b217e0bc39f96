/-! answers are alike: most, least -/
theorem od_sum_one {c x : Int} : ∀ L : Nat, od_sum (fun b => od_ite (b = c) x 0) L = od_ite (0 ≤ c ∧ c < L) x 0 := by
  intro L
  induction L with
  | zero =>
    show (0 : Int) = _
    rw [od_ite_f (by omega)]
  | succ L ih =>
    show od_sum (fun b => od_ite (b = c) x 0) L + od_ite ((L : Int) = c) x 0 = _
    rw [ih]
    by_cases c1 : (L : Int) = c
    · rw [od_ite_f (by omega), od_ite_t c1, od_ite_t (by omega)]
      omega
    · by_cases c2 : 0 ≤ c ∧ c < L
      · rw [od_ite_t c2, od_ite_f c1, od_ite_t (by omega)]
        omega
      · rw [od_ite_f c2, od_ite_f c1, od_ite_f (by omega)]
        rfl
theorem od_sum_ad (f h : Int → Int) : ∀ n : Nat, od_sum (fun e => f e + h e) n = od_sum f n + od_sum h n := by
  intro n
  induction n with
  | zero => rfl
  | succ n ih =>
    show od_sum (fun e => f e + h e) n + (f n + h n) = od_sum f n + f n + (od_sum h n + h n)
    rw [ih]
    omega
theorem od_sum_0 {f : Int → Int} : ∀ n : Nat, (∀ i : Int, 0 ≤ i → i < n → f i = 0) → od_sum f n = 0 := fun n h => by
  rw [od_sum_c n (h := fun _ => 0) h]
  induction n with
  | zero => rfl
  | succ n ih =>
    show od_sum (fun _ => 0) n + 0 = 0
    rw [ih (fun i i0 i1 => h i i0 (by omega))]
    rfl
/-- counted by beats, and hour by hour -/
theorem od_two (F : Int → Prop) (A : Int → Prop) (β : Int → Int) (L : Nat) : ∀ H : Nat, (∀ x : Int, 0 ≤ x → x < H → 0 ≤ β x ∧ β x < L) → od_sum (fun b => od_ite (F b) (od_sum (fun x => od_b (A x ∧ β x = b)) H) 0) L = od_sum (fun x => od_b (F (β x) ∧ A x)) H := by
  intro H
  induction H with
  | zero =>
    intro _
    show _ = (0 : Int)
    refine od_sum_0 L (fun i _ _ => ?_)
    by_cases c : F i
    · rw [od_ite_t c]; rfl
    · rw [od_ite_f c]
  | succ H ih =>
    intro hb
    have z := ih (fun x x0 x1 => hb x x0 (by omega))
    have zb := hb H (by omega) (by omega)
    have e1 : od_sum (fun b => od_ite (F b) (od_sum (fun x => od_b (A x ∧ β x = b)) (H + 1)) 0) L = od_sum (fun b => od_ite (F b) (od_sum (fun x => od_b (A x ∧ β x = b)) H) 0 + od_ite (b = β H) (od_b (F (β H) ∧ A H)) 0) L := by
      refine od_sum_c L (fun b _ _ => ?_)
      show od_ite (F b) (od_sum (fun x => od_b (A x ∧ β x = b)) H + od_b (A H ∧ β H = b)) 0 = _
      by_cases c : F b
      · rw [od_ite_t c, od_ite_t c]
        by_cases cb : b = β H
        · rw [od_ite_t cb, ← cb]
          by_cases ca : A H
          · rw [od_b_t ⟨ca, rfl⟩, od_b_t ⟨c, ca⟩]
          · rw [od_b_f (fun q => ca q.1), od_b_f (fun q => ca q.2)]
        · rw [od_ite_f cb, od_b_f (fun q => cb q.2.symm)]
      · rw [od_ite_f c, od_ite_f c]
        by_cases cb : b = β H
        · rw [od_ite_t cb, od_b_f (fun q => c (by rw [cb]; exact q.1))]
          rfl
        · rw [od_ite_f cb]
          rfl
    rw [e1, od_sum_ad, z, od_sum_one, od_ite_t zb]
    rfl
theorem od_mask : ∀ d : Fin 6, ∀ x : Fin 64, od_and (x.val : Int) (od_w (63 - od_shl 1 (d.val : Int))) = od_and (x.val : Int) (od_xor (od_shl 1 (d.val : Int)) (-1)) := by decide +kernel
theorem od_maski {d x : Int} (hd : 0 ≤ d ∧ d < 6) (hx : 0 ≤ x ∧ x < 64) : od_and x (od_w (63 - od_shl 1 d)) = od_and x (od_xor (od_shl 1 d) (-1)) := by
  have z : od_and ((x.toNat : Nat) : Int) (od_w (63 - od_shl 1 ((d.toNat : Nat) : Int))) = od_and ((x.toNat : Nat) : Int) (od_xor (od_shl 1 ((d.toNat : Nat) : Int)) (-1)) := od_mask ⟨d.toNat, by omega⟩ ⟨x.toNat, by omega⟩
  rw [show ((x.toNat : Nat) : Int) = x by omega, show ((d.toNat : Nat) : Int) = d by omega] at z
  exact z
theorem cBs_mx {T : Int → Int} : ∀ n : Nat, (∀ i : Int, 0 ≤ i → i < n + 1 → 0 ≤ T i) → cBs 1 T (n + 1) = ((od_mx T (n + 1)).2, (od_mx T (n + 1)).1) ∧ 0 ≤ (od_mx T (n + 1)).2 := by
  intro n
  induction n with
  | zero =>
    intro h
    have z := h 0 (by omega) (by omega)
    have e1 : cBs 1 T 1 = (0, T 0) := rfl
    have e2 : od_mx T 1 = if (-1 : Int) < T 0 then (T 0, 0) else (-1, 0) := rfl
    show cBs 1 T 1 = ((od_mx T 1).2, (od_mx T 1).1) ∧ 0 ≤ (od_mx T 1).2
    rw [e1, e2, if_pos (by omega)]
    exact ⟨rfl, Int.le_refl _⟩
  | succ n ih =>
    intro h
    obtain ⟨i1, i2⟩ := ih (fun i i0 i1 => h i i0 (by omega))
    have e1 : cBs 1 T (n + 1 + 1) = if (cBs 1 T (n + 1)).1 = -1 ∨ ((1 : Int) ≠ 0 ∧ (cBs 1 T (n + 1)).2 < T ((n + 1 : Nat) : Int)) ∨ ((1 : Int) = 0 ∧ T ((n + 1 : Nat) : Int) < (cBs 1 T (n + 1)).2) then (((n + 1 : Nat) : Int), T ((n + 1 : Nat) : Int)) else cBs 1 T (n + 1) := rfl
    have e2 : od_mx T (n + 1 + 1) = if (od_mx T (n + 1)).1 < T ((n + 1 : Nat) : Int) then (T ((n + 1 : Nat) : Int), ((n + 1 : Nat) : Int)) else od_mx T (n + 1) := rfl
    rw [e1, e2, i1]
    dsimp only
    by_cases c : (od_mx T (n + 1)).1 < T ((n + 1 : Nat) : Int)
    · rw [if_pos (Or.inr (Or.inl ⟨by decide, c⟩)), if_pos c]
      exact ⟨rfl, by show 0 ≤ ((n + 1 : Nat) : Int); omega⟩
    · rw [if_neg (by omega), if_neg c]
      exact ⟨rfl, i2⟩
theorem cBs_mn {T : Int → Int} : ∀ n : Nat, (∀ i : Int, 0 ≤ i → i < n + 1 → T i < 1000000) → cBs 0 T (n + 1) = ((od_mn 1000000 T (n + 1)).2, (od_mn 1000000 T (n + 1)).1) ∧ 0 ≤ (od_mn 1000000 T (n + 1)).2 := by
  intro n
  induction n with
  | zero =>
    intro h
    have z := h 0 (by omega) (by omega)
    have e1 : cBs 0 T 1 = (0, T 0) := rfl
    have e2 : od_mn 1000000 T 1 = if T 0 < 1000000 then (T 0, 0) else (1000000, 0) := rfl
    show cBs 0 T 1 = ((od_mn 1000000 T 1).2, (od_mn 1000000 T 1).1) ∧ 0 ≤ (od_mn 1000000 T 1).2
    rw [e1, e2, if_pos z]
    exact ⟨rfl, Int.le_refl _⟩
  | succ n ih =>
    intro h
    obtain ⟨i1, i2⟩ := ih (fun i i0 i1 => h i i0 (by omega))
    have e1 : cBs 0 T (n + 1 + 1) = if (cBs 0 T (n + 1)).1 = -1 ∨ ((0 : Int) ≠ 0 ∧ (cBs 0 T (n + 1)).2 < T ((n + 1 : Nat) : Int)) ∨ ((0 : Int) = 0 ∧ T ((n + 1 : Nat) : Int) < (cBs 0 T (n + 1)).2) then (((n + 1 : Nat) : Int), T ((n + 1 : Nat) : Int)) else cBs 0 T (n + 1) := rfl
    have e2 : od_mn 1000000 T (n + 1 + 1) = if T ((n + 1 : Nat) : Int) < (od_mn 1000000 T (n + 1)).1 then (T ((n + 1 : Nat) : Int), ((n + 1 : Nat) : Int)) else od_mn 1000000 T (n + 1) := rfl
    rw [e1, e2, i1]
    dsimp only
    by_cases c : T ((n + 1 : Nat) : Int) < (od_mn 1000000 T (n + 1)).1
    · rw [if_pos (Or.inr (Or.inr ⟨rfl, c⟩)), if_pos c]
      exact ⟨rfl, by show 0 ≤ ((n + 1 : Nat) : Int); omega⟩
    · rw [if_neg (by omega), if_neg c]
      exact ⟨rfl, i2⟩
theorem cBs_c {wm : Int} {T S : Int → Int} : ∀ n : Nat, (∀ i : Int, 0 ≤ i → i < n → T i = S i) → cBs wm T n = cBs wm S n := by
  intro n
  induction n with
  | zero => intro _; rfl
  | succ n ih =>
    intro h
    unfold cBs
    rw [ih (fun i i0 i1 => h i i0 (by omega)), h n (by omega) (by omega)]
theorem od_tmm {a b L : Int} (ha : 0 ≤ a) (hb : 0 ≤ b) (hL : 1 ≤ L) : (a.tmod L + b).tmod L = (a + b).tmod L := by
  have z := Int.tmod_eq_emod_of_nonneg (b := L) ha
  have y : 0 ≤ a % L := Int.emod_nonneg _ (by omega)
  rw [z, Int.tmod_eq_emod_of_nonneg (by omega), Int.tmod_eq_emod_of_nonneg (by omega), Int.emod_add_emod]
section Answers3
variable {g gm : od_G} {k M : Int}
theorem StR.meet (h : StR g k (gm (M + 2))) {d : Int} (hd : 0 ≤ d ∧ d < gm (M + 2) 45) {a : Int} (ha : 0 ≤ a ∧ a < 12) : cTm g k d (cMt (cC g k (-1) 0 0) (mRd gm M) (g (k + 3) d) (g (k + 1) d) (od_w (63 - od_shl 1 d))) (g (k + 1) d) a = mTog gm M d a := by
  have n := h.1.2
  have z := h.2.1 d hd.1 hd.2
  have l := z.2.2.2.2.1
  have p := z.2.2.2.2.2.1
  have r := h.rr
  rw [z.1, z.2.2.1]
  unfold cTm cMt mTog od_cnt
  have key := od_two (fun b => ¬ cStop g k d ∧ cHasPin g k d ((b + a).tmod (gm (M + 2) (19 + d)))) (fun x => od_and (cBt (cC g k (-1) 0 0) x) (od_w (63 - od_shl 1 d)) ≠ 0) (fun x => (gm (M + 2) (6 + d) + x).tmod (gm (M + 2) (19 + d))) (gm (M + 2) (19 + d)).toNat (mRd gm M).toNat (fun x x0 x1 => by
    have q := od_rol p.1 x0 l.1
    omega)
  refine key.trans (od_sum_c _ (fun x x0 x1 => ?_))
  (try dsimp only)
  have hx : 0 ≤ x + a ∧ x + a ≤ 100000 := by omega
  have s := mStN_sum gm M x h.1.2
  rw [h.bt (by omega), od_maski (by omega) s.2]
  unfold mTogP mStrikes
  by_cases c : mStop gm M d
  · rw [od_b_f (fun q => q.1.1 ((h.stop hd).mpr c)), od_b_f (fun q => q.1.1 c)]
  · have eb : mBeat gm M d (x + a) = ((gm (M + 2) (6 + d) + x).tmod (gm (M + 2) (19 + d)) + a).tmod (gm (M + 2) (19 + d)) := by
      unfold mBeat
      rw [od_ite_f c, od_wI (by omega) (by omega), od_tmm (by omega) ha.1 l.1]
      congr 1
      omega
    have bb := h.beat_b hd hx
    rw [← eb, show (¬ cStop g k d ∧ cHasPin g k d (mBeat gm M d (x + a))) = (¬ mStop gm M d ∧ mPin gm M d (mBeat gm M d (x + a))) from propext (by rw [h.stop hd, h.pin hd bb])]
theorem mTog_b (gm : od_G) (M d a : Int) (r : 1 ≤ mRd gm M ∧ mRd gm M ≤ 27720) : 0 ≤ mTog gm M d a ∧ mTog gm M d a ≤ 27720 := by
  unfold mTog od_cnt
  have z := od_sum_b (f := fun x => od_b (mTogP gm M d a x)) (m := 1) (mRd gm M).toNat (fun i _ _ => od_b_r _)
  omega
theorem StR.best (h : StR g k (gm (M + 2))) {d : Int} (hd : 0 ≤ d ∧ d < gm (M + 2) 45) (wm : Int) : cBs wm (cTm g k d (cMt (cC g k (-1) 0 0) (cRound g k 0 6) (g (k + 3) d) (g (k + 1) d) (od_w (63 - od_shl 1 d))) (g (k + 1) d)) (g (k + 1) d).toNat = cBs wm (mTog gm M d) (gm (M + 2) (19 + d)).toNat := by
  have z := h.2.1 d hd.1 hd.2
  have l := z.2.2.2.2.1
  rw [h.round]
  rw [cBs_c (g (k + 1) d).toNat (S := mTog gm M d) (fun i i0 i1 => h.meet hd (by have := z.1; omega)), z.1]
theorem e_most (h : StR g k (gm (M + 2))) (d w : Int) : cBsM g k d 1 w = od_ite (mDr gm M d ∧ mLies w 0 1) (mMost gm M d w) (-1) := by
  unfold cBsM
  refine od_ite_c (by rw [h.hasD]; unfold mLies; exact Iff.rfl) (fun q => ?_) rfl
  have hd := (h.has d).mp q.1
  have l := (h.2.1 d hd.1 hd.2).2.2.2.2.1
  rw [h.best hd]
  obtain ⟨m, hm⟩ : ∃ m, (gm (M + 2) (19 + d)).toNat = m + 1 := ⟨(gm (M + 2) (19 + d)).toNat - 1, by omega⟩
  unfold mMost od_sel
  rw [hm, (cBs_mx m (fun i _ _ => (mTog_b gm M d i h.rr).1)).1]
theorem e_least (h : StR g k (gm (M + 2))) (d w : Int) : cBsM g k d 0 w = od_ite (mDr gm M d ∧ mLies w 0 1) (mLeast gm M d w) (-1) := by
  unfold cBsM
  refine od_ite_c (by rw [h.hasD]; unfold mLies; exact Iff.rfl) (fun q => ?_) rfl
  have hd := (h.has d).mp q.1
  have l := (h.2.1 d hd.1 hd.2).2.2.2.2.1
  rw [h.best hd]
  obtain ⟨m, hm⟩ : ∃ m, (gm (M + 2) (19 + d)).toNat = m + 1 := ⟨(gm (M + 2) (19 + d)).toNat - 1, by omega⟩
  unfold mLeast od_sel
  rw [hm, (cBs_mn m (fun i _ _ => by have := (mTog_b gm M d i h.rr).2; omega)).1]
end Answers3
