/-! answers are alike -/
theorem od_or_z {x : Int} (h : od_r32 x) : od_or x 0 = x := by
  unfold od_or
  rw [od_i0, Int32.or_zero, od_ti h]
theorem od_set_r32 (P : Int → Prop) (n : Nat) : od_r32 (od_set P n) := by
  cases n with
  | zero => exact od_r0
  | succ n => exact od_it _
theorem od_bit_v (s j : Int) : od_and (od_shr s j) 1 = od_b (od_bit s j) := by
  by_cases c : od_bit s j
  · rw [od_b_t c]
    exact mIn_bit.mpr c
  · rw [od_b_f c]
    unfold od_bit at c
    omega
theorem od_sum_z {f : Int → Int} (a : Nat) : ∀ b : Nat, (∀ i : Int, (a : Int) ≤ i → i < a + b → f i = 0) → od_sum f (a + b) = od_sum f a := by
  intro b
  induction b with
  | zero => intro _; rfl
  | succ b ih =>
    intro h
    show od_sum f (a + b) + f ((a + b : Nat) : Int) = _
    rw [ih (fun i i0 i1 => h i i0 (by omega)), h ((a + b : Nat) : Int) (by omega) (by omega)]
    omega
theorem od_sum_pq (P Q : Int → Prop) : ∀ n : Nat, od_sum (fun d => od_b (P d ∧ Q d)) n + od_sum (fun d => od_b (P d ∧ ¬ Q d)) n = od_sum (fun d => od_b (P d)) n := by
  intro n
  induction n with
  | zero => rfl
  | succ n ih =>
    have e : od_b (P n ∧ Q n) + od_b (P n ∧ ¬ Q n) = od_b (P n) := by
      by_cases c1 : P n
      · by_cases c2 : Q n
        · rw [od_b_t ⟨c1, c2⟩, od_b_f (fun z => z.2 c2), od_b_t c1]; rfl
        · rw [od_b_f (fun z => c2 z.2), od_b_t ⟨c1, c2⟩, od_b_t c1]; rfl
      · rw [od_b_f (fun z => c1 z.1), od_b_f (fun z => c1 z.1), od_b_f c1]; rfl
    show od_sum (fun d => od_b (P d ∧ Q d)) n + od_b (P n ∧ Q n) + (od_sum (fun d => od_b (P d ∧ ¬ Q d)) n + od_b (P n ∧ ¬ Q n)) = od_sum (fun d => od_b (P d)) n + od_b (P n)
    omega
theorem od_ml_eq {F G : Int → Int} {n : Nat} (h : ∀ i : Int, 0 ≤ i → i < n → G i = F i ∧ F i < 7) : ∀ m : Nat, m + 1 ≤ n → od_ml 7 0 G (m + 1) = od_ml 1000000 (-1) F (m + 1) ∧ 0 ≤ (od_ml 1000000 (-1) F (m + 1)).2 := by
  intro m
  induction m with
  | zero =>
    intro hm
    have z := h 0 (by omega) (by omega)
    have e1 : od_ml 7 0 G 1 = if G 0 < 7 then (G 0, 0) else (7, 0) := rfl
    have e2 : od_ml 1000000 (-1) F 1 = if F 0 < 1000000 then (F 0, 0) else (1000000, -1) := rfl
    show od_ml 7 0 G 1 = od_ml 1000000 (-1) F 1 ∧ 0 ≤ (od_ml 1000000 (-1) F 1).2
    rw [e1, e2, z.1, if_pos z.2, if_pos (by omega)]
    exact ⟨rfl, Int.le_refl _⟩
  | succ m ih =>
    intro hm
    obtain ⟨i1, i2⟩ := ih (by omega)
    have z := h ((m + 1 : Nat) : Int) (by omega) (by omega)
    have e1 : od_ml 7 0 G (m + 1 + 1) = if G ((m + 1 : Nat) : Int) < (od_ml 7 0 G (m + 1)).1 then (G ((m + 1 : Nat) : Int), ((m + 1 : Nat) : Int)) else od_ml 7 0 G (m + 1) := rfl
    have e2 : od_ml 1000000 (-1) F (m + 1 + 1) = if F ((m + 1 : Nat) : Int) < (od_ml 1000000 (-1) F (m + 1)).1 then (F ((m + 1 : Nat) : Int), ((m + 1 : Nat) : Int)) else od_ml 1000000 (-1) F (m + 1) := rfl
    rw [e1, e2, z.1, i1]
    refine ⟨rfl, ?_⟩
    split
    · show 0 ≤ ((m + 1 : Nat) : Int)
      omega
    · exact i2
section Answers
variable {g gm : od_G} {k M : Int}
theorem od_ld_f0 {F : Int → Int} (a b : Int) (h0 : 0 ≤ F 0) : ∀ n : Nat, od_ld F a (n + 1) = od_ld F b (n + 1) := by
  intro n
  induction n with
  | zero =>
    show (if (-1 : Int) < F ((0 : Nat) : Int) then _ else _) = (if (-1 : Int) < F ((0 : Nat) : Int) then _ else _)
    rw [if_pos (show (-1 : Int) < F ((0 : Nat) : Int) by show (-1 : Int) < F 0; omega), if_pos (show (-1 : Int) < F ((0 : Nat) : Int) by show (-1 : Int) < F 0; omega)]
  | succ n ih =>
    have e1 : od_ld F a (n + 1 + 1) = (if (od_ld F a (n + 1)).1 < F ((n + 1 : Nat) : Int) then (F ((n + 1 : Nat) : Int), ((n + 1 : Nat) : Int), 1) else if F ((n + 1 : Nat) : Int) = (od_ld F a (n + 1)).1 then ((od_ld F a (n + 1)).1, (od_ld F a (n + 1)).2.1, (od_ld F a (n + 1)).2.2 + 1) else od_ld F a (n + 1)) := rfl
    have e2 : od_ld F b (n + 1 + 1) = (if (od_ld F b (n + 1)).1 < F ((n + 1 : Nat) : Int) then (F ((n + 1 : Nat) : Int), ((n + 1 : Nat) : Int), 1) else if F ((n + 1 : Nat) : Int) = (od_ld F b (n + 1)).1 then ((od_ld F b (n + 1)).1, (od_ld F b (n + 1)).2.1, (od_ld F b (n + 1)).2.2 + 1) else od_ld F b (n + 1)) := rfl
    rw [e1, e2, ih]
theorem e_loudest (h : StR g k (gm (M + 2))) {pl : Int → Int} {C : Int} {sn : Nat} (hL : LfR g k (gm (M + 2)) pl C sn) (w : Int) : cLoudestM g k sn w = od_ite (mLies w 0 2) (mLdst gm M pl C w) (-1) := by
  have r := h.rr
  unfold cLoudestM mLdst
  refine od_ite_c (by unfold mLies; exact Iff.rfl) (fun _ => ?_) rfl
  rw [h.round]
  congr 1
  rw [od_ld_c 0 (mRd gm M).toNat (G := mNz gm M pl C) (fun i i0 i1 => by rw [h.ln hL (by omega), mNz_loud h.MI])]
  obtain ⟨n, hn⟩ : ∃ n, (mRd gm M).toNat = n + 1 := ⟨(mRd gm M).toNat - 1, by omega⟩
  rw [hn]
  exact od_ld_f0 0 (-1) (by rw [mNz_loud h.MI]; exact mLoud_b gm M pl C 0) n
theorem e_loud (h : StR g k (gm (M + 2))) {pl : Int → Int} {C : Int} {sn : Nat} (hL : LfR g k (gm (M + 2)) pl C sn) (x : Int) : cLoudM g k sn x = od_ite (mLies x 0 30000) (mLoud gm M pl C x) (-1) := by
  unfold cLoudM
  exact od_ite_c (by unfold mLies; exact Iff.rfl) (fun q => h.loud hL (by omega)) rfl
theorem StR.stopV (h : StR g k (gm (M + 2))) {d : Int} (hd : 0 ≤ d ∧ d < gm (M + 2) 45) : od_b (cStop g k d) = gm (M + 2) (12 + d) := by
  have z := (h.2.1 d hd.1 hd.2).2.2.2.2.2.2.1
  rw [show cStop g k d = mStop gm M d from propext (h.stop hd)]
  unfold mStop
  by_cases c : gm (M + 2) (12 + d) = 1
  · rw [od_b_t c, c]
  · rw [od_b_f c]; omega
theorem e_of (h : StR g k (gm (M + 2))) (d w : Int) : cOfM g k d w = od_ite (mDr gm M d) (mOf gm M d w) (-1) := by
  unfold cOfM mOf
  refine od_ite_c (h.hasD d) (fun q => ?_) rfl
  have hd := (h.has d).mp q
  have z := h.2.1 d hd.1 hd.2
  rw [z.1, z.2.1, z.2.2.1, z.2.2.2.1, h.stopV hd, show cStrikes g k d 0 = mStrikes gm M d 0 from propext (h.strikes hd (by omega))]
theorem e_asks (h : StR g k (gm (M + 2))) {pl : Int → Int} {C : Int} {sn : Nat} (hL : LfR g k (gm (M + 2)) pl C sn) (d b w : Int) : cAsksM g k sn d b w = od_ite (mDr gm M d ∧ mBeatL gm M d b) (mAsks gm M pl C d b w) (-1) := by
  unfold cAsksM
  by_cases c : mDr gm M d ∧ mBeatL gm M d b
  · have hd := (h.has d).mp ((h.hasD d).mpr c.1)
    have l := (h.2.1 d hd.1 hd.2).2.2.2.2.1
    have cb := c.2
    unfold mBeatL mLies at cb
    rw [od_ite_t c]
    unfold mAsks
    by_cases cw : 0 ≤ w ∧ w ≤ 2
    · rw [od_ite_t ⟨(h.hb hd b).mpr c.2, cw.1, cw.2⟩]
      by_cases c0 : w = 0
      · rw [if_pos c0, if_pos c0, h.sound hd (by omega) hL]
      · rw [if_neg c0, if_neg c0, show cHolds g k (cLawOf g k (g k 11)) d b sn w = mNow (gm (M + 2)) pl C w d b from propext (h.holds hd (by omega) hL c0)]
        by_cases c1 : w = 1
        · rw [if_pos c1, c1]
        · rw [if_neg c1, if_pos (by omega), show w = 2 by omega]
    · rw [od_ite_f (fun z => cw z.2), if_neg (by omega), if_neg (by omega), if_neg (by omega)]
  · rw [od_ite_f c, od_ite_f (fun z => c ?_)]
    have hc := z.1.1
    exact ⟨(h.hasD d).mp hc, (h.hb ((h.has d).mp hc) b).mp z.1⟩
theorem StR.fit (h : StR g k (gm (M + 2))) {d : Int} (hd : 0 ≤ d ∧ d < gm (M + 2) 45) : cFit g k d (g k 12) ↔ mSo gm M d := by
  unfold cFit mSo mSoI
  rw [h.2.2.2.2.2.2.2.1.1]
  refine ⟨fun q i i0 i1 => ?_, fun q i i0 i1 => ?_⟩
  · have z := h.2.2.2.2.2.2.2.2 i i0 i1
    have y := q i i0 i1
    rw [z.1, z.2.1, show cStrikes g k d (gm (M + 2) (31 + 2 * i)) = mStrikes gm M d (gm (M + 2) (31 + 2 * i)) from propext (h.strikes hd (by omega))] at y
    by_cases c : mStrikes gm M d (gm (M + 2) (31 + 2 * i))
    · rw [od_b_t c] at y
      exact ⟨fun _ => y.symm, fun _ => c⟩
    · rw [od_b_f c] at y
      exact ⟨fun x => absurd x c, fun x => by omega⟩
  · have z := h.2.2.2.2.2.2.2.2 i i0 i1
    have y := q i i0 i1
    rw [z.1, z.2.1, show cStrikes g k d (gm (M + 2) (31 + 2 * i)) = mStrikes gm M d (gm (M + 2) (31 + 2 * i)) from propext (h.strikes hd (by omega))]
    by_cases c : mStrikes gm M d (gm (M + 2) (31 + 2 * i))
    · rw [od_b_t c]
      exact (y.mp c).symm
    · rw [od_b_f c]
      have n1 : ¬ gm (M + 2) (31 + 2 * i + 1) = 1 := fun x => c (y.mpr x)
      have := z.2.2.2
      omega
theorem e_canBe (h : StR g k (gm (M + 2))) : cSus g k (g k 8).toNat = mCb gm M := by
  have n := h.1.2
  have al : ∀ m : Nat, (m : Int) ≤ gm (M + 2) 45 → cSus g k m = od_set (mSo gm M) m := by
    intro m
    induction m with
    | zero => intro _; rfl
    | succ m ih =>
      intro hm
      have e := ih (by omega)
      have z := h.fit (d := (m : Int)) (by omega)
      unfold cSus od_set
      rw [e]
      by_cases c : mSo gm M m
      · rw [od_ite_t (z.mpr c), od_ite_t c]
      · rw [od_ite_f (fun q => c (z.mp q)), od_ite_f c]
        exact (od_or_z (od_set_r32 _ _)).symm
  unfold mCb
  rw [h.1.1]
  exact al _ (by omega)
theorem StR.left (h : StR g k (gm (M + 2))) {x : Int} (hx : 0 ≤ x ∧ x ≤ 100000) : cLf g k (mCb gm M) x = mMore gm M (mCb gm M) x ∧ mMore gm M (mCb gm M) x < 7 := by
  have n := h.1.2
  have eA : od_sum (cLf1 g k (mCb gm M) x) (g k 8).toNat = mMoN gm M (mCb gm M) x := by
    unfold mMoN od_cnt
    rw [h.1.1]
    refine od_sum_c _ (fun i i0 i1 => ?_)
    unfold cLf1
    show _ = od_b (mIn (mCb gm M) i ∧ mStrikes gm M i x)
    rw [show cStrikes g k i x = mStrikes gm M i x from propext (h.strikes (by omega) hx), show mIn (mCb gm M) i = od_bit (mCb gm M) i from propext mIn_bit]
  have eB : od_sum (cLf2 g k (mCb gm M) x) (g k 8).toNat = od_sum (fun d => od_b (od_bit (mCb gm M) d ∧ ¬ mStrikes gm M d x)) (gm (M + 2) 45).toNat := by
    rw [h.1.1]
    refine od_sum_c _ (fun i i0 i1 => ?_)
    unfold cLf2
    rw [show cStrikes g k i x = mStrikes gm M i x from propext (h.strikes (by omega) hx)]
  have eA2 : mMoN gm M (mCb gm M) x = od_sum (fun d => od_b (od_bit (mCb gm M) d ∧ mStrikes gm M d x)) (gm (M + 2) 45).toNat := by
    unfold mMoN od_cnt
    refine od_sum_c _ (fun i i0 i1 => ?_)
    show od_b (mIn (mCb gm M) i ∧ mStrikes gm M i x) = _
    rw [show mIn (mCb gm M) i = od_bit (mCb gm M) i from propext mIn_bit]
  have eO : mOnes (mCb gm M) 12 = od_sum (fun d => od_b (od_bit (mCb gm M) d)) (gm (M + 2) 45).toNat := by
    have e1 : mOnes (mCb gm M) 12 = od_sum (fun d => od_b (od_bit (mCb gm M) d)) 12 := od_sum_c 12 (fun i _ _ => od_bit_v _ _)
    have e2 := od_sum_z (f := fun d => od_b (od_bit (mCb gm M) d)) (gm (M + 2) 45).toNat (12 - (gm (M + 2) 45).toNat) (fun i i0 i1 => by
      refine od_b_f (fun q => ?_)
      have z := (od_bit_set (mSo gm M) (gm (M + 2) 45).toNat (by omega) i (by omega) (by omega)).mp q
      omega)
    rw [show (gm (M + 2) 45).toNat + (12 - (gm (M + 2) 45).toNat) = 12 by omega] at e2
    rw [e1, e2]
  have pq := od_sum_pq (fun d => od_bit (mCb gm M) d) (fun d => mStrikes gm M d x) (gm (M + 2) 45).toNat
  have b1 := od_sum_b (f := fun d => od_b (od_bit (mCb gm M) d ∧ mStrikes gm M d x)) (m := 1) (gm (M + 2) 45).toNat (fun i _ _ => od_b_r _)
  have b2 := od_sum_b (f := fun d => od_b (od_bit (mCb gm M) d ∧ ¬ mStrikes gm M d x)) (m := 1) (gm (M + 2) 45).toNat (fun i _ _ => od_b_r _)
  rw [← eO, ← eA2] at pq
  rw [← eA2] at b1
  unfold cLf mMore
  rw [eA, eB, ← pq, show mMoN gm M (mCb gm M) x + od_sum (fun d => od_b (od_bit (mCb gm M) d ∧ ¬ mStrikes gm M d x)) (gm (M + 2) 45).toNat - mMoN gm M (mCb gm M) x = od_sum (fun d => od_b (od_bit (mCb gm M) d ∧ ¬ mStrikes gm M d x)) (gm (M + 2) 45).toNat by omega, od_wI (by omega) (by omega)]
  exact ⟨rfl, by omega⟩
theorem e_listen (h : StR g k (gm (M + 2))) (w : Int) : cListenM g k w = od_ite (mLies w 0 1) (mLis gm M w) (-1) := by
  unfold cListenM
  rw [e_canBe h]
  by_cases cw : mLies w 0 1
  · rw [od_ite_t cw]
    unfold mLies at cw
    unfold mLis
    by_cases c0 : mCb gm M = 0
    · rw [od_ite_f (fun z => z.1 c0), if_pos c0]
      rfl
    · rw [od_ite_t ⟨c0, cw⟩, if_neg c0]
      have z := od_ml_eq (F := mMore gm M (mCb gm M)) (G := cLf g k (mCb gm M)) (n := 100) (fun i i0 i1 => h.left (by omega)) 99 (by omega)
      rw [z.1]
      unfold mLsA
      by_cases c1 : w = 0
      · rw [if_pos c1, if_pos (Or.inr c1)]
      · rw [if_neg c1, if_neg (fun q => q.elim (fun q => by have z2 : 0 ≤ (od_ml 1000000 (-1) (mMore gm M (mCb gm M)) 100).2 := z.2; omega) c1)]
  · rw [od_ite_f cw, od_ite_f (fun z => cw (by unfold mLies; exact z.2))]
end Answers
