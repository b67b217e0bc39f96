/-! answers are alike: add -/
theorem od_an6 : ∀ a : Fin 64, ∀ b : Fin 64, 0 ≤ od_and (a.val : Int) (od_xor (b.val : Int) (-1)) ∧ od_and (a.val : Int) (od_xor (b.val : Int) (-1)) < 64 := by decide +kernel
theorem od_an6i {a b : Int} (ha : 0 ≤ a ∧ a < 64) (hb : 0 ≤ b ∧ b < 64) : 0 ≤ od_and a (od_xor b (-1)) ∧ od_and a (od_xor b (-1)) < 64 := by
  have z : 0 ≤ od_and ((a.toNat : Nat) : Int) (od_xor ((b.toNat : Nat) : Int) (-1)) ∧ od_and ((a.toNat : Nat) : Int) (od_xor ((b.toNat : Nat) : Int) (-1)) < 64 := od_an6 ⟨a.toNat, by omega⟩ ⟨b.toNat, by omega⟩
  rw [show ((a.toNat : Nat) : Int) = a by omega, show ((b.toNat : Nat) : Int) = b by omega] at z
  exact z
theorem cFn_ml {P : Int → Prop} {N T : Int → Int} : ∀ n : Nat, (∀ i : Int, 0 ≤ i → i < n → (P i → T i = N i) ∧ (¬ P i → T i = 1000000) ∧ 0 ≤ N i ∧ N i ≤ 6) → (cFn P N n).2 = (od_ml 1000000 (-1) T n).2 ∧ (((cFn P N n).2 = -1 ∧ (cFn P N n).1 = 7 ∧ (od_ml 1000000 (-1) T n).1 = 1000000) ∨ (0 ≤ (cFn P N n).2 ∧ (cFn P N n).1 = (od_ml 1000000 (-1) T n).1 ∧ 0 ≤ (cFn P N n).1 ∧ (cFn P N n).1 ≤ 6)) := by
  intro n
  induction n with
  | zero => intro _; exact ⟨rfl, Or.inl ⟨rfl, rfl, rfl⟩⟩
  | succ n ih =>
    intro h
    obtain ⟨i1, i2⟩ := ih (fun i i0 i1 => h i i0 (by omega))
    have z := h n (by omega) (by omega)
    have e1 : cFn P N (n + 1) = @ite (Int × Int) (0 < (cFn P N n).1 ∧ N n < (cFn P N n).1 ∧ P n) (Classical.propDecidable _) (N n, (n : Int)) (cFn P N n) := rfl
    have e2 : od_ml 1000000 (-1) T (n + 1) = if T n < (od_ml 1000000 (-1) T n).1 then (T n, (n : Int)) else od_ml 1000000 (-1) T n := rfl
    rw [e1, e2]
    by_cases cp : P n
    · have t := z.1 cp
      rcases i2 with ⟨j1, j2, j3⟩ | ⟨j1, j2, j3, j4⟩
      · rw [if_pos ⟨by omega, by omega, cp⟩, if_pos (by omega)]
        exact ⟨rfl, Or.inr ⟨by show (0 : Int) ≤ n; omega, t.symm, z.2.2⟩⟩
      · by_cases c : N n < (cFn P N n).1
        · rw [if_pos ⟨by omega, c, cp⟩, if_pos (by omega)]
          exact ⟨rfl, Or.inr ⟨by show (0 : Int) ≤ n; omega, t.symm, z.2.2⟩⟩
        · rw [if_neg (fun q => c q.2.1), if_neg (by omega)]
          exact ⟨i1, Or.inr ⟨j1, j2, j3, j4⟩⟩
    · have t := z.2.1 cp
      rw [if_neg (fun q => cp q.2.2)]
      rcases i2 with ⟨j1, j2, j3⟩ | ⟨j1, j2, j3, j4⟩
      · rw [if_neg (by omega)]
        exact ⟨i1, Or.inl ⟨j1, j2, j3⟩⟩
      · rw [if_neg (by omega)]
        exact ⟨i1, Or.inr ⟨j1, j2, j3, j4⟩⟩
theorem mLk_v (g : od_G) (M s x : Int) : ∀ n : Nat, n ≤ 1000 → ((∃ d : Int, 0 ≤ d ∧ d < n ∧ mLkP g M s x d ∧ mLkB g M x d) → mLk g M s x n = 1000000) ∧ ((∀ d : Int, 0 ≤ d → d < n → mLkP g M s x d → ¬ mLkB g M x d) → mLk g M s x n = od_sum (fun d => od_b (mLkP g M s x d)) n) := by
  intro n
  induction n with
  | zero => intro _; exact ⟨fun ⟨d, d0, d1, _⟩ => by omega, fun _ => rfl⟩
  | succ n ih =>
    intro hn
    obtain ⟨i1, i2⟩ := ih (by omega)
    have e : mLk g M s x (n + 1) = if mLk g M s x n = 1000000 then 1000000 else od_ite (mLkP g M s x n) (od_ite (mLkB g M x n) 1000000 (mLk g M s x n + 1)) (mLk g M s x n) := rfl
    refine ⟨fun ⟨d, d0, d1, q1, q2⟩ => ?_, fun q => ?_⟩
    · rw [e]
      by_cases c : d = n
      · split
        · rfl
        · rw [← c, od_ite_t q1, od_ite_t q2]
      · rw [if_pos (i1 ⟨d, d0, by omega, q1, q2⟩)]
    · have z := i2 (fun d d0 d1 => q d d0 (by omega))
      have b := od_sum_b (f := fun d => od_b (mLkP g M s x d)) (m := 1) n (fun i _ _ => od_b_r _)
      rw [e, if_neg (by omega), z]
      show _ = od_sum (fun d => od_b (mLkP g M s x d)) n + od_b (mLkP g M s x n)
      by_cases c : mLkP g M s x n
      · rw [od_ite_t c, od_ite_f (q n (by omega) (by omega) c), od_b_t c]
      · rw [od_ite_f c, od_b_f c]
        omega
section Answers4
variable {g gm : od_G} {k M : Int}
theorem StR.ms (h : StR g k (gm (M + 2))) {st x : Int} (hs : 0 ≤ st ∧ st < 64) (hx : 0 ≤ x ∧ x ≤ 100000) {d : Int} (hd : 0 ≤ d ∧ d < 32) : od_bit (cMs (cC g k (-1) 0 0) st x) d ↔ od_bit st d ∧ ¬ (d < gm (M + 2) 45 ∧ mStrikes gm M d x) := by
  unfold cMs
  rw [od_bit_and hd, od_bit_xor hd, h.bt hx, mStN_bit h.MI x hd]
  have m := od_bit_m1 hd
  exact ⟨fun q => ⟨q.1, fun y => q.2 ⟨fun _ => m, fun _ => y⟩⟩, fun q => ⟨q.1, fun y => q.2 (y.mpr m)⟩⟩
theorem od_hi6 {st n : Int} (hn : 0 ≤ n ∧ n ≤ 6) (hs : 0 ≤ st ∧ st < od_shl 1 n) {d : Int} (hd : n ≤ d ∧ d < 32) : ¬ od_bit st d := by
  have e : od_shl 1 n = ((2 ^ n.toNat : Nat) : Int) := by
    rcases (show n = 0 ∨ n = 1 ∨ n = 2 ∨ n = 3 ∨ n = 4 ∨ n = 5 ∨ n = 6 by omega) with rfl | rfl | rfl | rfl | rfl | rfl | rfl <;> decide
  refine od_bit_hi (n := n.toNat) hs.1 ?_ (by omega) (by omega)
  rw [e] at hs
  have z := hs.2
  have p : ((2 ^ n.toNat : Nat) : Int) = (2 : Int) ^ n.toNat := by simp
  rw [← p]
  exact z
theorem StR.lack (h : StR g k (gm (M + 2))) {pl : Int → Int} {C : Int} {sn : Nat} (hL : LfR g k (gm (M + 2)) pl C sn) {gB : od_G} (eB : gB (M + 2) = gm (M + 2)) (hB : BdQ gm gB M pl C (gm (M + 2) 45)) {st : Int} (hs : 0 ≤ st ∧ st < od_shl 1 (gm (M + 2) 45)) {x : Int} (hx : 0 ≤ x ∧ x ≤ 100000) :
    (cOk g k (cLawOf g k (g k 11)) sn (cC g k (-1) 0 0) st x → mLack gB M st x = od_bc (cMs (cC g k (-1) 0 0) st x)) ∧ (¬ cOk g k (cLawOf g k (g k 11)) sn (cC g k (-1) 0 0) st x → mLack gB M st x = 1000000) ∧ 0 ≤ od_bc (cMs (cC g k (-1) 0 0) st x) ∧ od_bc (cMs (cC g k (-1) 0 0) st x) ≤ 6 := by
  have n := h.1.2
  have sb := od_sh_b n
  have hs6 : 0 ≤ st ∧ st < 64 := by omega
  have lkP : ∀ d : Int, 0 ≤ d → d < gm (M + 2) 45 → (mLkP gB M st x d ↔ od_bit (cMs (cC g k (-1) 0 0) st x) d) := fun d d0 d1 => by
    rw [h.ms hs6 hx (by omega)]
    unfold mLkP
    rw [mIn_bit, mStrikes_e eB]
    exact ⟨fun q => ⟨q.1, fun y => q.2 y.2⟩, fun q => ⟨q.1, fun y => q.2 ⟨d1, y⟩⟩⟩
  have lkB : ∀ d : Int, 0 ≤ d → d < gm (M + 2) 45 → (mLkB gB M x d ↔ cHolds g k (cLawOf g k (g k 11)) d (cBeatIn g k d x) sn 2) := fun d d0 d1 => by
    have hd : 0 ≤ d ∧ d < gm (M + 2) 45 := ⟨d0, d1⟩
    have bb := h.beat_b hd hx
    have l := (h.2.1 d d0 d1).2.2.2.2.1
    unfold mLkB
    rw [mBeat_e eB, hB d _ d0 d1 bb.1 bb.2, h.beat hd, h.holds hd (by omega) hL (by decide)]
    by_cases c : mNow (gm (M + 2)) pl C 2 d (mBeat gm M d x)
    · rw [od_b_t c]; exact ⟨fun _ => c, fun _ => by decide⟩
    · rw [od_b_f c]; exact ⟨fun q => absurd rfl q, fun q => absurd q c⟩
  have ok : cOk g k (cLawOf g k (g k 11)) sn (cC g k (-1) 0 0) st x ↔ ∀ d : Int, 0 ≤ d → d < gm (M + 2) 45 → mLkP gB M st x d → ¬ mLkB gB M x d := by
    unfold cOk cBar
    refine ⟨fun q d d0 d1 p b => ?_, fun q d d0 d1 p b => ?_⟩
    · have hd : 0 ≤ d ∧ d < gm (M + 2) 45 := ⟨d0, d1⟩
      have pb := (lkP d d0 d1).mp p
      refine q d d0 (by omega) pb ⟨((h.ms hs6 hx (by omega)).mp pb).1, ?_, (lkB d d0 d1).mp b⟩
      rw [h.hb hd, h.beat hd]
      have bb := h.beat_b hd hx
      unfold mBeatL mLies
      omega
    · have d2 := ((h.has d).mp b.2.1.1).2
      exact q d d0 d2 ((lkP d d0 d2).mpr p) ((lkB d d0 d2).mpr b.2.2)
  have ms6 : 0 ≤ cMs (cC g k (-1) 0 0) st x ∧ cMs (cC g k (-1) 0 0) st x < 64 := by
    unfold cMs
    rw [h.bt hx]
    exact od_an6i hs6 (mStN_sum gm M x n).2
  have cnt : od_bc (cMs (cC g k (-1) 0 0) st x) = od_sum (fun d => od_b (mLkP gB M st x d)) (gm (M + 2) 45).toNat := by
    rw [od_bc_o (by omega)]
    have e1 : mOnes (cMs (cC g k (-1) 0 0) st x) 12 = od_sum (fun d => od_b (od_bit (cMs (cC g k (-1) 0 0) st x) d)) 12 := od_sum_c 12 (fun i _ _ => od_bit_v _ _)
    have e2 := od_sum_z (f := fun d => od_b (od_bit (cMs (cC g k (-1) 0 0) st x) d)) (gm (M + 2) 45).toNat (12 - (gm (M + 2) 45).toNat) (fun i i0 i1 => od_b_f (fun q => od_hi6 n hs (d := i) (by omega) ((h.ms hs6 hx (by omega)).mp q).1))
    rw [show (gm (M + 2) 45).toNat + (12 - (gm (M + 2) 45).toNat) = 12 by omega] at e2
    rw [e1, e2]
    exact od_sum_c _ (fun i i0 i1 => by rw [show mLkP gB M st x i = od_bit (cMs (cC g k (-1) 0 0) st x) i from propext (lkP i i0 (by omega))])
  have b := od_sum_b (f := fun d => od_b (mLkP gB M st x d)) (m := 1) (gm (M + 2) 45).toNat (fun i _ _ => od_b_r _)
  have v := mLk_v gB M st x (gm (M + 2) 45).toNat (by omega)
  unfold mLack
  rw [eB]
  refine ⟨fun q => ?_, fun q => ?_, by omega, by omega⟩
  · rw [cnt]
    exact v.2 (fun d d0 d1 => ok.mp q d d0 (by omega))
  · refine v.1 (Classical.byContradiction fun z => q (ok.mpr (fun d d0 d1 p y => z ⟨d, d0, by omega, p, y⟩)))
theorem e_add (h : StR g k (gm (M + 2))) {pl : Int → Int} {C : Int} {sn : Nat} (hL : LfR g k (gm (M + 2)) pl C sn) {s w : Int} {v : Option od_V} {gB : od_G} (hq : AdQ gm M pl C s w v gB) : v = some (0, cAddM g k sn s w) := by
  have n := h.1.2
  have r := h.rr
  have st9 : ∀ d : Int, 0 ≤ d → d < gm (M + 2) 45 → (od_bit (g k 9) d ↔ mStop gm M d) := fun d d0 d1 => (h.2.1 d d0 d1).2.2.2.2.2.2.2.1
  obtain ⟨hf, hq⟩ := hq
  unfold cAddM
  rcases hq with ⟨q1, q2⟩ | ⟨q1, ⟨d, d0, d1, q2, q3⟩, q4⟩ | ⟨q1, q2, q3, q4⟩
  · rw [q2, od_ite_f (fun z => q1 ⟨(h.set s).mp z.2.1, z.1, z.2.2.2⟩)]
  · rw [q4, od_ite_f (fun z => ?_)]
    have y : od_bit (od_and s (g k 9)) d := (od_bit_and (by omega)).mpr ⟨mIn_bit.mp q2, (st9 d d0 d1).mpr q3⟩
    rw [z.2.2.1] at y
    exact od_bit_0 (by omega) y
  · have hs := (h.set s).mpr q1.1
    have hs2 : 0 ≤ s ∧ s < od_shl 1 (gm (M + 2) 45) := by
      unfold cHasAll at hs
      rw [h.1.1] at hs
      exact hs
    have z0 : od_and s (g k 9) = 0 := by
      have sb := od_sh_b n
      have k9 := h.2.2.1.2
      refine od_bit_ext (by unfold od_and; exact od_it _) (by omega) (fun j j0 j1 => ?_)
      rw [od_bit_and (by omega)]
      refine ⟨fun q => ?_, fun q => absurd q (od_bit_0 (by omega))⟩
      by_cases c : j < gm (M + 2) 45
      · exact absurd ((st9 j j0 c).mp q.2) (q2 j j0 c (mIn_bit.mpr q.1))
      · exact absurd q.1 (od_hi6 n hs2 (by omega))
    have w1 := q1.2.2
    unfold mLies at w1
    rw [od_ite_t ⟨q1.2.1, hs, z0, w1⟩, q4, h.round]
    have eB : gB (M + 2) = gm (M + 2) := hf.row (fun y => by unfold AQ XQ; omega)
    have key := cFn_ml (P := cOk g k (cLawOf g k (g k 11)) sn (cC g k (-1) 0 0) s) (N := fun x => od_bc (cMs (cC g k (-1) 0 0) s x)) (T := mLack gB M s) (mRd gm M).toNat (fun i i0 i1 => h.lack hL eB q3 hs2 (by omega))
    obtain ⟨e1, e2⟩ := key
    unfold cFA mAddA
    rw [e1]
    rcases e2 with ⟨j1, j2, j3⟩ | ⟨j1, j2, j3, j4⟩
    · rw [e1] at j1
      rw [if_pos (Or.inl j1), if_pos j1, j1]
    · rw [e1] at j1
      rw [if_neg (show ¬ (od_ml 1000000 (-1) (mLack gB M s) (mRd gm M).toNat).2 = -1 by omega)]
      by_cases c : w = 0
      · rw [if_pos c, if_neg (by omega), j2]
      · rw [if_neg c, if_pos (Or.inr (by omega))]
end Answers4
