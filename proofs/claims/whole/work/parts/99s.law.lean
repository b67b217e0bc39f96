/-! what a sum may come to -/
def pBd (D : pD) : Prop := ∀ w : Int → Int, (∀ i : Int, pBs (w i)) → ∀ x : Int, D w = some x → pBs x
theorem pBd_no : pBd pNo := fun w _ x h => by cases h
theorem pBd_one : pBd pOne := fun w _ x h => by
  cases h
  unfold pBs
  omega
theorem pBd_bin (o : Int) (d e : pD) : pBd (pBin o d e) := fun w _ x h => by
  unfold pBin at h
  cases hd : d w with
  | none => rw [hd] at h; cases h
  | some a =>
    rw [hd] at h
    cases he : e w with
    | none => rw [he] at h; cases h
    | some b =>
      rw [he] at h
      have h2 : pJn o a b = some x := h
      unfold pJn at h2
      split at h2
      · cases h2
      · rename_i c
        cases h2
        unfold pBs
        omega
theorem pPart_bd {c v pl : Int → Int} (hv : ∀ i : Int, 0 ≤ v i) {lw : Bool} {S : Option (pS → pR)} (hS : ∀ S1, S = some S1 → ∀ s : pS, pBd (S1 s).2) (s : pS) : pBd (pPart c v pl lw S s).2 := by
  unfold pPart
  split
  · exact pBd_no
  · split
    · cases S with
      | none => exact pBd_no
      | some S1 => exact hS S1 rfl (pNx s)
    · split
      · rename_i hc
        unfold pLeaf
        split
        · exact pBd_no
        · split
          · rename_i h50
            intro w _ x hx
            cases hx
            have z := hv s.1
            have y : v s.1 ≤ 1000 := by
              rcases hc with hc | hc
              · exact hc.2
              · have := pWb_r hc; omega
            unfold pBs
            omega
          · split
            · intro w hw x hx
              cases hx
              exact hw _
            · intro w hw x hx
              cases hx
              exact hw _
      · exact pBd_no
theorem pLoop_bd {c op : Int → Int} {P : pS → pR} : ∀ (f : Nat) (r : pR), pBd r.2 → pBd (pLoop c op P f r).2 := by
  intro f
  induction f with
  | zero => intro r h; exact h
  | succ f ih =>
    intro r h
    unfold pLoop
    split
    · exact ih _ (pBd_bin _ _ _)
    · exact h
theorem pSumL_bd {c v pl : Int → Int} (hv : ∀ i : Int, 0 ≤ v i) {lw : Bool} : ∀ (n : Nat) (s : pS), pBd (pSumL c v pl lw n s).2 := by
  intro n
  induction n with
  | zero =>
    intro s
    rw [pSumL_eq]
    unfold pSum pTerm
    exact pLoop_bd 400 _ (pLoop_bd 400 _ (pPart_bd hv (fun S1 e => by cases e) s))
  | succ n ih =>
    intro s
    rw [pSumL_eq]
    unfold pSum pTerm
    refine pLoop_bd 400 _ (pLoop_bd 400 _ (pPart_bd hv (fun S1 e => ?_) s))
    have e2 : pSumL c v pl lw n = S1 := Option.some.inj e
    rw [← e2]
    exact ih
theorem pCs_bd {c v pl : Int → Int} (hv : ∀ i : Int, 0 ≤ v i) (n : Nat) : pBd (pCs c v pl n).2.2.1 := by
  unfold pCs pCl
  rw [if_pos rfl]
  show pBd (pHdL c v pl (pSt c v pl true n)).2.2
  unfold pHdL
  split
  · exact pSumL_bd hv 8 _
  · split
    · exact pBd_one
    · exact pBd_one
theorem pCs_one {c v pl : Int → Int} {n : Nat} (h : (pCs c v pl n).1 ≠ 0) (w : Int → Int) : (pCs c v pl n).2.2.1 w = some 1 := by
  unfold pCs pCl at h ⊢
  rw [if_pos rfl] at h ⊢
  have h2 : (pHdL c v pl (pSt c v pl true n)).2.1 ≠ 0 := h
  show (pHdL c v pl (pSt c v pl true n)).2.2 w = some 1
  unfold pHdL at h2 ⊢
  split at h2
  · exact absurd rfl h2
  · rename_i c1
    rw [if_neg c1]
    split
    · rfl
    · rfl
/-! a law's text is what its tokens say -/
def LwR (g : od_G) (T : Int) (r : Int → Int) (t : Int) (pl : Int → Int) (C : Int) (sn : Nat) : Prop := g T 6 = C ∧ (0 ≤ g T 7 ∧ g T 7 ≤ 400 ∧ g T 7 ≤ sn) ∧ (0 ≤ r (49 + t) ∧ r (49 + t) ≤ 400) ∧ (∀ i : Int, 0 ≤ pl i ∧ 0 ≤ kV r (400 * t) (r (49 + t)) i) ∧ pDn (kC r (400 * t) (r (49 + t))) (kV r (400 * t) (r (49 + t))) pl true (r (49 + t)) C ∧ ∀ i : Int, 0 ≤ i → i < C → ClOk true g T i (g T 7) (pCs (kC r (400 * t) (r (49 + t))) (kV r (400 * t) (r (49 + t))) pl i.toNat)
/-- the law in force -/
def LfR (g : od_G) (k : Int) (r : Int → Int) (pl : Int → Int) (C : Int) (sn : Nat) : Prop := (r 48 = -1 ∧ cLawOf g k (g k 11) = -1) ∨ (0 ≤ r 48 ∧ r 48 ≤ 5 ∧ cLawOf g k (g k 11) ≠ -1 ∧ LwR g (cLawOf g k (g k 11)) r (r 48) pl C sn)
theorem LfR.F {g : od_G} {k : Int} {r pl : Int → Int} {C : Int} {sn : Nat} (h : LfR g k r pl C sn) : LwF r pl C := by
  rcases h with ⟨h, _⟩ | ⟨h0, h5, _, h⟩
  · exact Or.inl h
  · exact Or.inr ⟨⟨h0, h5⟩, h.2.2.1, fun i => (h.2.2.2.1 i).1, h.2.2.2.2.1⟩
section Law
variable {g gm : od_G} {k M : Int}
theorem StR.wd (h : StR g k (gm (M + 2))) {d : Int} (hd : 0 ≤ d ∧ d < gm (M + 2) 45) (b : Int) : cWd g k d b = mWd (gm (M + 2)) d b := by
  have z := h.2.1 d hd.1 hd.2
  funext i
  unfold cWd mWd
  rw [z.1, z.2.1, z.2.2.2.1, od_bc_o z.2.2.2.2.2.2.2.2.2, h.2.2.2.1.1, h.2.2.2.1.2.2]
theorem StR.wb (h : StR g k (gm (M + 2))) {d : Int} (hd : 0 ≤ d ∧ d < gm (M + 2) 45) {b : Int} (hb : -1000000000 ≤ b ∧ b ≤ 1000000000) (i : Int) : pBs (mWd (gm (M + 2)) d b i) := by
  have z := h.2.1 d hd.1 hd.2
  have n := h.1.2
  have q := h.2.2.2.2.1
  have y := z.2.2.2.2.2.2.2.2
  have z5 := z.2.2.2.2.1
  have o := od_sum_b (f := fun j => od_and (od_shr (gm (M + 2) d) j) 1) (m := 1) 12 (fun j _ _ => by
    rcases Classical.em (od_bit (gm (M + 2) d) j) with c | c
    · have e := mIn_bit.mpr c
      unfold mIn at e
      omega
    · unfold od_bit at c
      omega)
  unfold pBs mWd mOnes
  split
  · omega
  · split
    · omega
    · split
      · omega
      · split
        · omega
        · split
          · omega
          · split <;> omega
theorem StR.v (h : StR g k (gm (M + 2))) {d : Int} (hd : 0 ≤ d ∧ d < gm (M + 2) 45) {b : Int} (hb : -1000000000 ≤ b ∧ b ≤ 1000000000) {T f : Int} {sn : Nat} {D : pD} (he : EvOk true (g (T + 6)) f (g T 7) D) (hs : g T 7 ≤ sn) : cV g k T d b sn f = pEv (D (mWd (gm (M + 2)) d b)) := by
  unfold cV
  rw [h.wd hd]
  exact he _ sn _ (fun _ _ _ => rfl) hs (fun i => h.wb hd hb i)
theorem pEv_1 {o : Option Int} : pEv o = 1 ↔ o = some 1 := by
  cases o with
  | none => simp [pEv]
  | some x => simp [pEv]
theorem StR.snd (h : StR g k (gm (M + 2))) {d : Int} (hd : 0 ≤ d ∧ d < gm (M + 2) 45) {b : Int} (hb : -1000000000 ≤ b ∧ b ≤ 1000000000) {T t : Int} {pl : Int → Int} {C : Int} {sn : Nat} (hL : LwR g T (gm (M + 2)) t pl C sn) : ∀ n : Nat, (n : Int) ≤ C → cSnd g k T d b sn n = pTl (pCs (kC (gm (M + 2)) (400 * t) (gm (M + 2) (49 + t))) (kV (gm (M + 2)) (400 * t) (gm (M + 2) (49 + t))) pl) 0 (mWd (gm (M + 2)) d b) 1 n := by
  intro n
  induction n with
  | zero => intro _; rfl
  | succ n ih =>
    intro hn
    obtain ⟨q1, q2, q3, q4, q5⟩ := hL.2.2.2.2.2 n (by omega) (by omega)
    rw [show ((n : Int)).toNat = n by omega] at q1 q3 q5
    have v1 := h.v hd hb q3 hL.2.1.2.2
    have v2 := h.v hd hb q5 hL.2.1.2.2
    have bd := pCs_bd (c := kC (gm (M + 2)) (400 * t) (gm (M + 2) (49 + t))) (v := kV (gm (M + 2)) (400 * t) (gm (M + 2) (49 + t))) (pl := pl) (fun i => (hL.2.2.2.1 i).2) n (mWd (gm (M + 2)) d b) (h.wb hd hb)
    have ih' := ih (by omega)
    unfold cSnd pTl
    rw [v1, v2, q1, ih']
    cases hx : (pCs (kC (gm (M + 2)) (400 * t) (gm (M + 2) (49 + t))) (kV (gm (M + 2)) (400 * t) (gm (M + 2) (49 + t))) pl n).2.2.1 (mWd (gm (M + 2)) d b) with
    | none => rw [if_neg (fun z => z.2.2 rfl)]
    | some x =>
      have bx := bd x hx
      unfold pBs at bx
      have ne : pEv (some x) ≠ -2000000000 := by
        show x ≠ -2000000000
        omega
      by_cases c : (pCs (kC (gm (M + 2)) (400 * t) (gm (M + 2) (49 + t))) (kV (gm (M + 2)) (400 * t) (gm (M + 2) (49 + t))) pl n).1 = 0 ∧ (pCs (kC (gm (M + 2)) (400 * t) (gm (M + 2) (49 + t))) (kV (gm (M + 2)) (400 * t) (gm (M + 2) (49 + t))) pl n).2.2.2.2 (mWd (gm (M + 2)) d b) = some 1
      · rw [if_pos ⟨c.1, pEv_1.mpr c.2, ne⟩]
        show max 0 (min 9 x) = if _ then _ else _
        rw [if_pos c]
      · rw [if_neg (fun z => c ⟨z.1, pEv_1.mp z.2.1⟩)]
        show _ = if _ then _ else _
        rw [if_neg c]
theorem pTl_1 {cl : Nat → pC} {hd : Int} {w : Int → Int} (h1 : ∀ n : Nat, (cl n).1 = hd → (cl n).2.2.1 w = some 1) : ∀ n : Nat, pTl cl hd w 0 n = 1 ↔ ∃ c : Nat, c < n ∧ (cl c).1 = hd ∧ (cl c).2.2.2.2 w = some 1 := by
  intro n
  induction n with
  | zero => exact ⟨fun h => absurd (show (0 : Int) = 1 from h) (by decide), fun ⟨c, hc, _⟩ => absurd hc (Nat.not_lt_zero _)⟩
  | succ n ih =>
    by_cases c : (cl n).1 = hd ∧ (cl n).2.2.2.2 w = some 1
    · rw [pTl_y c.1 c.2 (h1 n c.1)]
      exact ⟨fun _ => ⟨n, Nat.lt_succ_self n, c⟩, fun _ => rfl⟩
    · have e : pTl cl hd w 0 (n + 1) = pTl cl hd w 0 n := by
        apply pTl_n
        by_cases c1 : (cl n).1 = hd
        · exact Or.inr (Or.inl (fun z => c ⟨c1, z⟩))
        · exact Or.inl c1
      rw [e, ih]
      refine ⟨fun ⟨x, hx, q⟩ => ⟨x, by omega, q⟩, fun ⟨x, hx, q⟩ => ?_⟩
      by_cases cx : x = n
      · rw [cx] at q; exact absurd q c
      · exact ⟨x, by omega, q⟩
theorem StR.sound (h : StR g k (gm (M + 2))) {d : Int} (hd : 0 ≤ d ∧ d < gm (M + 2) 45) {b : Int} (hb : -1000000000 ≤ b ∧ b ≤ 1000000000) {pl : Int → Int} {C : Int} {sn : Nat} (hL : LfR g k (gm (M + 2)) pl C sn) : cSound g k (cLawOf g k (g k 11)) d b sn = mSnd (gm (M + 2)) pl C d b := by
  unfold cSound mSnd mTl
  rcases hL with ⟨h1, h2⟩ | ⟨h0, h5, h2, h3⟩
  · rw [od_ite_t (Or.inl h2), if_pos h1]
  · rw [od_ite_f (fun z => z.elim h2 (fun z => z ((h.has d).mpr hd))), if_neg (by omega), h3.1]
    have := h3.2.2.2.2.1.1
    exact h.snd hd hb h3 C.toNat (by omega)
theorem StR.holds (h : StR g k (gm (M + 2))) {d : Int} (hd : 0 ≤ d ∧ d < gm (M + 2) 45) {b : Int} (hb : -1000000000 ≤ b ∧ b ≤ 1000000000) {pl : Int → Int} {C : Int} {sn : Nat} (hL : LfR g k (gm (M + 2)) pl C sn) {kd : Int} (hk : kd ≠ 0) : cHolds g k (cLawOf g k (g k 11)) d b sn kd ↔ mNow (gm (M + 2)) pl C kd d b := by
  unfold cHolds mNow mTl
  rcases hL with ⟨h1, h2⟩ | ⟨h0, h5, h2, h3⟩
  · rw [if_pos h1]
    exact ⟨fun z => absurd h2 z.1, fun z => absurd z (by decide)⟩
  · have hC := h3.2.2.2.2.1.1
    rw [if_neg (by omega), h3.1, pTl_1 (fun n hn => pCs_one (by rw [hn]; exact hk) _)]
    refine ⟨fun ⟨_, _, c, c0, c1, c2, c3⟩ => ⟨c.toNat, by omega, ?_⟩, fun ⟨c, c1, c2, c3⟩ => ⟨h2, (h.has d).mpr hd, (c : Int), by omega, by omega, ?_⟩⟩
    · obtain ⟨q1, q2, q3, q4, q5⟩ := h3.2.2.2.2.2 c c0 c1
      have v2 := h.v hd hb q5 h3.2.1.2.2
      rw [v2, pEv_1] at c3
      rw [q1] at c2
      exact ⟨c2, c3⟩
    · obtain ⟨q1, q2, q3, q4, q5⟩ := h3.2.2.2.2.2 (c : Int) (by omega) (by omega)
      have v2 := h.v hd hb q5 h3.2.1.2.2
      rw [show ((c : Int)).toNat = c by omega] at q1 v2
      exact ⟨by rw [q1]; exact c2, by rw [v2, pEv_1]; exact c3⟩
theorem StR.loud (h : StR g k (gm (M + 2))) {pl : Int → Int} {C : Int} {sn : Nat} (hL : LfR g k (gm (M + 2)) pl C sn) {x : Int} (hx : 0 ≤ x ∧ x ≤ 100000) : cLoud g k (cLawOf g k (g k 11)) x sn = mLoud gm M pl C x := by
  unfold cLoud mLoud
  rw [h.1.1]
  refine od_sum_c _ (fun i i0 i1 => ?_)
  have hd : 0 ≤ i ∧ i < gm (M + 2) 45 := by omega
  unfold cLd mLd
  have bb := h.beat_b hd hx
  have l := (h.2.1 i hd.1 hd.2).2.2.2.2.1
  rw [show cStrikes g k i x = mStrikes gm M i x from propext (h.strikes hd hx), h.beat hd, h.sound hd (by omega) hL]
end Law
