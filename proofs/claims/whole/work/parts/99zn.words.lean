/-! orders: the same words, the same hands, one reading -/
theorem tV_0 (B : Int → Int) (n i : Int) : 0 ≤ tV B n i := by
  by_cases h : tQ B n (tpl B n i) = 2
  · exact (tV_n h).2
  · unfold tV
    rw [if_neg h]
    exact Int.le_refl 0
theorem pOne_bd : pBd pOne := pBd_one
theorem pHdO_bd {c v pl : Int → Int} (hv : ∀ i : Int, 0 ≤ v i) (s : pS) : pBd (pHdO c v pl s).2.2.1 ∧ pBd (pHdO c v pl s).2.2.2 := by
  unfold pHdO
  by_cases h1 : s.2.2 = -1 ∧ c s.1 = 20
  · rw [if_pos h1]; exact ⟨pSumL_bd hv 8 _, pSumL_bd hv 8 _⟩
  · rw [if_neg h1]
    by_cases h2 : s.2.2 = -1 ∧ c s.1 = 21
    · rw [if_pos h2]; exact ⟨pSumL_bd hv 8 _, pSumL_bd hv 8 _⟩
    · rw [if_neg h2]
      by_cases h3 : s.2.2 = -1 ∧ c s.1 = 23
      · rw [if_pos h3]; exact ⟨pSumL_bd hv 8 _, pBd_one⟩
      · rw [if_neg h3]; exact ⟨pBd_one, pBd_one⟩
theorem pCo_bd {c v pl : Int → Int} (hv : ∀ i : Int, 0 ≤ v i) (k : Nat) : pBd (pCo c v pl k).2.2.1 ∧ pBd (pCo c v pl k).2.2.2.1 := by
  unfold pCo
  rw [pCl_f]
  exact pHdO_bd hv _
theorem pSt_z0 (c v pl : Int → Int) (lw : Bool) : ∀ k : Nat, 0 ≤ (pSt c v pl lw k).1 := by
  intro k
  induction k with
  | zero => exact Int.le_refl 0
  | succ k ih =>
    show 0 ≤ (pCl c v pl lw (pSt c v pl lw k)).1.1 + 1
    have := pCl_le c v pl lw (pSt c v pl lw k)
    omega
theorem pF_z1 (pl : Int → Int) (s : pS) : (pF pl s).1 = s.1 := by
  unfold pF
  split <;> rfl
theorem pTxt_0 (c v pl : Int → Int) (lw : Bool) : ∀ (f : Nat) (s : pS), 0 ≤ s.1 → 0 ≤ (pTxt c v pl lw f s).1 := by
  intro f
  induction f with
  | zero => intro s hs; show 0 ≤ (pF pl s).1; rw [pF_z1]; exact hs
  | succ f ih =>
    intro s hs
    have l := pCl_le c v pl lw s
    by_cases h : (pCl c v pl lw s).1.2.2 = -1 ∧ c (pCl c v pl lw s).1.1 = 159
    · rw [pTxt_s h]
      refine ih _ ?_
      show 0 ≤ (pCl c v pl lw s).1.1 + 1
      omega
    · rw [pTxt_e h]
      omega
theorem pAll_u {c v pl : Int → Int} {lw : Bool} {N N' : Int} (h : N = N' ∨ (N ≤ 0 ∧ N' ≤ 0)) : pAll c v pl lw N = pAll c v pl lw N' := by
  rcases h with h | h
  · rw [h]
  · have z := pTxt_0 c v pl lw 12 (0, 0, -1) (Int.le_refl 0)
    unfold pAll
    rw [if_neg (by omega), if_neg (by omega)]
theorem pDn_N {c v pl : Int → Int} {lw : Bool} {N N' C : Int} (h : N = N' ∨ (N ≤ 0 ∧ N' ≤ 0)) (hD : pDn c v pl lw N C) : pDn c v pl lw N' C := by
  rcases h with h | h
  · rw [← h]; exact hD
  · refine ⟨hD.1, fun k k0 k1 => ?_⟩
    obtain ⟨a, b, d, e⟩ := hD.2 k k0 k1
    refine ⟨a, b, d, fun q => ⟨?_, (e q).2⟩⟩
    have z := pSt_z0 c v pl lw k.toNat
    have l := pCl_le c v pl lw (pSt c v pl lw k.toNat)
    omega
theorem pDn_lt {c v pl : Int → Int} {lw : Bool} {N C C' : Int} (hc : ∀ i : Int, 0 ≤ i → N ≤ i → c i ≠ 159) (h : pDn c v pl lw N C) (h' : pDn c v pl lw N C') : ¬ C < C' := fun q => by
  have b := h.1
  have a := (h.2 (C - 1) (by omega) (by omega)).2.2.2 (by omega)
  have a' := (h'.2 (C - 1) (by omega) (by omega)).2.2.1 (by omega)
  have z := pSt_z0 c v pl lw (C - 1).toNat
  have l := pCl_le c v pl lw (pSt c v pl lw (C - 1).toNat)
  exact hc _ (by omega) a.1 a'
theorem pDn_u {c v pl : Int → Int} {lw : Bool} {N C C' : Int} (hc : ∀ i : Int, 0 ≤ i → N ≤ i → c i ≠ 159) (h : pDn c v pl lw N C) (h' : pDn c v pl lw N C') : C = C' := by
  have a := pDn_lt hc h h'
  have b := pDn_lt hc h' h
  omega
theorem tok_u {P : Int → Prop} {N N' : Int} (h : ∀ i : Int, 0 ≤ i → (i < N ↔ P i)) (h' : ∀ i : Int, 0 ≤ i → (i < N' ↔ P i)) : N = N' ∨ (N ≤ 0 ∧ N' ≤ 0) := by
  by_cases c : 0 < N
  · have a := (h' (N - 1) (by omega)).mpr ((h (N - 1) (by omega)).mp (by omega))
    have b := (h (N' - 1) (by omega)).mpr ((h' (N' - 1) (by omega)).mp (by omega))
    omega
  · by_cases d : 0 < N'
    · have b := (h (N' - 1) (by omega)).mpr ((h' (N' - 1) (by omega)).mp (by omega))
      omega
    · omega
theorem tC_past {B : Int → Int} {n N : Int} (h : ∀ i : Int, 0 ≤ i → (i < N ↔ tQ B n (tpl B n i) ≠ 0)) : ∀ i : Int, 0 ≤ i → N ≤ i → tC B n i ≠ 159 := fun i i0 i1 => by
  have q : tQ B n (tpl B n i) = 0 := by
    by_cases c : tQ B n (tpl B n i) = 0
    · exact c
    · have := (h i i0).mpr c
      omega
  rw [(tC_end q).1]
  decide
section Words
variable {g gm : od_G} {k M : Int}
theorem mOV_b (hs : StR g k (gm (M + 2))) (h27 : pBs (gm M 27)) (h28 : pBs (gm M 28)) (h29 : pBs (gm M 29)) (i x : Int) : pBs (mOV gm M i x) := by
  have n := hs.1.2
  have hh := hs.mv.1.2
  have pn := od_sum_b (f := fun d => mOnes (gm (M + 2) d) 12) (m := 12 * 63) (gm (M + 2) 45).toNat (fun i _ _ => mOnes_b _)
  unfold mOV
  by_cases c1 : i = 13
  · rw [if_pos c1]
    by_cases d : mDr gm M x
    · rw [od_ite_t d]; have := mOnes_b (gm (M + 2) x); unfold pBs; omega
    · rw [od_ite_f d]; unfold pBs; omega
  rw [if_neg c1]
  by_cases c2 : i = 14
  · rw [if_pos c2]; unfold pBs; omega
  rw [if_neg c2]
  by_cases c3 : i = 15
  · rw [if_pos c3]; exact h27
  rw [if_neg c3]
  by_cases c4 : i = 16
  · rw [if_pos c4]; exact h28
  rw [if_neg c4]
  by_cases c5 : i = 17
  · rw [if_pos c5]; exact h29
  rw [if_neg c5]
  by_cases c6 : i = 19
  · rw [if_pos c6]
    by_cases d : mDr gm M x
    · rw [od_ite_t d]
      have d0 := d
      unfold mDr mLies at d0
      have z := hs.2.1 x (by omega) (by omega)
      have z5 := z.2.2.2.2.1
      have z6 := z.2.2.2.2.2.1
      unfold pBs
      omega
    · rw [od_ite_f d]; unfold pBs; omega
  rw [if_neg c6]
  unfold pBs mPins
  omega
theorem mEn_b (hs : StR g k (gm (M + 2))) {pl : Int → Int} {C : Int} (h27 : pBs (gm M 27)) (h28 : pBs (gm M 28)) (i : Int) : pBs (mEn gm M pl C i) := by
  have e2 : ∀ v, od_up gm M 29 v (M + 2) = gm (M + 2) := fun v => od_up_ne (by omega)
  have lb := mLoud_54 hs.MI pl C 0
  have b : ∀ j x : Int, pBs (mOV (od_up gm M 29 (mLoud gm M pl C 0)) M j x) := fun j x => mOV_b (g := g) (k := k) (by rw [e2]; exact hs) (by rw [od_up_j (by omega)]; exact h27) (by rw [od_up_j (by omega)]; exact h28) (by rw [od_up_i]; unfold pBs; omega) j x
  unfold mEn mWo
  by_cases c1 : i < 5
  · rw [if_pos c1]; exact b _ _
  · rw [if_neg c1]
    by_cases c2 : i < 11
    · rw [if_pos c2]; exact b _ _
    · rw [if_neg c2]; exact b _ _
theorem ow_eq (hs : StR g k (gm (M + 2))) {pl : Int → Int} {C : Int} {sn : Nat} (hL : LfR g k (gm (M + 2)) pl C sn) {dn lt : Int} (e27 : dn = gm M 27) (e28 : lt = gm M 28) : ∀ i : Int, 0 ≤ i → i < 17 → cOW g k (cLawOf g k (g k 11)) sn dn lt i = mEn gm M pl C i := by
  intro i i0 i1
  have e2 : ∀ v, od_up gm M 29 v (M + 2) = gm (M + 2) := fun v => od_up_ne (by omega)
  have hD : ∀ v d, mDr (od_up gm M 29 v) M d ↔ mDr gm M d := fun v d => by unfold mDr; rw [e2]
  unfold cOW mEn mWo
  by_cases c1 : i < 5
  · rw [if_pos c1]
    rcases (by omega : i = 0 ∨ i = 1 ∨ i = 2 ∨ i = 3 ∨ i = 4) with rfl | rfl | rfl | rfl | rfl
    · rw [if_pos rfl]
      unfold mOV
      rw [if_neg (by omega), if_pos (by omega), e2]
      exact hs.mv.1.1
    · rw [if_neg (by omega), if_pos rfl]
      unfold mOV
      rw [if_neg (by omega), if_neg (by omega), if_pos (by omega), od_up_j (by omega)]
      exact e27
    · rw [if_neg (by omega), if_neg (by omega), if_pos rfl]
      unfold mOV
      rw [if_neg (by omega), if_neg (by omega), if_neg (by omega), if_pos (by omega), od_up_j (by omega)]
      exact e28
    · rw [if_neg (by omega), if_neg (by omega), if_neg (by omega), if_pos rfl]
      unfold mOV
      rw [if_neg (by omega), if_neg (by omega), if_neg (by omega), if_neg (by omega), if_pos (by omega), od_up_i]
      exact hs.loud hL (by omega)
    · rw [if_neg (by omega), if_neg (by omega), if_neg (by omega), if_neg (by omega), if_pos rfl]
      unfold mOV
      rw [if_neg (by omega), if_neg (by omega), if_neg (by omega), if_neg (by omega), if_neg (by omega), if_neg (by omega)]
      rw [hs.pins]
      unfold mPins
      rw [e2]
  · rw [if_neg (show ¬ i = 0 by omega), if_neg (show ¬ i = 1 by omega), if_neg (show ¬ i = 2 by omega), if_neg (show ¬ i = 3 by omega), if_neg (show ¬ i = 4 by omega), if_neg c1]
    by_cases c2 : i < 11
    · rw [if_pos c2, if_pos c2]
      unfold mOV
      rw [if_neg (by omega), if_neg (by omega), if_neg (by omega), if_neg (by omega), if_neg (by omega), if_pos rfl]
      refine od_ite_c ((hs.hasD (i - 5)).trans (hD _ _).symm) (fun q => ?_) rfl
      have hd := (hs.has (i - 5)).mp q
      rw [e2]
      exact (hs.2.1 _ hd.1 hd.2).2.2.1
    · rw [if_neg c2, if_neg c2]
      unfold mOV
      rw [if_pos rfl]
      refine od_ite_c ((hs.hasD (i - 11)).trans (hD _ _).symm) (fun q => ?_) rfl
      have hd := (hs.has (i - 11)).mp q
      have z := hs.2.1 _ hd.1 hd.2
      rw [e2, z.2.2.2.1]
      exact od_bc_o z.2.2.2.2.2.2.2.2.2
/-- a sum of orders comes to what it means -/
theorem ov_eq {G : od_G} {t f z : Int} {D : pD} (he : EvOk false (G (t + 6)) f z D) (hz : z ≤ 400) (hs : StR g k (gm (M + 2))) {pl : Int → Int} {C : Int} {sn : Nat} (hL : LfR g k (gm (M + 2)) pl C sn) {dn lt tl : Int} (hl : cLawOf g k (g k 11) = tl) (e27 : dn = gm M 27) (e28 : lt = gm M 28) (h27 : pBs (gm M 27)) (h28 : pBs (gm M 28)) : cOV G g k t tl sn 512 dn lt f = pEv (D (mEn gm M pl C)) := by
  unfold cOV
  have a := cVal_eq (sr := G (t + 6)) (n := 512) (wr := cOW g k tl sn dn lt) (wr' := mEn gm M pl C) (wl := 17) f (fun _ => 0) (fun i i0 i1 => by rw [← hl]; exact ow_eq hs hL e27 e28 i i0 (by omega))
  have b := he (G (t + 6)) 512 (mEn gm M pl C) (fun _ _ _ => rfl) (by omega) (fun i => mEn_b hs h27 h28 i)
  exact Eq.trans a b
end Words
theorem mSml_in {x : Int} (h : 0 ≤ x ∧ x ≤ 1000000) : mSml x = x := by unfold mSml; rw [if_neg (by omega)]
theorem mSml_dr {gm : od_G} {M x : Int} (c : ¬ mDr gm M x) : ¬ mDr gm M (mSml x) := by
  unfold mSml
  split
  · unfold mDr mLies; omega
  · exact c
theorem mSml_li {l h x : Int} (hl : 0 ≤ l) (c : ¬ mLies x l h) : ¬ mLies (mSml x) l h := by
  unfold mSml
  split
  · unfold mLies; omega
  · exact c
theorem sml_pin {gm : od_G} {M : Int} (hI : MI gm M) (pl : Int → Int) (C x y : Int) : mPinK gm M pl C (mSml x) (mSml y) = mPinK gm M pl C x y := by
  have n := hI.1
  by_cases cy : mLies y 0 11
  · rw [mSml_in (x := y) (by unfold mLies at cy; omega)]
    by_cases cx : mDr gm M x
    · rw [mSml_in (x := x) (by unfold mDr mLies at cx; omega)]
    · have cx' := mSml_dr cx
      unfold mPinK
      rw [od_ip_t cy, od_ip_t cy, od_ip_f cx', od_ip_f cx]
  · have cy' := mSml_li (Int.le_refl 0) cy
    unfold mPinK
    rw [od_ip_f cy', od_ip_f cy]
theorem sml_sh {gm : od_G} {M : Int} (hI : MI gm M) (x y : Int) : mShK gm M (mSml x) (mSml y) = mShK gm M x y := by
  have n := hI.1
  by_cases cy : mLies y 1 11
  · rw [mSml_in (x := y) (by unfold mLies at cy; omega)]
    by_cases cx : mDr gm M x
    · rw [mSml_in (x := x) (by unfold mDr mLies at cx; omega)]
    · have cx' := mSml_dr cx
      unfold mShK
      rw [od_ip_t cy, od_ip_t cy, od_ip_f cx', od_ip_f cx]
  · have cy' := mSml_li (show (0 : Int) ≤ 1 by omega) cy
    unfold mShK
    rw [od_ip_f cy', od_ip_f cy]
theorem sml_st {gm : od_G} {M : Int} (hI : MI gm M) (x : Int) : mStK gm M (mSml x) = mStK gm M x := by
  have n := hI.1
  by_cases cx : mDr gm M x
  · rw [mSml_in (x := x) (by unfold mDr mLies at cx; omega)]
  · have cx' := mSml_dr cx
    unfold mStK
    rw [od_ip_f cx', od_ip_f cx]
section Hand2
variable {g gm : od_G} {s p k M : Int} {pl : Int → Int} {C : Int} {sn : Nat}
theorem ob_ch (hs : StR g k (gm (M + 2))) (hp : PaR g p gm M) (hL : LfR g k (gm (M + 2)) pl C sn) {lo : Int} (hT : cLawOf g k (g k 11) ≠ -1 → lo ≤ cLawOf g k (g k 11)) (hx : k + 9 ≤ p ∧ p + 6 ≤ s ∧ s + 4 ≤ lo) {kd x y v : Int} {g' : od_G} (hk : 0 ≤ kd ∧ kd ≤ 3) (hc : cChanged g s p k kd x y sn v g') : v = (mObx gm M pl C kd x y).1 ∧ StR g' k ((mObx gm M pl C kd x y).2 (M + 2)) ∧ PaR g' p (mObx gm M pl C kd x y).2 M ∧ (0 ≤ v → (mObx gm M pl C kd x y).2 M 28 = od_ite (kd = 3) v (gm M 28)) ∧ (mObx gm M pl C kd x y).2 M 27 = gm M 27 := by
  have hO : OrI gm M pl C := ⟨hs.MI, hs.MJ, hL.F, hs.mv.1.2, hp.2.1.2⟩
  rcases (by omega : kd = 0 ∨ kd = 1 ∨ kd = 2 ∨ kd = 3) with rfl | rfl | rfl | rfl
  · have e : mObx gm M pl C 0 x y = mPinK gm M pl C x y := by
      unfold mObx
      rw [if_neg (by omega), if_neg (by omega), if_neg (by omega)]
      exact sml_pin hs.MI pl C x y
    rw [e]
    obtain ⟨a, b, c⟩ := ch_pin hs hp hL hT hx hc
    have f := mPinK_f (d := x) (b := y) hO
    exact ⟨a, b, c, fun _ => by rw [od_ite_f (by omega)]; exact f _ _ (by unfold KF; omega), f _ _ (by unfold KF; omega)⟩
  · have e : mObx gm M pl C 1 x y = mShK gm M x y := by
      unfold mObx
      rw [if_pos rfl]
      exact sml_sh hs.MI x y
    rw [e]
    obtain ⟨a, b, c⟩ := ch_shift hs hp hL hT hx hc
    have f := mShK_f (d := x) (n := y) hO
    exact ⟨a, b, c, fun _ => by rw [od_ite_f (by omega)]; exact f _ _ (by unfold KF; omega), f _ _ (by unfold KF; omega)⟩
  · have e : mObx gm M pl C 2 x y = mStK gm M x := by
      unfold mObx
      rw [if_neg (by omega), if_pos rfl]
      exact sml_st hs.MI x
    rw [e]
    obtain ⟨a, b, c⟩ := ch_stop hs hp hL hT hx hc
    have f := mStK_f (d := x) hO
    exact ⟨a, b, c, fun _ => by rw [od_ite_f (by omega)]; exact f _ _ (by unfold KF; omega), f _ _ (by unfold KF; omega)⟩
  · have e : mObx gm M pl C 3 x y = ((mPaK gm M pl C).1, od_up (mPaK gm M pl C).2 M 28 (if (mPaK gm M pl C).1 < 0 then (mPaK gm M pl C).2 M 28 else (mPaK gm M pl C).1)) := by
      unfold mObx
      rw [if_neg (by omega), if_neg (by omega), if_pos rfl]
    rw [e]
    obtain ⟨a, b, c⟩ := ch_pass hs hp hL hT hx hc
    have f := mPaK_f hO
    refine ⟨a, ?_, ?_, fun hv => ?_, ?_⟩
    · show StR g' k (od_up _ M 28 _ (M + 2))
      rw [od_up_ne (by omega)]
      exact b
    · exact c.cm b.1.2.2 (od_up_j (by omega)) (od_upn (by omega)) (fun d _ _ => od_upn (by omega)) (fun y _ _ => od_upn (by omega))
    · show od_up _ M 28 _ M 28 = _
      rw [od_up_i, ← a, if_neg (by omega), od_ite_t rfl]
    · show od_up _ M 28 _ M 27 = _
      rw [od_up_j (by omega)]
      exact f _ _ (by unfold KF; omega)
end Hand2
