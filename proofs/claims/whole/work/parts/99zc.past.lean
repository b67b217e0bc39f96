/-! an hour passes; what was kept of the past -/
theorem od_and_not {x b : Int} (hb : 0 ≤ b ∧ b < 32) (h : od_bit x b) : od_and x (od_xor (od_shl 1 b) (-1)) = od_xor x (od_shl 1 b) := by
  refine od_bit_ext (od_rng_and _ _) (od_rng_xor _ _) (fun j j0 j1 => ?_)
  rw [od_bit_and ⟨j0, j1⟩, od_bit_flip hb ⟨j0, j1⟩, od_bit_xor ⟨j0, j1⟩, od_bit_s hb ⟨j0, j1⟩]
  have m := od_bit_m1 ⟨j0, j1⟩
  by_cases c : j = b
  · subst c
    constructor
    · intro q; exact absurd ⟨fun _ => m, fun _ => rfl⟩ q.2
    · intro q
      rcases q with ⟨_, q⟩ | ⟨q, _⟩
      · exact absurd h q
      · exact absurd rfl q
  · constructor
    · intro q; exact Or.inr ⟨c, q.1⟩
    · intro q
      rcases q with ⟨q, _⟩ | ⟨_, q⟩
      · exact absurd q c
      · exact ⟨q, fun y => c (y.mpr m)⟩
theorem cPass_n {g : od_G} {k t : Int} {sn : Nat} {x : Int} (h3 : x ≠ k + 3) (h4 : x ≠ k + 4) (h5 : x ≠ k + 5) : cPass g k t sn x = g x := by
  funext y
  unfold cPass cPs
  rw [od_upn h5, if_neg (fun q => h4 q.1), if_neg (fun q => h3 q.1)]
theorem MvR.cc {hr sp : Int} {bt pn bt' pn' : Int → Int} {n : Int} {lg m lg' m' : Int → Int} (hn : n ≤ 6) (h : MvR hr sp bt pn n lg m) (e1 : ∀ d : Int, 0 ≤ d → d < n → bt' d = bt d ∧ pn' d = pn d ∧ lg' d = lg d) (e : ∀ y : Int, 0 ≤ y → y < 19 → m' y = m y) : MvR hr sp bt' pn' n lg' m' := by
  obtain ⟨m1, m2, m3⟩ := h
  refine ⟨by rw [e 18 (by omega) (by omega)]; exact m1, fun d d0 d1 => ?_, m3⟩
  obtain ⟨a, b, c⟩ := e1 d d0 d1
  rw [e (6 + d) (by omega) (by omega), e (12 + d) (by omega) (by omega), e d (by omega) (by omega), a, b, c]
  exact m2 d d0 d1
section Pass
variable {g gm : od_G} {k M : Int}
theorem StR.beat0 (h : StR g k (gm (M + 2))) {d : Int} (hd : 0 ≤ d ∧ d < gm (M + 2) 45) : mBeat gm M d 0 = gm (M + 2) (6 + d) := by
  have z := h.2.1 d hd.1 hd.2
  have z5 := z.2.2.2.2.1
  have z6 := z.2.2.2.2.2.1
  unfold mBeat
  by_cases c : mStop gm M d
  · rw [od_ite_t c]
  · rw [od_ite_f c, od_wI (by omega) (by omega), Int.add_zero, Int.tmod_eq_emod_of_nonneg (by omega), Int.emod_eq_of_lt (by omega) (by omega)]
theorem StR.drop (h : StR g k (gm (M + 2))) {pl : Int → Int} {C : Int} {sn : Nat} (hL : LfR g k (gm (M + 2)) pl C sn) {d : Int} (hd : 0 ≤ d ∧ d < gm (M + 2) 45) : cDrop g k (cLawOf g k (g k 11)) sn d ↔ mDrop gm M pl C d := by
  have z := h.2.1 d hd.1 hd.2
  have z5 := z.2.2.2.2.1
  have z6 := z.2.2.2.2.2.1
  unfold cDrop mDrop
  rw [h.strikes hd (by omega), z.2.2.1, h.holds hd (by omega) hL (by omega)]
theorem StR.passG (h : StR g k (gm (M + 2))) {pl : Int → Int} {C : Int} {sn : Nat} (hL : LfR g k (gm (M + 2)) pl C sn) (h18 : gm (M + 2) 18 < 999) : StR (cPass g k (cLawOf g k (g k 11)) sn) k (mHp gm M pl C) := by
  have n6 := h.1.2
  have hI := h.MI
  obtain ⟨m1, m2, m3⟩ := h.mv
  have e8 := h.1.1
  refine (StR.iff _ _ _).mpr ⟨h.fx.c (fun y _ => by rw [cPass_n (by omega) (by omega) (by omega)]) (cPass_n (by omega) (by omega) (by omega)) (cPass_n (by omega) (by omega) (by omega)) (fun y y1 => ?_) (cPass_n (by omega) (by omega) (by omega)) (cPass_n (by omega) (by omega) (by omega)) (fun y y0 _ => mHp_hi hI y0), ?_⟩
  · unfold cPass cPs
    rw [od_up_j (by omega), if_neg (by omega), if_neg (by omega)]
  · rw [cPass_n (x := k) (by omega) (by omega) (by omega), mHp_hi hI (show (19 : Int) ≤ 45 by omega)]
    refine ⟨⟨?_, ?_⟩, fun d d0 d1 => ?_, m3⟩
    · rw [mHp_18]
      unfold cPass
      rw [od_up_i, m1.1]
    · rw [mHp_18]; omega
    · have hd : 0 ≤ d ∧ d < gm (M + 2) 45 := ⟨d0, d1⟩
      have z := m2 d d0 d1
      have zl := h.2.1 d d0 d1
      have bb := h.beat_b hd (x := 1) (by omega)
      have ep : mHp gm M pl C d = od_ite (mDrop gm M pl C d) (od_xor (gm (M + 2) d) (od_shl 1 (gm (M + 2) (6 + d)))) (gm (M + 2) d) := by
        unfold mHp mHk
        rw [od_u1_ne (by omega), od_ite_t (by omega)]
      have el : mHp gm M pl C (19 + d) = gm (M + 2) (19 + d) := mHp_hi hI (by omega)
      show _ ∧ _ ∧ (_ ∧ _ < mHp gm M pl C (19 + d)) ∧ _
      rw [mHp_6 hI d0 d1, mHp_12 hI d0 d1, el, ep]
      have eb : cPass g k (cLawOf g k (g k 11)) sn (k + 3) d = mBeat gm M d 1 := by
        unfold cPass cPs
        rw [od_upn (by omega), if_neg (by omega), if_pos (by omega), h.beat hd]
      have epn : cPass g k (cLawOf g k (g k 11)) sn (k + 4) d = od_ite (cDrop g k (cLawOf g k (g k 11)) sn d) (od_and (g (k + 4) d) (od_xor (od_shl 1 (g (k + 3) d)) (-1))) (g (k + 4) d) := by
        unfold cPass cPs
        rw [od_upn (by omega), if_pos (by omega)]
        rfl
      rw [eb, epn]
      refine ⟨rfl, ?_, bb, z.2.2.2.1, z.2.2.2.2.1, ?_⟩
      · rw [z.2.1, z.1]
        by_cases c : mDrop gm M pl C d
        · rw [od_ite_t c, od_ite_t ((h.drop hL hd).mpr c)]
          refine od_and_not (by have := zl.2.2.2.2.1; have := zl.2.2.2.2.2.1; omega) ?_
          have s := c.1.2
          rw [h.beat0 hd] at s
          exact mIn_bit.mp s
        · rw [od_ite_f c, od_ite_f (fun q => c ((h.drop hL hd).mp q))]
      · by_cases c : mDrop gm M pl C d
        · rw [od_ite_t c]
          have x := od_xor_lt (x := gm (M + 2) d) (b := gm (M + 2) (6 + d)) (n := 12) (by omega) (by have := z.2.2.2.2.2; omega) (by have := zl.2.2.2.2.1; have := zl.2.2.2.2.2.1; omega)
          omega
        · rw [od_ite_f c]; exact z.2.2.2.2.2
end Pass
/-- a record of the past -/
def RcR (g : od_G) (p s : Int) (n : Int) (lg m : Int → Int) : Prop := g (p + 1) s = m 19 ∧ MvR (g (p + 2) s) (g (p + 3) s) (fun d => g (p + 4) (d + 6 * s)) (fun d => g (p + 5) (d + 6 * s)) n lg m
def PaR (g : od_G) (p : Int) (gm : od_G) (M : Int) : Prop := (0 ≤ g p 5 ∧ g p 5 < 16) ∧ (g p 6 = gm M 33 ∧ 0 ≤ gm M 33 ∧ gm M 33 ≤ 16) ∧ ∀ j : Int, 0 ≤ j → j < gm M 33 → RcR g p ((g p 5 + j) % 16) (gm (M + 2) 45) (fun d => gm (M + 2) (19 + d)) (fun y => gm (M + 14) (20 * j + y))
theorem RcR.c {g g' : od_G} {p s n : Int} {lg m lg' m' : Int → Int} (hn : n ≤ 6) (h : RcR g p s n lg m) (e1 : g' (p + 1) s = g (p + 1) s) (e2 : g' (p + 2) s = g (p + 2) s) (e3 : g' (p + 3) s = g (p + 3) s) (e4 : ∀ d : Int, 0 ≤ d → d < 6 → g' (p + 4) (d + 6 * s) = g (p + 4) (d + 6 * s) ∧ g' (p + 5) (d + 6 * s) = g (p + 5) (d + 6 * s)) (el : ∀ d : Int, 0 ≤ d → d < n → lg' d = lg d) (em : ∀ y : Int, 0 ≤ y → y < 20 → m' y = m y) : RcR g' p s n lg' m' := by
  obtain ⟨h1, h2⟩ := h
  refine ⟨by rw [e1, em 19 (by omega) (by omega)]; exact h1, ?_⟩
  rw [e2, e3]
  exact h2.cc hn (fun d d0 d1 => ⟨(e4 d d0 (by omega)).1, (e4 d d0 (by omega)).2, el d d0 d1⟩) (fun y y0 y1 => em y y0 (by omega))
section Past
variable {g gm : od_G} {k p M : Int}
theorem PaR.keepT (h : PaR g p gm M) (hs : StR g k (gm (M + 2))) (hkp : k + 9 ≤ p ∨ p + 6 ≤ k) (h16 : gm M 33 < 16) (kd : Int) : PaR (cKeepT g p k kd) p (mKp1 gm M kd) M := by
  obtain ⟨f, sz, rc⟩ := h
  have n6 := hs.1.2
  have hS : cKeepS g p = (g p 5 + g p 6) % 16 := by unfold cKeepS; rw [Int.tmod_eq_emod_of_nonneg (by omega)]
  have e5 : cKeepT g p k kd p 5 = g p 5 := by unfold cKeepT; repeat rw [if_neg (by omega)]
  have e6 : cKeepT g p k kd p 6 = g p 6 + 1 := by unfold cKeepT; rw [if_pos (by omega)]
  have m33 : mKp1 gm M kd M 33 = gm M 33 + 1 := by unfold mKp1; rw [od_up_i]
  have m2 : mKp1 gm M kd (M + 2) = gm (M + 2) := by
    funext y
    unfold mKp1
    rw [od_upn (by omega), od_upn (by omega)]
    unfold od_cq
    rw [if_neg (by omega)]
  refine ⟨by rw [e5]; exact f, by rw [e6, m33]; omega, fun j j0 j1 => ?_⟩
  rw [m33] at j1
  rw [e5, m2]
  have r1 : ∀ y : Int, cKeepT g p k kd (p + 1) y = if y = cKeepS g p then kd else g (p + 1) y := fun y => by
    unfold cKeepT
    rw [if_neg (by omega)]
    by_cases c : y = cKeepS g p
    · rw [if_pos ⟨rfl, c⟩, if_pos c]
    · rw [if_neg (fun q => c q.2), if_neg c]; repeat rw [if_neg (by omega)]
  have r2 : ∀ y : Int, cKeepT g p k kd (p + 2) y = if y = cKeepS g p then g (k + 5) 0 else g (p + 2) y := fun y => by
    unfold cKeepT
    rw [if_neg (by omega), if_neg (by omega)]
    by_cases c : y = cKeepS g p
    · rw [if_pos ⟨rfl, c⟩, if_pos c]
    · rw [if_neg (fun q => c q.2), if_neg c]; repeat rw [if_neg (by omega)]
  have r3 : ∀ y : Int, cKeepT g p k kd (p + 3) y = if y = cKeepS g p then g k 9 else g (p + 3) y := fun y => by
    unfold cKeepT
    rw [if_neg (by omega), if_neg (by omega), if_neg (by omega)]
    by_cases c : y = cKeepS g p
    · rw [if_pos ⟨rfl, c⟩, if_pos c]
    · rw [if_neg (fun q => c q.2), if_neg c]; repeat rw [if_neg (by omega)]
  have r4 : ∀ y : Int, cKeepT g p k kd (p + 4) y = if 6 * cKeepS g p ≤ y ∧ y < 6 * cKeepS g p + 6 then g (k + 3) (y - 6 * cKeepS g p) else g (p + 4) y := fun y => by
    unfold cKeepT
    rw [if_neg (by omega), if_neg (by omega), if_neg (by omega), if_neg (by omega)]
    by_cases c : 6 * cKeepS g p ≤ y ∧ y < 6 * cKeepS g p + 6
    · rw [if_pos ⟨rfl, c⟩, if_pos c]
    · rw [if_neg (fun q => c q.2), if_neg c]; repeat rw [if_neg (by omega)]
  have r5 : ∀ y : Int, cKeepT g p k kd (p + 5) y = if 6 * cKeepS g p ≤ y ∧ y < 6 * cKeepS g p + 6 then g (k + 4) (y - 6 * cKeepS g p) else g (p + 5) y := fun y => by
    unfold cKeepT
    rw [if_neg (by omega), if_neg (by omega), if_neg (by omega), if_neg (by omega), if_neg (by omega)]
    by_cases c : 6 * cKeepS g p ≤ y ∧ y < 6 * cKeepS g p + 6
    · rw [if_pos ⟨rfl, c⟩, if_pos c]
    · rw [if_neg (fun q => c q.2), if_neg c]
  have r14 : ∀ y : Int, mKp1 gm M kd (M + 14) y = if y = 20 * gm M 33 + 19 then kd else if 20 * gm M 33 ≤ y ∧ y < 20 * gm M 33 + 19 then gm (M + 2) (y - 20 * gm M 33) else gm (M + 14) y := fun y => by
    unfold mKp1
    rw [od_upn (by omega)]
    by_cases c : y = 20 * gm M 33 + 19
    · rw [c, od_up_i, if_pos rfl]
    · rw [od_up_j c, if_neg c]
      unfold od_cq
      by_cases c2 : 20 * gm M 33 ≤ y ∧ y < 20 * gm M 33 + 19
      · rw [if_pos ⟨rfl, c2⟩, if_pos c2, Int.add_zero]
      · rw [if_neg (fun q => c2 q.2), if_neg c2]
  rw [hS, sz.1] at r1 r2 r3 r4 r5
  by_cases cj : j = gm M 33
  · subst cj
    refine ⟨?_, ?_⟩
    · rw [r1, if_pos rfl]
      show kd = mKp1 gm M kd (M + 14) (20 * gm M 33 + 19)
      rw [r14, if_pos rfl]
    · rw [r2, r3, if_pos rfl, if_pos rfl]
      refine hs.mv.cc (by omega) (fun d d0 d1 => ⟨?_, ?_, rfl⟩) (fun y y0 y1 => ?_)
      · show cKeepT g p k kd (p + 4) _ = _
        rw [r4, if_pos (by omega)]
        congr 1
        omega
      · show cKeepT g p k kd (p + 5) _ = _
        rw [r5, if_pos (by omega)]
        congr 1
        omega
      · show mKp1 gm M kd (M + 14) _ = _
        rw [r14, if_neg (by omega), if_pos (by omega)]
        congr 1
        omega
  · have z := rc j j0 (by omega)
    have ne : (g p 5 + j) % 16 ≠ (g p 5 + gm M 33) % 16 := by omega
    refine z.c (by omega) (by rw [r1, if_neg ne]) (by rw [r2, if_neg ne]) (by rw [r3, if_neg ne]) (fun d d0 d1 => ⟨by rw [r4, if_neg (by omega)], by rw [r5, if_neg (by omega)]⟩) (fun d _ _ => rfl) (fun y y0 y1 => ?_)
    show mKp1 gm M kd (M + 14) _ = _
    rw [r14, if_neg (by omega), if_neg (by omega)]
theorem PaR.keep (h : PaR g p gm M) (hs : StR g k (gm (M + 2))) (hkp : k + 9 ≤ p ∨ p + 6 ≤ k) (kd : Int) : PaR (cKeep g p k kd) p (mKp gm M kd) M := by
  have sz := h.2.1
  unfold cKeep mKp mKp0
  by_cases c : gm M 33 = 16
  · rw [if_pos (by omega), if_pos c]
    have e2 : od_up (od_cq gm (M + 14) 0 (M + 14) 20 300) M 33 15 (M + 2) = gm (M + 2) := by
      rw [od_up_ne (by omega)]
      funext y
      unfold od_cq
      rw [if_neg (by omega)]
    have e33 : od_up (od_cq gm (M + 14) 0 (M + 14) 20 300) M 33 15 M 33 = 15 := od_up_i
    refine PaR.keepT ⟨?_, ?_, fun j j0 j1 => ?_⟩ ?_ hkp (by rw [e33]; omega) kd
    · rw [od_up_j (by omega), od_up_i, Int.tmod_eq_emod_of_nonneg (by have := h.1; omega)]
      omega
    · rw [od_up_i, e33]; omega
    · rw [e33] at j1
      rw [e2, od_up_j (by omega), od_up_i, Int.tmod_eq_emod_of_nonneg (by have := h.1; omega)]
      have z := h.2.2 (j + 1) (by omega) (by omega)
      rw [show (g p 5 + (j + 1)) % 16 = ((g p 5 + 1) % 16 + j) % 16 by omega] at z
      refine z.c hs.1.2.2 (by rw [od_upn (by omega), od_upn (by omega)]) (by rw [od_upn (by omega), od_upn (by omega)]) (by rw [od_upn (by omega), od_upn (by omega)]) (fun d d0 d1 => ⟨by rw [od_upn (by omega), od_upn (by omega)], by rw [od_upn (by omega), od_upn (by omega)]⟩) (fun d _ _ => rfl) (fun y y0 y1 => ?_)
      show od_up (od_cq gm (M + 14) 0 (M + 14) 20 300) M 33 15 (M + 14) (20 * j + y) = gm (M + 14) (20 * (j + 1) + y)
      rw [od_upn (by omega)]
      unfold od_cq
      rw [if_pos (by omega)]
      congr 1
      omega
    · rw [e2]
      have z := hs.mv
      refine (StR.iff _ _ _).mpr ⟨hs.fx.c (fun y _ => by rw [od_upn (by omega), od_upn (by omega)]) (by rw [od_up_ne (by omega), od_up_ne (by omega)]) (by rw [od_up_ne (by omega), od_up_ne (by omega)]) (fun y _ => by rw [od_upn (by omega), od_upn (by omega)]) (by rw [od_up_ne (by omega), od_up_ne (by omega)]) (by rw [od_up_ne (by omega), od_up_ne (by omega)]) (fun y _ _ => rfl), ?_⟩
      rw [od_upn (by omega), od_upn (by omega), od_upn (by omega), od_upn (by omega), od_up_ne (show k + 3 ≠ p by omega), od_up_ne (show k + 3 ≠ p by omega), od_up_ne (show k + 4 ≠ p by omega), od_up_ne (show k + 4 ≠ p by omega)]
      exact z
  · rw [if_neg (by omega), if_neg c]
    exact h.keepT hs hkp (by omega) kd
end Past
