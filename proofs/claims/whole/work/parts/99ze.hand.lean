/-! hands: pin, shift, stop, pass -/
theorem cTurn_n {g : od_G} {k kd d n x : Int} (h0 : x ≠ k) (h3 : x ≠ k + 3) (h4 : x ≠ k + 4) : (cTurn g k kd d n).2 x = g x := by
  unfold cTurn
  by_cases c : kd = 0
  · rw [if_pos c]; exact od_up_ne h4
  · rw [if_neg c]
    by_cases c1 : kd = 1
    · rw [if_pos c1]; exact od_up_ne h3
    · rw [if_neg c1]; exact od_up_ne h0
theorem cChanged_row {g : od_G} {s p k kd d n : Int} {sn : Nat} {v : Int} {g' : od_G} (h : cChanged g s p k kd d n sn v g') {x : Int} (hs : x ≠ s + 2 ∧ x ≠ s + 3) (hp : x < p ∨ p + 5 < x) (hk : x ≠ k ∧ x ≠ k + 3 ∧ x ≠ k + 4 ∧ x ≠ k + 5) : g' x = g x := by
  obtain ⟨g1, f1, h⟩ := h
  have e1 : g1 x = g x := f1.row (fun y q => by omega)
  have e2 : cKeep g1 p k kd x = g1 x := (cKeep_fr g1 p k kd).row (fun y q => by omega)
  rcases h with ⟨_, _, rfl⟩ | ⟨_, _, _, f2⟩ | ⟨_, _, _, rfl⟩
  · exact e1
  · rw [← e1, ← e2, ← cPass_n (g := cKeep g1 p k kd) (k := k) (t := cLawOf g k (g k 11)) (sn := sn) hk.2.1 hk.2.2.1 hk.2.2.2]
    exact f2.row (fun y q => by omega)
  · rw [cTurn_n hk.1 hk.2.1 hk.2.2.1, e2, e1]
section Hand
variable {g gm : od_G} {s p k M : Int} {pl : Int → Int} {C : Int} {sn : Nat}
/-- what stands when the past has been kept -/
theorem ch_keep (hs : StR g k (gm (M + 2))) (hp : PaR g p gm M) (hL : LfR g k (gm (M + 2)) pl C sn) {lo : Int} (hT : cLawOf g k (g k 11) ≠ -1 → lo ≤ cLawOf g k (g k 11)) (hx : k + 9 ≤ p ∧ p + 6 ≤ s ∧ s + 4 ≤ lo) {g1 : od_G} (f : od_fr (fun x _ => x = s + 2 ∨ x = s + 3) g g1) (kd : Int) : StR (cKeep g1 p k kd) k (mKp gm M kd (M + 2)) ∧ PaR (cKeep g1 p k kd) p (mKp gm M kd) M ∧ LfR (cKeep g1 p k kd) k (mKp gm M kd (M + 2)) pl C sn ∧ cLawOf (cKeep g1 p k kd) k (cKeep g1 p k kd k 11) = cLawOf g k (g k 11) := by
  have ea : ∀ x : Int, x ≠ s + 2 → x ≠ s + 3 → g1 x = g x := fun x a b => f.row (fun y q => by omega)
  have eb : ∀ x : Int, x < p ∨ p + 5 < x → cKeep g1 p k kd x = g1 x := fun x a => (cKeep_fr g1 p k kd).row (fun y q => by omega)
  have ec : ∀ x : Int, x ≠ s + 2 → x ≠ s + 3 → x < p ∨ p + 5 < x → cKeep g1 p k kd x = g x := fun x a b c => (eb x c).trans (ea x a b)
  have s1 : StR g1 k (gm (M + 2)) := hs.cg (fun x x0 x1 => ea x (by omega) (by omega))
  have p1 : PaR g1 p gm M := hp.cg (fun x x0 x1 => ea x (by omega) (by omega))
  rw [mKp_2]
  refine ⟨hs.cg (fun x x0 x1 => ec x (by omega) (by omega) (by omega)), p1.keep s1 (by omega) kd, ?_, ?_⟩
  · refine hL.c (by rw [ec k (by omega) (by omega) (by omega)]) (by rw [ec k (by omega) (by omega) (by omega)]) (ec _ (by omega) (by omega) (by omega)) (fun q => ?_) rfl (SlE.rf _)
    have := hT q
    exact ⟨ec _ (by omega) (by omega) (by omega), ec _ (by omega) (by omega) (by omega), ec _ (by omega) (by omega) (by omega), ec _ (by omega) (by omega) (by omega), ec _ (by omega) (by omega) (by omega), ec _ (by omega) (by omega) (by omega), ec _ (by omega) (by omega) (by omega)⟩
  · unfold cLawOf
    rw [ec k (by omega) (by omega) (by omega), ec (k + 6) (by omega) (by omega) (by omega)]
theorem ch_no (hs : StR g k (gm (M + 2))) (hp : PaR g p gm M) (hx : k + 9 ≤ p ∧ p + 6 ≤ s) {g1 : od_G} (f : od_fr (fun x _ => x = s + 2 ∨ x = s + 3) g g1) : StR g1 k (gm (M + 2)) ∧ PaR g1 p gm M :=
  ⟨hs.cg (fun x x0 x1 => f.row (fun y q => by omega)), hp.cg (fun x x0 x1 => f.row (fun y q => by omega))⟩
/-- after a change of the moved part, the past is still what it was -/
theorem PaR.mvd {g g' gm gm' : od_G} (h : PaR g p gm M) (hn : gm (M + 2) 45 ≤ 6) (e : ∀ x : Int, p ≤ x → x ≤ p + 5 → g' x = g x) (e33 : gm' M 33 = gm M 33) (e2 : ∀ y : Int, 19 ≤ y → gm' (M + 2) y = gm (M + 2) y) (e14 : gm' (M + 14) = gm (M + 14)) : PaR g' p gm' M :=
  (h.cg e).cm hn e33 (e2 45 (by omega)) (fun d d0 d1 => e2 _ (by omega)) (fun y _ _ => by rw [e14])
theorem rf_pin (hs : StR g k (gm (M + 2))) (hL : LfR g k (gm (M + 2)) pl C sn) (d n : Int) : cRefuse g k 0 d n sn = od_ite (mLies n 0 11) (od_ite (mDr gm M d) (od_ite (mBeatL gm M d n ∧ (mPin gm M d n ∨ ¬ mNow (gm (M + 2)) pl C 2 d n)) 0 (-3)) (-2)) (-1) := by
  unfold cRefuse
  rw [od_ite_f (by omega)]
  by_cases c1 : mLies n 0 11
  · rw [od_ite_t c1, od_ite_f (by unfold cBadNo; unfold mLies at c1; omega)]
    refine od_ite_c (hs.hasD d) (fun q => ?_) rfl
    have hd : 0 ≤ d ∧ d < gm (M + 2) 45 := (hs.has d).mp q
    have eb := hs.hb hd n
    by_cases cb : mBeatL gm M d n
    · have e1 := hs.pin hd (b := n) (by unfold mBeatL mLies at cb; omega)
      have e2 := hs.holds hd (b := n) (by unfold mLies at c1; omega) hL (kd := 2) (by omega)
      by_cases cp : mPin gm M d n
      · rw [od_ite_f (fun z => z.2.1 (e1.mpr cp)), od_ite_t ⟨cb, Or.inl cp⟩]
      · by_cases cn : mNow (gm (M + 2)) pl C 2 d n
        · rw [od_ite_t ⟨rfl, fun z => cp (e1.mp z), Or.inr (e2.mpr cn)⟩, od_ite_f (fun z => z.2.elim cp (fun y => y cn))]
        · rw [od_ite_f (fun z => z.2.2.elim (fun y => y (eb.mpr cb)) (fun y => cn (e2.mp y))), od_ite_t ⟨cb, Or.inr cn⟩]
    · rw [od_ite_t ⟨rfl, fun z => cb (eb.mp ⟨z.1, z.2.1, z.2.2.1⟩), Or.inl (fun z => cb (eb.mp z))⟩, od_ite_f (fun z => cb z.1)]
  · rw [od_ite_f c1, od_ite_t (by unfold cBadNo; unfold mLies at c1; omega)]
theorem ch_pin (hs : StR g k (gm (M + 2))) (hp : PaR g p gm M) (hL : LfR g k (gm (M + 2)) pl C sn) {lo : Int} (hT : cLawOf g k (g k 11) ≠ -1 → lo ≤ cLawOf g k (g k 11)) (hx : k + 9 ≤ p ∧ p + 6 ≤ s ∧ s + 4 ≤ lo) {d n v : Int} {g' : od_G} (hc : cChanged g s p k 0 d n sn v g') : v = (mPinK gm M pl C d n).1 ∧ StR g' k ((mPinK gm M pl C d n).2 (M + 2)) ∧ PaR g' p (mPinK gm M pl C d n).2 M := by
  have n6 := hs.1.2
  obtain ⟨g1, f1, hc⟩ := hc
  have nn := ch_no hs hp ⟨hx.1, hx.2.1⟩ f1
  have rf := rf_pin hs hL d n
  unfold mPinK
  by_cases c1 : mLies n 0 11
  · rw [od_ip_t c1]
    rw [od_ite_t c1] at rf
    by_cases c2 : mDr gm M d
    · rw [od_ip_t c2]
      rw [od_ite_t c2] at rf
      by_cases c3 : mBeatL gm M d n ∧ (mPin gm M d n ∨ ¬ mNow (gm (M + 2)) pl C 2 d n)
      · rw [od_ip_t c3]
        rw [od_ite_t c3] at rf
        rcases hc with ⟨a, _⟩ | ⟨_, a, _⟩ | ⟨_, _, av, ag⟩
        · exact absurd rf a
        · omega
        · obtain ⟨ks, kp, _, _⟩ := ch_keep hs hp hL hT hx f1 0
          have hd : 0 ≤ d ∧ d < gm (M + 2) 45 := (hs.has d).mp ((hs.hasD d).mpr c2)
          unfold cTurn at av ag
          rw [if_pos rfl] at av ag
          have nb := c3.1
          unfold mBeatL mLies at nb
          have nl := c1
          unfold mLies at nl
          have e2 : mTurn (mKp gm M 0) M d n (M + 2) = od_u1 (mKp gm M 0 (M + 2)) d (od_xor (mKp gm M 0 (M + 2) d) (od_shl 1 n)) := by unfold mTurn; rw [od_up_row]
          have sN : StR (cPinG (cKeep g1 p k 0) k d n) k (mTurn (mKp gm M 0) M d n (M + 2)) := by
            rw [e2]
            exact ks.pinG (by rw [mKp_2]; exact hd) ⟨nl.1, by omega⟩
          have h19 : ∀ y : Int, 6 ≤ y → mTurn (mKp gm M 0) M d n (M + 2) y = gm (M + 2) y := fun y hy => by rw [e2, od_u1_ne (by omega), mKp_2]
          refine ⟨?_, by rw [ag]; exact sN, ?_⟩
          · rw [av]
            exact od_ite_c (sN.pin (by rw [h19 45 (by omega)]; exact hd) (by rw [h19 (19 + d) (by omega)]; omega)) (fun _ => rfl) rfl
          · rw [ag]
            refine kp.mvd (by rw [mKp_2]; omega) (fun x x0 x1 => od_up_ne (by omega)) (od_upn (by omega)) (fun y hy => (h19 y (by omega)).trans (by rw [mKp_2])) (od_up_ne (by omega))
      · rw [od_ip_f c3]
        rw [od_ite_f c3] at rf
        rcases hc with ⟨_, av, ag⟩ | ⟨a, _⟩ | ⟨a, _⟩
        · rw [ag]; exact ⟨by rw [av, rf], nn⟩
        · omega
        · omega
    · rw [od_ip_f c2]
      rw [od_ite_f c2] at rf
      rcases hc with ⟨_, av, ag⟩ | ⟨a, _⟩ | ⟨a, _⟩
      · rw [ag]; exact ⟨by rw [av, rf], nn⟩
      · omega
      · omega
  · rw [od_ip_f c1]
    rw [od_ite_f c1] at rf
    rcases hc with ⟨_, av, ag⟩ | ⟨a, _⟩ | ⟨a, _⟩
    · rw [ag]; exact ⟨by rw [av, rf], nn⟩
    · omega
    · omega
theorem ch_shift (hs : StR g k (gm (M + 2))) (hp : PaR g p gm M) (hL : LfR g k (gm (M + 2)) pl C sn) {lo : Int} (hT : cLawOf g k (g k 11) ≠ -1 → lo ≤ cLawOf g k (g k 11)) (hx : k + 9 ≤ p ∧ p + 6 ≤ s ∧ s + 4 ≤ lo) {d n v : Int} {g' : od_G} (hc : cChanged g s p k 1 d n sn v g') : v = (mShK gm M d n).1 ∧ StR g' k ((mShK gm M d n).2 (M + 2)) ∧ PaR g' p (mShK gm M d n).2 M := by
  have n6 := hs.1.2
  obtain ⟨g1, f1, hc⟩ := hc
  have nn := ch_no hs hp ⟨hx.1, hx.2.1⟩ f1
  have rf : cRefuse g k 1 d n sn = od_ite (mLies n 1 11) (od_ite (mDr gm M d) 0 (-2)) (-1) := by
    unfold cRefuse
    rw [od_ite_f (by omega)]
    by_cases c1 : mLies n 1 11
    · rw [od_ite_t c1, od_ite_f (by unfold cBadNo; unfold mLies at c1; omega)]
      exact od_ite_c (hs.hasD d) (fun q => od_ite_f (by omega)) rfl
    · rw [od_ite_f c1, od_ite_t (by unfold cBadNo; unfold mLies at c1; omega)]
  unfold mShK
  by_cases c1 : mLies n 1 11
  · rw [od_ip_t c1]
    rw [od_ite_t c1] at rf
    by_cases c2 : mDr gm M d
    · rw [od_ip_t c2]
      rw [od_ite_t c2] at rf
      rcases hc with ⟨a, _⟩ | ⟨_, a, _⟩ | ⟨_, _, av, ag⟩
      · exact absurd rf a
      · omega
      · obtain ⟨ks, kp, _, _⟩ := ch_keep hs hp hL hT hx f1 1
        have hd : 0 ≤ d ∧ d < gm (M + 2) 45 := (hs.has d).mp ((hs.hasD d).mpr c2)
        unfold mLies at c1
        unfold cTurn at av ag
        rw [if_neg (by omega), if_pos rfl] at av ag
        have sh := ks.shiftG (d := d) (n := n) (by rw [mKp_2]; exact hd) (by omega)
        have zd := ks.2.1 d hd.1 (by rw [mKp_2]; exact hd.2)
        rw [mKp_2] at sh zd
        have zb := zd.2.2.2.2.1
        have zc := zd.2.2.2.2.2.1
        have e2 : od_up (mKp gm M 1) (M + 2) (6 + d) ((gm (M + 2) (6 + d) + n).tmod (gm (M + 2) (19 + d))) (M + 2) = od_u1 (gm (M + 2)) (6 + d) ((gm (M + 2) (6 + d) + n).tmod (gm (M + 2) (19 + d))) := by rw [od_up_row, mKp_2]
        refine ⟨?_, ?_, ?_⟩
        · rw [av, zd.1, zd.2.2.1, od_wI (by omega) (by omega)]
        · rw [ag]
          show StR _ k (od_up (mKp gm M 1) (M + 2) (6 + d) _ (M + 2))
          rw [e2]
          exact sh
        · rw [ag]
          exact kp.mvd (by rw [mKp_2]; omega) (fun x x0 x1 => od_up_ne (by omega)) (od_upn (by omega)) (fun y hy => od_up_j (by omega)) (od_up_ne (by omega))
    · rw [od_ip_f c2]
      rw [od_ite_f c2] at rf
      rcases hc with ⟨_, av, ag⟩ | ⟨a, _⟩ | ⟨a, _⟩
      · rw [ag]; exact ⟨by rw [av, rf], nn⟩
      · omega
      · omega
  · rw [od_ip_f c1]
    rw [od_ite_f c1] at rf
    rcases hc with ⟨_, av, ag⟩ | ⟨a, _⟩ | ⟨a, _⟩
    · rw [ag]; exact ⟨by rw [av, rf], nn⟩
    · omega
    · omega
theorem ch_stop (hs : StR g k (gm (M + 2))) (hp : PaR g p gm M) (hL : LfR g k (gm (M + 2)) pl C sn) {lo : Int} (hT : cLawOf g k (g k 11) ≠ -1 → lo ≤ cLawOf g k (g k 11)) (hx : k + 9 ≤ p ∧ p + 6 ≤ s ∧ s + 4 ≤ lo) {d n v : Int} {g' : od_G} (hc : cChanged g s p k 2 d n sn v g') : v = (mStK gm M d).1 ∧ StR g' k ((mStK gm M d).2 (M + 2)) ∧ PaR g' p (mStK gm M d).2 M := by
  have n6 := hs.1.2
  obtain ⟨g1, f1, hc⟩ := hc
  have nn := ch_no hs hp ⟨hx.1, hx.2.1⟩ f1
  have rf : cRefuse g k 2 d n sn = od_ite (mDr gm M d) 0 (-2) := by
    unfold cRefuse
    rw [od_ite_f (by omega), od_ite_f (by unfold cBadNo; omega)]
    exact od_ite_c (hs.hasD d) (fun q => od_ite_f (by omega)) rfl
  unfold mStK
  by_cases c2 : mDr gm M d
  · rw [od_ip_t c2]
    rw [od_ite_t c2] at rf
    rcases hc with ⟨a, _⟩ | ⟨_, a, _⟩ | ⟨_, _, av, ag⟩
    · exact absurd rf a
    · omega
    · obtain ⟨ks, kp, _, _⟩ := ch_keep hs hp hL hT hx f1 2
      have hd : 0 ≤ d ∧ d < gm (M + 2) 45 := (hs.has d).mp ((hs.hasD d).mpr c2)
      unfold cTurn at av ag
      rw [if_neg (by omega), if_neg (by omega)] at av ag
      have st := ks.stopG (d := d) (by rw [mKp_2]; exact hd)
      rw [mKp_2] at st
      have e2 : od_up (mKp gm M 2) (M + 2) (12 + d) (1 - gm (M + 2) (12 + d)) (M + 2) = od_u1 (gm (M + 2)) (12 + d) (1 - gm (M + 2) (12 + d)) := by rw [od_up_row, mKp_2]
      have st2 : StR (cStopG (cKeep g1 p k 2) k d) k (od_up (mKp gm M 2) (M + 2) (12 + d) (1 - gm (M + 2) (12 + d)) (M + 2)) := by rw [e2]; exact st
      refine ⟨?_, by rw [ag]; exact st2, ?_⟩
      · rw [av]
        have z := st2.stopV (d := d) (by rw [e2, od_u1_ne (by omega)]; exact hd)
        rw [od_up_i] at z
        exact z
      · rw [ag]
        exact kp.mvd (by rw [mKp_2]; omega) (fun x x0 x1 => od_up_ne (by omega)) (od_upn (by omega)) (fun y hy => od_up_j (by omega)) (od_up_ne (by omega))
  · rw [od_ip_f c2]
    rw [od_ite_f c2] at rf
    rcases hc with ⟨_, av, ag⟩ | ⟨a, _⟩ | ⟨a, _⟩
    · rw [ag]; exact ⟨by rw [av, rf], nn⟩
    · omega
    · omega
theorem ch_pass (hs : StR g k (gm (M + 2))) (hp : PaR g p gm M) (hL : LfR g k (gm (M + 2)) pl C sn) {lo : Int} (hT : cLawOf g k (g k 11) ≠ -1 → lo ≤ cLawOf g k (g k 11)) (hx : k + 9 ≤ p ∧ p + 6 ≤ s ∧ s + 4 ≤ lo) {d n v : Int} {g' : od_G} (hc : cChanged g s p k 3 d n sn v g') : v = (mPaK gm M pl C).1 ∧ StR g' k ((mPaK gm M pl C).2 (M + 2)) ∧ PaR g' p (mPaK gm M pl C).2 M := by
  have n6 := hs.1.2
  have t18 := hs.mv.1
  obtain ⟨g1, f1, hc⟩ := hc
  have nn := ch_no hs hp ⟨hx.1, hx.2.1⟩ f1
  have rf : cRefuse g k 3 d n sn = od_ite (gm (M + 2) 18 = 999) (-3) 0 := by
    unfold cRefuse
    rw [od_ite_t rfl, t18.1]
    exact od_ite_c (by omega) (fun _ => rfl) rfl
  unfold mPaK
  by_cases c2 : gm (M + 2) 18 = 999
  · rw [od_ip_t c2]
    rw [od_ite_t c2] at rf
    rcases hc with ⟨_, av, ag⟩ | ⟨a, _⟩ | ⟨a, _⟩
    · rw [ag]; exact ⟨by rw [av, rf], nn⟩
    · omega
    · omega
  · rw [od_ip_f c2]
    rw [od_ite_f c2] at rf
    rcases hc with ⟨a, _⟩ | ⟨_, _, av, ag⟩ | ⟨_, a, _⟩
    · exact absurd rf a
    · obtain ⟨ks, kp, kL, kl⟩ := ch_keep hs hp hL hT hx f1 3
      have ps := ks.passG kL (by rw [mKp_2]; omega)
      have ld := ks.loud kL (x := 0) (by omega)
      rw [kl] at ps ld
      rw [mHp_e (mKp_2 gm M 3)] at ps
      rw [mLoud_e (mKp_2 gm M 3)] at ld
      have e2 : mRow (mKp gm M 3) (M + 2) (mHp gm M pl C) (M + 2) = mHp gm M pl C := by funext y; unfold mRow; rw [if_pos rfl]
      have en : ∀ x : Int, x ≠ M + 2 → mRow (mKp gm M 3) (M + 2) (mHp gm M pl C) x = mKp gm M 3 x := fun x hx => by funext y; unfold mRow; rw [if_neg hx]
      have fr : ∀ x : Int, x ≠ s + 2 → x ≠ s + 3 → g' x = cPass (cKeep g1 p k 3) k (cLawOf g k (g k 11)) sn x := fun x a b => ag.row (fun y q => by omega)
      refine ⟨by rw [av, ld], ?_, ?_⟩
      · show StR g' k (mRow (mKp gm M 3) (M + 2) (mHp gm M pl C) (M + 2))
        rw [e2]
        exact ps.cg (fun x x0 x1 => fr x (by omega) (by omega))
      · refine kp.mvd (by rw [mKp_2]; omega) (fun x x0 x1 => ?_) (congrFun (en M (by omega)) 33) (fun y hy => ?_) (en _ (by omega))
        · rw [fr x (by omega) (by omega), cPass_n (by omega) (by omega) (by omega)]
        · show mRow (mKp gm M 3) (M + 2) (mHp gm M pl C) (M + 2) y = _
          rw [e2, mHp_hi hs.MI hy, mKp_2]
    · omega
end Hand
