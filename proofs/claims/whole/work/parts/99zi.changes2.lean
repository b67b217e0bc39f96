/-! changes: terms, force, heard, forget, end, undo -/
section Changes2
variable {E : od_E} {o M : Int} {g gm g' gm' : od_G}
theorem StR.term {k : Int} {r : Int → Int} (h : StR g k r) {w v : Int} (hw : (w = 0 ∧ 0 ≤ v ∧ v ≤ 999) ∨ (w = 1 ∧ 0 ≤ v ∧ v ≤ 10) ∨ (w = 2 ∧ 0 ≤ v ∧ v ≤ 9)) : StR (od_up g (k + 5) w v) k (od_u1 r (mTermAt w) v) := by
  have ta : mTermAt w = 18 ∨ mTermAt w = 43 ∨ mTermAt w = 44 := by unfold mTermAt; split <;> (try split) <;> omega
  have n45 : od_u1 r (mTermAt w) v 45 = r 45 := od_u1_ne (by omega)
  have n := h.1.2
  obtain ⟨h1, h2, h3, h4, h5, h7, h9, h10, h11⟩ := h
  unfold StR
  rw [n45, od_upn (show k ≠ k + 5 by omega), od_upn (show k ≠ k + 5 by omega), od_upn (show k ≠ k + 5 by omega), od_upn (show k ≠ k + 5 by omega), od_upn (show k ≠ k + 5 by omega), od_up_ne (show k + 7 ≠ k + 5 by omega), od_up_ne (show k + 8 ≠ k + 5 by omega), od_u1_ne (show (46 : Int) ≠ mTermAt w by omega), od_u1_ne (show (47 : Int) ≠ mTermAt w by omega), od_u1_ne (show (48 : Int) ≠ mTermAt w by omega)]
  refine ⟨h1, fun d d0 d1 => ?_, h3, ?_, ?_, h7, h9, h10, fun i i0 i1 => ?_⟩
  · unfold DrR
    rw [od_upn (show k ≠ k + 5 by omega), od_upn (show k + 1 ≠ k + 5 by omega), od_upn (show k + 2 ≠ k + 5 by omega), od_upn (show k + 3 ≠ k + 5 by omega), od_upn (show k + 4 ≠ k + 5 by omega), od_u1_ne (show 19 + d ≠ mTermAt w by omega), od_u1_ne (show 25 + d ≠ mTermAt w by omega), od_u1_ne (show 6 + d ≠ mTermAt w by omega), od_u1_ne (show 12 + d ≠ mTermAt w by omega), od_u1_ne (show d ≠ mTermAt w by omega)]
    exact h2 d d0 d1
  · unfold mTermAt
    rcases hw with ⟨rfl, _⟩ | ⟨rfl, _⟩ | ⟨rfl, _⟩
    · rw [if_pos rfl, od_up_i, od_u1_at, od_up_j (by omega), od_up_j (by omega), od_u1_ne (by omega), od_u1_ne (by omega)]; exact ⟨rfl, h4.2⟩
    · rw [if_neg (by omega), if_pos rfl, od_up_i, od_u1_at, od_up_j (by omega), od_up_j (by omega), od_u1_ne (by omega), od_u1_ne (by omega)]; exact ⟨h4.1, rfl, h4.2.2⟩
    · rw [if_neg (by omega), if_neg (by omega), od_up_i, od_u1_at, od_up_j (by omega), od_up_j (by omega), od_u1_ne (by omega), od_u1_ne (by omega)]; exact ⟨h4.1, h4.2.1, rfl⟩
  · unfold mTermAt
    rcases hw with ⟨rfl, _⟩ | ⟨rfl, _⟩ | ⟨rfl, _⟩
    · rw [if_pos rfl, od_u1_at, od_u1_ne (by omega), od_u1_ne (by omega)]; exact ⟨by omega, h5.2⟩
    · rw [if_neg (by omega), if_pos rfl, od_u1_at, od_u1_ne (by omega), od_u1_ne (by omega)]; exact ⟨h5.1, by omega, h5.2.2⟩
    · rw [if_neg (by omega), if_neg (by omega), od_u1_at, od_u1_ne (by omega), od_u1_ne (by omega)]; exact ⟨h5.1, h5.2.1, by omega⟩
  · rw [od_u1_ne (show 31 + 2 * i ≠ mTermAt w by omega), od_u1_ne (show 31 + 2 * i + 1 ≠ mTermAt w by omega)]
    exact h11 i i0 i1
theorem term_iff (w v : Int) : ((0 ≤ w ∧ w < 3) ∧ 0 ≤ v ∧ v ≤ cTm0 w) ↔ mTerm w v := by
  unfold cTm0 mTerm mLies
  by_cases c0 : w = 0
  · rw [if_pos c0]; omega
  · rw [if_neg c0]
    by_cases c1 : w = 1
    · rw [if_pos c1]; omega
    · rw [if_neg c1]; omega
theorem k_terms (hE : EW E o M) (h : Rel2 E o M g gm) (w v : Int) : KR E o M (cTermsM g o w v) (mTerms gm M w v) := by
  have oM := hE.2.2
  unfold cTermsM mTerms
  refine KR.ip (term_iff w v) (fun hc => ?_) (fun _ => ⟨rfl, k_ref hE h (by omega)⟩)
  have hm := (term_iff w v).mp hc
  unfold mTerm mLies at hm
  have ta : mTermAt w = 18 ∨ mTermAt w = 43 ∨ mTermAt w = 44 := by unfold mTermAt; split <;> (try split) <;> omega
  refine ⟨?_, k_acc (gm := od_up (od_up gm (M + 2) (mTermAt w) v) M 33 0) hE ?_⟩
  · have t := h.st.2.2.2.1
    show g (o + 1 + 5) w = gm (M + 2) (mTermAt w)
    unfold mTermAt
    rcases hm with ⟨rfl, _⟩ | ⟨rfl, _⟩ | ⟨rfl, _⟩
    · rw [if_pos rfl]; exact t.1
    · rw [if_neg (by omega), if_pos rfl]; exact t.2.1
    · rw [if_neg (by omega), if_neg (by omega)]; exact t.2.2
  · have e2 : od_up (od_up gm (M + 2) (mTermAt w) v) M 33 0 (M + 2) = od_u1 (gm (M + 2)) (mTermAt w) v := by rw [od_up_ne (by omega), od_up_row]
    refine k_st hE h ?_ ?_ ?_ (by rw [e2]; exact od_u1_ne (by omega)) (by rw [e2]; exact SlE.lo (fun y hy => od_u1_ne (by omega))) (pa_clear _ _ _ _) (fun x x1 x2 _ => ?_) (fun x y x1 x2 x3 _ => ?_)
    · rw [e2]
      exact (h.st.term (by omega)).cg (fun x x0 x1 => cClear_n (by omega))
    · rw [cClear_n (by omega), od_up_ne (by omega)]
    · rw [cClear_n (by omega), od_up_ne (by omega)]; exact h.rf.2
    · rw [cClear_n (by omega), od_up_ne (by omega)]
    · rw [od_up_at2, if_neg x3, od_upn x1]
theorem p_terms (hE : EW E o M) (hR : Rel2 E o M g g) (w v : Int) : od_Pr E o M g 0 2 mX10_terms [(2, o), (0, w), (0, v)] 3 mX11_terms [(2, M), (0, w), (0, v)] := by
  refine pr_c hE hR (c_X10_terms hE.1 w v) ?_ (fun g1 r1 => ⟨_, c_X11_terms hE.2.1 w v, ?_, k_terms hE r1 w v⟩)
  · unfold cTermsM
    exact od_fr.ip (cAcc_f (cClear_f (od_fr.rf.up (by unfold FC; omega)))) (cRef_f od_fr.rf)
  · unfold mTerms
    exact od_fr.ip (mSet_f (od_fr.rf.up (by unfold FM; omega))) (mRef_f od_fr.rf)
theorem k_force (hE : EW E o M) (h : Rel2 E o M g gm) (n : Int) : KR E o M (cForceM g o n) (mForce gm M n) := by
  have oM := hE.2.2
  obtain ⟨pls, Cs, cn, sn, hl⟩ := h.ls
  unfold cForceM mForce
  refine KR.ip (h.st.isLaw (by omega) hl n) (fun hc => ?_) (fun _ => ⟨rfl, k_ref hE h (by omega)⟩)
  have hm := (h.st.isLaw (by omega) hl n).mp hc
  unfold mIsLaw mLies at hm
  refine ⟨h.st.2.2.2.2.2.2.1.1, k_acc hE ?_⟩
  refine k_st hE h (h.st.u48 (by omega)) (od_up_ne (by omega)) (by rw [od_up_ne (by omega)]; exact h.rf.2) (od_up_j (by omega)) (fun y hy => od_up_j (by omega)) ?_ (fun x x1 x2 _ => od_up_ne (by omega)) (fun x y x1 x2 x3 _ => od_upn x1)
  exact (h.pa.cg (fun x x0 x1 => od_up_ne (by omega))).cm h.st.1.2.2 (od_upn (by omega)) (od_up_j (by omega)) (fun d d0 d1 => od_up_j (by omega)) (fun y _ _ => od_upn (by omega))
theorem p_force (hE : EW E o M) (hR : Rel2 E o M g g) (n : Int) : od_Pr E o M g 0 2 mX10_force [(2, o), (0, n)] 3 mX11_force [(2, M), (0, n)] := by
  refine pr_c hE hR (c_X10_force hE.1 n) ?_ (fun g1 r1 => ⟨_, c_X11_force hE.2.1 r1.st.2.2.2.2.2.1.2 n, ?_, k_force hE r1 n⟩)
  · unfold cForceM
    exact od_fr.ip (cAcc_f (od_fr.rf.up (by unfold FC; omega))) (cRef_f od_fr.rf)
  · unfold mForce
    exact od_fr.ip (mGood_f (od_fr.rf.up (by unfold FM; omega))) (mRef_f od_fr.rf)
/-- what was heard -/
theorem StR.hear {k : Int} {r r' : Int → Int} (h : StR g k r) (e : ∀ x y : Int, k ≤ x → x ≤ k + 8 → x ≠ k + 7 → x ≠ k + 8 → ¬ (x = k ∧ y = 12) → g' x y = g x y) (er : ∀ y : Int, 0 ≤ y → y < 49 → ¬ (31 ≤ y ∧ y < 43) → y ≠ 46 → r' y = r y) (e46 : g' k 12 = r' 46 ∧ 0 ≤ r' 46 ∧ r' 46 ≤ 6) (eh : ∀ i : Int, 0 ≤ i → i < r' 46 → g' (k + 7) i = r' (31 + 2 * i) ∧ g' (k + 8) i = r' (31 + 2 * i + 1) ∧ (0 ≤ r' (31 + 2 * i) ∧ r' (31 + 2 * i) < 100) ∧ (r' (31 + 2 * i + 1) = 0 ∨ r' (31 + 2 * i + 1) = 1)) : StR g' k r' := by
  have n := h.1.2
  obtain ⟨h1, h2, h3, h4, h5, h7, h9, h10, h11⟩ := h
  unfold StR
  rw [e k 8 (by omega) (by omega) (by omega) (by omega) (by omega), e k 9 (by omega) (by omega) (by omega) (by omega) (by omega), e k 10 (by omega) (by omega) (by omega) (by omega) (by omega), e k 11 (by omega) (by omega) (by omega) (by omega) (by omega), e (k + 5) 0 (by omega) (by omega) (by omega) (by omega) (by omega), e (k + 5) 1 (by omega) (by omega) (by omega) (by omega) (by omega), e (k + 5) 2 (by omega) (by omega) (by omega) (by omega) (by omega), er 45 (by omega) (by omega) (by omega) (by omega), er 18 (by omega) (by omega) (by omega) (by omega), er 43 (by omega) (by omega) (by omega) (by omega), er 44 (by omega) (by omega) (by omega) (by omega), er 47 (by omega) (by omega) (by omega) (by omega), er 48 (by omega) (by omega) (by omega) (by omega)]
  refine ⟨h1, fun d d0 d1 => ?_, h3, h4, h5, h7, h9, e46, eh⟩
  unfold DrR
  rw [e k 9 (by omega) (by omega) (by omega) (by omega) (by omega), e (k + 1) d (by omega) (by omega) (by omega) (by omega) (by omega), e (k + 2) d (by omega) (by omega) (by omega) (by omega) (by omega), e (k + 3) d (by omega) (by omega) (by omega) (by omega) (by omega), e (k + 4) d (by omega) (by omega) (by omega) (by omega) (by omega), er (19 + d) (by omega) (by omega) (by omega) (by omega), er (25 + d) (by omega) (by omega) (by omega) (by omega), er (6 + d) (by omega) (by omega) (by omega) (by omega), er (12 + d) (by omega) (by omega) (by omega) (by omega), er d (by omega) (by omega) (by omega) (by omega)]
  exact h2 d d0 d1
theorem k_heard (hE : EW E o M) (h : Rel2 E o M g gm) (x w : Int) : KR E o M (cHeardM g o x w) (mHeard gm M x w) := by
  have oM := hE.2.2
  have n46 := h.st.2.2.2.2.2.2.2.1
  have n45 := h.st.1.2
  unfold cHeardM mHeard
  refine KR.ip (by unfold mLies; omega) (fun hc => ?_) (fun _ => ⟨rfl, k_ref hE h (by omega)⟩)
  by_cases c6 : gm (M + 2) 46 = 6
  · rw [od_ip_f (by omega), od_ip_t c6]
    exact ⟨rfl, k_ref hE h (by omega)⟩
  · rw [od_ip_t (by omega), od_ip_f c6, n46.1]
    refine ⟨rfl, k_acc hE ?_⟩
    generalize hn : gm (M + 2) 46 = n at *
    have q1 : ∀ y : Int, od_up (od_up (od_up gm (M + 2) (31 + 2 * n) x) (M + 2) (31 + 2 * n + 1) w) (M + 2) 46 (n + 1) (M + 2) y = if y = 46 then n + 1 else if y = 31 + 2 * n + 1 then w else if y = 31 + 2 * n then x else gm (M + 2) y := fun y => by rw [od_up_at, od_up_at, od_up_at]
    have q2 : ∀ y : Int, ¬ (31 ≤ y ∧ y < 43) → y ≠ 46 → od_up (od_up (od_up gm (M + 2) (31 + 2 * n) x) (M + 2) (31 + 2 * n + 1) w) (M + 2) 46 (n + 1) (M + 2) y = gm (M + 2) y := fun y y0 y1 => by rw [q1, if_neg y1, if_neg (by omega), if_neg (by omega)]
    have g7 : ∀ y : Int, od_up (od_up (od_up g (o + 1 + 7) n x) (o + 1 + 8) n w) (o + 1) 12 (n + 1) (o + 1 + 7) y = if y = n then x else g (o + 1 + 7) y := fun y => by rw [od_upn (by omega), od_upn (by omega), od_up_at]
    have g8 : ∀ y : Int, od_up (od_up (od_up g (o + 1 + 7) n x) (o + 1 + 8) n w) (o + 1) 12 (n + 1) (o + 1 + 8) y = if y = n then w else g (o + 1 + 8) y := fun y => by rw [od_upn (by omega), od_up_at, od_upn (by omega)]
    refine k_st hE h ?_ ?_ (fun y y0 y1 => ?_) (q2 47 (by omega) (by omega)) (fun y hy => q2 y (by omega) (by omega)) ?_ (fun z x1 x2 _ => ?_) (fun z y x1 x2 x3 _ => ?_)
    · refine h.st.hear (fun z y z0 z1 z2 z3 z4 => ?_) (fun y y0 y1 y2 y3 => q2 y y2 y3) ?_ (fun i i0 i1 => ?_)
      · rw [od_up_at2, if_neg z4, od_upn z3, od_upn z2]
      · rw [od_up_i, q1, if_pos rfl]; omega
      · rw [q1 46, if_pos rfl] at i1
        by_cases ci : i = n
        · have qa := q1 (31 + 2 * i)
          have qb := q1 (31 + 2 * i + 1)
          rw [if_neg (by omega), if_neg (by omega), if_pos (by omega)] at qa
          rw [if_neg (by omega), if_pos (by omega)] at qb
          rw [g7, g8, qa, qb, if_pos ci, if_pos ci]
          exact ⟨rfl, rfl, by omega, by omega⟩
        · have qa := q1 (31 + 2 * i)
          have qb := q1 (31 + 2 * i + 1)
          rw [if_neg (by omega), if_neg (by omega), if_neg (by omega)] at qa
          rw [if_neg (by omega), if_neg (by omega), if_neg (by omega)] at qb
          rw [g7, g8, qa, qb, if_neg ci, if_neg ci]
          exact h.st.2.2.2.2.2.2.2.2 i i0 (by rw [hn]; omega)
    · rw [od_up_ne (by omega), od_up_ne (by omega), od_up_ne (by omega)]
    · rw [g8]
      by_cases ci : y = n
      · rw [if_pos ci]; omega
      · rw [if_neg ci]; exact h.rf.2 y y0 y1
    · exact (h.pa.cg (fun z x0 x1 => by rw [od_up_ne (by omega), od_up_ne (by omega), od_up_ne (by omega)])).cm h.st.1.2.2 (by rw [od_upn (by omega), od_upn (by omega), od_upn (by omega)]) (q2 _ (by omega) (by omega)) (fun d d0 d1 => q2 _ (by omega) (by omega)) (fun y _ _ => by rw [od_upn (by omega), od_upn (by omega), od_upn (by omega)])
    · rw [od_up_ne (by omega), od_up_ne (by omega), od_up_ne (by omega)]
    · rw [od_upn x1, od_upn x1, od_upn x1]
theorem p_heard (hE : EW E o M) (hR : Rel2 E o M g g) (x w : Int) : od_Pr E o M g 0 2 mX10_heard [(2, o), (0, x), (0, w)] 3 mX11_heard [(2, M), (0, x), (0, w)] := by
  have n46 := hR.st.2.2.2.2.2.2.2.1
  refine pr_c hE hR (c_X10_heard hE.1 (by rw [n46.1]; exact n46.2) x w) ?_ (fun g1 r1 => ⟨_, c_X11_heard hE.2.1 r1.st.2.2.2.2.2.2.2.1.2 x w, ?_, k_heard hE r1 x w⟩)
  · unfold cHeardM
    exact od_fr.ip (od_fr.ip (cAcc_f (((od_fr.rf.up (by unfold FC; omega)).up (by unfold FC; omega)).up (by unfold FC; omega))) (cRef_f od_fr.rf)) (cRef_f od_fr.rf)
  · unfold mHeard
    exact od_fr.ip (od_fr.ip (mRef_f od_fr.rf) (mGood_f (((od_fr.rf.up (by unfold FM; omega)).up (by unfold FM; omega)).up (by unfold FM; omega)))) (mRef_f od_fr.rf)
theorem p_forget (hE : EW E o M) (hR : Rel2 E o M g g) : od_Pr E o M g 0 1 mX10_forget [(2, o)] 1 mX11_forget [(2, M)] := by
  have oM := hE.2.2
  refine pr_c (A := (g (o + 1) 12, od_up g (o + 1) 12 0)) hE hR (c_X10_forget hE.1) (od_fr.rf.up (by unfold FC; omega)) (fun g1 r1 => ⟨(g1 (M + 2) 46, mForget g1 M), c_X11_forget hE.2.1, od_fr.rf.up (by unfold FM; omega), r1.st.2.2.2.2.2.2.2.1.1, ?_⟩)
  have n45 := r1.st.1.2
  refine k_st hE r1 ?_ (od_up_ne (by omega)) (by show ∀ y : Int, _ → _ → od_up g (o + 1) 12 0 (o + 1 + 8) y = 0 ∨ od_up g (o + 1) 12 0 (o + 1 + 8) y = 1; rw [od_up_ne (by omega)]; exact r1.rf.2) (od_up_j (by omega)) (fun y hy => od_up_j (by omega)) ?_ (fun x x1 x2 _ => od_up_ne (by omega)) (fun x y x1 x2 x3 _ => od_upn x1)
  · refine r1.st.hear (fun z y z0 z1 z2 z3 z4 => by show od_up g (o + 1) 12 0 z y = _; rw [od_up_at2, if_neg z4]) (fun y y0 y1 y2 y3 => od_up_j y3) ?_ (fun i i0 i1 => ?_)
    · show od_up g (o + 1) 12 0 (o + 1) 12 = od_up g1 (M + 2) 46 0 (M + 2) 46 ∧ 0 ≤ od_up g1 (M + 2) 46 0 (M + 2) 46 ∧ od_up g1 (M + 2) 46 0 (M + 2) 46 ≤ 6
      rw [od_up_i, od_up_i]; omega
    · have e : mForget g1 M (M + 2) 46 = 0 := od_up_i
      have i1' : i < mForget g1 M (M + 2) 46 := i1
      rw [e] at i1'
      omega
  · exact (r1.pa.cg (fun x x0 x1 => od_up_ne (by omega))).cm n45.2 (od_upn (by omega)) (od_up_j (by omega)) (fun d d0 d1 => od_up_j (by omega)) (fun y _ _ => od_upn (by omega))
theorem TpR.sz (h : TpR g gm o M) {n : Int} (hn : 0 ≤ n ∧ n ≤ g (o + 60) 1) (e60 : g' (o + 60) 1 = n) (e61 : g' (o + 60 + 1) = g (o + 60 + 1)) (e13 : gm' M 13 = n) (e6 : gm' (M + 6) = gm (M + 6)) (e7 : gm' (M + 7) = gm (M + 7)) : TpR g' gm' o M := by
  obtain ⟨⟨a1, a2, a3, a4⟩, ⟨b1, b2, b3, b4⟩⟩ := h
  unfold TpR TpOk TpM
  rw [e60, e61, e13, e6, e7]
  exact ⟨⟨rfl, rfl, by omega, fun p p0 p1 => a4 p p0 (by omega)⟩, ⟨b1, rfl, by omega, fun j j0 j1 => b4 j j0 (by omega)⟩⟩
/-- what stays when the tape changes -/
theorem Rel2.tape (hE : EW E o M) (h : Rel2 E o M g gm) (tp : TpR g' gm' o M) (e : ∀ x : Int, x ≠ o + 60 → x ≠ o + 61 → ¬ CS o M x → g' x = g x) (em : ∀ x y : Int, x ≠ M + 7 → ¬ (x = M ∧ y = 13) → ¬ RS M x y → gm' x y = gm x y) : Rel2 E o M g' gm' := by
  obtain ⟨_, _, o0, oM, _⟩ := hE
  refine ⟨(h.st.cg (fun x x0 x1 => e x (by omega) (by omega) (by unfold CS; omega))).cr (fun y y0 y1 => em _ _ (by omega) (by omega) (by unfold RS; omega)), h.ls.c h.n47 (e _ (by omega) (by omega) (by unfold CS; omega)) (fun x hx => e x (by omega) (by omega) (by unfold CS; omega)) (em _ _ (by omega) (by omega) (by unfold RS; omega)) (fun y hy => em _ _ (by omega) (by omega) (by unfold RS; omega)), h.rf.c (e _ (by omega) (by omega) (by unfold CS; omega)) (e _ (by omega) (by omega) (by unfold CS; omega)), ?_, fun k k0 k1 => (h.im k k0 k1).c ⟨k0, k1⟩ ⟨o0, oM⟩ (fun x hx => e x (by omega) (by omega) (by unfold CS; omega)) (fun y _ _ => em _ _ (by omega) (by omega) (by unfold RS; omega)) (em _ _ (by omega) (by omega) (by unfold RS; omega)), (h.pa.cg (fun x x0 x1 => e x (by omega) (by omega) (by unfold CS; omega))).cm h.st.1.2.2 (em _ _ (by omega) (by omega) (by unfold RS; omega)) (em _ _ (by omega) (by omega) (by unfold RS; omega)) (fun d d0 d1 => em _ _ (by omega) (by omega) (by unfold RS; omega)) (fun y y0 y1 => em _ _ (by omega) (by omega) (by unfold RS; omega)), tp, h.fd.c (fun y _ _ => by rw [e o (by omega) (by omega) (by unfold CS; omega)]) (e _ (by omega) (by omega) (by unfold CS; omega)) (fun y hy => em _ _ (by omega) (by omega) (by unfold RS; omega)) (funext fun y => em _ _ (by omega) (by omega) (by unfold RS; omega)), h.pp.c (by rw [e (o + 19) (by omega) (by omega) (by unfold CS; omega)]) (by rw [e (o + 19) (by omega) (by omega) (by unfold CS; omega)]) (e _ (by omega) (by omega) (by unfold CS; omega)) (e _ (by omega) (by omega) (by unfold CS; omega)) (em _ _ (by omega) (by omega) (by unfold RS; omega)) (funext fun y => em _ _ (by omega) (by omega) (by unfold RS; omega))⟩
  unfold cImg
  rw [e (o + 28) (by omega) (by omega) (by unfold CS; omega)]
  exact h.ig
theorem k_sz (hE : EW E o M) (h : Rel2 E o M g gm) {n : Int} (hn : 0 ≤ n ∧ n ≤ g (o + 60) 1) : Rel2 E o M (od_up g (o + 60) 1 n) (od_up gm M 13 n) :=
  h.tape hE (h.tp.sz hn od_up_i (od_up_ne (by omega)) od_up_i (od_up_ne (by omega)) (od_up_ne (by omega))) (fun x a b _ => od_up_ne a) (fun x y a b _ => by rw [od_up_at2, if_neg b])
theorem p_end (hE : EW E o M) (hR : Rel2 E o M g g) (n : Int) : od_Pr E o M g 0 1 mX10_end [(2, o), (0, n)] 2 mX11_end [(2, M), (0, n)] := by
  refine pr_c hE hR (c_X10_end hE.1 n) ?_ (fun g1 r1 => ⟨_, c_X11_end hE.2.1 n, ?_, ?_⟩)
  · unfold cEndM
    exact od_fr.ip (od_fr.rf.up (by unfold FC; omega)) od_fr.rf
  · unfold mEnd
    exact od_fr.ip (od_fr.rf.up (by unfold FM; omega)) od_fr.rf
  · have t : g1 M 13 = g (o + 60) 1 := r1.tp.2.2.1
    unfold cEndM mEnd
    exact KR.ip (by unfold mLies; rw [t]) (fun hc => ⟨rfl, k_sz hE r1 hc⟩) (fun _ => ⟨rfl, r1⟩)
theorem p_undo (hE : EW E o M) (hR : Rel2 E o M g g) : od_Pr E o M g 0 2 mX10_undo [(2, o)] 2 mX11_undo [(2, M)] := by
  have oM := hE.2.2
  refine pr_c hE hR (c_X10_undo hE.1 hR.pa.1 (by rw [hR.pa.2.1.1]; exact hR.pa.2.1.2)) ?_ (fun g1 r1 => ⟨_, c_X11_undo hE.2.1 r1.pa.2.1.2, ?_, ?_⟩)
  · unfold cUndoM
    refine od_fr.ip (cRef_f od_fr.rf) (cAcc_f (fun x y hx => ?_))
    unfold FC at hx
    unfold cGive
    repeat rw [if_neg (by omega)]
  · unfold mUn
    refine od_fr.ip (mRef_f od_fr.rf) (mGood_f (fun x y hx => ?_))
    unfold FM at hx
    unfold od_cq
    rw [if_neg (by omega), od_upn (by omega)]
  · unfold cUndoM mUn
    refine KR.ip (by rw [r1.pa.2.1.1]) (fun _ => ⟨rfl, k_ref hE r1 (by omega)⟩) (fun hc => ?_)
    rw [r1.pa.2.1.1] at hc
    obtain ⟨a, b, c⟩ := r1.pa.give r1.st (by omega) hc
    refine ⟨a, k_acc hE ?_⟩
    have hi : ∀ y : Int, 19 ≤ y → od_cq (od_up g1 M 33 (g1 M 33 - 1)) (M + 2) 0 (M + 14) (20 * (g1 M 33 - 1)) 19 (M + 2) y = g1 (M + 2) y := fun y hy => by
      unfold od_cq
      rw [if_neg (by omega), od_upn (by omega)]
    have nx : ∀ x : Int, x ≠ o + 48 → x ≠ o + 1 + 5 → x ≠ o + 1 → x ≠ o + 1 + 3 → x ≠ o + 1 + 4 → cGive g (o + 48) (o + 1) x = g x := fun x a1 a2 a3 a4 a5 => by
      funext y
      unfold cGive
      rw [if_neg (fun q => a1 q.1), if_neg (fun q => a2 q.1), if_neg (fun q => a3 q.1), if_neg (fun q => a4 q.1), if_neg (fun q => a5 q.1)]
    refine k_st hE r1 b (nx _ (by omega) (by omega) (by omega) (by omega) (by omega)) (by rw [nx _ (by omega) (by omega) (by omega) (by omega) (by omega)]; exact r1.rf.2) (hi _ (by omega)) (fun y hy => hi _ (by omega)) c (fun x x1 x2 _ => nx x (by omega) (by omega) (by omega) (by omega) (by omega)) (fun x y x1 x2 x3 _ => ?_)
    unfold od_cq
    rw [if_neg (fun q => x1 q.1), od_up_at2, if_neg x3]
end Changes2
