/-! Reader: what it takes -/
theorem c_X3_isSignS {E : od_E} {g : od_G} {rd tp t : Int} (hr : ReAt E rd tp t) {B : Int → Int} {n : Int} (hT : TpOk g tp B n) {s : pS} (hR : RSt g rd B n s) (k : Int) (hk : 0 ≤ k) : od_Ct 2 mX3_isSign [(2, rd), (0, k)] E g (some (0, od_b (s.2.2 = -1 ∧ tC B n s.1 = 100 + k)), E, g) := by
  have h := c_X3_isSign hr hT.1 hT.2.1 hT.2.2.1.2 k
  rw [od_b_iff (hR.sign hk)] at h
  exact h
/-- what the reader and the draft's steps from z on may change -/
def XP (rd t z : Int) : Int → Int → Prop := fun x y => (x = rd ∧ 3 ≤ y ∧ y ≤ 8) ∨ (x = t ∧ y = 7) ∨ (x = t + 6 ∧ z ≤ y)
theorem XP.mo {rd t z z' : Int} (h : z ≤ z') : ∀ x y, XP rd t z' x y → XP rd t z x y := fun x y q => by
  unfold XP at *
  omega
theorem TpOk.xp {g g' : od_G} {rd tp t z : Int} {B : Int → Int} {n : Int} (h : TpOk g tp B n) (ho : tp + 2 ≤ rd ∧ rd + 1 ≤ t) (f : od_fr (XP rd t z) g g') : TpOk g' tp B n := h.fr f (fun y q => by unfold XP at q; omega) (fun q => by unfold XP at q; omega)
theorem fr_rd {g g' : od_G} {rd t z a b : Int} (f : od_fr (fun x y => x = rd ∧ a ≤ y ∧ y ≤ b) g g') (h : 3 ≤ a ∧ b ≤ 8) : od_fr (XP rd t z) g g' := f.mo (fun x y q => Or.inl (by omega))
theorem cTPut_rd {g : od_G} {t st nu x y : Int} (h : x ≠ t ∧ x ≠ t + 6) : cTPut g t st nu x y = g x y := by
  unfold cTPut
  rw [od_upn h.1, od_upn h.2]
theorem cTPut_7 (g : od_G) (t st nu : Int) : cTPut g t st nu t 7 = g t 7 + 1 := by
  unfold cTPut
  rw [od_up_at, if_pos rfl]
theorem cTPut_r (g : od_G) (t st nu j : Int) : cTPut g t st nu (t + 6) j = if j = g t 7 then od_stp st nu else g (t + 6) j := by
  unfold cTPut
  rw [od_upn (by omega), od_up_at]
  rfl
theorem cTPut_fr {g : od_G} {rd t z st nu : Int} (h : z ≤ g t 7) : od_fr (XP rd t z) g (cTPut g t st nu) := by
  unfold cTPut
  refine (od_fr.rf.up ?_).up ?_
  · unfold XP; omega
  · unfold XP; omega
/-- behind the reading of a piece -/
def RQ (Bd : Int → Prop) (m wl : Int) (g g' : od_G) (rd t : Int) (B : Int → Int) (n : Int) (s : pS) (r : pR) : Prop := od_fr (XP rd t (g t 7)) g g' ∧ RSt g' rd B n r.1 ∧ (g t 7 ≤ g' t 7 ∧ g' t 7 - g t 7 ≤ r.1.1 - s.1 ∧ s.1 ≤ r.1.1 ∧ r.1.1 ≤ 400) ∧ (r.1.2.2 = -1 → RT Bd m wl (g' (t + 6)) (g t 7) (g' t 7) r.2)
def RPre (g : od_G) (t : Int) (s : pS) : Prop := 0 ≤ g t 7 ∧ g t 7 ≤ s.1 ∧ s.1 ≤ 400
def lwI (lw : Bool) : Int := if lw = true then 1 else 0
def wlI (lw : Bool) : Int := if lw = true then 7 else 17
theorem lwI_t {lw : Bool} {x : Int} (h : x = lwI lw) (hx : x ≠ 0) : lw = true := by cases lw <;> simp_all [lwI]
theorem lwI_f {lw : Bool} {x : Int} (h : x = lwI lw) (hx : x = 0) : lw = false := by cases lw <;> simp_all [lwI]
theorem RSt.i4 {g : od_G} {rd : Int} {B : Int → Int} {n : Int} {s : pS} (h : RSt g rd B n s) (hb : s.2.2 = -1) (hn : 0 ≤ n ∧ n ≤ 400) : s.1 ≤ 400 := by
  have q := (h.fine hb).1
  have p := tpl_b (B := B) hn.1 s.1
  omega
theorem pF_1 (pl : Int → Int) (s : pS) : (pF pl s).1 = s.1 := by unfold pF; split <;> rfl
theorem pF_bad {pl : Int → Int} {s : pS} (h : s.2.2 ≠ -1) : pF pl s = s := by unfold pF; rw [if_neg h]
theorem pF_nb {pl : Int → Int} {s : pS} (h : 0 ≤ pl s.1) : (pF pl s).2.2 ≠ -1 := by
  unfold pF
  split
  · show pl s.1 ≠ -1; omega
  · assumption
/-- a fault's place is one -/
theorem RQ.flt {Bd : Int → Prop} {m wl : Int} {g g1 : od_G} {rd t : Int} {B : Int → Int} {n : Int} {s s1 : pS} {d : pD} (hn : 0 ≤ n) (h1 : od_fr (XP rd t (g t 7)) g g1) (h2 : RSt g1 rd B n s1) (h3 : g t 7 ≤ g1 t 7 ∧ g1 t 7 - g t 7 ≤ s1.1 - s.1 ∧ s.1 ≤ s1.1 ∧ s1.1 ≤ 400) (hrt : rd + 1 ≤ t) : RQ Bd m wl g (cSF g1 rd) rd t B n s (pF (tpl B n) s1, d) := by
  have e7 : cSF g1 rd t 7 = g1 t 7 := (cSF_fr g1 rd) t 7 (by omega)
  refine ⟨h1.tr (fr_rd (cSF_fr g1 rd) (by omega)), cSF_st hn h2, ?_, fun z => absurd z (pF_nb (by have := tpl_b (B := B) hn s1.1; omega))⟩
  show g t 7 ≤ cSF g1 rd t 7 ∧ cSF g1 rd t 7 - g t 7 ≤ (pF (tpl B n) s1).1 - s.1 ∧ s.1 ≤ (pF (tpl B n) s1).1 ∧ (pF (tpl B n) s1).1 ≤ 400
  rw [e7, pF_1]
  exact h3
set_option maxRecDepth 10000 in
theorem c_X3_takeSign {E : od_E} {g : od_G} {rd tp t : Int} (hr : ReAt E rd tp t) {B : Int → Int} {n : Int} (hT : TpOk g tp B n) {s : pS} (hR : RSt g rd B n s) (k : Int) (hk : 0 ≤ k) : od_Cq 3 mX3_takeSign [(2, rd), (0, k)] E g (E, fun v g' => (v = some (0, 1) ∧ (s.2.2 = -1 ∧ tC B n s.1 = 100 + k) ∧ od_fr (fun x y => x = rd ∧ 3 ≤ y ∧ y ≤ 6) g g' ∧ RSt g' rd B n (pNx s)) ∨ (v = some (0, 0) ∧ ¬ (s.2.2 = -1 ∧ tC B n s.1 = 100 + k) ∧ g' = g)) := by
  have hr0 := hr
  obtain ⟨hkr, e0, e1, hta, htx, hor⟩ := hr
  have hta0 := hta
  obtain ⟨hkt, t0, t1⟩ := hta
  refine od_cqI pnX3 rfl (Nat.le_of_ble_eq_true rfl) od_le.rf ?_
  show od_Rq 3 mX3_takeSign od_Z0 E (E, fun v g' => (v = some (0, 1) ∧ (s.2.2 = -1 ∧ tC B n s.1 = 100 + k) ∧ od_fr (fun x y => x = rd ∧ 3 ≤ y ∧ y ≤ 6) g g' ∧ RSt g' rd B n (pNx s)) ∨ (v = some (0, 0) ∧ ¬ (s.2.2 = -1 ∧ tC B n s.1 = 100 + k) ∧ g' = g)) 0 [some (2, rd), some (0, k), none] [] E g
  refine r_aload_n dX3_takeSign_0 rfl ?_
  refine r_iload_n dX3_takeSign_1 rfl ?_
  refine r_callV1b dX3_takeSign_2 cvX3_131 (by assumption) (c_X3_isSignS hr0 hT hR _ hk) (by decide) (Nat.le_of_ble_eq_true rfl) od_le.rf (fun q2 => ?_) (fun q2 => ?_)
  · refine r_istore_n dX3_takeSign_5 (by decide) rfl ?_
    refine r_iload_n dX3_takeSign_6 rfl ?_
    refine r_if_eq (tgt := 14) dX3_takeSign_7 rfl (fun h => absurd h (by decide)) (fun _ => ?_)
    have hP := q2
    have hb := hP.1
    refine r_aload_n dX3_takeSign_10 rfl ?_
    refine r_callV0p dX3_takeSign_11 cvX3_50 (by assumption) (c_X3_goOn hr0 hT.1 hT.2.1 hT.2.2.1.2 hT.2.2.2 (hR.g5 hT.2.2.1.1 hb)) (by decide) (Nat.le_of_ble_eq_true rfl) od_le.rf (fun r11 g11 h11 => ?_)
    obtain ⟨rfl, f, w4, w5, w6, w3⟩ := h11
    show od_Rq _ _ _ _ _ _ _ [] _ _
    refine r_iload_n dX3_takeSign_14 rfl ?_
    exact r_zretq dX3_takeSign_15 rfl od_nz1 rfl (Or.inl ⟨rfl, hP, f, RSt.go hR hP.1 (by have := hP.2; omega) f w4 w5 w6 w3⟩)
  · refine r_istore_n dX3_takeSign_5 (by decide) rfl ?_
    refine r_iload_n dX3_takeSign_6 rfl ?_
    refine r_if_eq (tgt := 14) dX3_takeSign_7 rfl (fun _ => ?_) (fun h => absurd h (by decide))
    refine r_iload_n dX3_takeSign_14 rfl ?_
    exact r_zretq dX3_takeSign_15 rfl od_nz0 rfl (Or.inr ⟨rfl, by assumption, rfl⟩)
set_option maxRecDepth 10000 in
theorem c_X3_takeWord {E : od_E} {g : od_G} {rd tp t : Int} (hr : ReAt E rd tp t) {B : Int → Int} {n : Int} (hT : TpOk g tp B n) {s : pS} (hR : RSt g rd B n s) {j : Nat} (hj : j < 11) {k : Int} (hk : 1 ≤ k) (hc : od_cd j = [k]) : od_Cq 7 mX3_takeWord [(2, rd), (2, -10 - (j : Int))] E g (E, fun v g' => (v = some (0, 1) ∧ (s.2.2 = -1 ∧ tC B n s.1 = k) ∧ od_fr (fun x y => x = rd ∧ 3 ≤ y ∧ y ≤ 6) g g' ∧ RSt g' rd B n (pNx s)) ∨ (v = some (0, 0) ∧ ¬ (s.2.2 = -1 ∧ tC B n s.1 = k) ∧ g' = g)) := by
  have hr0 := hr
  obtain ⟨hkr, e0, e1, hta, htx, hor⟩ := hr
  have hta0 := hta
  obtain ⟨hkt, t0, t1⟩ := hta
  refine od_cqI pnX3 rfl (Nat.le_of_ble_eq_true rfl) od_le.rf ?_
  show od_Rq 7 mX3_takeWord od_Z0 E (E, fun v g' => (v = some (0, 1) ∧ (s.2.2 = -1 ∧ tC B n s.1 = k) ∧ od_fr (fun x y => x = rd ∧ 3 ≤ y ∧ y ≤ 6) g g' ∧ RSt g' rd B n (pNx s)) ∨ (v = some (0, 0) ∧ ¬ (s.2.2 = -1 ∧ tC B n s.1 = k) ∧ g' = g)) 0 [some (2, rd), some (2, -10 - (j : Int)), none] [] E g
  refine r_aload_n dX3_takeWord_0 rfl ?_
  refine r_aload_n dX3_takeWord_1 rfl ?_
  refine r_callV1i dX3_takeWord_2 cvX3_67 (by assumption) (c_X3_wordIn hr0 hT hR hj) (by decide) (Nat.le_of_ble_eq_true rfl) od_le.rf ?_
  refine r_iconst dX3_takeWord_5 li_m1 ?_
  refine r_icmp_eq (tgt := 13) dX3_takeWord_6 rfl (fun c6 => ?_) (fun c6 => ?_)
  · refine r_iconst dX3_takeWord_13 li_0 ?_
    refine r_istore_n dX3_takeWord_14 (by decide) rfl ?_
    refine r_iload_n dX3_takeWord_15 rfl ?_
    refine r_if_eq (tgt := 23) dX3_takeWord_16 rfl (fun _ => ?_) (fun h => absurd h (by decide))
    refine r_iload_n dX3_takeWord_23 rfl ?_
    exact r_zretq dX3_takeWord_24 rfl od_nz0 rfl (Or.inr ⟨rfl, by rw [← tA_w hc]; exact fun z => z (by assumption), rfl⟩)
  · have hP := (tA_w hc).mp (by assumption)
    have hb := hP.1
    refine r_iconst dX3_takeWord_9 li_1 ?_
    refine r_goto (tgt := 14) dX3_takeWord_10 rfl ?_
    refine r_istore_n dX3_takeWord_14 (by decide) rfl ?_
    refine r_iload_n dX3_takeWord_15 rfl ?_
    refine r_if_eq (tgt := 23) dX3_takeWord_16 rfl (fun h => absurd h (by decide)) (fun _ => ?_)
    refine r_aload_n dX3_takeWord_19 rfl ?_
    refine r_callV0p dX3_takeWord_20 cvX3_50 (by assumption) (c_X3_goOn hr0 hT.1 hT.2.1 hT.2.2.1.2 hT.2.2.2 (hR.g5 hT.2.2.1.1 hb)) (by decide) (Nat.le_of_ble_eq_true rfl) od_le.rf (fun r20 g20 h20 => ?_)
    obtain ⟨rfl, f, w4, w5, w6, w3⟩ := h20
    show od_Rq _ _ _ _ _ _ _ [] _ _
    refine r_iload_n dX3_takeWord_23 rfl ?_
    exact r_zretq dX3_takeWord_24 rfl od_nz1 rfl (Or.inl ⟨rfl, hP, f, RSt.go hR hP.1 (by have := hP.2; omega) f w4 w5 w6 w3⟩)
noncomputable def tSt (B : Int → Int) (n : Int) (s : pS) (a sa b sb c sc : Int) : Int := if s.2.2 = -1 ∧ tC B n s.1 = 100 + a then sa else if s.2.2 = -1 ∧ tC B n s.1 = 100 + b then sb else if s.2.2 = -1 ∧ tC B n s.1 = 100 + c then sc else -1
set_option maxRecDepth 10000 in
theorem c_X3_stepOf {E : od_E} {g : od_G} {rd tp t : Int} (hr : ReAt E rd tp t) {B : Int → Int} {n : Int} (hT : TpOk g tp B n) {s : pS} (hR : RSt g rd B n s) (a sa b sb c sc : Int) (ha : 0 ≤ a) (hb : 0 ≤ b) (hc : 0 ≤ c) : od_Ct 3 mX3_stepOf [(2, rd), (0, a), (0, sa), (0, b), (0, sb), (0, c), (0, sc)] E g (some (0, tSt B n s a sa b sb c sc), E, g) := by
  have hr0 := hr
  obtain ⟨hkr, e0, e1, hta, htx, hor⟩ := hr
  have hta0 := hta
  obtain ⟨hkt, t0, t1⟩ := hta
  refine od_ctI pnX3 rfl (Nat.le_of_ble_eq_true rfl) od_le.rf ?_
  show od_R _ _ _ _ _ 0 [some (2, rd), some (0, a), some (0, sa), some (0, b), some (0, sb), some (0, c), some (0, sc)] [] E g
  refine r_aload_n dX3_stepOf_0 rfl ?_
  refine r_iload_n dX3_stepOf_1 rfl ?_
  refine r_callV1b dX3_stepOf_2 cvX3_131 (by assumption) (c_X3_isSignS hr0 hT hR _ ha) (by decide) (Nat.le_of_ble_eq_true rfl) od_le.rf (fun q2 => ?_) (fun q2 => ?_)
  · refine r_if_eq (tgt := 10) dX3_stepOf_5 rfl (fun h => absurd h (by decide)) (fun _ => ?_)
    refine r_iload_n dX3_stepOf_8 rfl ?_
    exact r_iret dX3_stepOf_9 rfl (by unfold tSt; first | rw [if_pos (by assumption)] | rw [if_neg (by assumption), if_pos (by assumption)] | rw [if_neg (by assumption), if_neg (by assumption), if_pos (by assumption)] | rw [if_neg (by assumption), if_neg (by assumption), if_neg (by assumption)])
  · refine r_if_eq (tgt := 10) dX3_stepOf_5 rfl (fun _ => ?_) (fun h => absurd h (by decide))
    refine r_aload_n dX3_stepOf_10 rfl ?_
    refine r_iload_n dX3_stepOf_11 rfl ?_
    refine r_callV1b dX3_stepOf_12 cvX3_131 (by assumption) (c_X3_isSignS hr0 hT hR _ hb) (by decide) (Nat.le_of_ble_eq_true rfl) od_le.rf (fun q12 => ?_) (fun q12 => ?_)
    · refine r_if_eq (tgt := 21) dX3_stepOf_15 rfl (fun h => absurd h (by decide)) (fun _ => ?_)
      refine r_iload dX3_stepOf_18 rfl ?_
      exact r_iret dX3_stepOf_20 rfl (by unfold tSt; first | rw [if_pos (by assumption)] | rw [if_neg (by assumption), if_pos (by assumption)] | rw [if_neg (by assumption), if_neg (by assumption), if_pos (by assumption)] | rw [if_neg (by assumption), if_neg (by assumption), if_neg (by assumption)])
    · refine r_if_eq (tgt := 21) dX3_stepOf_15 rfl (fun _ => ?_) (fun h => absurd h (by decide))
      refine r_aload_n dX3_stepOf_21 rfl ?_
      refine r_iload dX3_stepOf_22 rfl ?_
      refine r_callV1b dX3_stepOf_24 cvX3_131 (by assumption) (c_X3_isSignS hr0 hT hR _ hc) (by decide) (Nat.le_of_ble_eq_true rfl) od_le.rf (fun q24 => ?_) (fun q24 => ?_)
      · refine r_if_eq (tgt := 35) dX3_stepOf_27 rfl (fun h => absurd h (by decide)) (fun _ => ?_)
        refine r_iload dX3_stepOf_30 rfl ?_
        refine r_goto (tgt := 36) dX3_stepOf_32 rfl ?_
        exact r_iret dX3_stepOf_36 rfl (by unfold tSt; first | rw [if_pos (by assumption)] | rw [if_neg (by assumption), if_pos (by assumption)] | rw [if_neg (by assumption), if_neg (by assumption), if_pos (by assumption)] | rw [if_neg (by assumption), if_neg (by assumption), if_neg (by assumption)])
      · refine r_if_eq (tgt := 35) dX3_stepOf_27 rfl (fun _ => ?_) (fun h => absurd h (by decide))
        refine r_iconst dX3_stepOf_35 li_m1 ?_
        exact r_iret dX3_stepOf_36 rfl (by unfold tSt; first | rw [if_pos (by assumption)] | rw [if_neg (by assumption), if_pos (by assumption)] | rw [if_neg (by assumption), if_neg (by assumption), if_pos (by assumption)] | rw [if_neg (by assumption), if_neg (by assumption), if_neg (by assumption)])
theorem tSt_s (B : Int → Int) (n : Int) (s : pS) : tSt B n s 43 6 45 7 45 7 = if s.2.2 = -1 then pOs (tC B n s.1) else -1 := by
  unfold tSt pOs
  by_cases h : s.2.2 = -1 <;> simp only [h, true_and, false_and, if_false, if_true, ite_true, ite_false]
  · by_cases h1 : tC B n s.1 = 143
    · rw [if_pos (by omega), if_pos h1]
    · rw [if_neg (by omega), if_neg h1]
      by_cases h2 : tC B n s.1 = 145
      · rw [if_pos (by omega), if_pos h2]
      · rw [if_neg (by omega), if_neg (by omega), if_neg h2]
theorem tSt_t (B : Int → Int) (n : Int) (s : pS) : tSt B n s 42 8 47 9 37 10 = if s.2.2 = -1 then pOt (tC B n s.1) else -1 := by
  unfold tSt pOt
  by_cases h : s.2.2 = -1 <;> simp only [h, true_and, false_and, if_false, if_true, ite_true, ite_false]
  · by_cases h1 : tC B n s.1 = 142
    · rw [if_pos (by omega), if_pos h1]
    · rw [if_neg (by omega), if_neg h1]
      by_cases h2 : tC B n s.1 = 147
      · rw [if_pos (by omega), if_pos h2]
      · rw [if_neg (by omega), if_neg h2]
        by_cases h3 : tC B n s.1 = 137
        · rw [if_pos (by omega), if_pos h3]
        · rw [if_neg (by omega), if_neg h3]
theorem tSt_c (B : Int → Int) (n : Int) (s : pS) : tSt B n s 60 11 62 12 61 13 = if s.2.2 = -1 then pOc (tC B n s.1) else -1 := by
  unfold tSt pOc
  by_cases h : s.2.2 = -1 <;> simp only [h, true_and, false_and, if_false, if_true, ite_true, ite_false]
  · by_cases h1 : tC B n s.1 = 160
    · rw [if_pos (by omega), if_pos h1]
    · rw [if_neg (by omega), if_neg h1]
      by_cases h2 : tC B n s.1 = 162
      · rw [if_pos (by omega), if_pos h2]
      · rw [if_neg (by omega), if_neg h2]
        by_cases h3 : tC B n s.1 = 161
        · rw [if_pos (by omega), if_pos h3]
        · rw [if_neg (by omega), if_neg h3]
