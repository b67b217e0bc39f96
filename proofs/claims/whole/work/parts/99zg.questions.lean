/-! questions: the same answers -/
set_option maxRecDepth 10000 in
theorem c_X11_drawn2 {E : od_E} {g : od_G} {M : Int} (hm : MoAt E M) (h49 : -1 ≤ g M 49 ∧ g M 49 ≤ 6) (d k : Int) : od_Ct 2 mX11_drawn [(2, M), (0, d), (0, k)] E g (some (0, od_ite (mLies d 0 (g M 49 - 1) ∧ mLies k 0 2) (mDrawn g M d k) (-1)), E, g) := by
  refine od_ctI pnX11 rfl (Nat.le_of_ble_eq_true rfl) od_le.rf ?_
  show od_R _ _ _ _ _ 0 [some (2, M), some (0, d), some (0, k)] [] E g
  refine r_iload_n dX11_drawn_0 rfl ?_
  refine r_iconst dX11_drawn_1 li_0 ?_
  refine r_aload_n dX11_drawn_2 rfl ?_
  refine r_getIj (j := 49) rfl dX11_drawn_3 fkX11_103 gf11_49 (mo_o hm) rfl ?_
  refine r_iconst dX11_drawn_6 li_1 ?_
  refine r_isubE dX11_drawn_7 (by first | exact od_w0 (by omega) (by omega) | exact od_wI (by omega) (by omega) | rfl) ?_
  refine r_callS3b dX11_drawn_8 csX11_18 (c_X11_lies _ _ _) (by decide) (Nat.le_of_ble_eq_true rfl) od_le.rf (fun q8 => ?_) (fun q8 => ?_)
  · refine r_if_eq (tgt := 23) dX11_drawn_11 rfl (fun h => absurd h (by decide)) (fun _ => ?_)
    refine r_iload_n dX11_drawn_14 rfl ?_
    refine r_iconst dX11_drawn_15 li_0 ?_
    refine r_iconst dX11_drawn_16 li_2 ?_
    refine r_callS3b dX11_drawn_17 csX11_18 (c_X11_lies _ _ _) (by decide) (Nat.le_of_ble_eq_true rfl) od_le.rf (fun q17 => ?_) (fun q17 => ?_)
    · refine r_if_ne (tgt := 25) dX11_drawn_20 rfl (fun _ => ?_) (fun h => absurd h (by decide))
      have u8 := q8
      unfold mLies at u8
      refine r_aload_n dX11_drawn_25 rfl ?_
      refine r_getR dX11_drawn_26 fkX11_100 gf11_48 (mo_o hm) (mo_r48 hm) ?_
      refine r_iload_n dX11_drawn_29 rfl ?_
      refine r_if_ne (tgt := 37) dX11_drawn_30 rfl (fun c30 => ?_) (fun c30 => ?_)
      · refine r_iload_n dX11_drawn_37 rfl ?_
        refine r_iconst dX11_drawn_38 li_1 ?_
        refine r_icmp_ne (tgt := 47) dX11_drawn_39 rfl (fun c39 => ?_) (fun c39 => ?_)
        · refine r_bipush dX11_drawn_47 lb_12 ?_
          refine r_iload_n dX11_drawn_49 rfl ?_
          refine r_iaddE dX11_drawn_50 (by first | exact od_w0 (by omega) (by omega) | exact od_wI (by omega) (by omega) | rfl) ?_
          refine r_iald dX11_drawn_51 (mo_k48 hm) (by omega) rfl ?_
          exact r_iret dX11_drawn_52 rfl (by rw [od_ite_t ⟨by assumption, by assumption⟩]; unfold mDrawn; first | rw [if_pos (by assumption)] | rw [if_neg (by assumption), if_pos (by assumption)] | rw [if_neg (by assumption), if_neg (by assumption)])
        · refine r_bipush dX11_drawn_42 lb_6 ?_
          refine r_goto (tgt := 49) dX11_drawn_44 rfl ?_
          refine r_iload_n dX11_drawn_49 rfl ?_
          refine r_iaddE dX11_drawn_50 (by first | exact od_w0 (by omega) (by omega) | exact od_wI (by omega) (by omega) | rfl) ?_
          refine r_iald dX11_drawn_51 (mo_k48 hm) (by omega) rfl ?_
          exact r_iret dX11_drawn_52 rfl (by rw [od_ite_t ⟨by assumption, by assumption⟩]; unfold mDrawn; first | rw [if_pos (by assumption)] | rw [if_neg (by assumption), if_pos (by assumption)] | rw [if_neg (by assumption), if_neg (by assumption)])
      · refine r_iconst dX11_drawn_33 li_0 ?_
        refine r_goto (tgt := 49) dX11_drawn_34 rfl ?_
        refine r_iload_n dX11_drawn_49 rfl ?_
        refine r_iaddE dX11_drawn_50 (by first | exact od_w0 (by omega) (by omega) | exact od_wI (by omega) (by omega) | rfl) ?_
        refine r_iald dX11_drawn_51 (mo_k48 hm) (by omega) rfl ?_
        exact r_iret dX11_drawn_52 rfl (by rw [od_ite_t ⟨by assumption, by assumption⟩]; unfold mDrawn; first | rw [if_pos (by assumption)] | rw [if_neg (by assumption), if_pos (by assumption)] | rw [if_neg (by assumption), if_neg (by assumption)])
    · refine r_if_ne (tgt := 25) dX11_drawn_20 rfl (fun h => absurd h (by decide)) (fun _ => ?_)
      refine r_iconst dX11_drawn_23 li_m1 ?_
      first
      | exact r_iret dX11_drawn_24 rfl (by rw [od_ite_f (fun z => absurd z.2 (by assumption))])
      | exact r_iret dX11_drawn_24 rfl (by rw [od_ite_f (fun z => absurd z.1 (by assumption))])
  · refine r_if_eq (tgt := 23) dX11_drawn_11 rfl (fun _ => ?_) (fun h => absurd h (by decide))
    refine r_iconst dX11_drawn_23 li_m1 ?_
    first
    | exact r_iret dX11_drawn_24 rfl (by rw [od_ite_f (fun z => absurd z.2 (by assumption))])
    | exact r_iret dX11_drawn_24 rfl (by rw [od_ite_f (fun z => absurd z.1 (by assumption))])
section Questions
variable {E : od_E} {o M : Int} {g : od_G}
theorem p_of (hE : EW E o M) (hR : Rel2 E o M g g) (d w : Int) : od_Pr E o M g 0 4 mX10_of [(2, o), (0, d), (0, w)] 4 mX11_of [(2, M), (0, d), (0, w)] := by
  exact pr_tt hE hR (c_X10_of hE.1 d w) (fun g1 r1 _ => by rw [e_of r1.st d w]; exact c_X11_of hE.2.1 r1.st.MI d w)
theorem p_asks (hE : EW E o M) (hR : Rel2 E o M g g) (d b w : Int) : od_Pr E o M g 0 6 mX10_asks [(2, o), (0, d), (0, b), (0, w)] 46 mX11_asks [(2, M), (0, d), (0, b), (0, w)] := by
  obtain ⟨pl, C, cn, sn, hL, hW, hT⟩ := hR.law hE
  have oM := hE.2.2
  exact pr_ff hE hR (c_X10_asks hE.1 hW d b w) (fun x y q => by (try unfold TX at q); (try unfold CX at q); have := hE.2.2; unfold CS; omega) (fun g1 r1 e2 => by rw [e_asks r1.st (by rw [e2]; exact hL) d b w]; exact c_X11_asks hE.2.1 r1.st.MI (by rw [e2]; exact hL.F) d b w) (fun x y q => by unfold XQ at q; unfold RS; omega)
theorem p_sleeves (hE : EW E o M) (hR : Rel2 E o M g g) : od_Pr E o M g 0 1 mX10_sleeves [(2, o)] 1 mX11_sleeves [(2, M)] := by
  exact pr_tt hE hR (c_X10_sleeves hE.1) (fun g1 r1 _ => by rw [r1.fd.1.2.2.2]; exact c_X11_sleeves hE.2.1)
theorem p_fault (hE : EW E o M) (hR : Rel2 E o M g g) : od_Pr E o M g 0 1 mX10_fault [(2, o)] 1 mX11_fault [(2, M)] := by
  exact pr_tt hE hR (c_X10_fault hE.1) (fun g1 r1 _ => by rw [r1.fd.1.2.1]; exact c_X11_fault hE.2.1)
theorem p_stopped (hE : EW E o M) (hR : Rel2 E o M g g) : od_Pr E o M g 0 1 mX10_stopped [(2, o)] 1 mX11_stopped [(2, M)] := by
  exact pr_tt hE hR (c_X10_stopped hE.1) (fun g1 r1 _ => by rw [r1.fd.1.2.2.1]; exact c_X11_stopped hE.2.1)
theorem p_status (hE : EW E o M) (hR : Rel2 E o M g g) : od_Pr E o M g 0 1 mX10_status [(2, o)] 1 mX11_status [(2, M)] := by
  exact pr_tt hE hR (c_X10_status hE.1) (fun g1 r1 _ => by rw [r1.fd.1.1]; exact c_X11_status hE.2.1)
theorem p_loud (hE : EW E o M) (hR : Rel2 E o M g g) (h : Int) : od_Pr E o M g 0 6 mX10_loud [(2, o), (0, h)] 47 mX11_loud [(2, M), (0, h)] := by
  obtain ⟨pl, C, cn, sn, hL, hW, hT⟩ := hR.law hE
  have oM := hE.2.2
  exact pr_ff hE hR (c_X10_loud hE.1 hW (by rw [hR.st.1.1]; exact hR.st.1.2) h) (fun x y q => by (try unfold TX at q); (try unfold CX at q); have := hE.2.2; unfold CS; omega) (fun g1 r1 e2 => by rw [e_loud r1.st (by rw [e2]; exact hL) h]; exact c_X11_loud hE.2.1 r1.st.MI (by rw [e2]; exact hL.F) h) (fun x y q => by unfold XQ at q; unfold RS; omega)
theorem p_round (hE : EW E o M) (hR : Rel2 E o M g g) : od_Pr E o M g 0 3 mX10_round [(2, o)] 2 mX11_round [(2, M)] := by
  exact pr_tt hE hR (c_X10_round hE.1) (fun g1 r1 _ => by rw [r1.st.round]; exact c_X11_round hE.2.1 r1.st.MI)
theorem p_when (hE : EW E o M) (hR : Rel2 E o M g g) (s : Int) : od_Pr E o M g 0 9 mX10_when [(2, o), (0, s)] 5 mX11_when [(2, M), (0, s)] := by
  exact pr_ff hE hR (c_X10_when hE.1 hR.st.CI s) (fun x y q => by (try unfold TX at q); (try unfold CX at q); have := hE.2.2; unfold CS; omega) (fun g1 r1 _ => by rw [e_when r1.st s]; exact c_X11_when hE.2.1 r1.st.MI s) (fun x y q => by unfold LR at q; unfold RS; omega)
theorem p_often (hE : EW E o M) (hR : Rel2 E o M g g) (s : Int) : od_Pr E o M g 0 9 mX10_often [(2, o), (0, s)] 5 mX11_often [(2, M), (0, s)] := by
  exact pr_ff hE hR (c_X10_often hE.1 hR.st.CI s) (fun x y q => by (try unfold TX at q); (try unfold CX at q); have := hE.2.2; unfold CS; omega) (fun g1 r1 _ => by rw [e_often r1.st s]; exact c_X11_often hE.2.1 r1.st.MI s) (fun x y q => by unfold LR at q; unfold RS; omega)
theorem p_alone (hE : EW E o M) (hR : Rel2 E o M g g) (d : Int) : od_Pr E o M g 0 9 mX10_alone [(2, o), (0, d)] 5 mX11_alone [(2, M), (0, d)] := by
  exact pr_ff hE hR (c_X10_alone hE.1 hR.st.CI d) (fun x y q => by (try unfold TX at q); (try unfold CX at q); have := hE.2.2; unfold CS; omega) (fun g1 r1 _ => by rw [e_alone r1.st d]; exact c_X11_alone hE.2.1 r1.st.MI d) (fun x y q => by unfold LR at q; unfold RS; omega)
theorem p_quiet (hE : EW E o M) (hR : Rel2 E o M g g) (w : Int) : od_Pr E o M g 0 9 mX10_quiet [(2, o), (0, w)] 5 mX11_quiet [(2, M), (0, w)] := by
  exact pr_ff hE hR (c_X10_quiet hE.1 hR.st.CI w) (fun x y q => by (try unfold TX at q); (try unfold CX at q); have := hE.2.2; unfold CS; omega) (fun g1 r1 _ => by rw [e_quiet r1.st w]; exact c_X11_quiet hE.2.1 r1.st.MI w) (fun x y q => by unfold LR at q; unfold RS; omega)
theorem p_most (hE : EW E o M) (hR : Rel2 E o M g g) (d w : Int) : od_Pr E o M g 0 9 mX10_most [(2, o), (0, d), (0, w)] 5 mX11_most [(2, M), (0, d), (0, w)] := by
  exact pr_ff hE hR (c_X10_most hE.1 hR.st.CI d w) (fun x y q => by (try unfold TX at q); (try unfold CX at q); have := hE.2.2; unfold CS; omega) (fun g1 r1 _ => by rw [e_most r1.st d w]; exact c_X11_most hE.2.1 r1.st.MI d w) (fun x y q => by unfold LR at q; unfold RS; omega)
theorem p_least (hE : EW E o M) (hR : Rel2 E o M g g) (d w : Int) : od_Pr E o M g 0 9 mX10_least [(2, o), (0, d), (0, w)] 5 mX11_least [(2, M), (0, d), (0, w)] := by
  exact pr_ff hE hR (c_X10_least hE.1 hR.st.CI d w) (fun x y q => by (try unfold TX at q); (try unfold CX at q); have := hE.2.2; unfold CS; omega) (fun g1 r1 _ => by rw [e_least r1.st d w]; exact c_X11_least hE.2.1 r1.st.MI d w) (fun x y q => by unfold LR at q; unfold RS; omega)
theorem p_never (hE : EW E o M) (hR : Rel2 E o M g g) (w : Int) : od_Pr E o M g 0 9 mX10_never [(2, o), (0, w)] 6 mX11_never [(2, M), (0, w)] := by
  exact pr_ff hE hR (c_X10_never hE.1 hR.st.CI w) (fun x y q => by (try unfold TX at q); (try unfold CX at q); have := hE.2.2; unfold CS; omega) (fun g1 r1 _ => by rw [e_never r1.st w]; exact c_X11_never hE.2.1 r1.st.MI w) (fun x y q => by unfold SK LR at q; unfold RS; omega)
theorem p_loudest (hE : EW E o M) (hR : Rel2 E o M g g) (w : Int) : od_Pr E o M g 0 9 mX10_loudest [(2, o), (0, w)] 47 mX11_loudest [(2, M), (0, w)] := by
  obtain ⟨pl, C, cn, sn, hL, hW, hT⟩ := hR.law hE
  have oM := hE.2.2
  exact pr_ff hE hR (c_X10_loudest hE.1 hW (fun q => by have := hT q; omega) hR.st.CI w) (fun x y q => by (try unfold TX at q); (try unfold CX at q); have := hE.2.2; unfold CS; omega) (fun g1 r1 e2 => by rw [e_loudest r1.st (by rw [e2]; exact hL) w]; exact c_X11_loudest hE.2.1 r1.st.MI r1.st.MJ (by rw [e2]; exact hL.F) w) (fun x y q => by unfold NQ LR XQ at q; unfold RS; omega)
theorem p_tune (hE : EW E o M) (hR : Rel2 E o M g g) : od_Pr E o M g 0 9 mX10_tune [(2, o)] 47 mX11_tune [(2, M)] := by
  obtain ⟨pl, C, cn, sn, hL, hW, hT⟩ := hR.law hE
  have oM := hE.2.2
  exact pr_ff hE hR (c_X10_tune hE.1 hW (fun q => by have := hT q; omega) hR.st.CI) (fun x y q => by (try unfold TX at q); (try unfold CX at q); have := hE.2.2; unfold CS; omega) (fun g1 r1 e2 => by rw [e_tune r1.st (by rw [e2]; exact hL)]; exact c_X11_tune hE.2.1 r1.st.MI r1.st.MJ (by rw [e2]; exact hL.F)) (fun x y q => by unfold NQ LR XQ at q; unfold RS; omega)
theorem p_add (hE : EW E o M) (hR : Rel2 E o M g g) (s w : Int) : od_Pr E o M g 0 9 mX10_add [(2, o), (0, s), (0, w)] 46 mX11_add [(2, M), (0, s), (0, w)] := by
  obtain ⟨pl, C, cn, sn, hL, hW, hT⟩ := hR.law hE
  have oM := hE.2.2
  refine pr_q hE hR (c_X10_add hE.1 hW (fun q => by have := hT q; omega) hR.st.CI s w) (fun v g1 q => ⟨q.1, fun x hx => q.2.row (fun y z => hx (by unfold TX at z; have := hE.2.2; unfold CS; omega))⟩) (fun g1 r1 e2 => ⟨_, c_X11_add hE.2.1 r1.st.MI r1.st.MJ (by rw [e2]; exact hL.F) s w, fun w' g2 q => ⟨e_add r1.st (by rw [e2]; exact hL) q, fun x y hx => q.1 x y (fun z => hx ?_)⟩⟩)
  unfold AQ XQ at z
  unfold RS
  omega
theorem p_canBe (hE : EW E o M) (hR : Rel2 E o M g g) : od_Pr E o M g 0 5 mX10_canBe [(2, o)] 5 mX11_canBe [(2, M)] := by
  exact pr_tt hE hR (c_X10_canBe hE.1 (by rw [hR.st.1.1]; exact hR.st.1.2) (by rw [hR.st.2.2.2.2.2.2.2.1.1]; exact hR.st.2.2.2.2.2.2.2.1.2)) (fun g1 r1 _ => by rw [e_canBe r1.st]; exact c_X11_canBe hE.2.1 r1.st.MI r1.st.2.2.2.2.2.2.2.1.2)
theorem p_listen (hE : EW E o M) (hR : Rel2 E o M g g) (w : Int) : od_Pr E o M g 0 5 mX10_listen [(2, o), (0, w)] 6 mX11_listen [(2, M), (0, w)] := by
  exact pr_tt hE hR (c_X10_listen hE.1 (by rw [hR.st.1.1]; exact hR.st.1.2) (by rw [hR.st.2.2.2.2.2.2.2.1.1]; exact hR.st.2.2.2.2.2.2.2.1.2) w) (fun g1 r1 _ => by rw [e_listen r1.st w]; exact c_X11_listen hE.2.1 r1.st.MI r1.st.2.2.2.2.2.2.2.1.2 w)
theorem p_few (hE : EW E o M) (hR : Rel2 E o M g g) (k n : Int) : od_Pr E o M g 1 3 mX10_few [(2, o), (0, k), (0, n)] 2 mX11_few [(2, M), (0, k), (0, n)] := by
  have h43 := hR.st.2.2.2.1.2.1
  have b43 := hR.st.2.2.2.2.1.2.1
  refine pr_ff (Xm := FX M) hE hR (c_X10_few hE.1 (by rw [h43]; exact b43) k n) (fun x y q => by (try unfold TX at q); (try unfold CX at q); have := hE.2.2; unfold CS; omega) (fun g1 r1 _ => ?_) (fun x y q => by unfold FX at q; unfold RS; omega)
  rw [r1.st.2.2.2.1.2.1]
  exact c_X11_few hE.2.1 r1.st.2.2.2.2.1.2.1 k n
theorem p_compare (hE : EW E o M) (hR : Rel2 E o M g g) (n : Int) : od_Pr E o M g 0 9 mX10_compare [(2, o), (0, n)] 47 mX11_compare [(2, M), (0, n)] := by
  obtain ⟨pls, Cs, cn, sn, hl⟩ := hR.ls
  have oM := hE.2.2
  by_cases c : mIsLaw g M n
  · have c2 := c
    unfold mIsLaw mLies at c2
    have a := hl.at' hR.st (by omega) (s := o + 70) (by omega) (n := n) (by omega)
    refine pr_ff (Xm := NQ M) hE hR (c_X10_compare hE.1 n a.1 (fun q => by have := a.2 q; omega) hR.st.CI) (fun x y q => by (try unfold TX at q); (try unfold CX at q); have := hE.2.2; unfold CS; omega) (fun g1 r1 e2 => ?_) (fun x y q => by unfold NQ LR XQ at q; unfold RS; omega)
    have hl1 : LwsR E g (o + 1) (g1 (M + 2)) (M + 24) pls Cs cn sn := by rw [e2]; exact hl
    rw [e_compare r1.st (by omega) hl1 n]
    refine c_X11_compare hE.2.1 r1.st.MI r1.st.MJ n (fun _ => ?_) r1.st.2.2.2.2.2.1.2
    have h2 := r1.st.u48 (n := n) (by rw [e2]; omega)
    have hl2 : LwsR E (od_up g (o + 1) 11 n) (o + 1) (od_up g1 (M + 2) 48 n (M + 2)) (M + 24) pls Cs cn sn := hl1.c (by have := r1.n47; omega) (od_up_ne (by omega)) (fun x hx => od_up_ne (by omega)) (od_up_j (by omega)) (fun y hy => od_up_j (by omega))
    have f := (hl2.f h2 (by omega)).F
    rw [od_up_i] at f
    exact f
  · have e : cLawOf g (o + 1) n = -1 := Classical.byContradiction fun q => c ((hR.st.isLaw (by omega) hl n).mp (Or.inr q))
    refine pr_ff (Xm := NQ M) hE hR (c_X10_compare (cn := 0) (sn := sn n) hE.1 n (Or.inl e) (fun q => absurd e q) hR.st.CI) (fun x y q => by (try unfold TX at q); (try unfold CX at q); have := hE.2.2; unfold CS; omega) (fun g1 r1 e2 => ?_) (fun x y q => by unfold NQ LR XQ at q; unfold RS; omega)
    have hl1 : LwsR E g (o + 1) (g1 (M + 2)) (M + 24) pls Cs cn sn := by rw [e2]; exact hl
    rw [e_compare r1.st (by omega) hl1 n]
    exact c_X11_compare hE.2.1 r1.st.MI r1.st.MJ n (fun q => absurd (by unfold mIsLaw at q ⊢; rw [e2] at q; exact q) c) r1.st.2.2.2.2.2.1.2
theorem p_drawn (hE : EW E o M) (hR : Rel2 E o M g g) (d w : Int) : od_Pr E o M g 0 4 mX10_drawn [(2, o), (0, d), (0, w)] 2 mX11_drawn [(2, M), (0, d), (0, w)] := by
  refine pr_tt hE hR (c_X10_drawn hE.1 d w) (fun g1 r1 _ => ?_)
  have e : cDrawnM g o d w = od_ite (mLies d 0 (g1 M 49 - 1) ∧ mLies w 0 2) (mDrawn g1 M d w) (-1) := by
    obtain ⟨p1, p2, p3⟩ := r1.pp
    unfold cDrawnM
    by_cases c : cHas g (o + 19) d
    · have c0 := c
      unfold cHas at c0
      have n1 : g1 M 49 ≠ -1 := fun z => by rw [if_pos z] at p2; omega
      rw [if_neg n1] at p2
      have z := p3 d (by omega) (by omega)
      have zs : od_b (cStop g (o + 19) d) = g1 (M + 23) (12 + d) := by
        rw [← z.2.2]
        exact od_ite_c ⟨fun q => q.2.2, fun q => ⟨by omega, by omega, q⟩⟩ (fun _ => rfl) rfl
      rw [od_ite_t c]
      by_cases c1 : mLies w 0 2
      · rw [od_ite_t ⟨by unfold mLies; omega, c1⟩]
        unfold mDrawn
        unfold mLies at c1
        by_cases w0 : w = 0
        · rw [if_pos w0, if_pos w0]; exact z.2.1
        · rw [if_neg w0, if_neg w0]
          by_cases w1 : w = 1
          · rw [if_pos w1, if_pos w1]; exact z.1
          · rw [if_neg w1, if_neg w1, if_pos (by omega)]; exact zs
      · rw [od_ite_f (fun q => c1 q.2)]
        unfold mLies at c1
        rw [if_neg (by omega), if_neg (by omega), if_neg (by omega)]
    · rw [od_ite_f c, od_ite_f (fun q => c (by
        have q1 := q.1
        unfold mLies at q1
        rw [if_neg (by omega)] at p2
        unfold cHas
        omega))]
  rw [e]
  exact c_X11_drawn2 hE.2.1 r1.pp.1 d w
theorem p_count (hE : EW E o M) (hR : Rel2 E o M g g) (w : Int) : od_Pr E o M g 0 5 mX10_count [(2, o), (0, w)] 5 mX11_count [(2, M), (0, w)] := by
  refine pr_tt hE hR (c_X10_count hE.1 (by rw [hR.st.1.1]; exact hR.st.1.2) w) (fun g1 r1 _ => ?_)
  have e : cCountM g o w = mCount g1 M w := by
    have s := r1.st
    have s4 := s.2.2.2.1
    have f := r1.fd.2
    have eh : cHow g (o + 1) (g (o + 1) 8).toNat = mStrN g1 M := s.how
    have ep := s.pins
    have t6 : g1 M 13 = g (o + 60) 1 := r1.tp.2.2.1
    unfold cCountM mCount
    rw [eh, ep, s.1.1, s.2.2.2.2.2.2.2.1.1, s.2.2.2.2.2.1.1, r1.pa.2.1.1, ← t6, f 1 (by omega) (by omega), f 2 (by omega) (by omega), f 3 (by omega) (by omega), f 5 (by omega) (by omega), f 6 (by omega) (by omega), s.2.2.2.2.2.2.1.1, s4.1, s4.2.1, s4.2.2]
    rfl
  rw [e]
  exact c_X11_count hE.2.1 r1.st.MI w
end Questions
