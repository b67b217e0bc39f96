/-! OrganDrumsModel -/
def MoAt (E : od_E) (M : Int) : Prop := (E.2.1 M).1 = 11 ∧ E.2.2 M 1 = M + 1 ∧ E.2.2 M 2 = M + 2 ∧ E.2.2 M 3 = M + 3 ∧ E.2.2 M 4 = M + 4 ∧ E.2.2 M 5 = M + 5 ∧ E.2.2 M 7 = M + 6 ∧ E.2.2 M 11 = M + 7 ∧ E.2.2 M 12 = M + 8 ∧ E.2.2 M 15 = M + 9 ∧ E.2.2 M 16 = M + 10 ∧ E.2.2 M 17 = M + 11 ∧ E.2.2 M 26 = M + 12 ∧ E.2.2 M 30 = M + 13 ∧ E.2.2 M 31 = M + 14 ∧ E.2.2 M 32 = M + 15 ∧ E.2.2 M 34 = M + 16 ∧ E.2.2 M 35 = M + 17 ∧ E.2.2 M 36 = M + 18 ∧ E.2.2 M 38 = M + 19 ∧ E.2.2 M 39 = M + 20 ∧ E.2.2 M 40 = M + 21 ∧ E.2.2 M 47 = M + 22 ∧ E.2.2 M 48 = M + 23 ∧ E.2.1 (M + 1) = (20, 7) ∧ E.2.1 (M + 2) = (20, 5656) ∧ E.2.1 (M + 3) = (20, 11312) ∧ E.2.1 (M + 4) = (22, 2) ∧ E.2.1 (M + 5) = (20, 38) ∧ E.2.1 (M + 6) = (21, 120) ∧ E.2.1 (M + 7) = (21, 400) ∧ E.2.1 (M + 8) = (20, 5) ∧ E.2.1 (M + 9) = (20, 401) ∧ E.2.1 (M + 10) = (20, 401) ∧ E.2.1 (M + 11) = (20, 401) ∧ E.2.1 (M + 12) = (20, 7) ∧ E.2.1 (M + 13) = (22, 6) ∧ E.2.1 (M + 14) = (20, 320) ∧ E.2.1 (M + 15) = (20, 320) ∧ E.2.1 (M + 16) = (20, 27720) ∧ E.2.1 (M + 17) = (20, 27720) ∧ E.2.1 (M + 18) = (20, 72) ∧ E.2.1 (M + 19) = (22, 64) ∧ E.2.1 (M + 20) = (22, 72) ∧ E.2.1 (M + 21) = (23, 21) ∧ E.2.1 (M + 22) = (23, 2) ∧ E.2.1 (M + 23) = (20, 19)
theorem mo_o {E : od_E} {M : Int} (h : MoAt E M) : (E.2.1 M).1 = 11 := h.1
theorem mo_r1 {E : od_E} {M : Int} (h : MoAt E M) : E.2.2 M 1 = M + 1 := h.2.1
theorem mo_k1 {E : od_E} {M : Int} (h : MoAt E M) : E.2.1 (M + 1) = (20, 7) := h.2.2.2.2.2.2.2.2.2.2.2.2.2.2.2.2.2.2.2.2.2.2.2.2.1
theorem mo_r2 {E : od_E} {M : Int} (h : MoAt E M) : E.2.2 M 2 = M + 2 := h.2.2.1
theorem mo_k2 {E : od_E} {M : Int} (h : MoAt E M) : E.2.1 (M + 2) = (20, 5656) := h.2.2.2.2.2.2.2.2.2.2.2.2.2.2.2.2.2.2.2.2.2.2.2.2.2.1
theorem mo_r3 {E : od_E} {M : Int} (h : MoAt E M) : E.2.2 M 3 = M + 3 := h.2.2.2.1
theorem mo_k3 {E : od_E} {M : Int} (h : MoAt E M) : E.2.1 (M + 3) = (20, 11312) := h.2.2.2.2.2.2.2.2.2.2.2.2.2.2.2.2.2.2.2.2.2.2.2.2.2.2.1
theorem mo_r4 {E : od_E} {M : Int} (h : MoAt E M) : E.2.2 M 4 = M + 4 := h.2.2.2.2.1
theorem mo_k4 {E : od_E} {M : Int} (h : MoAt E M) : E.2.1 (M + 4) = (22, 2) := h.2.2.2.2.2.2.2.2.2.2.2.2.2.2.2.2.2.2.2.2.2.2.2.2.2.2.2.1
theorem mo_r5 {E : od_E} {M : Int} (h : MoAt E M) : E.2.2 M 5 = M + 5 := h.2.2.2.2.2.1
theorem mo_k5 {E : od_E} {M : Int} (h : MoAt E M) : E.2.1 (M + 5) = (20, 38) := h.2.2.2.2.2.2.2.2.2.2.2.2.2.2.2.2.2.2.2.2.2.2.2.2.2.2.2.2.1
theorem mo_r7 {E : od_E} {M : Int} (h : MoAt E M) : E.2.2 M 7 = M + 6 := h.2.2.2.2.2.2.1
theorem mo_k7 {E : od_E} {M : Int} (h : MoAt E M) : E.2.1 (M + 6) = (21, 120) := h.2.2.2.2.2.2.2.2.2.2.2.2.2.2.2.2.2.2.2.2.2.2.2.2.2.2.2.2.2.1
theorem mo_r11 {E : od_E} {M : Int} (h : MoAt E M) : E.2.2 M 11 = M + 7 := h.2.2.2.2.2.2.2.1
theorem mo_k11 {E : od_E} {M : Int} (h : MoAt E M) : E.2.1 (M + 7) = (21, 400) := h.2.2.2.2.2.2.2.2.2.2.2.2.2.2.2.2.2.2.2.2.2.2.2.2.2.2.2.2.2.2.1
theorem mo_r12 {E : od_E} {M : Int} (h : MoAt E M) : E.2.2 M 12 = M + 8 := h.2.2.2.2.2.2.2.2.1
theorem mo_k12 {E : od_E} {M : Int} (h : MoAt E M) : E.2.1 (M + 8) = (20, 5) := h.2.2.2.2.2.2.2.2.2.2.2.2.2.2.2.2.2.2.2.2.2.2.2.2.2.2.2.2.2.2.2.1
theorem mo_r15 {E : od_E} {M : Int} (h : MoAt E M) : E.2.2 M 15 = M + 9 := h.2.2.2.2.2.2.2.2.2.1
theorem mo_k15 {E : od_E} {M : Int} (h : MoAt E M) : E.2.1 (M + 9) = (20, 401) := h.2.2.2.2.2.2.2.2.2.2.2.2.2.2.2.2.2.2.2.2.2.2.2.2.2.2.2.2.2.2.2.2.1
theorem mo_r16 {E : od_E} {M : Int} (h : MoAt E M) : E.2.2 M 16 = M + 10 := h.2.2.2.2.2.2.2.2.2.2.1
theorem mo_k16 {E : od_E} {M : Int} (h : MoAt E M) : E.2.1 (M + 10) = (20, 401) := h.2.2.2.2.2.2.2.2.2.2.2.2.2.2.2.2.2.2.2.2.2.2.2.2.2.2.2.2.2.2.2.2.2.1
theorem mo_r17 {E : od_E} {M : Int} (h : MoAt E M) : E.2.2 M 17 = M + 11 := h.2.2.2.2.2.2.2.2.2.2.2.1
theorem mo_k17 {E : od_E} {M : Int} (h : MoAt E M) : E.2.1 (M + 11) = (20, 401) := h.2.2.2.2.2.2.2.2.2.2.2.2.2.2.2.2.2.2.2.2.2.2.2.2.2.2.2.2.2.2.2.2.2.2.1
theorem mo_r26 {E : od_E} {M : Int} (h : MoAt E M) : E.2.2 M 26 = M + 12 := h.2.2.2.2.2.2.2.2.2.2.2.2.1
theorem mo_k26 {E : od_E} {M : Int} (h : MoAt E M) : E.2.1 (M + 12) = (20, 7) := h.2.2.2.2.2.2.2.2.2.2.2.2.2.2.2.2.2.2.2.2.2.2.2.2.2.2.2.2.2.2.2.2.2.2.2.1
theorem mo_r30 {E : od_E} {M : Int} (h : MoAt E M) : E.2.2 M 30 = M + 13 := h.2.2.2.2.2.2.2.2.2.2.2.2.2.1
theorem mo_k30 {E : od_E} {M : Int} (h : MoAt E M) : E.2.1 (M + 13) = (22, 6) := h.2.2.2.2.2.2.2.2.2.2.2.2.2.2.2.2.2.2.2.2.2.2.2.2.2.2.2.2.2.2.2.2.2.2.2.2.1
theorem mo_r31 {E : od_E} {M : Int} (h : MoAt E M) : E.2.2 M 31 = M + 14 := h.2.2.2.2.2.2.2.2.2.2.2.2.2.2.1
theorem mo_k31 {E : od_E} {M : Int} (h : MoAt E M) : E.2.1 (M + 14) = (20, 320) := h.2.2.2.2.2.2.2.2.2.2.2.2.2.2.2.2.2.2.2.2.2.2.2.2.2.2.2.2.2.2.2.2.2.2.2.2.2.1
theorem mo_r32 {E : od_E} {M : Int} (h : MoAt E M) : E.2.2 M 32 = M + 15 := h.2.2.2.2.2.2.2.2.2.2.2.2.2.2.2.1
theorem mo_k32 {E : od_E} {M : Int} (h : MoAt E M) : E.2.1 (M + 15) = (20, 320) := h.2.2.2.2.2.2.2.2.2.2.2.2.2.2.2.2.2.2.2.2.2.2.2.2.2.2.2.2.2.2.2.2.2.2.2.2.2.2.1
theorem mo_r34 {E : od_E} {M : Int} (h : MoAt E M) : E.2.2 M 34 = M + 16 := h.2.2.2.2.2.2.2.2.2.2.2.2.2.2.2.2.1
theorem mo_k34 {E : od_E} {M : Int} (h : MoAt E M) : E.2.1 (M + 16) = (20, 27720) := h.2.2.2.2.2.2.2.2.2.2.2.2.2.2.2.2.2.2.2.2.2.2.2.2.2.2.2.2.2.2.2.2.2.2.2.2.2.2.2.1
theorem mo_r35 {E : od_E} {M : Int} (h : MoAt E M) : E.2.2 M 35 = M + 17 := h.2.2.2.2.2.2.2.2.2.2.2.2.2.2.2.2.2.1
theorem mo_k35 {E : od_E} {M : Int} (h : MoAt E M) : E.2.1 (M + 17) = (20, 27720) := h.2.2.2.2.2.2.2.2.2.2.2.2.2.2.2.2.2.2.2.2.2.2.2.2.2.2.2.2.2.2.2.2.2.2.2.2.2.2.2.2.1
theorem mo_r36 {E : od_E} {M : Int} (h : MoAt E M) : E.2.2 M 36 = M + 18 := h.2.2.2.2.2.2.2.2.2.2.2.2.2.2.2.2.2.2.1
theorem mo_k36 {E : od_E} {M : Int} (h : MoAt E M) : E.2.1 (M + 18) = (20, 72) := h.2.2.2.2.2.2.2.2.2.2.2.2.2.2.2.2.2.2.2.2.2.2.2.2.2.2.2.2.2.2.2.2.2.2.2.2.2.2.2.2.2.1
theorem mo_r38 {E : od_E} {M : Int} (h : MoAt E M) : E.2.2 M 38 = M + 19 := h.2.2.2.2.2.2.2.2.2.2.2.2.2.2.2.2.2.2.2.1
theorem mo_k38 {E : od_E} {M : Int} (h : MoAt E M) : E.2.1 (M + 19) = (22, 64) := h.2.2.2.2.2.2.2.2.2.2.2.2.2.2.2.2.2.2.2.2.2.2.2.2.2.2.2.2.2.2.2.2.2.2.2.2.2.2.2.2.2.2.1
theorem mo_r39 {E : od_E} {M : Int} (h : MoAt E M) : E.2.2 M 39 = M + 20 := h.2.2.2.2.2.2.2.2.2.2.2.2.2.2.2.2.2.2.2.2.1
theorem mo_k39 {E : od_E} {M : Int} (h : MoAt E M) : E.2.1 (M + 20) = (22, 72) := h.2.2.2.2.2.2.2.2.2.2.2.2.2.2.2.2.2.2.2.2.2.2.2.2.2.2.2.2.2.2.2.2.2.2.2.2.2.2.2.2.2.2.2.1
theorem mo_r40 {E : od_E} {M : Int} (h : MoAt E M) : E.2.2 M 40 = M + 21 := h.2.2.2.2.2.2.2.2.2.2.2.2.2.2.2.2.2.2.2.2.2.1
theorem mo_k40 {E : od_E} {M : Int} (h : MoAt E M) : E.2.1 (M + 21) = (23, 21) := h.2.2.2.2.2.2.2.2.2.2.2.2.2.2.2.2.2.2.2.2.2.2.2.2.2.2.2.2.2.2.2.2.2.2.2.2.2.2.2.2.2.2.2.2.1
theorem mo_r47 {E : od_E} {M : Int} (h : MoAt E M) : E.2.2 M 47 = M + 22 := h.2.2.2.2.2.2.2.2.2.2.2.2.2.2.2.2.2.2.2.2.2.2.1
theorem mo_k47 {E : od_E} {M : Int} (h : MoAt E M) : E.2.1 (M + 22) = (23, 2) := h.2.2.2.2.2.2.2.2.2.2.2.2.2.2.2.2.2.2.2.2.2.2.2.2.2.2.2.2.2.2.2.2.2.2.2.2.2.2.2.2.2.2.2.2.2.1
theorem mo_r48 {E : od_E} {M : Int} (h : MoAt E M) : E.2.2 M 48 = M + 23 := h.2.2.2.2.2.2.2.2.2.2.2.2.2.2.2.2.2.2.2.2.2.2.2.1
theorem mo_k48 {E : od_E} {M : Int} (h : MoAt E M) : E.2.1 (M + 23) = (20, 19) := h.2.2.2.2.2.2.2.2.2.2.2.2.2.2.2.2.2.2.2.2.2.2.2.2.2.2.2.2.2.2.2.2.2.2.2.2.2.2.2.2.2.2.2.2.2.2
def mLies (v l h : Int) : Prop := l ≤ v ∧ v ≤ h
def mIn (s k : Int) : Prop := od_and (od_shr s k) 1 = 1
def mRef (g : od_G) (M k : Int) : od_G := od_up (od_up g M 0 k) (M + 1) (-k) (od_w (g (M + 1) (-k) + 1))
def mGood (g : od_G) (M : Int) : od_G := od_up g M 0 0
def mSet (g : od_G) (M : Int) : od_G := od_up (od_up g M 33 0) M 0 0
set_option maxRecDepth 10000 in
theorem c_X11_lies {E : od_E} {g : od_G} (v l h : Int) : od_Ct 1 mX11_lies [(0, v), (0, l), (0, h)] E g (some (0, od_b (mLies v l h)), E, g) := by
  refine od_ctI pnX11 rfl (Nat.le_of_ble_eq_true rfl) od_le.rf ?_
  show od_R _ _ _ _ _ 0 [some (0, v), some (0, l), some (0, h)] [] E g
  refine r_iload_n dX11_lies_0 rfl ?_
  refine r_iload_n dX11_lies_1 rfl ?_
  refine r_icmp_lt (tgt := 14) dX11_lies_2 rfl (fun c2 => ?_) (fun c2 => ?_)
  · refine r_iconst dX11_lies_14 li_0 ?_
    exact r_zret (v := 0) dX11_lies_15 rfl od_nz0 (od_lt0 (by unfold mLies; omega))
  · refine r_iload_n dX11_lies_5 rfl ?_
    refine r_iload_n dX11_lies_6 rfl ?_
    refine r_icmp_gt (tgt := 14) dX11_lies_7 rfl (fun c7 => ?_) (fun c7 => ?_)
    · refine r_iconst dX11_lies_14 li_0 ?_
      exact r_zret (v := 0) dX11_lies_15 rfl od_nz0 (od_lt0 (by unfold mLies; omega))
    · refine r_iconst dX11_lies_10 li_1 ?_
      refine r_goto (tgt := 15) dX11_lies_11 rfl ?_
      exact r_zret (v := 1) dX11_lies_15 rfl od_nz1 (od_lt1 (by unfold mLies; omega))
set_option maxRecDepth 10000 in
theorem c_X11_greater {E : od_E} {g : od_G} (a b : Int) : od_Ct 1 mX11_greater [(0, a), (0, b)] E g (some (0, max a b), E, g) := by
  refine od_ctI pnX11 rfl (Nat.le_of_ble_eq_true rfl) od_le.rf ?_
  show od_R _ _ _ _ _ 0 [some (0, a), some (0, b)] [] E g
  refine r_iload_n dX11_greater_0 rfl ?_
  refine r_iload_n dX11_greater_1 rfl ?_
  refine r_icmp_le (tgt := 9) dX11_greater_2 rfl (fun c2 => ?_) (fun c2 => ?_)
  · refine r_iload_n dX11_greater_9 rfl ?_
    exact r_iret dX11_greater_10 rfl (by first | rw [show max a b = a by omega] | rw [show max a b = b by omega])
  · refine r_iload_n dX11_greater_5 rfl ?_
    refine r_goto (tgt := 10) dX11_greater_6 rfl ?_
    exact r_iret dX11_greater_10 rfl (by first | rw [show max a b = a by omega] | rw [show max a b = b by omega])
set_option maxRecDepth 10000 in
theorem c_X11_refuses {E : od_E} {g : od_G} {M : Int} (hm : MoAt E M) (k : Int) (hk : -6 ≤ k ∧ k ≤ -1) : od_Ct 1 mX11_refuses [(2, M), (0, k)] E g (some (0, k), E, mRef g M k) := by
  refine od_ctI pnX11 rfl (Nat.le_of_ble_eq_true rfl) od_le.rf ?_
  show od_R _ _ _ _ _ 0 [some (2, M), some (0, k)] [] E g
  refine r_aload_n dX11_refuses_0 rfl ?_
  refine r_iload_n dX11_refuses_1 rfl ?_
  refine r_putIj (j := 0) rfl dX11_refuses_2 fkX11_3 gf11_0 pf11_0 (mo_o hm) ?_
  refine r_aload_n dX11_refuses_5 rfl ?_
  refine r_getR dX11_refuses_6 fkX11_7 gf11_1 (mo_o hm) (mo_r1 hm) ?_
  refine r_iload_n dX11_refuses_9 rfl ?_
  refine r_inegE dX11_refuses_10 (by first | exact od_w0 (by omega) (by omega) | exact od_wI (by omega) (by omega) | rfl) ?_
  refine r_dup2 dX11_refuses_11 (by first | exact od_ne2 | exact od_ne0) (by first | exact od_ne2 | exact od_ne0) ?_
  refine r_iald dX11_refuses_12 (mo_k1 hm) (by omega) (by (repeat (first | rewrite [od_upn (by omega)] | rewrite [od_up_at, if_pos (by omega)] | rewrite [od_up_at, if_neg (by omega)])); rfl) ?_
  refine r_iconst dX11_refuses_13 li_1 ?_
  refine r_iaddE dX11_refuses_14 (by first | exact od_w0 (by omega) (by omega) | exact od_wI (by omega) (by omega) | rfl) ?_
  refine r_iast dX11_refuses_15 (mo_k1 hm) (by omega) ?_
  refine r_iload_n dX11_refuses_16 rfl ?_
  exact r_iret dX11_refuses_17 rfl (by rfl)
set_option maxRecDepth 10000 in
theorem c_X11_good {E : od_E} {g : od_G} {M : Int} (hm : MoAt E M) (v : Int) : od_Ct 1 mX11_good [(2, M), (0, v)] E g (some (0, v), E, mGood g M) := by
  refine od_ctI pnX11 rfl (Nat.le_of_ble_eq_true rfl) od_le.rf ?_
  show od_R _ _ _ _ _ 0 [some (2, M), some (0, v)] [] E g
  refine r_aload_n dX11_good_0 rfl ?_
  refine r_iconst dX11_good_1 li_0 ?_
  refine r_putIj (j := 0) rfl dX11_good_2 fkX11_3 gf11_0 pf11_0 (mo_o hm) ?_
  refine r_iload_n dX11_good_5 rfl ?_
  exact r_iret dX11_good_6 rfl (by rfl)
set_option maxRecDepth 10000 in
theorem c_X11_settled {E : od_E} {g : od_G} {M : Int} (hm : MoAt E M) (v : Int) : od_Ct 2 mX11_settled [(2, M), (0, v)] E g (some (0, v), E, mSet g M) := by
  refine od_ctI pnX11 rfl (Nat.le_of_ble_eq_true rfl) od_le.rf ?_
  show od_R _ _ _ _ _ 0 [some (2, M), some (0, v)] [] E g
  refine r_aload_n dX11_settled_0 rfl ?_
  refine r_iconst dX11_settled_1 li_0 ?_
  refine r_putIj (j := 33) rfl dX11_settled_2 fkX11_11 gf11_33 pf11_33 (mo_o hm) ?_
  refine r_aload_n dX11_settled_5 rfl ?_
  refine r_iload_n dX11_settled_6 rfl ?_
  refine r_callV1i dX11_settled_7 cvX11_14 (mo_o hm) (c_X11_good hm _) (by decide) (Nat.le_of_ble_eq_true rfl) od_le.rf ?_
  exact r_iret dX11_settled_10 rfl (by rfl)
set_option maxRecDepth 10000 in
theorem c_X11_isIn {E : od_E} {g : od_G} (s k : Int) : od_Ct 1 mX11_isIn [(0, s), (0, k)] E g (some (0, od_b (mIn s k)), E, g) := by
  refine od_ctI pnX11 rfl (Nat.le_of_ble_eq_true rfl) od_le.rf ?_
  show od_R _ _ _ _ _ 0 [some (0, s), some (0, k)] [] E g
  refine r_iload_n dX11_isIn_0 rfl ?_
  refine r_iload_n dX11_isIn_1 rfl ?_
  refine r_ishr dX11_isIn_2 ?_
  refine r_iconst dX11_isIn_3 li_1 ?_
  refine r_iand dX11_isIn_4 ?_
  refine r_iconst dX11_isIn_5 li_1 ?_
  refine r_icmp_ne (tgt := 13) dX11_isIn_6 rfl (fun c6 => ?_) (fun c6 => ?_)
  · refine r_iconst dX11_isIn_13 li_0 ?_
    exact r_zret (v := 0) dX11_isIn_14 rfl od_nz0 (od_lt0 (by unfold mIn; assumption))
  · refine r_iconst dX11_isIn_9 li_1 ?_
    refine r_goto (tgt := 14) dX11_isIn_10 rfl ?_
    exact r_zret (v := 1) dX11_isIn_14 rfl od_nz1 (od_lt1 (by unfold mIn; assumption))
set_option maxRecDepth 10000 in
theorem c_X11_isBit {E : od_E} {g : od_G} (v : Int) : od_Ct 2 mX11_isBit [(0, v)] E g (some (0, od_b (mLies v 0 1)), E, g) := by
  refine od_ctI pnX11 rfl (Nat.le_of_ble_eq_true rfl) od_le.rf ?_
  show od_R _ _ _ _ _ 0 [some (0, v)] [] E g
  refine r_iload_n dX11_isBit_0 rfl ?_
  refine r_iconst dX11_isBit_1 li_0 ?_
  refine r_iconst dX11_isBit_2 li_1 ?_
  refine r_callS3b dX11_isBit_3 csX11_18 (c_X11_lies _ _ _) (by decide) (Nat.le_of_ble_eq_true rfl) od_le.rf (fun q3 => ?_) (fun q3 => ?_)
  · exact r_zret (v := 1) dX11_isBit_6 rfl od_nz1 (od_lt1 (by assumption))
  · exact r_zret (v := 0) dX11_isBit_6 rfl od_nz0 (od_lt0 (by assumption))
noncomputable def mOnes (s : Int) : Nat → Int := od_sum (fun k => od_and (od_shr s k) 1)
theorem od_and1 (x : Int) : 0 ≤ od_and x 1 ∧ od_and x 1 ≤ 63 := od_and_le x 1 (by omega)
def mStop (g : od_G) (M d : Int) : Prop := g (M + 2) (12 + d) = 1
def mPin (g : od_G) (M d b : Int) : Prop := mIn (g (M + 2) d) b
def mDr (g : od_G) (M d : Int) : Prop := mLies d 0 (g (M + 2) 45 - 1)
def mCan (l k a p : Int) : Prop := mLies l 1 12 ∧ mLies k 0 3 ∧ mLies a 0 (l - 1) ∧ mLies p 0 (od_w (od_shl 1 l - 1))
def mAdds (g : od_G) (M l k a p : Int) : od_G := od_up (od_up (od_up (od_up (od_up (od_up g (M + 2) (19 + g (M + 2) 45) l) (M + 2) (25 + g (M + 2) 45) k) (M + 2) (6 + g (M + 2) 45) a) (M + 2) (g (M + 2) 45) p) (M + 2) (12 + g (M + 2) 45) 0) (M + 2) 45 (g (M + 2) 45 + 1)
theorem mAdds_45 (g : od_G) (M l k a p : Int) : mAdds g M l k a p (M + 2) 45 = g (M + 2) 45 + 1 := by simp [mAdds, od_up]
noncomputable def mDrum (g : od_G) (M l k a p : Int) : Int × od_G := od_ip (mCan l k a p) (od_ip (g (M + 2) 45 = 6) (-5, mRef g M (-5)) (g (M + 2) 45, mSet (mAdds g M l k a p) M)) (-1, mRef g M (-1))
def mBeatL (g : od_G) (M d b : Int) : Prop := mLies b 0 (g (M + 2) (19 + d) - 1)
def mTerm (w v : Int) : Prop := (w = 0 ∧ mLies v 0 999) ∨ (w = 1 ∧ mLies v 0 10) ∨ (w = 2 ∧ mLies v 0 9)
def mTermAt (w : Int) : Int := if w = 0 then 18 else if w = 1 then 43 else 44
noncomputable def mTerms (g : od_G) (M w v : Int) : Int × od_G := od_ip (mTerm w v) (g (M + 2) (mTermAt w), mSet (od_up g (M + 2) (mTermAt w) v) M) (-1, mRef g M (-1))
noncomputable def mEnd (g : od_G) (M n : Int) : Int × od_G := od_ip (mLies n 0 (g M 13)) (n, od_up g M 13 n) (-1, g)
noncomputable def mBeat (g : od_G) (M d h : Int) : Int := od_ite (mStop g M d) (g (M + 2) (6 + d)) ((od_w (g (M + 2) (6 + d) + h)).tmod (g (M + 2) (19 + d)))
def mStrikes (g : od_G) (M d h : Int) : Prop := ¬ mStop g M d ∧ mPin g M d (mBeat g M d h)
noncomputable def mGoodOr (g : od_G) (M v : Int) : od_G := if v < 0 then mRef g M v else mGood g M
def mTurn (g : od_G) (M d b : Int) : od_G := od_up g (M + 2) d (od_xor (g (M + 2) d) (od_shl 1 b))
set_option maxRecDepth 10000 in
theorem lp_X11_ones {E : od_E} {g : od_G} (s : Int) : ∀ (m : Nat) (n k : Int), (0 ≤ k ∧ k ≤ 12 ∧ n = mOnes s k.toNat) → ((12 - k).toNat) < m → od_R 1 mX11_ones od_Z0 E (some (0, mOnes s 12), E, g) 4 [some (0, s), some (0, n), some (0, k)] [] E g := by
  intro m
  induction m with
  | zero => intro n k hi hM; exact absurd hM (Nat.not_lt_zero _)
  | succ m ih =>
    intro n k hi hM
    have hb := od_sum_b (f := fun k => od_and (od_shr s k) 1) (m := 63) k.toNat (fun i _ _ => od_and1 _)
    have hs1 := od_sum_s (fun k => od_and (od_shr s k) 1) hi.1
    have hc1 := od_and1 (od_shr s k)
    unfold mOnes at hi ih ⊢
    refine r_iload_n dX11_ones_4 rfl ?_
    refine r_bipush dX11_ones_5 lb_12 ?_
    refine r_icmp_ge (tgt := 24) dX11_ones_7 rfl (fun c7 => ?_) (fun c7 => ?_)
    · refine r_iload_n dX11_ones_24 rfl ?_
      exact r_iret dX11_ones_25 rfl (by rw [hi.2.2, show k = 12 by omega]; rfl)
    · refine r_iload_n dX11_ones_10 rfl ?_
      refine r_iload_n dX11_ones_11 rfl ?_
      refine r_iload_n dX11_ones_12 rfl ?_
      refine r_ishr dX11_ones_13 ?_
      refine r_iconst dX11_ones_14 li_1 ?_
      refine r_iand dX11_ones_15 ?_
      refine r_iaddE dX11_ones_16 (by first | exact od_w0 (by omega) (by omega) | exact od_wI (by omega) (by omega) | rfl) ?_
      refine r_istore_n dX11_ones_17 (by decide) rfl ?_
      refine r_iincE dX11_ones_18 rfl (by decide) (by first | exact od_w0 (by omega) (by omega) | exact od_wI (by omega) (by omega) | rfl) rfl ?_
      refine r_goto (tgt := 4) dX11_ones_21 rfl ?_
      exact ih _ _ ⟨by omega, by omega, by rw [hs1]; omega⟩ (by omega)
set_option maxRecDepth 10000 in
theorem c_X11_ones {E : od_E} {g : od_G} (s : Int) : od_Ct 1 mX11_ones [(0, s)] E g (some (0, mOnes s 12), E, g) := by
  refine od_ctI pnX11 rfl (Nat.le_of_ble_eq_true rfl) od_le.rf ?_
  show od_R _ _ _ _ _ 0 [some (0, s), none, none] [] E g
  refine r_iconst dX11_ones_0 li_0 ?_
  refine r_istore_n dX11_ones_1 (by decide) rfl ?_
  refine r_iconst dX11_ones_2 li_0 ?_
  refine r_istore_n dX11_ones_3 (by decide) rfl ?_
  exact lp_X11_ones s _ _ _ ⟨by omega, by omega, rfl⟩ (Nat.lt_succ_self _)
set_option maxRecDepth 10000 in
theorem c_X11_drumMany {E : od_E} {g : od_G} {M : Int} (hm : MoAt E M) : od_Ct 1 mX11_drumMany [(2, M)] E g (some (0, g (M + 2) 45), E, g) := by
  refine od_ctI pnX11 rfl (Nat.le_of_ble_eq_true rfl) od_le.rf ?_
  show od_R _ _ _ _ _ 0 [some (2, M)] [] E g
  refine r_aload_n dX11_drumMany_0 rfl ?_
  refine r_getR dX11_drumMany_1 fkX11_28 gf11_2 (mo_o hm) (mo_r2 hm) ?_
  refine r_bipush dX11_drumMany_4 lb_45 ?_
  refine r_iald dX11_drumMany_6 (mo_k2 hm) (by omega) (by (repeat (first | rewrite [od_upn (by omega)] | rewrite [od_up_at, if_pos (by omega)] | rewrite [od_up_at, if_neg (by omega)])); rfl) ?_
  exact r_iret dX11_drumMany_7 rfl (by rfl)
set_option maxRecDepth 10000 in
theorem c_X11_isDrum {E : od_E} {g : od_G} {M : Int} (hm : MoAt E M) (hI : 0 ≤ g (M + 2) 45 ∧ g (M + 2) 45 ≤ 6) (d : Int) : od_Ct 2 mX11_isDrum [(2, M), (0, d)] E g (some (0, od_b (mDr g M d)), E, g) := by
  refine od_ctI pnX11 rfl (Nat.le_of_ble_eq_true rfl) od_le.rf ?_
  show od_R _ _ _ _ _ 0 [some (2, M), some (0, d)] [] E g
  refine r_iload_n dX11_isDrum_0 rfl ?_
  refine r_iconst dX11_isDrum_1 li_0 ?_
  refine r_aload_n dX11_isDrum_2 rfl ?_
  refine r_callV0i dX11_isDrum_3 cvX11_112 (mo_o hm) (c_X11_drumMany hm) (by decide) (Nat.le_of_ble_eq_true rfl) od_le.rf ?_
  refine r_iconst dX11_isDrum_6 li_1 ?_
  refine r_isubE dX11_isDrum_7 (by first | exact od_w0 (by omega) (by omega) | exact od_wI (by omega) (by omega) | rfl) ?_
  refine r_callS3b dX11_isDrum_8 csX11_18 (c_X11_lies _ _ _) (by decide) (Nat.le_of_ble_eq_true rfl) od_le.rf (fun q8 => ?_) (fun q8 => ?_)
  · exact r_zret (v := 1) dX11_isDrum_11 rfl od_nz1 (od_lt1 (by unfold mDr; assumption))
  · exact r_zret (v := 0) dX11_isDrum_11 rfl od_nz0 (od_lt0 (by unfold mDr; assumption))
set_option maxRecDepth 10000 in
theorem c_X11_isStopped {E : od_E} {g : od_G} {M : Int} (hm : MoAt E M) (d : Int) (hd : 0 ≤ d ∧ d < 6) : od_Ct 1 mX11_isStopped [(2, M), (0, d)] E g (some (0, od_b (mStop g M d)), E, g) := by
  refine od_ctI pnX11 rfl (Nat.le_of_ble_eq_true rfl) od_le.rf ?_
  show od_R _ _ _ _ _ 0 [some (2, M), some (0, d)] [] E g
  refine r_aload_n dX11_isStopped_0 rfl ?_
  refine r_getR dX11_isStopped_1 fkX11_28 gf11_2 (mo_o hm) (mo_r2 hm) ?_
  refine r_bipush dX11_isStopped_4 lb_12 ?_
  refine r_iload_n dX11_isStopped_6 rfl ?_
  refine r_iaddE dX11_isStopped_7 (by first | exact od_w0 (by omega) (by omega) | exact od_wI (by omega) (by omega) | rfl) ?_
  refine r_iald dX11_isStopped_8 (mo_k2 hm) (by omega) (by (repeat (first | rewrite [od_upn (by omega)] | rewrite [od_up_at, if_pos (by omega)] | rewrite [od_up_at, if_neg (by omega)])); rfl) ?_
  refine r_iconst dX11_isStopped_9 li_1 ?_
  refine r_icmp_ne (tgt := 17) dX11_isStopped_10 rfl (fun c10 => ?_) (fun c10 => ?_)
  · refine r_iconst dX11_isStopped_17 li_0 ?_
    exact r_zret (v := 0) dX11_isStopped_18 rfl od_nz0 (od_lt0 (by unfold mStop; assumption))
  · refine r_iconst dX11_isStopped_13 li_1 ?_
    refine r_goto (tgt := 18) dX11_isStopped_14 rfl ?_
    exact r_zret (v := 1) dX11_isStopped_18 rfl od_nz1 (od_lt1 (by unfold mStop; assumption))
set_option maxRecDepth 10000 in
theorem c_X11_hasPin {E : od_E} {g : od_G} {M : Int} (hm : MoAt E M) (d : Int) (hd : 0 ≤ d ∧ d < 6) (b : Int) : od_Ct 2 mX11_hasPin [(2, M), (0, d), (0, b)] E g (some (0, od_b (mPin g M d b)), E, g) := by
  refine od_ctI pnX11 rfl (Nat.le_of_ble_eq_true rfl) od_le.rf ?_
  show od_R _ _ _ _ _ 0 [some (2, M), some (0, d), some (0, b)] [] E g
  refine r_aload_n dX11_hasPin_0 rfl ?_
  refine r_getR dX11_hasPin_1 fkX11_28 gf11_2 (mo_o hm) (mo_r2 hm) ?_
  refine r_iconst dX11_hasPin_4 li_0 ?_
  refine r_iload_n dX11_hasPin_5 rfl ?_
  refine r_iaddE dX11_hasPin_6 (by first | exact od_w0 (by omega) (by omega) | exact od_wI (by omega) (by omega) | rfl) ?_
  refine r_iald dX11_hasPin_7 (mo_k2 hm) (by omega) (by (repeat (first | rewrite [od_upn (by omega)] | rewrite [od_up_at, if_pos (by omega)] | rewrite [od_up_at, if_neg (by omega)])); rfl) ?_
  refine r_iload_n dX11_hasPin_8 rfl ?_
  refine r_callS2b dX11_hasPin_9 csX11_116 (c_X11_isIn _ _) (by decide) (Nat.le_of_ble_eq_true rfl) od_le.rf (fun q9 => ?_) (fun q9 => ?_)
  · exact r_zret (v := 1) dX11_hasPin_12 rfl od_nz1 (od_lt1 (by unfold mPin; assumption))
  · exact r_zret (v := 0) dX11_hasPin_12 rfl od_nz0 (od_lt0 (by unfold mPin; assumption))
set_option maxRecDepth 10000 in
theorem c_X11_canDrum {E : od_E} {g : od_G} (l k a p : Int) : od_Ct 2 mX11_canDrum [(0, l), (0, k), (0, a), (0, p)] E g (some (0, od_b (mCan l k a p)), E, g) := by
  refine od_ctI pnX11 rfl (Nat.le_of_ble_eq_true rfl) od_le.rf ?_
  show od_R _ _ _ _ _ 0 [some (0, l), some (0, k), some (0, a), some (0, p)] [] E g
  refine r_iload_n dX11_canDrum_0 rfl ?_
  refine r_iconst dX11_canDrum_1 li_1 ?_
  refine r_bipush dX11_canDrum_2 lb_12 ?_
  refine r_callS3b dX11_canDrum_4 csX11_18 (c_X11_lies _ _ _) (by decide) (Nat.le_of_ble_eq_true rfl) od_le.rf (fun q4 => ?_) (fun q4 => ?_)
  · refine r_if_eq (tgt := 47) dX11_canDrum_7 rfl (fun h => absurd h (by decide)) (fun _ => ?_)
    have u4 := q4; unfold mLies at u4
    refine r_iload_n dX11_canDrum_10 rfl ?_
    refine r_iconst dX11_canDrum_11 li_0 ?_
    refine r_iconst dX11_canDrum_12 li_3 ?_
    refine r_callS3b dX11_canDrum_13 csX11_18 (c_X11_lies _ _ _) (by decide) (Nat.le_of_ble_eq_true rfl) od_le.rf (fun q13 => ?_) (fun q13 => ?_)
    · refine r_if_eq (tgt := 47) dX11_canDrum_16 rfl (fun h => absurd h (by decide)) (fun _ => ?_)
      refine r_iload_n dX11_canDrum_19 rfl ?_
      refine r_iconst dX11_canDrum_20 li_0 ?_
      refine r_iload_n dX11_canDrum_21 rfl ?_
      refine r_iconst dX11_canDrum_22 li_1 ?_
      refine r_isubE dX11_canDrum_23 (by first | exact od_w0 (by omega) (by omega) | exact od_wI (by omega) (by omega) | rfl) ?_
      refine r_callS3b dX11_canDrum_24 csX11_18 (c_X11_lies _ _ _) (by decide) (Nat.le_of_ble_eq_true rfl) od_le.rf (fun q24 => ?_) (fun q24 => ?_)
      · refine r_if_eq (tgt := 47) dX11_canDrum_27 rfl (fun h => absurd h (by decide)) (fun _ => ?_)
        refine r_iload_n dX11_canDrum_30 rfl ?_
        refine r_iconst dX11_canDrum_31 li_0 ?_
        refine r_iconst dX11_canDrum_32 li_1 ?_
        refine r_iload_n dX11_canDrum_33 rfl ?_
        refine r_ishl dX11_canDrum_34 ?_
        refine r_iconst dX11_canDrum_35 li_1 ?_
        refine r_isubE dX11_canDrum_36 (by first | exact od_w0 (by omega) (by omega) | exact od_wI (by omega) (by omega) | rfl) ?_
        refine r_callS3b dX11_canDrum_37 csX11_18 (c_X11_lies _ _ _) (by decide) (Nat.le_of_ble_eq_true rfl) od_le.rf (fun q37 => ?_) (fun q37 => ?_)
        · refine r_if_eq (tgt := 47) dX11_canDrum_40 rfl (fun h => absurd h (by decide)) (fun _ => ?_)
          refine r_iconst dX11_canDrum_43 li_1 ?_
          refine r_goto (tgt := 48) dX11_canDrum_44 rfl ?_
          exact r_zret (v := 1) dX11_canDrum_48 rfl od_nz1 (od_lt1 (by unfold mCan; grind))
        · refine r_if_eq (tgt := 47) dX11_canDrum_40 rfl (fun _ => ?_) (fun h => absurd h (by decide))
          refine r_iconst dX11_canDrum_47 li_0 ?_
          exact r_zret (v := 0) dX11_canDrum_48 rfl od_nz0 (od_lt0 (by unfold mCan; grind))
      · refine r_if_eq (tgt := 47) dX11_canDrum_27 rfl (fun _ => ?_) (fun h => absurd h (by decide))
        refine r_iconst dX11_canDrum_47 li_0 ?_
        exact r_zret (v := 0) dX11_canDrum_48 rfl od_nz0 (od_lt0 (by unfold mCan; grind))
    · refine r_if_eq (tgt := 47) dX11_canDrum_16 rfl (fun _ => ?_) (fun h => absurd h (by decide))
      refine r_iconst dX11_canDrum_47 li_0 ?_
      exact r_zret (v := 0) dX11_canDrum_48 rfl od_nz0 (od_lt0 (by unfold mCan; grind))
  · refine r_if_eq (tgt := 47) dX11_canDrum_7 rfl (fun _ => ?_) (fun h => absurd h (by decide))
    refine r_iconst dX11_canDrum_47 li_0 ?_
    exact r_zret (v := 0) dX11_canDrum_48 rfl od_nz0 (od_lt0 (by unfold mCan; grind))
set_option maxRecDepth 10000 in
theorem c_X11_adds {E : od_E} {g : od_G} {M : Int} (hm : MoAt E M) (hI : 0 ≤ g (M + 2) 45 ∧ g (M + 2) 45 < 6) (l k a p : Int) : od_Ct 2 mX11_adds [(2, M), (0, l), (0, k), (0, a), (0, p)] E g (none, E, mAdds g M l k a p) := by
  refine od_ctI pnX11 rfl (Nat.le_of_ble_eq_true rfl) od_le.rf ?_
  show od_R _ _ _ _ _ 0 [some (2, M), some (0, l), some (0, k), some (0, a), some (0, p), none] [] E g
  refine r_aload_n dX11_adds_0 rfl ?_
  refine r_callV0i dX11_adds_1 cvX11_112 (mo_o hm) (c_X11_drumMany hm) (by decide) (Nat.le_of_ble_eq_true rfl) od_le.rf ?_
  refine r_istore dX11_adds_4 (by decide) rfl ?_
  refine r_aload_n dX11_adds_6 rfl ?_
  refine r_getR dX11_adds_7 fkX11_28 gf11_2 (mo_o hm) (mo_r2 hm) ?_
  refine r_bipush dX11_adds_10 lb_19 ?_
  refine r_iload dX11_adds_12 rfl ?_
  refine r_iaddE dX11_adds_14 (by first | exact od_w0 (by omega) (by omega) | exact od_wI (by omega) (by omega) | rfl) ?_
  refine r_iload_n dX11_adds_15 rfl ?_
  refine r_iast dX11_adds_16 (mo_k2 hm) (by omega) ?_
  refine r_aload_n dX11_adds_17 rfl ?_
  refine r_getR dX11_adds_18 fkX11_28 gf11_2 (mo_o hm) (mo_r2 hm) ?_
  refine r_bipush dX11_adds_21 lb_25 ?_
  refine r_iload dX11_adds_23 rfl ?_
  refine r_iaddE dX11_adds_25 (by first | exact od_w0 (by omega) (by omega) | exact od_wI (by omega) (by omega) | rfl) ?_
  refine r_iload_n dX11_adds_26 rfl ?_
  refine r_iast dX11_adds_27 (mo_k2 hm) (by omega) ?_
  refine r_aload_n dX11_adds_28 rfl ?_
  refine r_getR dX11_adds_29 fkX11_28 gf11_2 (mo_o hm) (mo_r2 hm) ?_
  refine r_bipush dX11_adds_32 lb_6 ?_
  refine r_iload dX11_adds_34 rfl ?_
  refine r_iaddE dX11_adds_36 (by first | exact od_w0 (by omega) (by omega) | exact od_wI (by omega) (by omega) | rfl) ?_
  refine r_iload_n dX11_adds_37 rfl ?_
  refine r_iast dX11_adds_38 (mo_k2 hm) (by omega) ?_
  refine r_aload_n dX11_adds_39 rfl ?_
  refine r_getR dX11_adds_40 fkX11_28 gf11_2 (mo_o hm) (mo_r2 hm) ?_
  refine r_iconst dX11_adds_43 li_0 ?_
  refine r_iload dX11_adds_44 rfl ?_
  refine r_iaddE dX11_adds_46 (by first | exact od_w0 (by omega) (by omega) | exact od_wI (by omega) (by omega) | rfl) ?_
  refine r_iload dX11_adds_47 rfl ?_
  refine r_iast dX11_adds_49 (mo_k2 hm) (by omega) ?_
  refine r_aload_n dX11_adds_50 rfl ?_
  refine r_getR dX11_adds_51 fkX11_28 gf11_2 (mo_o hm) (mo_r2 hm) ?_
  refine r_bipush dX11_adds_54 lb_12 ?_
  refine r_iload dX11_adds_56 rfl ?_
  refine r_iaddE dX11_adds_58 (by first | exact od_w0 (by omega) (by omega) | exact od_wI (by omega) (by omega) | rfl) ?_
  refine r_iconst dX11_adds_59 li_0 ?_
  refine r_iast dX11_adds_60 (mo_k2 hm) (by omega) ?_
  refine r_aload_n dX11_adds_61 rfl ?_
  refine r_getR dX11_adds_62 fkX11_28 gf11_2 (mo_o hm) (mo_r2 hm) ?_
  refine r_bipush dX11_adds_65 lb_45 ?_
  refine r_dup2 dX11_adds_67 (by first | exact od_ne2 | exact od_ne0) (by first | exact od_ne2 | exact od_ne0) ?_
  refine r_iald dX11_adds_68 (mo_k2 hm) (by omega) (by (repeat (first | rewrite [od_upn (by omega)] | rewrite [od_up_at, if_pos (by omega)] | rewrite [od_up_at, if_neg (by omega)])); rfl) ?_
  refine r_iconst dX11_adds_69 li_1 ?_
  refine r_iaddE dX11_adds_70 (by first | exact od_w0 (by omega) (by omega) | exact od_wI (by omega) (by omega) | rfl) ?_
  refine r_iast dX11_adds_71 (mo_k2 hm) (by omega) ?_
  exact r_vret dX11_adds_72 rfl (by rfl)
set_option maxRecDepth 10000 in
theorem c_X11_drum {E : od_E} {g : od_G} {M : Int} (hm : MoAt E M) (hI : 0 ≤ g (M + 2) 45 ∧ g (M + 2) 45 ≤ 6) (l k a p : Int) : od_Ct 3 mX11_drum [(2, M), (0, l), (0, k), (0, a), (0, p)] E g (some (0, (mDrum g M l k a p).1), E, (mDrum g M l k a p).2) := by
  refine od_ctI pnX11 rfl (Nat.le_of_ble_eq_true rfl) od_le.rf ?_
  show od_R _ _ _ _ _ 0 [some (2, M), some (0, l), some (0, k), some (0, a), some (0, p)] [] E g
  refine r_iload_n dX11_drum_0 rfl ?_
  refine r_iload_n dX11_drum_1 rfl ?_
  refine r_iload_n dX11_drum_2 rfl ?_
  refine r_iload dX11_drum_3 rfl ?_
  refine r_callS4b dX11_drum_5 csX11_120 (c_X11_canDrum _ _ _ _) (by decide) (Nat.le_of_ble_eq_true rfl) od_le.rf (fun q5 => ?_) (fun q5 => ?_)
  · refine r_if_ne (tgt := 17) dX11_drum_8 rfl (fun _ => ?_) (fun h => absurd h (by decide))
    refine r_aload_n dX11_drum_17 rfl ?_
    refine r_callV0i dX11_drum_18 cvX11_112 (mo_o hm) (c_X11_drumMany hm) (by decide) (Nat.le_of_ble_eq_true rfl) od_le.rf ?_
    refine r_bipush dX11_drum_21 lb_6 ?_
    refine r_icmp_ne (tgt := 33) dX11_drum_23 rfl (fun c23 => ?_) (fun c23 => ?_)
    · refine r_aload_n dX11_drum_33 rfl ?_
      refine r_iload_n dX11_drum_34 rfl ?_
      refine r_iload_n dX11_drum_35 rfl ?_
      refine r_iload_n dX11_drum_36 rfl ?_
      refine r_iload dX11_drum_37 rfl ?_
      refine r_callV4v dX11_drum_39 cvX11_124 (mo_o hm) (c_X11_adds hm (by omega) _ _ _ _) (by decide) (Nat.le_of_ble_eq_true rfl) od_le.rf ?_
      refine r_aload_n dX11_drum_42 rfl ?_
      refine r_aload_n dX11_drum_43 rfl ?_
      refine r_callV0i dX11_drum_44 cvX11_112 (mo_o hm) ((c_X11_drumMany (g := mAdds g M l k a p) hm)) (by decide) (Nat.le_of_ble_eq_true rfl) od_le.rf ?_
      rw [mAdds_45]
      refine r_iconst dX11_drum_47 li_1 ?_
      refine r_isubE dX11_drum_48 (by first | exact od_w0 (by omega) (by omega) | exact od_wI (by omega) (by omega) | rfl) ?_
      refine r_callV1i dX11_drum_49 cvX11_109 (mo_o hm) (c_X11_settled hm _) (by decide) (Nat.le_of_ble_eq_true rfl) od_le.rf ?_
      exact r_iret dX11_drum_52 rfl (by unfold mDrum; first | rw [od_ip_f (by assumption)] | rw [od_ip_t (by assumption), od_ip_t (by assumption)] | rw [od_ip_t (by assumption), od_ip_f (by assumption), show g (M + 2) 45 + 1 - 1 = g (M + 2) 45 by omega])
    · refine r_aload_n dX11_drum_26 rfl ?_
      refine r_bipush dX11_drum_27 lb_m5 ?_
      refine r_callV1i dX11_drum_29 cvX11_106 (mo_o hm) (c_X11_refuses hm _ (by omega)) (by decide) (Nat.le_of_ble_eq_true rfl) od_le.rf ?_
      exact r_iret dX11_drum_32 rfl (by unfold mDrum; first | rw [od_ip_f (by assumption)] | rw [od_ip_t (by assumption), od_ip_t (by assumption)] | rw [od_ip_t (by assumption), od_ip_f (by assumption), show g (M + 2) 45 + 1 - 1 = g (M + 2) 45 by omega])
  · refine r_if_ne (tgt := 17) dX11_drum_8 rfl (fun h => absurd h (by decide)) (fun _ => ?_)
    refine r_aload_n dX11_drum_11 rfl ?_
    refine r_iconst dX11_drum_12 li_m1 ?_
    refine r_callV1i dX11_drum_13 cvX11_106 (mo_o hm) (c_X11_refuses hm _ (by omega)) (by decide) (Nat.le_of_ble_eq_true rfl) od_le.rf ?_
    exact r_iret dX11_drum_16 rfl (by unfold mDrum; first | rw [od_ip_f (by assumption)] | rw [od_ip_t (by assumption), od_ip_t (by assumption)] | rw [od_ip_t (by assumption), od_ip_f (by assumption), show g (M + 2) 45 + 1 - 1 = g (M + 2) 45 by omega])
set_option maxRecDepth 10000 in
theorem c_X11_isBeat {E : od_E} {g : od_G} {M : Int} (hm : MoAt E M) (d : Int) (hd : 0 ≤ d ∧ d < 6) (hl : 1 ≤ g (M + 2) (19 + d) ∧ g (M + 2) (19 + d) ≤ 12) (b : Int) : od_Ct 2 mX11_isBeat [(2, M), (0, d), (0, b)] E g (some (0, od_b (mBeatL g M d b)), E, g) := by
  refine od_ctI pnX11 rfl (Nat.le_of_ble_eq_true rfl) od_le.rf ?_
  show od_R _ _ _ _ _ 0 [some (2, M), some (0, d), some (0, b)] [] E g
  refine r_iload_n dX11_isBeat_0 rfl ?_
  refine r_iconst dX11_isBeat_1 li_0 ?_
  refine r_aload_n dX11_isBeat_2 rfl ?_
  refine r_getR dX11_isBeat_3 fkX11_28 gf11_2 (mo_o hm) (mo_r2 hm) ?_
  refine r_bipush dX11_isBeat_6 lb_19 ?_
  refine r_iload_n dX11_isBeat_8 rfl ?_
  refine r_iaddE dX11_isBeat_9 (by first | exact od_w0 (by omega) (by omega) | exact od_wI (by omega) (by omega) | rfl) ?_
  refine r_iald dX11_isBeat_10 (mo_k2 hm) (by omega) (by (repeat (first | rewrite [od_upn (by omega)] | rewrite [od_up_at, if_pos (by omega)] | rewrite [od_up_at, if_neg (by omega)])); rfl) ?_
  refine r_iconst dX11_isBeat_11 li_1 ?_
  refine r_isubE dX11_isBeat_12 (by first | exact od_w0 (by omega) (by omega) | exact od_wI (by omega) (by omega) | rfl) ?_
  refine r_callS3b dX11_isBeat_13 csX11_18 (c_X11_lies _ _ _) (by decide) (Nat.le_of_ble_eq_true rfl) od_le.rf (fun q13 => ?_) (fun q13 => ?_)
  · exact r_zret (v := 1) dX11_isBeat_16 rfl od_nz1 (od_lt1 (by unfold mBeatL; assumption))
  · exact r_zret (v := 0) dX11_isBeat_16 rfl od_nz0 (od_lt0 (by unfold mBeatL; assumption))
set_option maxRecDepth 10000 in
theorem c_X11_isTerm {E : od_E} {g : od_G} (w v : Int) : od_Ct 2 mX11_isTerm [(0, w), (0, v)] E g (some (0, od_b (mTerm w v)), E, g) := by
  refine od_ctI pnX11 rfl (Nat.le_of_ble_eq_true rfl) od_le.rf ?_
  show od_R _ _ _ _ _ 0 [some (0, w), some (0, v)] [] E g
  refine r_iload_n dX11_isTerm_0 rfl ?_
  refine r_sw3 (t0 := 28) (t1 := 37) (t2 := 45) (td := 53) dX11_isTerm_1 (by decide) rfl rfl rfl rfl (fun c1 => ?_) (fun c1 => ?_) (fun c1 => ?_) (fun c1 => ?_)
  · refine r_iload_n dX11_isTerm_28 rfl ?_
    refine r_iconst dX11_isTerm_29 li_0 ?_
    refine r_sipush dX11_isTerm_30 ls_999 ?_
    refine r_callS3b dX11_isTerm_33 csX11_18 (c_X11_lies _ _ _) (by decide) (Nat.le_of_ble_eq_true rfl) od_le.rf (fun q33 => ?_) (fun q33 => ?_)
    · exact r_zret (v := 1) dX11_isTerm_36 rfl od_nz1 (od_lt1 (by unfold mTerm; grind))
    · exact r_zret (v := 0) dX11_isTerm_36 rfl od_nz0 (od_lt0 (by unfold mTerm; grind))
  · refine r_iload_n dX11_isTerm_37 rfl ?_
    refine r_iconst dX11_isTerm_38 li_0 ?_
    refine r_bipush dX11_isTerm_39 lb_10 ?_
    refine r_callS3b dX11_isTerm_41 csX11_18 (c_X11_lies _ _ _) (by decide) (Nat.le_of_ble_eq_true rfl) od_le.rf (fun q41 => ?_) (fun q41 => ?_)
    · exact r_zret (v := 1) dX11_isTerm_44 rfl od_nz1 (od_lt1 (by unfold mTerm; grind))
    · exact r_zret (v := 0) dX11_isTerm_44 rfl od_nz0 (od_lt0 (by unfold mTerm; grind))
  · refine r_iload_n dX11_isTerm_45 rfl ?_
    refine r_iconst dX11_isTerm_46 li_0 ?_
    refine r_bipush dX11_isTerm_47 lb_9 ?_
    refine r_callS3b dX11_isTerm_49 csX11_18 (c_X11_lies _ _ _) (by decide) (Nat.le_of_ble_eq_true rfl) od_le.rf (fun q49 => ?_) (fun q49 => ?_)
    · exact r_zret (v := 1) dX11_isTerm_52 rfl od_nz1 (od_lt1 (by unfold mTerm; grind))
    · exact r_zret (v := 0) dX11_isTerm_52 rfl od_nz0 (od_lt0 (by unfold mTerm; grind))
  · refine r_iconst dX11_isTerm_53 li_0 ?_
    exact r_zret (v := 0) dX11_isTerm_54 rfl od_nz0 (od_lt0 (by unfold mTerm; grind))
set_option maxRecDepth 10000 in
theorem c_X11_termAt {E : od_E} {g : od_G} (w : Int) : od_Ct 1 mX11_termAt [(0, w)] E g (some (0, mTermAt w), E, g) := by
  refine od_ctI pnX11 rfl (Nat.le_of_ble_eq_true rfl) od_le.rf ?_
  show od_R _ _ _ _ _ 0 [some (0, w)] [] E g
  refine r_iload_n dX11_termAt_0 rfl ?_
  refine r_if_ne (tgt := 9) dX11_termAt_1 rfl (fun c1 => ?_) (fun c1 => ?_)
  · refine r_iload_n dX11_termAt_9 rfl ?_
    refine r_iconst dX11_termAt_10 li_1 ?_
    refine r_icmp_ne (tgt := 19) dX11_termAt_11 rfl (fun c11 => ?_) (fun c11 => ?_)
    · refine r_bipush dX11_termAt_19 lb_44 ?_
      exact r_iret dX11_termAt_21 rfl (by unfold mTermAt; grind)
    · refine r_bipush dX11_termAt_14 lb_43 ?_
      refine r_goto (tgt := 21) dX11_termAt_16 rfl ?_
      exact r_iret dX11_termAt_21 rfl (by unfold mTermAt; grind)
  · refine r_bipush dX11_termAt_4 lb_18 ?_
    refine r_goto (tgt := 21) dX11_termAt_6 rfl ?_
    exact r_iret dX11_termAt_21 rfl (by unfold mTermAt; grind)
theorem mTermAt_in (w : Int) : 18 ≤ mTermAt w ∧ mTermAt w ≤ 44 := by unfold mTermAt; split <;> (try split) <;> omega
set_option maxRecDepth 10000 in
theorem c_X11_terms {E : od_E} {g : od_G} {M : Int} (hm : MoAt E M) (w v : Int) : od_Ct 3 mX11_terms [(2, M), (0, w), (0, v)] E g (some (0, (mTerms g M w v).1), E, (mTerms g M w v).2) := by
  refine od_ctI pnX11 rfl (Nat.le_of_ble_eq_true rfl) od_le.rf ?_
  show od_R _ _ _ _ _ 0 [some (2, M), some (0, w), some (0, v), none] [] E g
  refine r_iload_n dX11_terms_0 rfl ?_
  refine r_iload_n dX11_terms_1 rfl ?_
  refine r_callS2b dX11_terms_2 csX11_145 (c_X11_isTerm _ _) (by decide) (Nat.le_of_ble_eq_true rfl) od_le.rf (fun q2 => ?_) (fun q2 => ?_)
  · refine r_if_ne (tgt := 14) dX11_terms_5 rfl (fun _ => ?_) (fun h => absurd h (by decide))
    have ti := mTermAt_in w
    refine r_aload_n dX11_terms_14 rfl ?_
    refine r_getR dX11_terms_15 fkX11_28 gf11_2 (mo_o hm) (mo_r2 hm) ?_
    refine r_iload_n dX11_terms_18 rfl ?_
    refine r_callS1i dX11_terms_19 csX11_148 (c_X11_termAt _) (by decide) (Nat.le_of_ble_eq_true rfl) od_le.rf ?_
    refine r_iald dX11_terms_22 (mo_k2 hm) (by omega) (by (repeat (first | rewrite [od_upn (by omega)] | rewrite [od_up_at, if_pos (by omega)] | rewrite [od_up_at, if_neg (by omega)])); rfl) ?_
    refine r_istore_n dX11_terms_23 (by decide) rfl ?_
    refine r_aload_n dX11_terms_24 rfl ?_
    refine r_getR dX11_terms_25 fkX11_28 gf11_2 (mo_o hm) (mo_r2 hm) ?_
    refine r_iload_n dX11_terms_28 rfl ?_
    refine r_callS1i dX11_terms_29 csX11_148 (c_X11_termAt _) (by decide) (Nat.le_of_ble_eq_true rfl) od_le.rf ?_
    refine r_iload_n dX11_terms_32 rfl ?_
    refine r_iast dX11_terms_33 (mo_k2 hm) (by omega) ?_
    refine r_aload_n dX11_terms_34 rfl ?_
    refine r_iload_n dX11_terms_35 rfl ?_
    refine r_callV1i dX11_terms_36 cvX11_109 (mo_o hm) (c_X11_settled hm _) (by decide) (Nat.le_of_ble_eq_true rfl) od_le.rf ?_
    exact r_iret dX11_terms_39 rfl (by unfold mTerms; first | rw [od_ip_f (by assumption)] | rw [od_ip_t (by assumption)])
  · refine r_if_ne (tgt := 14) dX11_terms_5 rfl (fun h => absurd h (by decide)) (fun _ => ?_)
    refine r_aload_n dX11_terms_8 rfl ?_
    refine r_iconst dX11_terms_9 li_m1 ?_
    refine r_callV1i dX11_terms_10 cvX11_106 (mo_o hm) (c_X11_refuses hm _ (by omega)) (by decide) (Nat.le_of_ble_eq_true rfl) od_le.rf ?_
    exact r_iret dX11_terms_13 rfl (by unfold mTerms; first | rw [od_ip_f (by assumption)] | rw [od_ip_t (by assumption)])
set_option maxRecDepth 10000 in
theorem c_X11_sleeves {E : od_E} {g : od_G} {M : Int} (hm : MoAt E M) : od_Ct 1 mX11_sleeves [(2, M)] E g (some (0, g M 6), E, g) := by
  refine od_ctI pnX11 rfl (Nat.le_of_ble_eq_true rfl) od_le.rf ?_
  show od_R _ _ _ _ _ 0 [some (2, M)] [] E g
  refine r_aload_n dX11_sleeves_0 rfl ?_
  refine r_getIj (j := 6) rfl dX11_sleeves_1 fkX11_154 gf11_6 (mo_o hm) (by (repeat (first | rewrite [od_upn (by omega)] | rewrite [od_up_at, if_pos (by omega)] | rewrite [od_up_at, if_neg (by omega)])); rfl) ?_
  exact r_iret dX11_sleeves_4 rfl (by rfl)
set_option maxRecDepth 10000 in
theorem c_X11_fault {E : od_E} {g : od_G} {M : Int} (hm : MoAt E M) : od_Ct 1 mX11_fault [(2, M)] E g (some (0, g M 14), E, g) := by
  refine od_ctI pnX11 rfl (Nat.le_of_ble_eq_true rfl) od_le.rf ?_
  show od_R _ _ _ _ _ 0 [some (2, M)] [] E g
  refine r_aload_n dX11_fault_0 rfl ?_
  refine r_getIj (j := 14) rfl dX11_fault_1 fkX11_51 gf11_14 (mo_o hm) (by (repeat (first | rewrite [od_upn (by omega)] | rewrite [od_up_at, if_pos (by omega)] | rewrite [od_up_at, if_neg (by omega)])); rfl) ?_
  exact r_iret dX11_fault_4 rfl (by rfl)
set_option maxRecDepth 10000 in
theorem c_X11_stopped {E : od_E} {g : od_G} {M : Int} (hm : MoAt E M) : od_Ct 1 mX11_stopped [(2, M)] E g (some (0, g M 41), E, g) := by
  refine od_ctI pnX11 rfl (Nat.le_of_ble_eq_true rfl) od_le.rf ?_
  show od_R _ _ _ _ _ 0 [some (2, M)] [] E g
  refine r_aload_n dX11_stopped_0 rfl ?_
  refine r_getIj (j := 41) rfl dX11_stopped_1 fkX11_94 gf11_41 (mo_o hm) (by (repeat (first | rewrite [od_upn (by omega)] | rewrite [od_up_at, if_pos (by omega)] | rewrite [od_up_at, if_neg (by omega)])); rfl) ?_
  exact r_iret dX11_stopped_4 rfl (by rfl)
set_option maxRecDepth 10000 in
theorem c_X11_status {E : od_E} {g : od_G} {M : Int} (hm : MoAt E M) : od_Ct 1 mX11_status [(2, M)] E g (some (0, g M 0), E, g) := by
  refine od_ctI pnX11 rfl (Nat.le_of_ble_eq_true rfl) od_le.rf ?_
  show od_R _ _ _ _ _ 0 [some (2, M)] [] E g
  refine r_aload_n dX11_status_0 rfl ?_
  refine r_getIj (j := 0) rfl dX11_status_1 fkX11_3 gf11_0 (mo_o hm) (by (repeat (first | rewrite [od_upn (by omega)] | rewrite [od_up_at, if_pos (by omega)] | rewrite [od_up_at, if_neg (by omega)])); rfl) ?_
  exact r_iret dX11_status_4 rfl (by rfl)
set_option maxRecDepth 10000 in
theorem c_X11_end {E : od_E} {g : od_G} {M : Int} (hm : MoAt E M) (n : Int) : od_Ct 2 mX11_end [(2, M), (0, n)] E g (some (0, (mEnd g M n).1), E, (mEnd g M n).2) := by
  refine od_ctI pnX11 rfl (Nat.le_of_ble_eq_true rfl) od_le.rf ?_
  show od_R _ _ _ _ _ 0 [some (2, M), some (0, n)] [] E g
  refine r_iload_n dX11_end_0 rfl ?_
  refine r_iconst dX11_end_1 li_0 ?_
  refine r_aload_n dX11_end_2 rfl ?_
  refine r_getIj (j := 13) rfl dX11_end_3 fkX11_151 gf11_13 (mo_o hm) (by (repeat (first | rewrite [od_upn (by omega)] | rewrite [od_up_at, if_pos (by omega)] | rewrite [od_up_at, if_neg (by omega)])); rfl) ?_
  refine r_callS3b dX11_end_6 csX11_18 (c_X11_lies _ _ _) (by decide) (Nat.le_of_ble_eq_true rfl) od_le.rf (fun q6 => ?_) (fun q6 => ?_)
  · refine r_if_ne (tgt := 14) dX11_end_9 rfl (fun _ => ?_) (fun h => absurd h (by decide))
    refine r_aload_n dX11_end_14 rfl ?_
    refine r_iload_n dX11_end_15 rfl ?_
    refine r_putIj (j := 13) rfl dX11_end_16 fkX11_151 gf11_13 pf11_13 (mo_o hm) ?_
    refine r_iload_n dX11_end_19 rfl ?_
    exact r_iret dX11_end_20 rfl (by unfold mEnd; first | rw [od_ip_f (by assumption)] | rw [od_ip_t (by assumption)])
  · refine r_if_ne (tgt := 14) dX11_end_9 rfl (fun h => absurd h (by decide)) (fun _ => ?_)
    refine r_iconst dX11_end_12 li_m1 ?_
    exact r_iret dX11_end_13 rfl (by unfold mEnd; first | rw [od_ip_f (by assumption)] | rw [od_ip_t (by assumption)])
set_option maxRecDepth 10000 in
theorem c_X11_beatOf {E : od_E} {g : od_G} {M : Int} (hm : MoAt E M) (d : Int) (hd : 0 ≤ d ∧ d < 6) (hl : 1 ≤ g (M + 2) (19 + d)) (h : Int) : od_Ct 2 mX11_beatOf [(2, M), (0, d), (0, h)] E g (some (0, mBeat g M d h), E, g) := by
  refine od_ctI pnX11 rfl (Nat.le_of_ble_eq_true rfl) od_le.rf ?_
  show od_R _ _ _ _ _ 0 [some (2, M), some (0, d), some (0, h)] [] E g
  refine r_aload_n dX11_beatOf_0 rfl ?_
  refine r_iload_n dX11_beatOf_1 rfl ?_
  refine r_callV1b dX11_beatOf_2 cvX11_335 (mo_o hm) (c_X11_isStopped hm _ (by omega)) (by decide) (Nat.le_of_ble_eq_true rfl) od_le.rf (fun q2 => ?_) (fun q2 => ?_)
  · refine r_if_eq (tgt := 20) dX11_beatOf_5 rfl (fun h => absurd h (by decide)) (fun _ => ?_)
    refine r_aload_n dX11_beatOf_8 rfl ?_
    refine r_getR dX11_beatOf_9 fkX11_28 gf11_2 (mo_o hm) (mo_r2 hm) ?_
    refine r_bipush dX11_beatOf_12 lb_6 ?_
    refine r_iload_n dX11_beatOf_14 rfl ?_
    refine r_iaddE dX11_beatOf_15 (by first | exact od_w0 (by omega) (by omega) | exact od_wI (by omega) (by omega) | rfl) ?_
    refine r_iald dX11_beatOf_16 (mo_k2 hm) (by omega) (by (repeat (first | rewrite [od_upn (by omega)] | rewrite [od_up_at, if_pos (by omega)] | rewrite [od_up_at, if_neg (by omega)])); rfl) ?_
    refine r_goto (tgt := 41) dX11_beatOf_17 rfl ?_
    exact r_iret dX11_beatOf_41 rfl (by unfold mBeat; first | rw [od_ite_t (by assumption)] | rw [od_ite_f (by assumption)])
  · refine r_if_eq (tgt := 20) dX11_beatOf_5 rfl (fun _ => ?_) (fun h => absurd h (by decide))
    refine r_aload_n dX11_beatOf_20 rfl ?_
    refine r_getR dX11_beatOf_21 fkX11_28 gf11_2 (mo_o hm) (mo_r2 hm) ?_
    refine r_bipush dX11_beatOf_24 lb_6 ?_
    refine r_iload_n dX11_beatOf_26 rfl ?_
    refine r_iaddE dX11_beatOf_27 (by first | exact od_w0 (by omega) (by omega) | exact od_wI (by omega) (by omega) | rfl) ?_
    refine r_iald dX11_beatOf_28 (mo_k2 hm) (by omega) (by (repeat (first | rewrite [od_upn (by omega)] | rewrite [od_up_at, if_pos (by omega)] | rewrite [od_up_at, if_neg (by omega)])); rfl) ?_
    refine r_iload_n dX11_beatOf_29 rfl ?_
    refine r_iaddE dX11_beatOf_30 (by first | exact od_w0 (by omega) (by omega) | exact od_wI (by omega) (by omega) | rfl) ?_
    refine r_aload_n dX11_beatOf_31 rfl ?_
    refine r_getR dX11_beatOf_32 fkX11_28 gf11_2 (mo_o hm) (mo_r2 hm) ?_
    refine r_bipush dX11_beatOf_35 lb_19 ?_
    refine r_iload_n dX11_beatOf_37 rfl ?_
    refine r_iaddE dX11_beatOf_38 (by first | exact od_w0 (by omega) (by omega) | exact od_wI (by omega) (by omega) | rfl) ?_
    refine r_iald dX11_beatOf_39 (mo_k2 hm) (by omega) (by (repeat (first | rewrite [od_upn (by omega)] | rewrite [od_up_at, if_pos (by omega)] | rewrite [od_up_at, if_neg (by omega)])); rfl) ?_
    refine r_irem dX11_beatOf_40 (by first | decide | omega) ?_
    exact r_iret dX11_beatOf_41 rfl (by unfold mBeat; first | rw [od_ite_t (by assumption)] | rw [od_ite_f (by assumption)])
set_option maxRecDepth 10000 in
theorem c_X11_strikes {E : od_E} {g : od_G} {M : Int} (hm : MoAt E M) (d : Int) (hd : 0 ≤ d ∧ d < 6) (hl : 1 ≤ g (M + 2) (19 + d)) (h : Int) : od_Ct 3 mX11_strikes [(2, M), (0, d), (0, h)] E g (some (0, od_b (mStrikes g M d h)), E, g) := by
  refine od_ctI pnX11 rfl (Nat.le_of_ble_eq_true rfl) od_le.rf ?_
  show od_R _ _ _ _ _ 0 [some (2, M), some (0, d), some (0, h)] [] E g
  refine r_aload_n dX11_strikes_0 rfl ?_
  refine r_iload_n dX11_strikes_1 rfl ?_
  refine r_callV1b dX11_strikes_2 cvX11_335 (mo_o hm) (c_X11_isStopped hm _ (by omega)) (by decide) (Nat.le_of_ble_eq_true rfl) od_le.rf (fun q2 => ?_) (fun q2 => ?_)
  · refine r_if_ne (tgt := 26) dX11_strikes_5 rfl (fun _ => ?_) (fun h => absurd h (by decide))
    refine r_iconst dX11_strikes_26 li_0 ?_
    exact r_zret (v := 0) dX11_strikes_27 rfl od_nz0 (od_lt0 (by unfold mStrikes; grind))
  · refine r_if_ne (tgt := 26) dX11_strikes_5 rfl (fun h => absurd h (by decide)) (fun _ => ?_)
    refine r_aload_n dX11_strikes_8 rfl ?_
    refine r_iload_n dX11_strikes_9 rfl ?_
    refine r_aload_n dX11_strikes_10 rfl ?_
    refine r_iload_n dX11_strikes_11 rfl ?_
    refine r_iload_n dX11_strikes_12 rfl ?_
    refine r_callV2i dX11_strikes_13 cvX11_338 (mo_o hm) (c_X11_beatOf hm _ (by omega) (by assumption) _) (by decide) (Nat.le_of_ble_eq_true rfl) od_le.rf ?_
    refine r_callV2b dX11_strikes_16 cvX11_341 (mo_o hm) (c_X11_hasPin hm _ (by omega) _) (by decide) (Nat.le_of_ble_eq_true rfl) od_le.rf (fun q16 => ?_) (fun q16 => ?_)
    · refine r_if_eq (tgt := 26) dX11_strikes_19 rfl (fun h => absurd h (by decide)) (fun _ => ?_)
      refine r_iconst dX11_strikes_22 li_1 ?_
      refine r_goto (tgt := 27) dX11_strikes_23 rfl ?_
      exact r_zret (v := 1) dX11_strikes_27 rfl od_nz1 (od_lt1 (by unfold mStrikes; grind))
    · refine r_if_eq (tgt := 26) dX11_strikes_19 rfl (fun _ => ?_) (fun h => absurd h (by decide))
      refine r_iconst dX11_strikes_26 li_0 ?_
      exact r_zret (v := 0) dX11_strikes_27 rfl od_nz0 (od_lt0 (by unfold mStrikes; grind))
set_option maxRecDepth 10000 in
theorem c_X11_turnsPin {E : od_E} {g : od_G} {M : Int} (hm : MoAt E M) (d : Int) (hd : 0 ≤ d ∧ d < 6) (b : Int) : od_Ct 1 mX11_turnsPin [(2, M), (0, d), (0, b)] E g (none, E, mTurn g M d b) := by
  refine od_ctI pnX11 rfl (Nat.le_of_ble_eq_true rfl) od_le.rf ?_
  show od_R _ _ _ _ _ 0 [some (2, M), some (0, d), some (0, b)] [] E g
  refine r_aload_n dX11_turnsPin_0 rfl ?_
  refine r_getR dX11_turnsPin_1 fkX11_28 gf11_2 (mo_o hm) (mo_r2 hm) ?_
  refine r_iconst dX11_turnsPin_4 li_0 ?_
  refine r_iload_n dX11_turnsPin_5 rfl ?_
  refine r_iaddE dX11_turnsPin_6 (by first | exact od_w0 (by omega) (by omega) | exact od_wI (by omega) (by omega) | rfl) ?_
  refine r_dup2 dX11_turnsPin_7 (by first | exact od_ne2 | exact od_ne0) (by first | exact od_ne2 | exact od_ne0) ?_
  refine r_iald dX11_turnsPin_8 (mo_k2 hm) (by omega) (by (repeat (first | rewrite [od_upn (by omega)] | rewrite [od_up_at, if_pos (by omega)] | rewrite [od_up_at, if_neg (by omega)])); rfl) ?_
  refine r_iconst dX11_turnsPin_9 li_1 ?_
  refine r_iload_n dX11_turnsPin_10 rfl ?_
  refine r_ishl dX11_turnsPin_11 ?_
  refine r_ixor dX11_turnsPin_12 ?_
  refine r_iast dX11_turnsPin_13 (mo_k2 hm) (by omega) ?_
  exact r_vret dX11_turnsPin_14 rfl (by rfl)
set_option maxRecDepth 10000 in
theorem c_X11_goodOr {E : od_E} {g : od_G} {M : Int} (hm : MoAt E M) (v : Int) (hv : -6 ≤ v) : od_Ct 2 mX11_goodOr [(2, M), (0, v)] E g (some (0, v), E, mGoodOr g M v) := by
  refine od_ctI pnX11 rfl (Nat.le_of_ble_eq_true rfl) od_le.rf ?_
  show od_R _ _ _ _ _ 0 [some (2, M), some (0, v)] [] E g
  refine r_iload_n dX11_goodOr_0 rfl ?_
  refine r_if_ge (tgt := 12) dX11_goodOr_1 rfl (fun c1 => ?_) (fun c1 => ?_)
  · refine r_aload_n dX11_goodOr_12 rfl ?_
    refine r_iload_n dX11_goodOr_13 rfl ?_
    refine r_callV1i dX11_goodOr_14 cvX11_14 (mo_o hm) (c_X11_good hm _) (by decide) (Nat.le_of_ble_eq_true rfl) od_le.rf ?_
    exact r_iret dX11_goodOr_17 rfl (by unfold mGoodOr; first | rw [if_pos (by omega)] | rw [if_neg (by omega)])
  · refine r_aload_n dX11_goodOr_4 rfl ?_
    refine r_iload_n dX11_goodOr_5 rfl ?_
    refine r_callV1i dX11_goodOr_6 cvX11_106 (mo_o hm) (c_X11_refuses hm _ (by omega)) (by decide) (Nat.le_of_ble_eq_true rfl) od_le.rf ?_
    refine r_goto (tgt := 17) dX11_goodOr_9 rfl ?_
    exact r_iret dX11_goodOr_17 rfl (by unfold mGoodOr; first | rw [if_pos (by omega)] | rw [if_neg (by omega)])
