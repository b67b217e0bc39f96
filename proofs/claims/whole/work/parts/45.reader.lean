/-! Reader -/
def ReAt (E : od_E) (rd tp t : Int) : Prop := (E.2.1 rd).1 = 3 ∧ E.2.2 rd 0 = t ∧ E.2.2 rd 1 = tp ∧ TaAt E tp ∧ TxAt E t 12 512 ∧ (tp + 2 ≤ rd ∧ rd + 1 ≤ t)
noncomputable def cSF (g : od_G) (rd : Int) : od_G := if g rd 8 = -1 then od_up (od_up g rd 8 (g rd 4)) rd 3 4 else g
set_option maxRecDepth 10000 in
theorem c_X3_byteAt {E : od_E} {g : od_G} {rd tp t : Int} (hr : ReAt E rd tp t) {B : Int → Int} {n : Int} (hB : g (tp + 1) = B) (hn : g tp 1 = n) (h4 : n ≤ 400) (p : Int) : od_Ct 1 mX3_byteAt [(2, rd), (0, p)] E g (some (0, tB B n p), E, g) := by
  have hr0 := hr
  obtain ⟨hkr, e0, e1, hta, htx, hor⟩ := hr
  have hta0 := hta
  obtain ⟨hkt, t0, t1⟩ := hta
  refine od_ctI pnX3 rfl (Nat.le_of_ble_eq_true rfl) od_le.rf ?_
  show od_R _ _ _ _ _ 0 [some (2, rd), some (0, p)] [] E g
  refine r_iload_n dX3_byteAt_0 rfl ?_
  refine r_if_lt (tgt := 34) dX3_byteAt_1 rfl (fun c1 => ?_) (fun c1 => ?_)
  · refine r_iconst dX3_byteAt_34 li_m1 ?_
    exact r_iret dX3_byteAt_35 rfl (by unfold tB; first | (exfalso; omega) | rw [if_pos (by omega)] | rw [if_neg (by omega)])
  · refine r_iload_n dX3_byteAt_4 rfl ?_
    refine r_aload_n dX3_byteAt_5 rfl ?_
    refine r_getR dX3_byteAt_6 fkX3_43 gf3_1 (by assumption) (by assumption) ?_
    refine r_getIj (j := 1) rfl dX3_byteAt_9 fkX3_181 gf8_1 (by assumption) (by first | exact hn | rw [hB]) ?_
    refine r_icmp_ge (tgt := 34) dX3_byteAt_12 rfl (fun c12 => ?_) (fun c12 => ?_)
    · refine r_iconst dX3_byteAt_34 li_m1 ?_
      exact r_iret dX3_byteAt_35 rfl (by unfold tB; first | (exfalso; omega) | rw [if_pos (by omega)] | rw [if_neg (by omega)])
    · refine r_iload_n dX3_byteAt_15 rfl ?_
      refine r_sipush dX3_byteAt_16 ls_400 ?_
      refine r_icmp_ge (tgt := 34) dX3_byteAt_19 rfl (fun c19 => ?_) (fun c19 => ?_)
      · refine r_iconst dX3_byteAt_34 li_m1 ?_
        exact r_iret dX3_byteAt_35 rfl (by unfold tB; first | (exfalso; omega) | rw [if_pos (by omega)] | rw [if_neg (by omega)])
      · refine r_aload_n dX3_byteAt_22 rfl ?_
        refine r_getR dX3_byteAt_23 fkX3_43 gf3_1 (by assumption) (by assumption) ?_
        refine r_getR dX3_byteAt_26 fkX3_168 gf8_0 (by assumption) (by assumption) ?_
        refine r_iload_n dX3_byteAt_29 rfl ?_
        refine r_iald dX3_byteAt_30 (by assumption) (by omega) (by first | exact hn | rw [hB]) ?_
        refine r_goto (tgt := 35) dX3_byteAt_31 rfl ?_
        exact r_iret dX3_byteAt_35 rfl (by unfold tB; first | (exfalso; omega) | rw [if_pos (by omega)] | rw [if_neg (by omega)])
set_option maxRecDepth 10000 in
theorem c_X3_sortOf {E : od_E} {g : od_G} (x : Int) : od_Ct 1 mX3_sortOf [(0, x)] E g (some (0, tSo x), E, g) := by
  refine od_ctI pnX3 rfl (Nat.le_of_ble_eq_true rfl) od_le.rf ?_
  show od_R _ _ _ _ _ 0 [some (0, x)] [] E g
  refine r_iload_n dX3_sortOf_0 rfl ?_
  refine r_iconst dX3_sortOf_1 li_m1 ?_
  refine r_icmp_ne (tgt := 7) dX3_sortOf_2 rfl (fun c2 => ?_) (fun c2 => ?_)
  · refine r_iload_n dX3_sortOf_7 rfl ?_
    refine r_bipush dX3_sortOf_8 lb_97 ?_
    refine r_icmp_lt (tgt := 21) dX3_sortOf_10 rfl (fun c10 => ?_) (fun c10 => ?_)
    · refine r_iload_n dX3_sortOf_21 rfl ?_
      refine r_bipush dX3_sortOf_22 lb_48 ?_
      refine r_icmp_lt (tgt := 37) dX3_sortOf_24 rfl (fun c24 => ?_) (fun c24 => ?_)
      · refine r_iconst dX3_sortOf_37 li_3 ?_
        exact r_iret dX3_sortOf_38 rfl (by unfold tSo; first | (exfalso; omega) | (repeat (first | rw [if_pos (by omega)] | rw [if_neg (by omega)])))
      · refine r_iload_n dX3_sortOf_27 rfl ?_
        refine r_bipush dX3_sortOf_28 lb_57 ?_
        refine r_icmp_gt (tgt := 37) dX3_sortOf_30 rfl (fun c30 => ?_) (fun c30 => ?_)
        · refine r_iconst dX3_sortOf_37 li_3 ?_
          exact r_iret dX3_sortOf_38 rfl (by unfold tSo; first | (exfalso; omega) | (repeat (first | rw [if_pos (by omega)] | rw [if_neg (by omega)])))
        · refine r_iconst dX3_sortOf_33 li_2 ?_
          refine r_goto (tgt := 38) dX3_sortOf_34 rfl ?_
          exact r_iret dX3_sortOf_38 rfl (by unfold tSo; first | (exfalso; omega) | (repeat (first | rw [if_pos (by omega)] | rw [if_neg (by omega)])))
    · refine r_iload_n dX3_sortOf_13 rfl ?_
      refine r_bipush dX3_sortOf_14 lb_122 ?_
      refine r_icmp_gt (tgt := 21) dX3_sortOf_16 rfl (fun c16 => ?_) (fun c16 => ?_)
      · refine r_iload_n dX3_sortOf_21 rfl ?_
        refine r_bipush dX3_sortOf_22 lb_48 ?_
        refine r_icmp_lt (tgt := 37) dX3_sortOf_24 rfl (fun c24 => ?_) (fun c24 => ?_)
        · refine r_iconst dX3_sortOf_37 li_3 ?_
          exact r_iret dX3_sortOf_38 rfl (by unfold tSo; first | (exfalso; omega) | (repeat (first | rw [if_pos (by omega)] | rw [if_neg (by omega)])))
        · refine r_iload_n dX3_sortOf_27 rfl ?_
          refine r_bipush dX3_sortOf_28 lb_57 ?_
          refine r_icmp_gt (tgt := 37) dX3_sortOf_30 rfl (fun c30 => ?_) (fun c30 => ?_)
          · refine r_iconst dX3_sortOf_37 li_3 ?_
            exact r_iret dX3_sortOf_38 rfl (by unfold tSo; first | (exfalso; omega) | (repeat (first | rw [if_pos (by omega)] | rw [if_neg (by omega)])))
          · refine r_iconst dX3_sortOf_33 li_2 ?_
            refine r_goto (tgt := 38) dX3_sortOf_34 rfl ?_
            exact r_iret dX3_sortOf_38 rfl (by unfold tSo; first | (exfalso; omega) | (repeat (first | rw [if_pos (by omega)] | rw [if_neg (by omega)])))
      · refine r_iconst dX3_sortOf_19 li_1 ?_
        exact r_iret dX3_sortOf_20 rfl (by unfold tSo; first | (exfalso; omega) | (repeat (first | rw [if_pos (by omega)] | rw [if_neg (by omega)])))
  · refine r_iconst dX3_sortOf_5 li_0 ?_
    exact r_iret dX3_sortOf_6 rfl (by unfold tSo; first | (exfalso; omega) | (repeat (first | rw [if_pos (by omega)] | rw [if_neg (by omega)])))
set_option maxRecDepth 10000 in
theorem c_X3_setFault {E : od_E} {g : od_G} {rd tp t : Int} (hr : ReAt E rd tp t) : od_Ct 1 mX3_setFault [(2, rd)] E g (none, E, cSF g rd) := by
  have hr0 := hr
  obtain ⟨hkr, e0, e1, hta, htx, hor⟩ := hr
  have hta0 := hta
  obtain ⟨hkt, t0, t1⟩ := hta
  refine od_ctI pnX3 rfl (Nat.le_of_ble_eq_true rfl) od_le.rf ?_
  show od_R _ _ _ _ _ 0 [some (2, rd)] [] E g
  refine r_aload_n dX3_setFault_0 rfl ?_
  refine r_getIj (j := 8) rfl dX3_setFault_1 fkX3_40 gf3_8 (by assumption) (by (repeat (first | rewrite [od_upn (by omega)] | rewrite [od_up_at, if_pos (by omega)] | rewrite [od_up_at, if_neg (by omega)])); rfl) ?_
  refine r_iconst dX3_setFault_4 li_m1 ?_
  refine r_icmp_ne (tgt := 21) dX3_setFault_5 rfl (fun c5 => ?_) (fun c5 => ?_)
  · exact r_vret dX3_setFault_21 rfl (by unfold cSF; first | rw [if_pos (by assumption)] | rw [if_neg (by assumption)])
  · refine r_aload_n dX3_setFault_8 rfl ?_
    refine r_aload_n dX3_setFault_9 rfl ?_
    refine r_getIj (j := 4) rfl dX3_setFault_10 fkX3_28 gf3_4 (by assumption) (by (repeat (first | rewrite [od_upn (by omega)] | rewrite [od_up_at, if_pos (by omega)] | rewrite [od_up_at, if_neg (by omega)])); rfl) ?_
    refine r_putIj (j := 8) rfl dX3_setFault_13 fkX3_40 gf3_8 pf3_8 (by assumption) ?_
    refine r_aload_n dX3_setFault_16 rfl ?_
    refine r_iconst dX3_setFault_17 li_4 ?_
    refine r_putIj (j := 3) rfl dX3_setFault_18 fkX3_24 gf3_3 pf3_3 (by assumption) ?_
    exact r_vret dX3_setFault_21 rfl (by unfold cSF; first | rw [if_pos (by assumption)] | rw [if_neg (by assumption)])
set_option maxRecDepth 10000 in
theorem c_X3_isSign {E : od_E} {g : od_G} {rd tp t : Int} (hr : ReAt E rd tp t) {B : Int → Int} {n : Int} (hB : g (tp + 1) = B) (hn : g tp 1 = n) (h4 : n ≤ 400) (k : Int) : od_Ct 2 mX3_isSign [(2, rd), (0, k)] E g (some (0, od_b (g rd 3 = 3 ∧ tB B n (g rd 4) = k)), E, g) := by
  have hr0 := hr
  obtain ⟨hkr, e0, e1, hta, htx, hor⟩ := hr
  have hta0 := hta
  obtain ⟨hkt, t0, t1⟩ := hta
  refine od_ctI pnX3 rfl (Nat.le_of_ble_eq_true rfl) od_le.rf ?_
  show od_R _ _ _ _ _ 0 [some (2, rd), some (0, k)] [] E g
  refine r_aload_n dX3_isSign_0 rfl ?_
  refine r_getIj (j := 3) rfl dX3_isSign_1 fkX3_24 gf3_3 (by assumption) (by (repeat (first | rewrite [od_upn (by omega)] | rewrite [od_up_at, if_pos (by omega)] | rewrite [od_up_at, if_neg (by omega)])); rfl) ?_
  refine r_iconst dX3_isSign_4 li_3 ?_
  refine r_icmp_ne (tgt := 24) dX3_isSign_5 rfl (fun c5 => ?_) (fun c5 => ?_)
  · refine r_iconst dX3_isSign_24 li_0 ?_
    exact r_zret (v := 0) dX3_isSign_25 rfl od_nz0 (od_lt0 (by grind))
  · refine r_aload_n dX3_isSign_8 rfl ?_
    refine r_aload_n dX3_isSign_9 rfl ?_
    refine r_getIj (j := 4) rfl dX3_isSign_10 fkX3_28 gf3_4 (by assumption) (by (repeat (first | rewrite [od_upn (by omega)] | rewrite [od_up_at, if_pos (by omega)] | rewrite [od_up_at, if_neg (by omega)])); rfl) ?_
    refine r_callV1i dX3_isSign_13 cvX3_151 (by assumption) (c_X3_byteAt hr0 (by assumption) (by assumption) h4 _) (by decide) (Nat.le_of_ble_eq_true rfl) od_le.rf ?_
    refine r_iload_n dX3_isSign_16 rfl ?_
    refine r_icmp_ne (tgt := 24) dX3_isSign_17 rfl (fun c17 => ?_) (fun c17 => ?_)
    · refine r_iconst dX3_isSign_24 li_0 ?_
      exact r_zret (v := 0) dX3_isSign_25 rfl od_nz0 (od_lt0 (by grind))
    · refine r_iconst dX3_isSign_20 li_1 ?_
      refine r_goto (tgt := 25) dX3_isSign_21 rfl ?_
      exact r_zret (v := 1) dX3_isSign_25 rfl od_nz1 (od_lt1 (by grind))
theorem tB_in {B : Int → Int} {n p x : Int} (h : tB B n p = x) (hx : x ≠ -1) : 0 ≤ p ∧ p < n := by
  unfold tB at h
  split at h
  · assumption
  · exact absurd h.symm hx
theorem tSo_in {B : Int → Int} {n p x : Int} (h : tSo (tB B n p) = x) (hx : x ≠ 0) : 0 ≤ p ∧ p < n := tQ_lt (B := B) (n := n) (s := p) (by unfold tQ; omega)
theorem tB_b {B : Int → Int} {n p : Int} (hv : ∀ p : Int, 0 ≤ p → p < n → 0 ≤ B p ∧ B p ≤ 255) : -1 ≤ tB B n p ∧ tB B n p ≤ 255 := by
  unfold tB
  split
  · rename_i h; have := hv p h.1 h.2; omega
  · omega
theorem tNm_S (B : Int → Int) (n s : Int) (f : Nat) (p v : Int) : tNm B n s (f + 1) p v = (if tSo (tB B n p) = s then tNm B n s f (p + 1) (min (v * 10 + tB B n p - 48) 1001) else v) := rfl
theorem tSk_S (B : Int → Int) (n : Int) (f : Nat) (p : Int) : tSk B n (f + 1) p = (if tB B n p = 32 then tSk B n f (p + 1) else p) := rfl
set_option maxRecDepth 10000 in
theorem lp_X3_go2 {E : od_E} {g : od_G} {rd tp t : Int} (hr : ReAt E rd tp t) {B : Int → Int} {n : Int} (hB : g (tp + 1) = B) (hn : g tp 1 = n) (h4 : n ≤ 400) (hv : ∀ p : Int, 0 ≤ p → p < n → 0 ≤ B p ∧ B p ≤ 255) (h5 : 0 ≤ g rd 5 ∧ g rd 5 ≤ n) (h12 : tQ B n (tS B n (g rd 5)) = 1 ∨ tQ B n (tS B n (g rd 5)) = 2) : ∀ (m : Nat) (i : Int) (gw : od_G), (0 ≤ i ∧ i ≤ 400 ∧ od_fr (fun x y => x = rd ∧ 3 ≤ y ∧ y ≤ 6) g gw ∧ gw rd 4 = (tS B n (g rd 5)) ∧ gw rd 3 = tQ B n (tS B n (g rd 5)) ∧ (0 ≤ gw rd 5 ∧ gw rd 5 ≤ n) ∧ (0 ≤ gw rd 6 ∧ gw rd 6 ≤ 1001) ∧ tRn B n (tQ B n (tS B n (g rd 5))) (400 - i).toNat (gw rd 5) = tE B n (tS B n (g rd 5)) ∧ tNm B n (tQ B n (tS B n (g rd 5))) (400 - i).toNat (gw rd 5) (gw rd 6) = tN B n (tS B n (g rd 5))) → ((400 - i).toNat) < m → od_Rq 2 mX3_goOn od_Z0 E (E, fun v g' => v = none ∧ od_fr (fun x y => x = rd ∧ 3 ≤ y ∧ y ≤ 6) g g' ∧ g' rd 4 = (tS B n (g rd 5)) ∧ g' rd 5 = tE B n (tS B n (g rd 5)) ∧ g' rd 6 = tN B n (tS B n (g rd 5)) ∧ g' rd 3 = tQ B n (tS B n (g rd 5))) 110 [some (2, rd), some (0, i)] [] E gw := by
  have hr0 := hr
  obtain ⟨hkr, e0, e1, hta, htx, hor⟩ := hr
  have hta0 := hta
  obtain ⟨hkt, t0, t1⟩ := hta
  intro m
  induction m with
  | zero => intro i gw hi hM; exact absurd hM (Nat.not_lt_zero _)
  | succ m ih =>
    intro i gw hi hM
    obtain ⟨hi0, hi1, hfr, w4, w3, w5, w6, wR, wN⟩ := hi
    have eB : gw (tp + 1) = B := (hfr.row (fun y z => by omega)).trans hB
    have en : gw tp 1 = n := (hfr tp 1 (by omega)).trans hn
    have bb := tB_b (p := gw rd 5) hv
    have hf1 : i < 400 → (400 - i).toNat = (400 - (i + 1)).toNat + 1 := fun _ => by omega
    refine r_iload_n dX3_goOn_110 rfl ?_
    refine r_sipush dX3_goOn_111 ls_400 ?_
    refine r_icmp_ge (tgt := 180) dX3_goOn_114 rfl (fun c114 => ?_) (fun c114 => ?_)
    · refine r_vretq dX3_goOn_180 rfl rfl ⟨rfl, hfr, w4, ?_, ?_, w3⟩
      · rw [← wR]
        first
        | (rw [show (400 - i).toNat = 0 by omega]; rfl)
        | (rw [hf1 (by omega), tRn_S, if_neg (by assumption)])
      · rw [← wN]
        first
        | (rw [show (400 - i).toNat = 0 by omega]; rfl)
        | (rw [hf1 (by omega), tNm_S, if_neg (by assumption)])
    · refine r_aload_n dX3_goOn_117 rfl ?_
      refine r_aload_n dX3_goOn_118 rfl ?_
      refine r_getIj (j := 5) rfl dX3_goOn_119 fkX3_31 gf3_5 (by assumption) (by (repeat (first | rewrite [od_upn (by omega)] | rewrite [od_up_at, if_pos (by omega)] | rewrite [od_up_at, if_neg (by omega)])); rfl) ?_
      refine r_callV1i dX3_goOn_122 cvX3_151 (by assumption) (c_X3_byteAt hr0 (by (try simp only [od_up_ne (show tp + 1 ≠ rd by omega)]); exact eB) (by (try simp only [od_up_ne (show tp ≠ rd by omega)]); exact en) h4 _) (by decide) (Nat.le_of_ble_eq_true rfl) od_le.rf ?_
      refine r_callS1i dX3_goOn_125 csX3_173 (c_X3_sortOf _) (by decide) (Nat.le_of_ble_eq_true rfl) od_le.rf ?_
      refine r_aload_n dX3_goOn_128 rfl ?_
      refine r_getIj (j := 3) rfl dX3_goOn_129 fkX3_24 gf3_3 (by assumption) (by (repeat (first | rewrite [od_upn (by omega)] | rewrite [od_up_at, if_pos (by omega)] | rewrite [od_up_at, if_neg (by omega)])); rfl) ?_
      have c132x : tSo (tB B n (gw rd 5)) = gw rd 3 → 0 ≤ gw rd 5 ∧ gw rd 5 < n := fun z => tSo_in z (by omega)
      rw [w3] at c132x ⊢
      refine r_icmp_ne (tgt := 180) dX3_goOn_132 rfl (fun c132 => ?_) (fun c132 => ?_)
      · refine r_vretq dX3_goOn_180 rfl rfl ⟨rfl, hfr, w4, ?_, ?_, w3⟩
        · rw [← wR]
          first
          | (rw [show (400 - i).toNat = 0 by omega]; rfl)
          | (rw [hf1 (by omega), tRn_S, if_neg (by assumption)])
        · rw [← wN]
          first
          | (rw [show (400 - i).toNat = 0 by omega]; rfl)
          | (rw [hf1 (by omega), tNm_S, if_neg (by assumption)])
      · refine r_aload_n dX3_goOn_135 rfl ?_
        refine r_aload_n dX3_goOn_136 rfl ?_
        refine r_getIj (j := 6) rfl dX3_goOn_137 fkX3_34 gf3_6 (by assumption) (by (repeat (first | rewrite [od_upn (by omega)] | rewrite [od_up_at, if_pos (by omega)] | rewrite [od_up_at, if_neg (by omega)])); rfl) ?_
        refine r_bipush dX3_goOn_140 lb_10 ?_
        have lt := c132x (by assumption)
        refine r_imulE dX3_goOn_142 (by first | exact od_w0 (by omega) (by omega) | exact od_wI (by omega) (by omega) | rfl) ?_
        refine r_aload_n dX3_goOn_143 rfl ?_
        refine r_aload_n dX3_goOn_144 rfl ?_
        refine r_getIj (j := 5) rfl dX3_goOn_145 fkX3_31 gf3_5 (by assumption) (by (repeat (first | rewrite [od_upn (by omega)] | rewrite [od_up_at, if_pos (by omega)] | rewrite [od_up_at, if_neg (by omega)])); rfl) ?_
        refine r_callV1i dX3_goOn_148 cvX3_151 (by assumption) (c_X3_byteAt hr0 (by (try simp only [od_up_ne (show tp + 1 ≠ rd by omega)]); exact eB) (by (try simp only [od_up_ne (show tp ≠ rd by omega)]); exact en) h4 _) (by decide) (Nat.le_of_ble_eq_true rfl) od_le.rf ?_
        refine r_iaddE dX3_goOn_151 (by first | exact od_w0 (by omega) (by omega) | exact od_wI (by omega) (by omega) | rfl) ?_
        refine r_bipush dX3_goOn_152 lb_48 ?_
        refine r_isubE dX3_goOn_154 (by first | exact od_w0 (by omega) (by omega) | exact od_wI (by omega) (by omega) | rfl) ?_
        refine r_sipush dX3_goOn_155 ls_1001 ?_
        refine r_mmin dX3_goOn_158 lkX3_176 (by decide) (Nat.le_of_ble_eq_true rfl) ?_
        refine r_putIj (j := 6) rfl dX3_goOn_161 fkX3_34 gf3_6 pf3_6 (by assumption) ?_
        refine r_aload_n dX3_goOn_164 rfl ?_
        refine r_dup dX3_goOn_165 (by first | exact od_ne2 | exact od_ne0) ?_
        refine r_getIj (j := 5) rfl dX3_goOn_166 fkX3_31 gf3_5 (by assumption) (by (repeat (first | rewrite [od_upn (by omega)] | rewrite [od_up_at, if_pos (by omega)] | rewrite [od_up_at, if_neg (by omega)])); rfl) ?_
        refine r_iconst dX3_goOn_169 li_1 ?_
        refine r_iaddE dX3_goOn_170 (by first | exact od_w0 (by omega) (by omega) | exact od_wI (by omega) (by omega) | rfl) ?_
        refine r_putIj (j := 5) rfl dX3_goOn_171 fkX3_31 gf3_5 pf3_5 (by assumption) ?_
        refine r_iincE dX3_goOn_174 rfl (by decide) (by first | exact od_w0 (by omega) (by omega) | exact od_wI (by omega) (by omega) | rfl) rfl ?_
        refine r_goto (tgt := 110) dX3_goOn_177 rfl ?_
        rw [hf1 (by omega), tRn_S, if_pos (by assumption)] at wR
        rw [hf1 (by omega), tNm_S, if_pos (by assumption)] at wN
        refine ih _ _ ⟨by omega, by omega, (hfr.up (by omega)).up (by omega), ?_, ?_, ?_, ?_, ?_, ?_⟩ (by omega)
        · rw [od_up_at, if_neg (by omega), od_up_at, if_neg (by omega)]; exact w4
        · rw [od_up_at, if_neg (by omega), od_up_at, if_neg (by omega)]; exact w3
        · rw [od_up_at, if_pos rfl]; omega
        · rw [od_up_at, if_neg (by omega), od_up_at, if_pos rfl]; unfold tSo at *; omega
        · rw [od_up_at, if_pos rfl]; exact wR
        · rw [od_up_at, if_pos rfl, od_up_at, if_neg (by omega), od_up_at, if_pos rfl]; exact wN
set_option maxRecDepth 10000 in
theorem sg_X3_go {E : od_E} {g gw : od_G} {rd tp t : Int} (hr : ReAt E rd tp t) {B : Int → Int} {n : Int} (hB : g (tp + 1) = B) (hn : g tp 1 = n) (h4 : n ≤ 400) (hv : ∀ p : Int, 0 ≤ p → p < n → 0 ≤ B p ∧ B p ≤ 255) (h5 : 0 ≤ g rd 5 ∧ g rd 5 ≤ n) (i : Int) (hfr : od_fr (fun x y => x = rd ∧ 3 ≤ y ∧ y ≤ 6) g gw) (w4 : gw rd 4 = (tS B n (g rd 5))) : od_Rq 2 mX3_goOn od_Z0 E (E, fun v g' => v = none ∧ od_fr (fun x y => x = rd ∧ 3 ≤ y ∧ y ≤ 6) g g' ∧ g' rd 4 = (tS B n (g rd 5)) ∧ g' rd 5 = tE B n (tS B n (g rd 5)) ∧ g' rd 6 = tN B n (tS B n (g rd 5)) ∧ g' rd 3 = tQ B n (tS B n (g rd 5))) 46 [some (2, rd), some (0, i)] [] E gw := by
  have hr0 := hr
  obtain ⟨hkr, e0, e1, hta, htx, hor⟩ := hr
  have hta0 := hta
  obtain ⟨hkt, t0, t1⟩ := hta
  have eB : gw (tp + 1) = B := (hfr.row (fun y z => by omega)).trans hB
  have en : gw tp 1 = n := (hfr tp 1 (by omega)).trans hn
  have sb := tSk_b (B := B) (n := n) 400 (g rd 5)
  have sn : 0 ≤ (tS B n (g rd 5)) ∧ (tS B n (g rd 5)) ≤ n := ⟨by unfold tS; omega, by unfold tS; exact sb.2 h5.2⟩
  refine r_aload_n dX3_goOn_46 rfl ?_
  refine r_aload_n dX3_goOn_47 rfl ?_
  refine r_getIj (j := 4) rfl dX3_goOn_48 fkX3_28 gf3_4 (by assumption) (by (repeat (first | rewrite [od_upn (by omega)] | rewrite [od_up_at, if_pos (by omega)] | rewrite [od_up_at, if_neg (by omega)])); first | exact w4 | rfl) ?_
  refine r_putIj (j := 5) rfl dX3_goOn_51 fkX3_31 gf3_5 pf3_5 (by assumption) ?_
  refine r_aload_n dX3_goOn_54 rfl ?_
  refine r_iconst dX3_goOn_55 li_0 ?_
  refine r_putIj (j := 6) rfl dX3_goOn_56 fkX3_34 gf3_6 pf3_6 (by assumption) ?_
  refine r_aload_n dX3_goOn_59 rfl ?_
  refine r_aload_n dX3_goOn_60 rfl ?_
  refine r_aload_n dX3_goOn_61 rfl ?_
  refine r_getIj (j := 4) rfl dX3_goOn_62 fkX3_28 gf3_4 (by assumption) (by (repeat (first | rewrite [od_upn (by omega)] | rewrite [od_up_at, if_pos (by omega)] | rewrite [od_up_at, if_neg (by omega)])); first | exact w4 | rfl) ?_
  refine r_callV1i dX3_goOn_65 cvX3_151 (by assumption) (c_X3_byteAt hr0 (by (try simp only [od_up_ne (show tp + 1 ≠ rd by omega)]); exact eB) (by (try simp only [od_up_ne (show tp ≠ rd by omega)]); exact en) h4 _) (by decide) (Nat.le_of_ble_eq_true rfl) od_le.rf ?_
  refine r_callS1i dX3_goOn_68 csX3_173 (c_X3_sortOf _) (by decide) (Nat.le_of_ble_eq_true rfl) od_le.rf ?_
  refine r_putIj (j := 3) rfl dX3_goOn_71 fkX3_24 gf3_3 pf3_3 (by assumption) ?_
  refine r_aload_n dX3_goOn_74 rfl ?_
  refine r_getIj (j := 3) rfl dX3_goOn_75 fkX3_24 gf3_3 (by assumption) (by (repeat (first | rewrite [od_upn (by omega)] | rewrite [od_up_at, if_pos (by omega)] | rewrite [od_up_at, if_neg (by omega)])); first | exact w4 | rfl) ?_
  refine r_iconst dX3_goOn_78 li_3 ?_
  refine r_icmp_ne (tgt := 92) dX3_goOn_79 rfl (fun c79 => ?_) (fun c79 => ?_)
  · refine r_aload_n dX3_goOn_92 rfl ?_
    refine r_getIj (j := 3) rfl dX3_goOn_93 fkX3_24 gf3_3 (by assumption) (by (repeat (first | rewrite [od_upn (by omega)] | rewrite [od_up_at, if_pos (by omega)] | rewrite [od_up_at, if_neg (by omega)])); first | exact w4 | rfl) ?_
    refine r_iconst dX3_goOn_96 li_1 ?_
    refine r_icmp_eq (tgt := 108) dX3_goOn_97 rfl (fun c97 => ?_) (fun c97 => ?_)
    · refine r_iconst dX3_goOn_108 li_0 ?_
      refine r_istore_n dX3_goOn_109 (by decide) rfl ?_
      first
      | (exfalso; omega)
      | (
        refine lp_X3_go2 hr0 hB hn h4 hv h5 (by unfold tQ; omega) _ _ _ ⟨by omega, by omega, ((hfr.up (by omega)).up (by omega)).up (by omega), ?_, ?_, ?_, ?_, ?_, ?_⟩ (Nat.lt_succ_self _)
        · (repeat (first | rewrite [od_up_at, if_pos (by omega)] | rewrite [od_up_at, if_neg (by omega)])); exact w4
        · (repeat (first | rewrite [od_up_at, if_pos (by omega)] | rewrite [od_up_at, if_neg (by omega)])); rfl
        · (repeat (first | rewrite [od_up_at, if_pos (by omega)] | rewrite [od_up_at, if_neg (by omega)])); exact sn
        · (repeat (first | rewrite [od_up_at, if_pos (by omega)] | rewrite [od_up_at, if_neg (by omega)])); omega
        · (repeat (first | rewrite [od_up_at, if_pos (by omega)] | rewrite [od_up_at, if_neg (by omega)])); unfold tE; rw [if_neg (by unfold tQ; assumption), if_pos (by unfold tQ; omega)]; rfl
        · (repeat (first | rewrite [od_up_at, if_pos (by omega)] | rewrite [od_up_at, if_neg (by omega)])); unfold tN; rw [if_pos (by unfold tQ; omega)]; rfl)
    · refine r_aload_n dX3_goOn_100 rfl ?_
      refine r_getIj (j := 3) rfl dX3_goOn_101 fkX3_24 gf3_3 (by assumption) (by (repeat (first | rewrite [od_upn (by omega)] | rewrite [od_up_at, if_pos (by omega)] | rewrite [od_up_at, if_neg (by omega)])); first | exact w4 | rfl) ?_
      refine r_iconst dX3_goOn_104 li_2 ?_
      refine r_icmp_ne (tgt := 180) dX3_goOn_105 rfl (fun c105 => ?_) (fun c105 => ?_)
      · refine r_vretq dX3_goOn_180 rfl rfl ⟨rfl, ?_, ?_, ?_, ?_, ?_⟩
        · first
          | exact (((hfr.up (by omega)).up (by omega)).up (by omega)).up (by omega)
          | exact ((hfr.up (by omega)).up (by omega)).up (by omega)
        · (repeat (first | rewrite [od_up_at, if_pos (by omega)] | rewrite [od_up_at, if_neg (by omega)])); exact w4
        · (repeat (first | rewrite [od_up_at, if_pos (by omega)] | rewrite [od_up_at, if_neg (by omega)])); unfold tE; first | rw [if_pos (by unfold tQ; assumption)] | rw [if_neg (by unfold tQ; assumption), if_neg (by unfold tQ; omega)]
        · (repeat (first | rewrite [od_up_at, if_pos (by omega)] | rewrite [od_up_at, if_neg (by omega)])); unfold tN; rw [if_neg (by unfold tQ; omega)]
        · (repeat (first | rewrite [od_up_at, if_pos (by omega)] | rewrite [od_up_at, if_neg (by omega)])); rfl
      · refine r_iconst dX3_goOn_108 li_0 ?_
        refine r_istore_n dX3_goOn_109 (by decide) rfl ?_
        first
        | (exfalso; omega)
        | (
          refine lp_X3_go2 hr0 hB hn h4 hv h5 (by unfold tQ; omega) _ _ _ ⟨by omega, by omega, ((hfr.up (by omega)).up (by omega)).up (by omega), ?_, ?_, ?_, ?_, ?_, ?_⟩ (Nat.lt_succ_self _)
          · (repeat (first | rewrite [od_up_at, if_pos (by omega)] | rewrite [od_up_at, if_neg (by omega)])); exact w4
          · (repeat (first | rewrite [od_up_at, if_pos (by omega)] | rewrite [od_up_at, if_neg (by omega)])); rfl
          · (repeat (first | rewrite [od_up_at, if_pos (by omega)] | rewrite [od_up_at, if_neg (by omega)])); exact sn
          · (repeat (first | rewrite [od_up_at, if_pos (by omega)] | rewrite [od_up_at, if_neg (by omega)])); omega
          · (repeat (first | rewrite [od_up_at, if_pos (by omega)] | rewrite [od_up_at, if_neg (by omega)])); unfold tE; rw [if_neg (by unfold tQ; assumption), if_pos (by unfold tQ; omega)]; rfl
          · (repeat (first | rewrite [od_up_at, if_pos (by omega)] | rewrite [od_up_at, if_neg (by omega)])); unfold tN; rw [if_pos (by unfold tQ; omega)]; rfl)
  · refine r_aload_n dX3_goOn_82 rfl ?_
    refine r_dup dX3_goOn_83 (by first | exact od_ne2 | exact od_ne0) ?_
    refine r_getIj (j := 5) rfl dX3_goOn_84 fkX3_31 gf3_5 (by assumption) (by (repeat (first | rewrite [od_upn (by omega)] | rewrite [od_up_at, if_pos (by omega)] | rewrite [od_up_at, if_neg (by omega)])); first | exact w4 | rfl) ?_
    refine r_iconst dX3_goOn_87 li_1 ?_
    refine r_iaddE dX3_goOn_88 (by first | exact od_w0 (by omega) (by omega) | exact od_wI (by omega) (by omega) | rfl) ?_
    refine r_putIj (j := 5) rfl dX3_goOn_89 fkX3_31 gf3_5 pf3_5 (by assumption) ?_
    refine r_aload_n dX3_goOn_92 rfl ?_
    refine r_getIj (j := 3) rfl dX3_goOn_93 fkX3_24 gf3_3 (by assumption) (by (repeat (first | rewrite [od_upn (by omega)] | rewrite [od_up_at, if_pos (by omega)] | rewrite [od_up_at, if_neg (by omega)])); first | exact w4 | rfl) ?_
    refine r_iconst dX3_goOn_96 li_1 ?_
    refine r_icmp_eq (tgt := 108) dX3_goOn_97 rfl (fun c97 => ?_) (fun c97 => ?_)
    · refine r_iconst dX3_goOn_108 li_0 ?_
      refine r_istore_n dX3_goOn_109 (by decide) rfl ?_
      first
      | (exfalso; omega)
      | (
        refine lp_X3_go2 hr0 hB hn h4 hv h5 (by unfold tQ; omega) _ _ _ ⟨by omega, by omega, ((hfr.up (by omega)).up (by omega)).up (by omega), ?_, ?_, ?_, ?_, ?_, ?_⟩ (Nat.lt_succ_self _)
        · (repeat (first | rewrite [od_up_at, if_pos (by omega)] | rewrite [od_up_at, if_neg (by omega)])); exact w4
        · (repeat (first | rewrite [od_up_at, if_pos (by omega)] | rewrite [od_up_at, if_neg (by omega)])); rfl
        · (repeat (first | rewrite [od_up_at, if_pos (by omega)] | rewrite [od_up_at, if_neg (by omega)])); exact sn
        · (repeat (first | rewrite [od_up_at, if_pos (by omega)] | rewrite [od_up_at, if_neg (by omega)])); omega
        · (repeat (first | rewrite [od_up_at, if_pos (by omega)] | rewrite [od_up_at, if_neg (by omega)])); unfold tE; rw [if_neg (by unfold tQ; assumption), if_pos (by unfold tQ; omega)]; rfl
        · (repeat (first | rewrite [od_up_at, if_pos (by omega)] | rewrite [od_up_at, if_neg (by omega)])); unfold tN; rw [if_pos (by unfold tQ; omega)]; rfl)
    · refine r_aload_n dX3_goOn_100 rfl ?_
      refine r_getIj (j := 3) rfl dX3_goOn_101 fkX3_24 gf3_3 (by assumption) (by (repeat (first | rewrite [od_upn (by omega)] | rewrite [od_up_at, if_pos (by omega)] | rewrite [od_up_at, if_neg (by omega)])); first | exact w4 | rfl) ?_
      refine r_iconst dX3_goOn_104 li_2 ?_
      refine r_icmp_ne (tgt := 180) dX3_goOn_105 rfl (fun c105 => ?_) (fun c105 => ?_)
      · refine r_vretq dX3_goOn_180 rfl rfl ⟨rfl, ?_, ?_, ?_, ?_, ?_⟩
        · first
          | exact (((hfr.up (by omega)).up (by omega)).up (by omega)).up (by omega)
          | exact ((hfr.up (by omega)).up (by omega)).up (by omega)
        · (repeat (first | rewrite [od_up_at, if_pos (by omega)] | rewrite [od_up_at, if_neg (by omega)])); exact w4
        · (repeat (first | rewrite [od_up_at, if_pos (by omega)] | rewrite [od_up_at, if_neg (by omega)])); unfold tE; first | rw [if_pos (by unfold tQ; assumption)] | rw [if_neg (by unfold tQ; assumption), if_neg (by unfold tQ; omega)]
        · (repeat (first | rewrite [od_up_at, if_pos (by omega)] | rewrite [od_up_at, if_neg (by omega)])); unfold tN; rw [if_neg (by unfold tQ; omega)]
        · (repeat (first | rewrite [od_up_at, if_pos (by omega)] | rewrite [od_up_at, if_neg (by omega)])); rfl
      · refine r_iconst dX3_goOn_108 li_0 ?_
        refine r_istore_n dX3_goOn_109 (by decide) rfl ?_
        first
        | (exfalso; omega)
        | (
          refine lp_X3_go2 hr0 hB hn h4 hv h5 (by unfold tQ; omega) _ _ _ ⟨by omega, by omega, ((hfr.up (by omega)).up (by omega)).up (by omega), ?_, ?_, ?_, ?_, ?_, ?_⟩ (Nat.lt_succ_self _)
          · (repeat (first | rewrite [od_up_at, if_pos (by omega)] | rewrite [od_up_at, if_neg (by omega)])); exact w4
          · (repeat (first | rewrite [od_up_at, if_pos (by omega)] | rewrite [od_up_at, if_neg (by omega)])); rfl
          · (repeat (first | rewrite [od_up_at, if_pos (by omega)] | rewrite [od_up_at, if_neg (by omega)])); exact sn
          · (repeat (first | rewrite [od_up_at, if_pos (by omega)] | rewrite [od_up_at, if_neg (by omega)])); omega
          · (repeat (first | rewrite [od_up_at, if_pos (by omega)] | rewrite [od_up_at, if_neg (by omega)])); unfold tE; rw [if_neg (by unfold tQ; assumption), if_pos (by unfold tQ; omega)]; rfl
          · (repeat (first | rewrite [od_up_at, if_pos (by omega)] | rewrite [od_up_at, if_neg (by omega)])); unfold tN; rw [if_pos (by unfold tQ; omega)]; rfl)
set_option maxRecDepth 10000 in
theorem lp_X3_go1 {E : od_E} {g : od_G} {rd tp t : Int} (hr : ReAt E rd tp t) {B : Int → Int} {n : Int} (hB : g (tp + 1) = B) (hn : g tp 1 = n) (h4 : n ≤ 400) (hv : ∀ p : Int, 0 ≤ p → p < n → 0 ≤ B p ∧ B p ≤ 255) (h5 : 0 ≤ g rd 5 ∧ g rd 5 ≤ n) : ∀ (m : Nat) (i : Int) (gw : od_G), (0 ≤ i ∧ i ≤ 400 ∧ od_fr (fun x y => x = rd ∧ 3 ≤ y ∧ y ≤ 6) g gw ∧ (0 ≤ gw rd 4 ∧ gw rd 4 ≤ n) ∧ tSk B n (400 - i).toNat (gw rd 4) = (tS B n (g rd 5))) → ((400 - i).toNat) < m → od_Rq 2 mX3_goOn od_Z0 E (E, fun v g' => v = none ∧ od_fr (fun x y => x = rd ∧ 3 ≤ y ∧ y ≤ 6) g g' ∧ g' rd 4 = (tS B n (g rd 5)) ∧ g' rd 5 = tE B n (tS B n (g rd 5)) ∧ g' rd 6 = tN B n (tS B n (g rd 5)) ∧ g' rd 3 = tQ B n (tS B n (g rd 5))) 10 [some (2, rd), some (0, i)] [] E gw := by
  have hr0 := hr
  obtain ⟨hkr, e0, e1, hta, htx, hor⟩ := hr
  have hta0 := hta
  obtain ⟨hkt, t0, t1⟩ := hta
  intro m
  induction m with
  | zero => intro i gw hi hM; exact absurd hM (Nat.not_lt_zero _)
  | succ m ih =>
    intro i gw hi hM
    obtain ⟨hi0, hi1, hfr, w4, wS⟩ := hi
    have eB : gw (tp + 1) = B := (hfr.row (fun y z => by omega)).trans hB
    have en : gw tp 1 = n := (hfr tp 1 (by omega)).trans hn
    have hf1 : i < 400 → (400 - i).toNat = (400 - (i + 1)).toNat + 1 := fun _ => by omega
    refine r_iload_n dX3_goOn_10 rfl ?_
    refine r_sipush dX3_goOn_11 ls_400 ?_
    refine r_icmp_ge (tgt := 46) dX3_goOn_14 rfl (fun c14 => ?_) (fun c14 => ?_)
    · refine sg_X3_go hr0 hB hn h4 hv h5 i hfr ?_
      rw [← wS]
      first
      | (rw [show (400 - i).toNat = 0 by omega]; rfl)
      | (rw [hf1 (by omega), tSk_S, if_neg (by assumption)])
    · refine r_aload_n dX3_goOn_17 rfl ?_
      refine r_aload_n dX3_goOn_18 rfl ?_
      refine r_getIj (j := 4) rfl dX3_goOn_19 fkX3_28 gf3_4 (by assumption) (by (repeat (first | rewrite [od_upn (by omega)] | rewrite [od_up_at, if_pos (by omega)] | rewrite [od_up_at, if_neg (by omega)])); rfl) ?_
      refine r_callV1i dX3_goOn_22 cvX3_151 (by assumption) (c_X3_byteAt hr0 (by (try simp only [od_up_ne (show tp + 1 ≠ rd by omega)]); exact eB) (by (try simp only [od_up_ne (show tp ≠ rd by omega)]); exact en) h4 _) (by decide) (Nat.le_of_ble_eq_true rfl) od_le.rf ?_
      refine r_bipush dX3_goOn_25 lb_32 ?_
      refine r_icmp_ne (tgt := 46) dX3_goOn_27 rfl (fun c27 => ?_) (fun c27 => ?_)
      · refine sg_X3_go hr0 hB hn h4 hv h5 i hfr ?_
        rw [← wS]
        first
        | (rw [show (400 - i).toNat = 0 by omega]; rfl)
        | (rw [hf1 (by omega), tSk_S, if_neg (by assumption)])
      · have lt := tB_in (x := 32) (by assumption) (by omega)
        refine r_aload_n dX3_goOn_30 rfl ?_
        refine r_dup dX3_goOn_31 (by first | exact od_ne2 | exact od_ne0) ?_
        refine r_getIj (j := 4) rfl dX3_goOn_32 fkX3_28 gf3_4 (by assumption) (by (repeat (first | rewrite [od_upn (by omega)] | rewrite [od_up_at, if_pos (by omega)] | rewrite [od_up_at, if_neg (by omega)])); rfl) ?_
        refine r_iconst dX3_goOn_35 li_1 ?_
        refine r_iaddE dX3_goOn_36 (by first | exact od_w0 (by omega) (by omega) | exact od_wI (by omega) (by omega) | rfl) ?_
        refine r_putIj (j := 4) rfl dX3_goOn_37 fkX3_28 gf3_4 pf3_4 (by assumption) ?_
        refine r_iincE dX3_goOn_40 rfl (by decide) (by first | exact od_w0 (by omega) (by omega) | exact od_wI (by omega) (by omega) | rfl) rfl ?_
        refine r_goto (tgt := 10) dX3_goOn_43 rfl ?_
        rw [hf1 (by omega), tSk_S, if_pos (by assumption)] at wS
        exact ih _ _ ⟨by omega, by omega, hfr.up (by omega), by rw [od_up_at, if_pos rfl]; omega, by rw [od_up_at, if_pos rfl]; exact wS⟩ (by omega)
set_option maxRecDepth 10000 in
theorem c_X3_goOn {E : od_E} {g : od_G} {rd tp t : Int} (hr : ReAt E rd tp t) {B : Int → Int} {n : Int} (hB : g (tp + 1) = B) (hn : g tp 1 = n) (h4 : n ≤ 400) (hv : ∀ p : Int, 0 ≤ p → p < n → 0 ≤ B p ∧ B p ≤ 255) (h5 : 0 ≤ g rd 5 ∧ g rd 5 ≤ n) : od_Cq 2 mX3_goOn [(2, rd)] E g (E, fun v g' => v = none ∧ od_fr (fun x y => x = rd ∧ 3 ≤ y ∧ y ≤ 6) g g' ∧ g' rd 4 = (tS B n (g rd 5)) ∧ g' rd 5 = tE B n (tS B n (g rd 5)) ∧ g' rd 6 = tN B n (tS B n (g rd 5)) ∧ g' rd 3 = tQ B n (tS B n (g rd 5))) := by
  have hr0 := hr
  obtain ⟨hkr, e0, e1, hta, htx, hor⟩ := hr
  have hta0 := hta
  obtain ⟨hkt, t0, t1⟩ := hta
  refine od_cqI pnX3 rfl (Nat.le_of_ble_eq_true rfl) od_le.rf ?_
  show od_Rq 2 mX3_goOn od_Z0 E (E, fun v g' => v = none ∧ od_fr (fun x y => x = rd ∧ 3 ≤ y ∧ y ≤ 6) g g' ∧ g' rd 4 = (tS B n (g rd 5)) ∧ g' rd 5 = tE B n (tS B n (g rd 5)) ∧ g' rd 6 = tN B n (tS B n (g rd 5)) ∧ g' rd 3 = tQ B n (tS B n (g rd 5))) 0 [some (2, rd), none] [] E g
  refine r_aload_n dX3_goOn_0 rfl ?_
  refine r_aload_n dX3_goOn_1 rfl ?_
  refine r_getIj (j := 5) rfl dX3_goOn_2 fkX3_31 gf3_5 (by assumption) (by (repeat (first | rewrite [od_upn (by omega)] | rewrite [od_up_at, if_pos (by omega)] | rewrite [od_up_at, if_neg (by omega)])); rfl) ?_
  refine r_putIj (j := 4) rfl dX3_goOn_5 fkX3_28 gf3_4 pf3_4 (by assumption) ?_
  refine r_iconst dX3_goOn_8 li_0 ?_
  refine r_istore_n dX3_goOn_9 (by decide) rfl ?_
  exact lp_X3_go1 hr0 hB hn h4 hv h5 _ _ _ ⟨by omega, by omega, od_fr.rf.up (by omega), by rw [od_up_at, if_pos rfl]; exact h5, by rw [od_up_at, if_pos rfl]; rfl⟩ (Nat.lt_succ_self _)
