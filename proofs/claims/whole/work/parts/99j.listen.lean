/-! OrganDrums: listen, few, row -/
noncomputable def cLf1 (g : od_G) (k st h : Int) : Int → Int := fun d => od_b (od_bit st d ∧ cStrikes g k d h)
noncomputable def cLf2 (g : od_G) (k st h : Int) : Int → Int := fun d => od_b (od_bit st d ∧ ¬ cStrikes g k d h)
noncomputable def cLf (g : od_G) (k st h : Int) : Int := max (od_sum (cLf1 g k st h) (g k 8).toNat) (od_sum (cLf2 g k st h) (g k 8).toNat)
theorem od_b_r (P : Prop) : 0 ≤ od_b P ∧ od_b P ≤ 1 := by
  by_cases c : P
  · rw [od_b_t c]; omega
  · rw [od_b_f c]; omega
set_option maxRecDepth 10000 in
theorem lp_X10_lf {E : od_E} {g : od_G} {o : Int} (ho : OdAt E o) (h8 : 0 ≤ g (o + 1) 8 ∧ g (o + 1) 8 ≤ 6) (st h : Int) : ∀ (m : Nat) (d a b : Int), (0 ≤ d ∧ d ≤ g (o + 1) 8 ∧ a = od_sum (cLf1 g (o + 1) st h) d.toNat ∧ b = od_sum (cLf2 g (o + 1) st h) d.toNat) → ((g (o + 1) 8 - d).toNat) < m → od_R 4 mX10_leftBehind od_Z0 E (some (0, cLf g (o + 1) st h), E, g) 8 [some (2, o), some (0, st), some (0, h), some (0, a), some (0, b), some (0, d)] [] E g := by
  have hs1 := oS1 ho
  obtain ⟨hk, r0, r1, r2, r3, r4, r5, r6, r7, a1, a2, a3, a4, a5, a6, a7, a8⟩ := oS1 ho
  intro m
  induction m with
  | zero => intro d a b hi hM; exact absurd hM (Nat.not_lt_zero _)
  | succ m ih =>
    intro d a b hi hM
    obtain ⟨hi0, hi1, ea, eb⟩ := hi
    have b1 := od_sum_b (f := cLf1 g (o + 1) st h) (m := 1) d.toNat (fun i _ _ => od_b_r _)
    have b2 := od_sum_b (f := cLf2 g (o + 1) st h) (m := 1) d.toNat (fun i _ _ => od_b_r _)
    rw [← ea] at b1
    rw [← eb] at b2
    have s1 := od_sum_s (cLf1 g (o + 1) st h) hi0
    have s2 := od_sum_s (cLf2 g (o + 1) st h) hi0
    rw [← ea] at s1
    rw [← eb] at s2
    refine r_iload dX10_leftBehind_8 rfl ?_
    refine r_aload_n dX10_leftBehind_10 rfl ?_
    refine r_getR dX10_leftBehind_11 fkX10_12 gf10_0 (oO ho) (oR0 ho) ?_
    refine r_getIj (j := 8) rfl dX10_leftBehind_14 fkX10_117 gf6_8 (by assumption) rfl ?_
    refine r_icmp_ge (tgt := 57) dX10_leftBehind_17 rfl (fun c17 => ?_) (fun c17 => ?_)
    · refine r_iload_n dX10_leftBehind_57 rfl ?_
      refine r_iload dX10_leftBehind_58 rfl ?_
      refine r_mmax dX10_leftBehind_60 lkX10_334 (by decide) (Nat.le_of_ble_eq_true rfl) ?_
      exact r_iret dX10_leftBehind_63 rfl (by unfold cLf; rw [show g (o + 1) 8 = d by omega, ← ea, ← eb])
    · refine r_iload_n dX10_leftBehind_20 rfl ?_
      refine r_iload dX10_leftBehind_21 rfl ?_
      refine r_ishr dX10_leftBehind_23 ?_
      refine r_iconst dX10_leftBehind_24 li_1 ?_
      refine r_iand dX10_leftBehind_25 ?_
      refine r_if_eq (tgt := 51) dX10_leftBehind_26 rfl (fun c26 => ?_) (fun c26 => ?_)
      · refine r_iincE dX10_leftBehind_51 rfl (by decide) (by first | exact od_w0 (by omega) (by omega) | exact od_wI (by omega) (by omega) | rfl) rfl ?_
        refine r_goto (tgt := 8) dX10_leftBehind_54 rfl ?_
        first
        | (have z1 : cLf1 g (o + 1) st h d = 1 := od_b_t ⟨c26, by assumption⟩
           have z2 : cLf2 g (o + 1) st h d = 0 := od_b_f (fun z => z.2 (by assumption))
           rw [z1] at s1
           rw [z2] at s2
           exact ih _ _ _ ⟨by omega, by omega, by omega, by omega⟩ (by omega))
        | (have z1 : cLf1 g (o + 1) st h d = 0 := od_b_f (fun z => absurd z.2 (by assumption))
           have z2 : cLf2 g (o + 1) st h d = 1 := od_b_t ⟨c26, by assumption⟩
           rw [z1] at s1
           rw [z2] at s2
           exact ih _ _ _ ⟨by omega, by omega, by omega, by omega⟩ (by omega))
        | (have z1 : cLf1 g (o + 1) st h d = 0 := od_b_f (fun z => z.1 c26)
           have z2 : cLf2 g (o + 1) st h d = 0 := od_b_f (fun z => z.1 c26)
           rw [z1] at s1
           rw [z2] at s2
           exact ih _ _ _ ⟨by omega, by omega, by omega, by omega⟩ (by omega))
      · refine r_aload_n dX10_leftBehind_29 rfl ?_
        refine r_getR dX10_leftBehind_30 fkX10_12 gf10_0 (oO ho) (oR0 ho) ?_
        refine r_iload dX10_leftBehind_33 rfl ?_
        refine r_iload_n dX10_leftBehind_35 rfl ?_
        refine r_callV2b dX10_leftBehind_36 cvX10_149 (by assumption) (c_X6_strikesIn (by assumption) _ _) (by decide) (Nat.le_of_ble_eq_true rfl) od_le.rf (fun q36 => ?_) (fun q36 => ?_)
        · refine r_if_eq (tgt := 48) dX10_leftBehind_39 rfl (fun h => absurd h (by decide)) (fun _ => ?_)
          refine r_iincE dX10_leftBehind_42 rfl (by decide) (by first | exact od_w0 (by omega) (by omega) | exact od_wI (by omega) (by omega) | rfl) rfl ?_
          refine r_goto (tgt := 51) dX10_leftBehind_45 rfl ?_
          refine r_iincE dX10_leftBehind_51 rfl (by decide) (by first | exact od_w0 (by omega) (by omega) | exact od_wI (by omega) (by omega) | rfl) rfl ?_
          refine r_goto (tgt := 8) dX10_leftBehind_54 rfl ?_
          first
          | (have z1 : cLf1 g (o + 1) st h d = 1 := od_b_t ⟨c26, by assumption⟩
             have z2 : cLf2 g (o + 1) st h d = 0 := od_b_f (fun z => z.2 (by assumption))
             rw [z1] at s1
             rw [z2] at s2
             exact ih _ _ _ ⟨by omega, by omega, by omega, by omega⟩ (by omega))
          | (have z1 : cLf1 g (o + 1) st h d = 0 := od_b_f (fun z => absurd z.2 (by assumption))
             have z2 : cLf2 g (o + 1) st h d = 1 := od_b_t ⟨c26, by assumption⟩
             rw [z1] at s1
             rw [z2] at s2
             exact ih _ _ _ ⟨by omega, by omega, by omega, by omega⟩ (by omega))
          | (have z1 : cLf1 g (o + 1) st h d = 0 := od_b_f (fun z => z.1 c26)
             have z2 : cLf2 g (o + 1) st h d = 0 := od_b_f (fun z => z.1 c26)
             rw [z1] at s1
             rw [z2] at s2
             exact ih _ _ _ ⟨by omega, by omega, by omega, by omega⟩ (by omega))
        · refine r_if_eq (tgt := 48) dX10_leftBehind_39 rfl (fun _ => ?_) (fun h => absurd h (by decide))
          refine r_iincE dX10_leftBehind_48 rfl (by decide) (by first | exact od_w0 (by omega) (by omega) | exact od_wI (by omega) (by omega) | rfl) rfl ?_
          refine r_iincE dX10_leftBehind_51 rfl (by decide) (by first | exact od_w0 (by omega) (by omega) | exact od_wI (by omega) (by omega) | rfl) rfl ?_
          refine r_goto (tgt := 8) dX10_leftBehind_54 rfl ?_
          first
          | (have z1 : cLf1 g (o + 1) st h d = 1 := od_b_t ⟨c26, by assumption⟩
             have z2 : cLf2 g (o + 1) st h d = 0 := od_b_f (fun z => z.2 (by assumption))
             rw [z1] at s1
             rw [z2] at s2
             exact ih _ _ _ ⟨by omega, by omega, by omega, by omega⟩ (by omega))
          | (have z1 : cLf1 g (o + 1) st h d = 0 := od_b_f (fun z => absurd z.2 (by assumption))
             have z2 : cLf2 g (o + 1) st h d = 1 := od_b_t ⟨c26, by assumption⟩
             rw [z1] at s1
             rw [z2] at s2
             exact ih _ _ _ ⟨by omega, by omega, by omega, by omega⟩ (by omega))
          | (have z1 : cLf1 g (o + 1) st h d = 0 := od_b_f (fun z => z.1 c26)
             have z2 : cLf2 g (o + 1) st h d = 0 := od_b_f (fun z => z.1 c26)
             rw [z1] at s1
             rw [z2] at s2
             exact ih _ _ _ ⟨by omega, by omega, by omega, by omega⟩ (by omega))
set_option maxRecDepth 10000 in
theorem c_X10_leftBehind {E : od_E} {g : od_G} {o : Int} (ho : OdAt E o) (h8 : 0 ≤ g (o + 1) 8 ∧ g (o + 1) 8 ≤ 6) (st h : Int) : od_Ct 4 mX10_leftBehind [(2, o), (0, st), (0, h)] E g (some (0, cLf g (o + 1) st h), E, g) := by
  refine od_ctI pnX10 rfl (Nat.le_of_ble_eq_true rfl) od_le.rf ?_
  show od_R _ _ _ _ _ 0 [some (2, o), some (0, st), some (0, h), none, none, none] [] E g
  refine r_iconst dX10_leftBehind_0 li_0 ?_
  refine r_istore_n dX10_leftBehind_1 (by decide) rfl ?_
  refine r_iconst dX10_leftBehind_2 li_0 ?_
  refine r_istore dX10_leftBehind_3 (by decide) rfl ?_
  refine r_iconst dX10_leftBehind_5 li_0 ?_
  refine r_istore dX10_leftBehind_6 (by decide) rfl ?_
  exact lp_X10_lf ho h8 st h _ _ _ _ ⟨by omega, by omega, rfl, rfl⟩ (Nat.lt_succ_self _)
noncomputable def cListenM (g : od_G) (k w : Int) : Int := od_ite (cSus g k (g k 8).toNat ≠ 0 ∧ 0 ≤ w ∧ w ≤ 1) (if w = 0 then (od_ml 7 0 (cLf g k (cSus g k (g k 8).toNat)) 100).2 else (od_ml 7 0 (cLf g k (cSus g k (g k 8).toNat)) 100).1) (-1)
set_option maxRecDepth 10000 in
theorem lp_X10_lis {E : od_E} {g : od_G} {o : Int} (ho : OdAt E o) (h8 : 0 ≤ g (o + 1) 8 ∧ g (o + 1) 8 ≤ 6) (st w : Int) : ∀ (m : Nat) (b a h : Int) (x : Option od_V), (0 ≤ h ∧ h ≤ 100 ∧ od_ml 7 0 (cLf g (o + 1) st) h.toNat = (b, a)) → ((100 - h).toNat) < m → od_R 5 mX10_listen od_Z0 E (some (0, if w = 0 then (od_ml 7 0 (cLf g (o + 1) st) 100).2 else (od_ml 7 0 (cLf g (o + 1) st) 100).1), E, g) 32 [some (2, o), some (0, w), some (0, st), some (0, b), some (0, a), some (0, h), x] [] E g := by
  have hs1 := oS1 ho
  obtain ⟨hk, r0, r1, r2, r3, r4, r5, r6, r7, a1, a2, a3, a4, a5, a6, a7, a8⟩ := oS1 ho
  intro m
  induction m with
  | zero => intro b a h x hi hM; exact absurd hM (Nat.not_lt_zero _)
  | succ m ih =>
    intro b a h x hi hM
    obtain ⟨hi0, hi1, he⟩ := hi
    have hs := od_ml_s _ _ _ hi0 he
    refine r_iload dX10_listen_32 rfl ?_
    refine r_bipush dX10_listen_34 lb_100 ?_
    refine r_icmp_ge (tgt := 67) dX10_listen_36 rfl (fun c36 => ?_) (fun c36 => ?_)
    · refine r_iload_n dX10_listen_67 rfl ?_
      refine r_if_ne (tgt := 76) dX10_listen_68 rfl (fun c68 => ?_) (fun c68 => ?_)
      · refine r_iload_n dX10_listen_76 rfl ?_
        rw [show h = 100 by omega, show (100 : Int).toNat = 100 from rfl] at he
        rw [he]
        first
        | exact r_iret dX10_listen_77 rfl (by rw [if_pos (by assumption)])
        | exact r_iret dX10_listen_77 rfl (by rw [if_neg (by assumption)])
      · refine r_iload dX10_listen_71 rfl ?_
        refine r_goto (tgt := 77) dX10_listen_73 rfl ?_
        rw [show h = 100 by omega, show (100 : Int).toNat = 100 from rfl] at he
        rw [he]
        first
        | exact r_iret dX10_listen_77 rfl (by rw [if_pos (by assumption)])
        | exact r_iret dX10_listen_77 rfl (by rw [if_neg (by assumption)])
    · refine r_aload_n dX10_listen_39 rfl ?_
      refine r_iload_n dX10_listen_40 rfl ?_
      refine r_iload dX10_listen_41 rfl ?_
      refine r_callV2i dX10_listen_43 cvX10_301 (oO ho) (c_X10_leftBehind ho (by omega) _ _) (by decide) (Nat.le_of_ble_eq_true rfl) od_le.rf ?_
      refine r_istore dX10_listen_46 (by decide) rfl ?_
      refine r_iload dX10_listen_48 rfl ?_
      refine r_iload_n dX10_listen_50 rfl ?_
      refine r_icmp_ge (tgt := 61) dX10_listen_51 rfl (fun c51 => ?_) (fun c51 => ?_)
      · refine r_iincE dX10_listen_61 rfl (by decide) (by first | exact od_w0 (by omega) (by omega) | exact od_wI (by omega) (by omega) | rfl) rfl ?_
        refine r_goto (tgt := 32) dX10_listen_64 rfl ?_
        first
        | (rw [if_pos (by omega)] at hs
           exact ih _ _ _ _ ⟨by omega, by omega, hs⟩ (by omega))
        | (rw [if_neg (by omega)] at hs
           exact ih _ _ _ _ ⟨by omega, by omega, hs⟩ (by omega))
      · refine r_iload dX10_listen_54 rfl ?_
        refine r_istore_n dX10_listen_56 (by decide) rfl ?_
        refine r_iload dX10_listen_57 rfl ?_
        refine r_istore dX10_listen_59 (by decide) rfl ?_
        refine r_iincE dX10_listen_61 rfl (by decide) (by first | exact od_w0 (by omega) (by omega) | exact od_wI (by omega) (by omega) | rfl) rfl ?_
        refine r_goto (tgt := 32) dX10_listen_64 rfl ?_
        first
        | (rw [if_pos (by omega)] at hs
           exact ih _ _ _ _ ⟨by omega, by omega, hs⟩ (by omega))
        | (rw [if_neg (by omega)] at hs
           exact ih _ _ _ _ ⟨by omega, by omega, hs⟩ (by omega))
set_option maxRecDepth 10000 in
theorem c_X10_listen {E : od_E} {g : od_G} {o : Int} (ho : OdAt E o) (h8 : 0 ≤ g (o + 1) 8 ∧ g (o + 1) 8 ≤ 6) (h12 : 0 ≤ g (o + 1) 12 ∧ g (o + 1) 12 ≤ 6) (w : Int) : od_Ct 5 mX10_listen [(2, o), (0, w)] E g (some (0, cListenM g (o + 1) w), E, g) := by
  have hs1 := oS1 ho
  obtain ⟨hk, r0, r1, r2, r3, r4, r5, r6, r7, a1, a2, a3, a4, a5, a6, a7, a8⟩ := oS1 ho
  refine od_ctI pnX10 rfl (Nat.le_of_ble_eq_true rfl) od_le.rf ?_
  show od_R _ _ _ _ _ 0 [some (2, o), some (0, w), none, none, none, none, none] [] E g
  refine r_aload_n dX10_listen_0 rfl ?_
  refine r_getR dX10_listen_1 fkX10_12 gf10_0 (oO ho) (oR0 ho) ?_
  refine r_callV0i dX10_listen_4 cvX10_298 (by assumption) (c_X6_suspects (by assumption) (by omega) (by omega)) (by decide) (Nat.le_of_ble_eq_true rfl) od_le.rf ?_
  refine r_istore_n dX10_listen_7 (by decide) rfl ?_
  refine r_iload_n dX10_listen_8 rfl ?_
  refine r_if_eq (tgt := 21) dX10_listen_9 rfl (fun c9 => ?_) (fun c9 => ?_)
  · refine r_iconst dX10_listen_21 li_m1 ?_
    exact r_iret dX10_listen_22 rfl (by unfold cListenM; rw [od_ite_f (by omega)])
  · refine r_iload_n dX10_listen_12 rfl ?_
    refine r_if_lt (tgt := 21) dX10_listen_13 rfl (fun c13 => ?_) (fun c13 => ?_)
    · refine r_iconst dX10_listen_21 li_m1 ?_
      exact r_iret dX10_listen_22 rfl (by unfold cListenM; rw [od_ite_f (by omega)])
    · refine r_iload_n dX10_listen_16 rfl ?_
      refine r_iconst dX10_listen_17 li_1 ?_
      refine r_icmp_le (tgt := 23) dX10_listen_18 rfl (fun c18 => ?_) (fun c18 => ?_)
      · refine r_bipush dX10_listen_23 lb_7 ?_
        refine r_istore_n dX10_listen_25 (by decide) rfl ?_
        refine r_iconst dX10_listen_26 li_0 ?_
        refine r_istore dX10_listen_27 (by decide) rfl ?_
        refine r_iconst dX10_listen_29 li_0 ?_
        refine r_istore dX10_listen_30 (by decide) rfl ?_
        unfold cListenM
        rw [od_ite_t ⟨by assumption, by omega, by omega⟩]
        exact lp_X10_lis ho h8 _ _ _ _ _ _ _ ⟨by omega, by omega, rfl⟩ (Nat.lt_succ_self _)
      · refine r_iconst dX10_listen_21 li_m1 ?_
        exact r_iret dX10_listen_22 rfl (by unfold cListenM; rw [od_ite_f (by omega)])
def CX (o : Int) : Int → Int → Prop := fun x _ => x = o + 84
set_option maxRecDepth 10000 in
theorem lp_X10_slip {E : od_E} {g : od_G} {o : Int} (ho : OdAt E o) (s : Int) (j : Nat) (hs : 0 ≤ s ∧ s ≤ 10) : ∀ (m : Nat) (i : Int) (x4 x6 : Option od_V) (gw : od_G), (-1 ≤ i ∧ i < 20 ∧ od_fr (CX o) g gw ∧ (∀ x : Int, 0 ≤ x → x < i + 1 → gw (o + 84) x = od_few s j x) ∧ ∀ x : Int, i < x → x < 20 → gw (o + 84) x = od_few s (j + 1) x) → ((i + 1).toNat) < m → od_Rq 1 mX10_letOneSlip od_Z0 E (E, fun v g' => v = none ∧ od_fr (CX o) g g' ∧ ∀ x : Int, 0 ≤ x → x < 20 → g' (o + 84) x = od_few s (j + 1) x) 14 [some (2, o), some (1, s), none, some (0, i), x4, none, x6, none] [] E gw := by
  have hch := oCh ho
  intro m
  induction m with
  | zero => intro i x4 x6 gw hi hM; exact absurd hM (Nat.not_lt_zero _)
  | succ m ih =>
    intro i x4 x6 gw hi hM
    obtain ⟨hi0, hi1, hfr, hr, hr2⟩ := hi
    have bi := od_few_b hs j i
    have bm := od_few_b hs j (i - 1)
    have pa := od_shr_b (s := 10 - s) bi (by omega)
    have pb := od_shr_b bm hs
    have ta := od_td10 (x := od_few s j i * (10 - s)) (m := 1000000000000) pa.1 (by omega)
    have tb := od_td10 (x := od_few s j (i - 1) * s) (m := 1000000000000) pb.1 (by omega)
    have hFi : 0 ≤ i → gw (o + 84) i = od_few s j i := fun z => hr i z (by omega)
    have hFm : 0 < i → gw (o + 84) (i - 1) = od_few s j (i - 1) := fun z => hr (i - 1) (by omega) (by omega)
    have hS := od_few_s s j i
    refine r_iload_n dX10_letOneSlip_14 rfl ?_
    refine r_if_lt (tgt := 77) dX10_letOneSlip_15 rfl (fun c15 => ?_) (fun c15 => ?_)
    · exact r_vretq dX10_letOneSlip_77 rfl rfl ⟨rfl, hfr, fun x h0 h1 => hr2 x (by omega) h1⟩
    · refine r_aload_n dX10_letOneSlip_18 rfl ?_
      refine r_getR dX10_letOneSlip_19 fkX10_88 gf10_13 (oO ho) (oR13 ho) ?_
      refine r_iload_n dX10_letOneSlip_22 rfl ?_
      refine r_lald dX10_letOneSlip_23 (by assumption) (by omega) (by first | exact hFi (by omega) | exact hFm (by omega) | rfl) ?_
      refine r_ldc2 dX10_letOneSlip_24 kcX10_339 lk_X10_339 ?_
      refine r_lload_n dX10_letOneSlip_27 rfl ?_
      refine r_lsubE dX10_letOneSlip_28 (by first | exact od_wlI (by omega) (by omega) | rfl) ?_
      refine r_lmulE dX10_letOneSlip_29 (by first | exact od_wlI (by omega) (by omega) | rfl) ?_
      refine r_ldc2 dX10_letOneSlip_30 kcX10_339 lk_X10_339 ?_
      refine r_ldivE dX10_letOneSlip_33 (by decide) (by first | exact od_wlI (by omega) (by omega) | rfl) ?_
      refine r_lstore dX10_letOneSlip_34 (by decide) rfl ?_
      refine r_iload_n dX10_letOneSlip_36 rfl ?_
      refine r_if_le (tgt := 57) dX10_letOneSlip_37 rfl (fun c37 => ?_) (fun c37 => ?_)
      · refine r_lconst dX10_letOneSlip_57 ll_0 ?_
        refine r_lstore dX10_letOneSlip_58 (by decide) rfl ?_
        refine r_aload_n dX10_letOneSlip_60 rfl ?_
        refine r_getR dX10_letOneSlip_61 fkX10_88 gf10_13 (oO ho) (oR13 ho) ?_
        refine r_iload_n dX10_letOneSlip_64 rfl ?_
        refine r_lload dX10_letOneSlip_65 rfl ?_
        refine r_lload dX10_letOneSlip_67 rfl ?_
        refine r_laddE dX10_letOneSlip_69 (by first | exact od_wlI (by omega) (by omega) | rfl) ?_
        refine r_last dX10_letOneSlip_70 (by assumption) (by omega) ?_
        refine r_iincE dX10_letOneSlip_71 rfl (by decide) (by first | exact od_w0 (by omega) (by omega) | exact od_wI (by omega) (by omega) | rfl) rfl ?_
        refine r_goto (tgt := 14) dX10_letOneSlip_74 rfl ?_
        first
        | (rw [if_pos (by omega)] at hS
           refine ih _ _ _ _ ⟨by omega, by omega, hfr.up rfl, fun x h0 h1 => ?_, fun x h0 h1 => ?_⟩ (by omega)
           · rw [od_up_at, if_neg (by omega)]
             exact hr x h0 (by omega)
           · rw [od_up_at]
             by_cases cx : x = i
             · rw [if_pos cx, cx, hS]
             · rw [if_neg cx]
               exact hr2 x (by omega) h1)
        | (rw [if_neg (by omega)] at hS
           refine ih _ _ _ _ ⟨by omega, by omega, hfr.up rfl, fun x h0 h1 => ?_, fun x h0 h1 => ?_⟩ (by omega)
           · rw [od_up_at, if_neg (by omega)]
             exact hr x h0 (by omega)
           · rw [od_up_at]
             by_cases cx : x = i
             · rw [if_pos cx, cx, hS]
             · rw [if_neg cx]
               exact hr2 x (by omega) h1)
      · refine r_aload_n dX10_letOneSlip_40 rfl ?_
        refine r_getR dX10_letOneSlip_41 fkX10_88 gf10_13 (oO ho) (oR13 ho) ?_
        refine r_iload_n dX10_letOneSlip_44 rfl ?_
        refine r_iconst dX10_letOneSlip_45 li_1 ?_
        refine r_isubE dX10_letOneSlip_46 (by first | exact od_w0 (by omega) (by omega) | exact od_wI (by omega) (by omega) | rfl) ?_
        refine r_lald dX10_letOneSlip_47 (by assumption) (by omega) (by first | exact hFi (by omega) | exact hFm (by omega) | rfl) ?_
        refine r_lload_n dX10_letOneSlip_48 rfl ?_
        refine r_lmulE dX10_letOneSlip_49 (by first | exact od_wlI (by omega) (by omega) | rfl) ?_
        refine r_ldc2 dX10_letOneSlip_50 kcX10_339 lk_X10_339 ?_
        refine r_ldivE dX10_letOneSlip_53 (by decide) (by first | exact od_wlI (by omega) (by omega) | rfl) ?_
        refine r_goto (tgt := 58) dX10_letOneSlip_54 rfl ?_
        refine r_lstore dX10_letOneSlip_58 (by decide) rfl ?_
        refine r_aload_n dX10_letOneSlip_60 rfl ?_
        refine r_getR dX10_letOneSlip_61 fkX10_88 gf10_13 (oO ho) (oR13 ho) ?_
        refine r_iload_n dX10_letOneSlip_64 rfl ?_
        refine r_lload dX10_letOneSlip_65 rfl ?_
        refine r_lload dX10_letOneSlip_67 rfl ?_
        refine r_laddE dX10_letOneSlip_69 (by first | exact od_wlI (by omega) (by omega) | rfl) ?_
        refine r_last dX10_letOneSlip_70 (by assumption) (by omega) ?_
        refine r_iincE dX10_letOneSlip_71 rfl (by decide) (by first | exact od_w0 (by omega) (by omega) | exact od_wI (by omega) (by omega) | rfl) rfl ?_
        refine r_goto (tgt := 14) dX10_letOneSlip_74 rfl ?_
        first
        | (rw [if_pos (by omega)] at hS
           refine ih _ _ _ _ ⟨by omega, by omega, hfr.up rfl, fun x h0 h1 => ?_, fun x h0 h1 => ?_⟩ (by omega)
           · rw [od_up_at, if_neg (by omega)]
             exact hr x h0 (by omega)
           · rw [od_up_at]
             by_cases cx : x = i
             · rw [if_pos cx, cx, hS]
             · rw [if_neg cx]
               exact hr2 x (by omega) h1)
        | (rw [if_neg (by omega)] at hS
           refine ih _ _ _ _ ⟨by omega, by omega, hfr.up rfl, fun x h0 h1 => ?_, fun x h0 h1 => ?_⟩ (by omega)
           · rw [od_up_at, if_neg (by omega)]
             exact hr x h0 (by omega)
           · rw [od_up_at]
             by_cases cx : x = i
             · rw [if_pos cx, cx, hS]
             · rw [if_neg cx]
               exact hr2 x (by omega) h1)
set_option maxRecDepth 10000 in
theorem c_X10_letOneSlip {E : od_E} {g : od_G} {o : Int} (ho : OdAt E o) (s : Int) (h43 : g (o + 1 + 5) 1 = s) (j : Nat) (hs : 0 ≤ s ∧ s ≤ 10) (hr : ∀ x : Int, 0 ≤ x → x < 20 → g (o + 84) x = od_few s j x) : od_Cq 1 mX10_letOneSlip [(2, o)] E g (E, fun v g' => v = none ∧ od_fr (CX o) g g' ∧ ∀ x : Int, 0 ≤ x → x < 20 → g' (o + 84) x = od_few s (j + 1) x) := by
  have hs1 := oS1 ho
  obtain ⟨hk, r0, r1, r2, r3, r4, r5, r6, r7, a1, a2, a3, a4, a5, a6, a7, a8⟩ := oS1 ho
  refine od_cqI pnX10 rfl (Nat.le_of_ble_eq_true rfl) od_le.rf ?_
  show od_Rq 1 mX10_letOneSlip od_Z0 E (E, fun v g' => v = none ∧ od_fr (CX o) g g' ∧ ∀ x : Int, 0 ≤ x → x < 20 → g' (o + 84) x = od_few s (j + 1) x) 0 [some (2, o), none, none, none, none, none, none, none] [] E g
  refine r_aload_n dX10_letOneSlip_0 rfl ?_
  refine r_getR dX10_letOneSlip_1 fkX10_12 gf10_0 (oO ho) (oR0 ho) ?_
  refine r_getR dX10_letOneSlip_4 fkX10_174 gf6_4 (by assumption) (by assumption) ?_
  refine r_iconst dX10_letOneSlip_7 li_1 ?_
  refine r_iald dX10_letOneSlip_8 (by assumption) (by omega) (by exact h43) ?_
  refine r_i2l dX10_letOneSlip_9 ?_
  refine r_lstore_n dX10_letOneSlip_10 (by decide) rfl ?_
  refine r_bipush dX10_letOneSlip_11 lb_19 ?_
  refine r_istore_n dX10_letOneSlip_13 (by decide) rfl ?_
  exact lp_X10_slip ho s j hs _ _ _ _ _ ⟨by omega, by omega, od_fr.rf, fun x h0 h1 => hr x h0 (by omega), fun x h0 h1 => by omega⟩ (Nat.lt_succ_self _)
set_option maxRecDepth 10000 in
theorem lp_X10_fewA {E : od_E} {g : od_G} {Q : Option od_V → od_G → Prop} {o : Int} (ho : OdAt E o) (s k n : Int) (hx : ∀ gw : od_G, od_fr (CX o) g gw → (∀ x : Int, 0 ≤ x → x < 20 → gw (o + 84) x = od_few s 0 x) → od_Rq 3 mX10_few od_Z0 E (E, Q) 56 [some (2, o), some (0, k), some (0, n), some (0, 20), none, none] [] E gw) : ∀ (m : Nat) (i : Int) (gw : od_G), (0 ≤ i ∧ i ≤ 20 ∧ od_fr (CX o) g gw ∧ (∀ x : Int, 0 ≤ x → x < i → gw (o + 84) x = od_few s 0 x)) → ((20 - i).toNat) < m → od_Rq 3 mX10_few od_Z0 E (E, Q) 27 [some (2, o), some (0, k), some (0, n), some (0, i), none, none] [] E gw := by
  have hch := oCh ho
  intro m
  induction m with
  | zero => intro i gw hi hM; exact absurd hM (Nat.not_lt_zero _)
  | succ m ih =>
    intro i gw hi hM
    obtain ⟨hi0, hi1, hfr, hr⟩ := hi
    refine r_iload_n dX10_few_27 rfl ?_
    refine r_bipush dX10_few_28 lb_20 ?_
    refine r_icmp_ge (tgt := 56) dX10_few_30 rfl (fun c30 => ?_) (fun c30 => ?_)
    · have hi9 : i = 20 := by omega
      subst hi9
      exact hx gw hfr hr
    · refine r_aload_n dX10_few_33 rfl ?_
      refine r_getR dX10_few_34 fkX10_88 gf10_13 (oO ho) (oR13 ho) ?_
      refine r_iload_n dX10_few_37 rfl ?_
      refine r_iload_n dX10_few_38 rfl ?_
      refine r_if_ne (tgt := 48) dX10_few_39 rfl (fun c39 => ?_) (fun c39 => ?_)
      · refine r_lconst dX10_few_48 ll_0 ?_
        refine r_last dX10_few_49 (by assumption) (by omega) ?_
        refine r_iincE dX10_few_50 rfl (by decide) (by first | exact od_w0 (by omega) (by omega) | exact od_wI (by omega) (by omega) | rfl) rfl ?_
        refine r_goto (tgt := 27) dX10_few_53 rfl ?_
        refine ih _ _ ⟨by omega, by omega, hfr.up rfl, fun x h0 h1 => ?_⟩ (by omega)
        rw [od_up_at]
        by_cases cx : x = i
        · rw [if_pos cx, cx, od_few_0]
          first | rw [if_pos (by omega)] | rw [if_neg (by omega)]
        · rw [if_neg cx]
          exact hr x h0 (by omega)
      · refine r_ldc2 dX10_few_42 kcX10_306 lk_X10_306 ?_
        refine r_goto (tgt := 49) dX10_few_45 rfl ?_
        refine r_last dX10_few_49 (by assumption) (by omega) ?_
        refine r_iincE dX10_few_50 rfl (by decide) (by first | exact od_w0 (by omega) (by omega) | exact od_wI (by omega) (by omega) | rfl) rfl ?_
        refine r_goto (tgt := 27) dX10_few_53 rfl ?_
        refine ih _ _ ⟨by omega, by omega, hfr.up rfl, fun x h0 h1 => ?_⟩ (by omega)
        rw [od_up_at]
        by_cases cx : x = i
        · rw [if_pos cx, cx, od_few_0]
          first | rw [if_pos (by omega)] | rw [if_neg (by omega)]
        · rw [if_neg cx]
          exact hr x h0 (by omega)
set_option maxRecDepth 10000 in
theorem lp_X10_fewB {E : od_E} {g : od_G} {Q : Option od_V → od_G → Prop} {o : Int} (ho : OdAt E o) (s k n : Int) (hs : 0 ≤ s ∧ s ≤ 10) (h43 : g (o + 1 + 5) 1 = s) (hn : 0 ≤ n ∧ n ≤ 99) (hx : ∀ gw : od_G, od_fr (CX o) g gw → (∀ x : Int, 0 ≤ x → x < 20 → gw (o + 84) x = od_few s n.toNat x) → od_Rq 3 mX10_few od_Z0 E (E, Q) 73 [some (2, o), some (0, k), some (0, n), some (0, n), none, none] [] E gw) : ∀ (m : Nat) (j : Int) (gw : od_G), (0 ≤ j ∧ j ≤ n ∧ od_fr (CX o) g gw ∧ (∀ x : Int, 0 ≤ x → x < 20 → gw (o + 84) x = od_few s j.toNat x)) → ((n - j).toNat) < m → od_Rq 3 mX10_few od_Z0 E (E, Q) 58 [some (2, o), some (0, k), some (0, n), some (0, j), none, none] [] E gw := by
  have hch := oCh ho
  intro m
  induction m with
  | zero => intro j gw hi hM; exact absurd hM (Nat.not_lt_zero _)
  | succ m ih =>
    intro j gw hi hM
    obtain ⟨hi0, hi1, hfr, hr⟩ := hi
    refine r_iload_n dX10_few_58 rfl ?_
    refine r_iload_n dX10_few_59 rfl ?_
    refine r_icmp_ge (tgt := 73) dX10_few_60 rfl (fun c60 => ?_) (fun c60 => ?_)
    · have hj9 : j = n := by omega
      subst hj9
      exact hx gw hfr hr
    · refine r_aload_n dX10_few_63 rfl ?_
      refine r_callV0p dX10_few_64 cvX10_308 (oO ho) (c_X10_letOneSlip ho s (by rw [hfr _ _ (by unfold CX; omega)]; exact h43) j.toNat hs hr) (by decide) (Nat.le_of_ble_eq_true rfl) od_le.rf (fun r64 g64 h64 => ?_)
      obtain ⟨rfl, f64, k64⟩ := h64
      show od_Rq _ _ _ _ _ _ _ [] _ _
      refine r_iincE dX10_few_67 rfl (by decide) (by first | exact od_w0 (by omega) (by omega) | exact od_wI (by omega) (by omega) | rfl) rfl ?_
      refine r_goto (tgt := 58) dX10_few_70 rfl ?_
      exact ih _ _ ⟨by omega, by omega, hfr.tr f64, fun x h0 h1 => by rw [show (j + 1).toNat = j.toNat + 1 by omega]; exact k64 x h0 h1⟩ (by omega)
set_option maxRecDepth 10000 in
theorem lp_X10_fewD {E : od_E} {g : od_G} {Q : Option od_V → od_G → Prop} {o : Int} (ho : OdAt E o) (s k n : Int) (hs : 0 ≤ s ∧ s ≤ 10) (hk : 1 ≤ k ∧ k ≤ 20) (hr : ∀ x : Int, 0 ≤ x → x < 20 → g (o + 84) x = od_few s n.toNat x) (hq : Q (some (1, mFew s k n)) g) : ∀ (m : Nat) (i t : Int), (0 ≤ i ∧ i ≤ k ∧ t = od_fsm s n.toNat i.toNat) → ((k - i).toNat) < m → od_Rq 3 mX10_few od_Z0 E (E, Q) 78 [some (2, o), some (0, k), some (0, n), some (1, t), none, some (0, i)] [] E g := by
  have hch := oCh ho
  intro m
  induction m with
  | zero => intro i t hi hM; exact absurd hM (Nat.not_lt_zero _)
  | succ m ih =>
    intro i t hi hM
    obtain ⟨hi0, hi1, ht⟩ := hi
    have bt := od_fsm_b hs n.toNat i.toNat
    have bi := od_few_b hs n.toNat i
    have st := od_fsm_s s n.toNat hi0
    refine r_iload dX10_few_78 rfl ?_
    refine r_iload_n dX10_few_80 rfl ?_
    refine r_icmp_ge (tgt := 100) dX10_few_81 rfl (fun c81 => ?_) (fun c81 => ?_)
    · refine r_lload_n dX10_few_100 rfl ?_
      have hi9 : i = k := by omega
      subst hi9
      exact r_lretq dX10_few_101 rfl rfl (by rw [ht]; exact hq)
    · refine r_lload_n dX10_few_84 rfl ?_
      refine r_aload_n dX10_few_85 rfl ?_
      refine r_getR dX10_few_86 fkX10_88 gf10_13 (oO ho) (oR13 ho) ?_
      refine r_iload dX10_few_89 rfl ?_
      refine r_lald dX10_few_91 (by assumption) (by omega) (by exact hr i hi0 (by omega)) ?_
      refine r_laddE dX10_few_92 (by first | exact od_wlI (by omega) (by omega) | rfl) ?_
      refine r_lstore_n dX10_few_93 (by decide) rfl ?_
      refine r_iincE dX10_few_94 rfl (by decide) (by first | exact od_w0 (by omega) (by omega) | exact od_wI (by omega) (by omega) | rfl) rfl ?_
      refine r_goto (tgt := 78) dX10_few_97 rfl ?_
      exact ih _ _ ⟨by omega, by omega, by rw [st, ht]⟩ (by omega)
set_option maxRecDepth 10000 in
theorem c_X10_few {E : od_E} {g : od_G} {o : Int} (ho : OdAt E o) (h43 : 0 ≤ g (o + 1 + 5) 1 ∧ g (o + 1 + 5) 1 ≤ 10) (k n : Int) : od_Cf 3 mX10_few [(2, o), (0, k), (0, n)] E g (some (1, od_ite ((1 ≤ k ∧ k ≤ 20) ∧ 0 ≤ n ∧ n ≤ 99) (mFew (g (o + 1 + 5) 1) k n) (-1))) (CX o) := by
  refine od_cqI pnX10 rfl (Nat.le_of_ble_eq_true rfl) od_le.rf ?_
  show od_Rf 3 mX10_few od_Z0 E (some (1, od_ite ((1 ≤ k ∧ k ≤ 20) ∧ 0 ≤ n ∧ n ≤ 99) (mFew (g (o + 1 + 5) 1) k n) (-1))) (CX o) g 0 [some (2, o), some (0, k), some (0, n), none, none, none] [] E g
  refine r_iload_n dX10_few_0 rfl ?_
  refine r_iconst dX10_few_1 li_1 ?_
  refine r_icmp_lt (tgt := 21) dX10_few_2 rfl (fun c2 => ?_) (fun c2 => ?_)
  · refine r_ldc2 dX10_few_21 kcX10_304 lk_X10_304 ?_
    exact r_lretq dX10_few_24 rfl rfl ⟨by rw [od_ite_f (by omega)], od_fr.rf⟩
  · refine r_iload_n dX10_few_5 rfl ?_
    refine r_bipush dX10_few_6 lb_20 ?_
    refine r_icmp_gt (tgt := 21) dX10_few_8 rfl (fun c8 => ?_) (fun c8 => ?_)
    · refine r_ldc2 dX10_few_21 kcX10_304 lk_X10_304 ?_
      exact r_lretq dX10_few_24 rfl rfl ⟨by rw [od_ite_f (by omega)], od_fr.rf⟩
    · refine r_iload_n dX10_few_11 rfl ?_
      refine r_if_lt (tgt := 21) dX10_few_12 rfl (fun c12 => ?_) (fun c12 => ?_)
      · refine r_ldc2 dX10_few_21 kcX10_304 lk_X10_304 ?_
        exact r_lretq dX10_few_24 rfl rfl ⟨by rw [od_ite_f (by omega)], od_fr.rf⟩
      · refine r_iload_n dX10_few_15 rfl ?_
        refine r_bipush dX10_few_16 lb_99 ?_
        refine r_icmp_le (tgt := 25) dX10_few_18 rfl (fun c18 => ?_) (fun c18 => ?_)
        · refine r_iconst dX10_few_25 li_0 ?_
          refine r_istore_n dX10_few_26 (by decide) rfl ?_
          refine lp_X10_fewA (g := g) ho (g (o + 1 + 5) 1) k n (fun gx hgx hrx => ?_) _ _ _ ⟨by omega, by omega, od_fr.rf, fun x h0 h1 => by omega⟩ (Nat.lt_succ_self _)
          refine r_iconst dX10_few_56 li_0 ?_
          refine r_istore_n dX10_few_57 (by decide) rfl ?_
          refine lp_X10_fewB (g := g) ho (g (o + 1 + 5) 1) k n h43 rfl (by omega) (fun gy hgy hry => ?_) _ _ _ ⟨by omega, by omega, hgx, hrx⟩ (Nat.lt_succ_self _)
          refine r_lconst dX10_few_73 ll_0 ?_
          refine r_lstore_n dX10_few_74 (by decide) rfl ?_
          refine r_iconst dX10_few_75 li_0 ?_
          refine r_istore dX10_few_76 (by decide) rfl ?_
          exact lp_X10_fewD ho (g (o + 1 + 5) 1) k n h43 (by omega) hry ⟨by rw [od_ite_t (by omega)], hgy⟩ _ _ _ ⟨by omega, by omega, rfl⟩ (Nat.lt_succ_self _)
        · refine r_ldc2 dX10_few_21 kcX10_304 lk_X10_304 ?_
          exact r_lretq dX10_few_24 rfl rfl ⟨by rw [od_ite_f (by omega)], od_fr.rf⟩
set_option maxRecDepth 10000 in
theorem c_X10_draw {E : od_E} {g : od_G} (x : Int) (hx : 0 ≤ x ∧ x ≤ 1000003) : od_Ct 1 mX10_draw [(0, x)] E g (some (0, mDw x), E, g) := by
  refine od_ctI pnX10 rfl (Nat.le_of_ble_eq_true rfl) od_le.rf ?_
  show od_R _ _ _ _ _ 0 [some (0, x)] [] E g
  refine r_iload_n dX10_draw_0 rfl ?_
  refine r_sipush dX10_draw_1 ls_1103 ?_
  refine r_imulE dX10_draw_4 (by exact od_wI (by omega) (by omega)) ?_
  refine r_sipush dX10_draw_5 ls_12345 ?_
  refine r_iaddE dX10_draw_8 (by exact od_wI (by omega) (by omega)) ?_
  refine r_ldcw dX10_draw_9 kcX10_341 lk_X10_341 ?_
  refine r_irem dX10_draw_12 (by first | decide | omega) ?_
  exact r_iret dX10_draw_13 rfl (by unfold mDw; rw [Int.mul_comm x 1103])
def cFok (g : od_G) (o f : Int) : Prop := (0 ≤ f ∧ f + 4 ≤ g (o + 60) 1 ∧ g (o + 1) 8 < 6) ∧ cCanHold (g (o + 60 + 1) f) (g (o + 60 + 1) (f + 1)) (g (o + 60 + 1) (f + 2)) (g (o + 60 + 1) (f + 3))
noncomputable def cFour (g : od_G) (o f : Int) : od_G := (od_ip (cFok g o f) (0, cTake1 g (o + 1) (g (o + 60 + 1) f) (g (o + 60 + 1) (f + 1)) (g (o + 60 + 1) (f + 2)) (g (o + 60 + 1) (f + 3))) (0, g)).2
def ST1 (k : Int) : Int → Int → Prop := fun x _ => k ≤ x ∧ x ≤ k + 4
theorem cFour_fr (g : od_G) (o f : Int) : od_fr (ST1 (o + 1)) g (cFour g o f) := by
  unfold cFour
  by_cases c : cFok g o f
  · rw [od_ip_t c]
    unfold cTake1
    exact ((((od_fr.rf.up (by unfold ST1; omega)).up (by unfold ST1; omega)).up (by unfold ST1; omega)).up (by unfold ST1; omega)).up (by unfold ST1; omega)
  · rw [od_ip_f c]
    exact od_fr.rf
theorem cFour_8 {g : od_G} {o f : Int} (h : 0 ≤ g (o + 1) 8 ∧ g (o + 1) 8 ≤ 6) : (0 ≤ cFour g o f (o + 1) 8 ∧ cFour g o f (o + 1) 8 ≤ 6) ∧ g (o + 1) 8 ≤ cFour g o f (o + 1) 8 ∧ cFour g o f (o + 1) 8 ≤ g (o + 1) 8 + 1 := by
  unfold cFour
  by_cases c : cFok g o f
  · rw [od_ip_t c]
    have z := c.1.2.2
    show (0 ≤ cTake1 _ _ _ _ _ _ (o + 1) 8 ∧ cTake1 _ _ _ _ _ _ (o + 1) 8 ≤ 6) ∧ g (o + 1) 8 ≤ cTake1 _ _ _ _ _ _ (o + 1) 8 ∧ cTake1 _ _ _ _ _ _ (o + 1) 8 ≤ _
    unfold cTake1
    rw [od_up_i]
    omega
  · rw [od_ip_f c]
    show (0 ≤ g (o + 1) 8 ∧ g (o + 1) 8 ≤ 6) ∧ g (o + 1) 8 ≤ g (o + 1) 8 ∧ g (o + 1) 8 ≤ g (o + 1) 8 + 1
    omega
noncomputable def cRows (g : od_G) (o : Int) : Nat → od_G
  | 0 => g
  | n + 1 => cFour (cRows g o n) o (4 * (n : Int))
theorem cRows_s (g : od_G) (o : Int) {i : Int} (h : 0 ≤ i) : cRows g o (i + 1).toNat = cFour (cRows g o i.toNat) o (4 * i) := by
  rw [show (i + 1).toNat = i.toNat + 1 by omega]
  show cFour (cRows g o i.toNat) o (4 * ((i.toNat : Nat) : Int)) = _
  rw [show ((i.toNat : Nat) : Int) = i by omega]
noncomputable def cRowM (g : od_G) (o : Int) : Int × od_G := od_ip (g (o + 60) 1 = 0) (-6, cRef g o (-6)) (cRows g o ((g (o + 60) 1 + 3).tdiv 4).toNat (o + 1) 8 - g (o + 1) 8, cAcc (cClear (od_up (od_up (cRows g o ((g (o + 60) 1 + 3).tdiv 4).toNat) o 18 ((g (o + 60) 1 + 3).tdiv 4 - (cRows g o ((g (o + 60) 1 + 3).tdiv 4).toNat (o + 1) 8 - g (o + 1) 8))) (o + 60) 1 0) (o + 48)) o)
set_option maxRecDepth 10000 in
theorem c_X10_takeFour {E : od_E} {g : od_G} {o : Int} (ho : OdAt E o) (h8 : 0 ≤ g (o + 1) 8 ∧ g (o + 1) 8 ≤ 6) (hl : 0 ≤ g (o + 60) 1 ∧ g (o + 60) 1 ≤ 400) (f : Int) (hf : f ≤ 1000) : od_Ct 2 mX10_takeFour [(2, o), (0, f)] E g (none, E, cFour g o f) := by
  have hs1 := oS1 ho
  obtain ⟨hk, r0, r1, r2, r3, r4, r5, r6, r7, a1, a2, a3, a4, a5, a6, a7, a8⟩ := oS1 ho
  have ht1 := oTp ho
  obtain ⟨hkt, t0, t1⟩ := oTp ho
  refine od_ctI pnX10 rfl (Nat.le_of_ble_eq_true rfl) od_le.rf ?_
  show od_R _ _ _ _ _ 0 [some (2, o), some (0, f), none, none, none, none] [] E g
  refine r_iload_n dX10_takeFour_0 rfl ?_
  refine r_if_lt (tgt := 42) dX10_takeFour_1 rfl (fun c1 => ?_) (fun c1 => ?_)
  · exact r_vret dX10_takeFour_42 rfl (by unfold cFour; rw [od_ip_f (fun z => by have := z.1; omega)])
  · refine r_iload_n dX10_takeFour_4 rfl ?_
    refine r_iconst dX10_takeFour_5 li_4 ?_
    refine r_iaddE dX10_takeFour_6 (by exact od_wI (by omega) (by omega)) ?_
    refine r_aload_n dX10_takeFour_7 rfl ?_
    refine r_getR dX10_takeFour_8 fkX10_43 gf10_7 (oO ho) (oR7 ho) ?_
    refine r_getIj (j := 1) rfl dX10_takeFour_11 fkX10_177 gf8_1 (by assumption) rfl ?_
    refine r_icmp_gt (tgt := 42) dX10_takeFour_14 rfl (fun c14 => ?_) (fun c14 => ?_)
    · exact r_vret dX10_takeFour_42 rfl (by unfold cFour; rw [od_ip_f (fun z => by have := z.1; omega)])
    · refine r_aload_n dX10_takeFour_17 rfl ?_
      refine r_getR dX10_takeFour_18 fkX10_43 gf10_7 (oO ho) (oR7 ho) ?_
      refine r_getIj (j := 1) rfl dX10_takeFour_21 fkX10_177 gf8_1 (by assumption) rfl ?_
      refine r_sipush dX10_takeFour_24 ls_400 ?_
      refine r_icmp_gt (tgt := 42) dX10_takeFour_27 rfl (fun c27 => ?_) (fun c27 => ?_)
      · exact r_vret dX10_takeFour_42 rfl (by unfold cFour; rw [od_ip_f (fun z => by have := z.1; omega)])
      · refine r_aload_n dX10_takeFour_30 rfl ?_
        refine r_getR dX10_takeFour_31 fkX10_12 gf10_0 (oO ho) (oR0 ho) ?_
        refine r_getIj (j := 8) rfl dX10_takeFour_34 fkX10_117 gf6_8 (by assumption) rfl ?_
        refine r_bipush dX10_takeFour_37 lb_6 ?_
        refine r_icmp_lt (tgt := 43) dX10_takeFour_39 rfl (fun c39 => ?_) (fun c39 => ?_)
        · refine r_aload_n dX10_takeFour_43 rfl ?_
          refine r_getR dX10_takeFour_44 fkX10_43 gf10_7 (oO ho) (oR7 ho) ?_
          refine r_getR dX10_takeFour_47 fkX10_331 gf8_0 (by assumption) (by assumption) ?_
          refine r_iload_n dX10_takeFour_50 rfl ?_
          refine r_iald dX10_takeFour_51 (by assumption) (by omega) rfl ?_
          refine r_istore_n dX10_takeFour_52 (by decide) rfl ?_
          refine r_aload_n dX10_takeFour_53 rfl ?_
          refine r_getR dX10_takeFour_54 fkX10_43 gf10_7 (oO ho) (oR7 ho) ?_
          refine r_getR dX10_takeFour_57 fkX10_331 gf8_0 (by assumption) (by assumption) ?_
          refine r_iload_n dX10_takeFour_60 rfl ?_
          refine r_iconst dX10_takeFour_61 li_1 ?_
          refine r_iaddE dX10_takeFour_62 (by exact od_wI (by omega) (by omega)) ?_
          refine r_iald dX10_takeFour_63 (by assumption) (by omega) rfl ?_
          refine r_istore_n dX10_takeFour_64 (by decide) rfl ?_
          refine r_aload_n dX10_takeFour_65 rfl ?_
          refine r_getR dX10_takeFour_66 fkX10_43 gf10_7 (oO ho) (oR7 ho) ?_
          refine r_getR dX10_takeFour_69 fkX10_331 gf8_0 (by assumption) (by assumption) ?_
          refine r_iload_n dX10_takeFour_72 rfl ?_
          refine r_iconst dX10_takeFour_73 li_2 ?_
          refine r_iaddE dX10_takeFour_74 (by exact od_wI (by omega) (by omega)) ?_
          refine r_iald dX10_takeFour_75 (by assumption) (by omega) rfl ?_
          refine r_istore dX10_takeFour_76 (by decide) rfl ?_
          refine r_aload_n dX10_takeFour_78 rfl ?_
          refine r_getR dX10_takeFour_79 fkX10_43 gf10_7 (oO ho) (oR7 ho) ?_
          refine r_getR dX10_takeFour_82 fkX10_331 gf8_0 (by assumption) (by assumption) ?_
          refine r_iload_n dX10_takeFour_85 rfl ?_
          refine r_iconst dX10_takeFour_86 li_3 ?_
          refine r_iaddE dX10_takeFour_87 (by exact od_wI (by omega) (by omega)) ?_
          refine r_iald dX10_takeFour_88 (by assumption) (by omega) rfl ?_
          refine r_istore dX10_takeFour_89 (by decide) rfl ?_
          refine r_iload_n dX10_takeFour_91 rfl ?_
          refine r_iload_n dX10_takeFour_92 rfl ?_
          refine r_iload dX10_takeFour_93 rfl ?_
          refine r_iload dX10_takeFour_95 rfl ?_
          refine r_callS4b dX10_takeFour_97 csX10_109 (c_X6_canHold _ _ _ _) (by decide) (Nat.le_of_ble_eq_true rfl) od_le.rf (fun q97 => ?_) (fun q97 => ?_)
          · refine r_if_eq (tgt := 116) dX10_takeFour_100 rfl (fun h => absurd h (by decide)) (fun _ => ?_)
            refine r_aload_n dX10_takeFour_103 rfl ?_
            refine r_getR dX10_takeFour_104 fkX10_12 gf10_0 (oO ho) (oR0 ho) ?_
            refine r_iload_n dX10_takeFour_107 rfl ?_
            refine r_iload_n dX10_takeFour_108 rfl ?_
            refine r_iload dX10_takeFour_109 rfl ?_
            refine r_iload dX10_takeFour_111 rfl ?_
            refine r_callV4v dX10_takeFour_113 cvX10_120 (by assumption) (c_X6_take (by assumption) _ _ _ _ (by omega) (by omega)) (by decide) (Nat.le_of_ble_eq_true rfl) od_le.rf ?_
            first
            | (have zc : cCanHold (g (o + 60 + 1) f) (g (o + 60 + 1) (f + 1)) (g (o + 60 + 1) (f + 2)) (g (o + 60 + 1) (f + 3)) := by assumption
               exact r_vret dX10_takeFour_116 rfl (by unfold cFour; rw [od_ip_t ⟨by omega, zc⟩]))
            | exact r_vret dX10_takeFour_116 rfl (by unfold cFour; rw [od_ip_f (fun z => absurd z.2 (by assumption))])
          · refine r_if_eq (tgt := 116) dX10_takeFour_100 rfl (fun _ => ?_) (fun h => absurd h (by decide))
            first
            | (have zc : cCanHold (g (o + 60 + 1) f) (g (o + 60 + 1) (f + 1)) (g (o + 60 + 1) (f + 2)) (g (o + 60 + 1) (f + 3)) := by assumption
               exact r_vret dX10_takeFour_116 rfl (by unfold cFour; rw [od_ip_t ⟨by omega, zc⟩]))
            | exact r_vret dX10_takeFour_116 rfl (by unfold cFour; rw [od_ip_f (fun z => absurd z.2 (by assumption))])
        · exact r_vret dX10_takeFour_42 rfl (by unfold cFour; rw [od_ip_f (fun z => by have := z.1; omega)])
set_option maxRecDepth 10000 in
theorem lp_X10_row {E : od_E} {g : od_G} {Q : Option od_V → od_G → Prop} {o : Int} (ho : OdAt E o) (hl : 0 ≤ g (o + 60) 1 ∧ g (o + 60) 1 ≤ 400) (b0 n : Int) (hn : n ≤ 101) (hx : (0 ≤ cRows g o n.toNat (o + 1) 8 ∧ cRows g o n.toNat (o + 1) 8 ≤ 6) → od_Rq 3 mX10_row od_Z0 E (E, Q) 57 [some (2, o), some (0, b0), some (0, n), some (0, n)] [] E (cRows g o n.toNat)) : ∀ (m : Nat) (i : Int) (gw : od_G), (0 ≤ i ∧ i ≤ n ∧ gw = cRows g o i.toNat ∧ (0 ≤ gw (o + 1) 8 ∧ gw (o + 1) 8 ≤ 6) ∧ gw (o + 60) 1 = g (o + 60) 1) → ((n - i).toNat) < m → od_Rq 3 mX10_row od_Z0 E (E, Q) 39 [some (2, o), some (0, b0), some (0, n), some (0, i)] [] E gw := by
  intro m
  induction m with
  | zero => intro i gw hi hM; exact absurd hM (Nat.not_lt_zero _)
  | succ m ih =>
    intro i gw hi hM
    obtain ⟨hi0, hi1, hgw, h8, h60⟩ := hi
    refine r_iload_n dX10_row_39 rfl ?_
    refine r_iload_n dX10_row_40 rfl ?_
    refine r_icmp_ge (tgt := 57) dX10_row_41 rfl (fun c41 => ?_) (fun c41 => ?_)
    · have hi9 : i = n := by omega
      subst hi9
      rw [hgw] at h8 ⊢
      exact hx h8
    · refine r_aload_n dX10_row_44 rfl ?_
      refine r_iconst dX10_row_45 li_4 ?_
      refine r_iload_n dX10_row_46 rfl ?_
      refine r_imulE dX10_row_47 (by first | exact od_wI (by omega) (by omega) | rfl) ?_
      refine r_callV1v dX10_row_48 cvX10_184 (oO ho) (c_X10_takeFour ho h8 (by rw [h60]; exact hl) _ (by omega)) (by decide) (Nat.le_of_ble_eq_true rfl) od_le.rf ?_
      refine r_iincE dX10_row_51 rfl (by decide) (by first | exact od_wI (by omega) (by omega) | rfl) rfl ?_
      refine r_goto (tgt := 39) dX10_row_54 rfl ?_
      have z8 := cFour_8 (f := 4 * i) h8
      refine ih _ _ ⟨by omega, by omega, ?_, z8.1, ?_⟩ (by omega)
      · rw [cRows_s g o hi0, ← hgw]
      · rw [cFour_fr gw o (4 * i) _ _ (by unfold ST1; omega), h60]
set_option maxRecDepth 10000 in
theorem c_X10_row {E : od_E} {g : od_G} {o : Int} (ho : OdAt E o) (h8 : 0 ≤ g (o + 1) 8 ∧ g (o + 1) 8 ≤ 6) (hl : 0 ≤ g (o + 60) 1 ∧ g (o + 60) 1 ≤ 400) : od_Ct 3 mX10_row [(2, o)] E g (some (0, (cRowM g o).1), E, (cRowM g o).2) := by
  have hs1 := oS1 ho
  obtain ⟨hk, r0, r1, r2, r3, r4, r5, r6, r7, a1, a2, a3, a4, a5, a6, a7, a8⟩ := oS1 ho
  have ht1 := oTp ho
  obtain ⟨hkt, t0, t1⟩ := oTp ho
  have hp1 := oP1 ho
  obtain ⟨hkp, p0, p1, p2, p3, p4, d1, d2, d3, d4, d5⟩ := oP1 ho
  refine od_ctI pnX10 rfl (Nat.le_of_ble_eq_true rfl) od_le.rf ?_
  show od_R _ _ _ _ _ 0 [some (2, o), none, none, none] [] E g
  refine r_aload_n dX10_row_0 rfl ?_
  refine r_getR dX10_row_1 fkX10_43 gf10_7 (oO ho) (oR7 ho) ?_
  refine r_getIj (j := 1) rfl dX10_row_4 fkX10_177 gf8_1 (by assumption) (by first | exact od_upn (by omega) | rfl) ?_
  refine r_if_ne (tgt := 17) dX10_row_7 rfl (fun c7 => ?_) (fun c7 => ?_)
  · refine r_aload_n dX10_row_17 rfl ?_
    refine r_getR dX10_row_18 fkX10_12 gf10_0 (oO ho) (oR0 ho) ?_
    refine r_getIj (j := 8) rfl dX10_row_21 fkX10_117 gf6_8 (by assumption) (by first | exact od_upn (by omega) | rfl) ?_
    refine r_istore_n dX10_row_24 (by decide) rfl ?_
    refine r_aload_n dX10_row_25 rfl ?_
    refine r_getR dX10_row_26 fkX10_43 gf10_7 (oO ho) (oR7 ho) ?_
    refine r_getIj (j := 1) rfl dX10_row_29 fkX10_177 gf8_1 (by assumption) (by first | exact od_upn (by omega) | rfl) ?_
    refine r_iconst dX10_row_32 li_3 ?_
    refine r_iaddE dX10_row_33 (by first | exact od_wI (by omega) (by omega) | rfl) ?_
    refine r_iconst dX10_row_34 li_4 ?_
    refine r_idiv dX10_row_35 (by first | decide | omega) ?_
    have hdv : 0 ≤ (g (o + 60) 1 + 3).tdiv 4 ∧ (g (o + 60) 1 + 3).tdiv 4 ≤ 101 := by
      rw [Int.tdiv_eq_ediv_of_nonneg (by omega)]
      omega
    rw [od_wI (x := (g (o + 60) 1 + 3).tdiv 4) (by omega) (by omega)]
    refine r_istore_n dX10_row_36 (by decide) rfl ?_
    refine r_iconst dX10_row_37 li_0 ?_
    refine r_istore_n dX10_row_38 (by decide) rfl ?_
    refine lp_X10_row (g := g) ho hl _ ((g (o + 60) 1 + 3).tdiv 4) (by omega) (fun z8 => ?_) _ _ _ ⟨by omega, by omega, rfl, h8, rfl⟩ (Nat.lt_succ_self _)
    refine r_aload_n dX10_row_57 rfl ?_
    refine r_getR dX10_row_58 fkX10_12 gf10_0 (oO ho) (oR0 ho) ?_
    refine r_getIj (j := 8) rfl dX10_row_61 fkX10_117 gf6_8 (by assumption) (by first | exact od_upn (by omega) | rfl) ?_
    refine r_iload_n dX10_row_64 rfl ?_
    refine r_isubE dX10_row_65 (by first | exact od_wI (by omega) (by omega) | rfl) ?_
    refine r_istore_n dX10_row_66 (by decide) rfl ?_
    refine r_aload_n dX10_row_67 rfl ?_
    refine r_iload_n dX10_row_68 rfl ?_
    refine r_iload_n dX10_row_69 rfl ?_
    refine r_isubE dX10_row_70 (by first | exact od_wI (by omega) (by omega) | rfl) ?_
    refine r_putIj (j := 18) rfl dX10_row_71 fkX10_106 gf10_18 pf10_18 (oO ho) ?_
    refine r_aload_n dX10_row_74 rfl ?_
    refine r_getR dX10_row_75 fkX10_43 gf10_7 (oO ho) (oR7 ho) ?_
    refine r_iconst dX10_row_78 li_0 ?_
    refine r_putIj (j := 1) rfl dX10_row_79 fkX10_177 gf8_1 pf8_1 (by assumption) ?_
    refine r_aload_n dX10_row_82 rfl ?_
    refine r_getR dX10_row_83 fkX10_33 gf10_5 (oO ho) (oR5 ho) ?_
    refine r_callV0v dX10_row_86 cvX10_124 (by assumption) (c_X2_clear (by assumption)) (by decide) (Nat.le_of_ble_eq_true rfl) od_le.rf ?_
    refine r_aload_n dX10_row_89 rfl ?_
    refine r_iload_n dX10_row_90 rfl ?_
    refine r_callV1i dX10_row_91 cvX10_127 (oO ho) (c_X10_accept ho _) (by decide) (Nat.le_of_ble_eq_true rfl) od_le.rf ?_
    exact r_iretq dX10_row_94 rfl rfl ⟨by unfold cRowM; rw [od_ip_f (by assumption)], by unfold cRowM; rw [od_ip_f (by assumption)]⟩
  · refine r_aload_n dX10_row_10 rfl ?_
    refine r_bipush dX10_row_11 lb_m6 ?_
    refine r_callV1i dX10_row_13 cvX10_113 (oO ho) (c_X10_refuse ho _ (by omega)) (by decide) (Nat.le_of_ble_eq_true rfl) od_le.rf ?_
    exact r_iret dX10_row_16 rfl (by unfold cRowM; rw [od_ip_t (by assumption)])
