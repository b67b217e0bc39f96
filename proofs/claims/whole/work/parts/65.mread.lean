/-! the reference reads a text -/
theorem od_nzb (P : Prop) : narrow .boolean (.int (Int32.ofInt (od_b P))) = .int (Int32.ofInt (od_b P)) := by
  rcases od_b_01 P with h | h <;> rw [h] <;> rfl
/-- the reference's tape -/
def TpM (g : od_G) (M : Int) (B : Int → Int) (n : Int) : Prop := (∀ j : Int, 0 ≤ j → j < 120 → g (M + 6) j = od_mw j) ∧ g M 13 = n ∧ (0 ≤ n ∧ n ≤ 400) ∧ ∀ j : Int, 0 ≤ j → j < n → TB (g (M + 7) j) (B j)
def XD (M : Int) : Int → Int → Prop := fun x y => (x = M ∧ (y = 13 ∨ y = 14 ∨ (18 ≤ y ∧ y ≤ 21))) ∨ (M + 9 ≤ x ∧ x ≤ M + 11)
noncomputable def pG (c v pl : Int → Int) (lw : Bool) (f : Nat) (s : pS) : pS := if s.2.2 = -1 ∧ c s.1 = 159 then pTxt c v pl lw f (pNx s) else s
theorem pTxt_G (c v pl : Int → Int) (lw : Bool) (f : Nat) (s : pS) : pTxt c v pl lw (f + 1) s = pG c v pl lw f (pCl c v pl lw s).1 := rfl
theorem MFl.fr {X : Int → Int → Prop} {g g' : od_G} {M : Int} {lw : Bool} (h : MFl g M lw) (f : od_fr X g g') (hx : ¬ X M 8 ∧ ¬ X M 9 ∧ ¬ X M 10) : MFl g' M lw := by
  unfold MFl
  rw [f M 8 hx.1, f M 9 hx.2.1, f M 10 hx.2.2]
  exact h
set_option maxRecDepth 10000 in
theorem sg_X11_rd {E : od_E} {g gw : od_G} {M : Int} (hm : MoAt E M) {B : Int → Int} {n : Int} (hT : TpM g M B n) {lw : Bool} (hf : MFl g M lw) {N : Int} (hN : ∀ i : Int, 0 ≤ i → (i < N ↔ tQ B n (tpl B n i) ≠ 0)) {s : pS} (hk : TkOk gw M (tC B n) (tV B n) (tpl B n) N) (hs : MSt gw M N s) (hfr : od_fr (XD M) g gw) (h13 : gw M 13 = 0) (hFs : (pTxt (tC B n) (tV B n) (tpl B n) lw 12 (0, 0, -1)) = s) (x : Int) : od_Rq 37 mX11_reads od_Z0 E (E, fun v g' => ∃ N : Int, v = some (0, od_b ((pAll (tC B n) (tV B n) (tpl B n) lw N).2.2 = -1)) ∧ od_fr (XD M) g g' ∧ g' M 13 = 0 ∧ g' M 14 = (pAll (tC B n) (tV B n) (tpl B n) lw N).2.2 ∧ (∀ i : Int, 0 ≤ i → (i < N ↔ tQ B n (tpl B n i) ≠ 0)) ∧ TkOk g' M (tC B n) (tV B n) (tpl B n) N) 73 [some (2, M), some (0, x)] [] E gw := by
  refine r_aload_n dX11_reads_73 rfl ?_
  refine r_callV0b dX11_reads_74 cvX11_173 (mo_o hm) (c_X11_fine hm) (by decide) (Nat.le_of_ble_eq_true rfl) od_le.rf (fun q74 => ?_) (fun q74 => ?_)
  · refine r_if_eq (tgt := 95) dX11_reads_77 rfl (fun h => absurd h (by decide)) (fun _ => ?_)
    refine r_aload_n dX11_reads_80 rfl ?_
    refine r_getIj (j := 19) rfl dX11_reads_81 fkX11_177 gf11_19 (mo_o hm) (by (repeat (first | rewrite [od_upn (by omega)] | rewrite [od_up_at, if_pos (by omega)] | rewrite [od_up_at, if_neg (by omega)])); rfl) ?_
    refine r_aload_n dX11_reads_84 rfl ?_
    refine r_getIj (j := 18) rfl dX11_reads_85 fkX11_157 gf11_18 (mo_o hm) (by (repeat (first | rewrite [od_upn (by omega)] | rewrite [od_up_at, if_pos (by omega)] | rewrite [od_up_at, if_neg (by omega)])); rfl) ?_
    refine r_icmp_ge (tgt := 95) dX11_reads_88 rfl (fun c88 => ?_) (fun c88 => ?_)
    · have hb : s.2.2 = -1 := by have := hs.bad; unfold mFine at q74; omega
      have hq1 := hs.fine hb
      have hX : (pAll (tC B n) (tV B n) (tpl B n) lw N) = s := by
        unfold pAll
        rw [hFs, if_neg (by have := hk.1; omega)]
      have hsX : MSt gw M N s := hs
      have hfX : od_fr (XD M) g gw := hfr
      have hkX := hk
      refine r_aload_n dX11_reads_95 rfl ?_
      refine r_aload_n dX11_reads_96 rfl ?_
      refine r_getIj (j := 21) rfl dX11_reads_97 fkX11_170 gf11_21 (mo_o hm) (by (repeat (first | rewrite [od_upn (by omega)] | rewrite [od_up_at, if_pos (by omega)] | rewrite [od_up_at, if_neg (by omega)])); rfl) ?_
      refine r_putIj (j := 14) rfl dX11_reads_100 fkX11_51 gf11_14 pf11_14 (mo_o hm) ?_
      refine r_aload_n dX11_reads_103 rfl ?_
      refine r_callV0i dX11_reads_104 cvX11_173 (mo_o hm) (c_X11_fine hm) (by decide) (Nat.le_of_ble_eq_true rfl) od_le.rf ?_
      refine r_zretq dX11_reads_107 rfl (od_nzb _) rfl ⟨N, ?_, hfX.up (by unfold XD; omega), ?_, ?_, hN, hkX.fr (X := fun x y => x = M ∧ y = 14) (od_fr.rf.up ⟨rfl, rfl⟩) (by omega) (fun y => by omega)⟩
      · rw [hX]
        have e : mFine (od_up (gw) M 14 ((gw) M 21)) M ↔ (s).2.2 = -1 := by
          unfold mFine
          rw [od_up_at, if_neg (by omega), hsX.bad]
        rw [od_b_iff e]
      · rw [od_up_at, if_neg (by omega)]
        exact h13
      · rw [od_up_at, if_pos rfl, hX, hsX.bad]
    · refine r_aload_n dX11_reads_91 rfl ?_
      refine r_callV0v dX11_reads_92 cvX11_183 (mo_o hm) (c_X11_faults hm (by have := hs.1; omega)) (by decide) (Nat.le_of_ble_eq_true rfl) od_le.rf ?_
      have hb : s.2.2 = -1 := by have := hs.bad; unfold mFine at q74; omega
      have hq1 := hs.fine hb
      have hX : (pAll (tC B n) (tV B n) (tpl B n) lw N) = pF (tpl B n) s := by
        unfold pAll
        rw [hFs, if_pos (by have := hk.1; omega)]
      have qf := hs.flt hk
      have hsX := qf.1
      have hfX : od_fr (XD M) g (mFaults gw M) := hfr.tr (qf.2.mo (fun x y z => by unfold XT at z; unfold XD; omega))
      have hkX := hk.xt qf.2
      refine r_aload_n dX11_reads_95 rfl ?_
      refine r_aload_n dX11_reads_96 rfl ?_
      refine r_getIj (j := 21) rfl dX11_reads_97 fkX11_170 gf11_21 (mo_o hm) (by (repeat (first | rewrite [od_upn (by omega)] | rewrite [od_up_at, if_pos (by omega)] | rewrite [od_up_at, if_neg (by omega)])); rfl) ?_
      refine r_putIj (j := 14) rfl dX11_reads_100 fkX11_51 gf11_14 pf11_14 (mo_o hm) ?_
      refine r_aload_n dX11_reads_103 rfl ?_
      refine r_callV0i dX11_reads_104 cvX11_173 (mo_o hm) (c_X11_fine hm) (by decide) (Nat.le_of_ble_eq_true rfl) od_le.rf ?_
      refine r_zretq dX11_reads_107 rfl (od_nzb _) rfl ⟨N, ?_, hfX.up (by unfold XD; omega), ?_, ?_, hN, hkX.fr (X := fun x y => x = M ∧ y = 14) (od_fr.rf.up ⟨rfl, rfl⟩) (by omega) (fun y => by omega)⟩
      · rw [hX]
        have e : mFine (od_up (mFaults gw M) M 14 ((mFaults gw M) M 21)) M ↔ (pF (tpl B n) s).2.2 = -1 := by
          unfold mFine
          rw [od_up_at, if_neg (by omega), hsX.bad]
        rw [od_b_iff e]
      · rw [od_up_at, if_neg (by omega)]
        exact (qf.2 M 13 (by unfold XT; omega)).trans h13
      · rw [od_up_at, if_pos rfl, hX, hsX.bad]
  · refine r_if_eq (tgt := 95) dX11_reads_77 rfl (fun _ => ?_) (fun h => absurd h (by decide))
    have hX : (pAll (tC B n) (tV B n) (tpl B n) lw N) = s := by
      unfold pAll
      have hnb : s.2.2 ≠ -1 := by have := hs.bad; unfold mFine at q74; omega
      rw [hFs]
      split
      · exact pF_bad hnb
      · rfl
    have hsX : MSt gw M N s := hs
    have hfX : od_fr (XD M) g gw := hfr
    have hkX := hk
    refine r_aload_n dX11_reads_95 rfl ?_
    refine r_aload_n dX11_reads_96 rfl ?_
    refine r_getIj (j := 21) rfl dX11_reads_97 fkX11_170 gf11_21 (mo_o hm) (by (repeat (first | rewrite [od_upn (by omega)] | rewrite [od_up_at, if_pos (by omega)] | rewrite [od_up_at, if_neg (by omega)])); rfl) ?_
    refine r_putIj (j := 14) rfl dX11_reads_100 fkX11_51 gf11_14 pf11_14 (mo_o hm) ?_
    refine r_aload_n dX11_reads_103 rfl ?_
    refine r_callV0i dX11_reads_104 cvX11_173 (mo_o hm) (c_X11_fine hm) (by decide) (Nat.le_of_ble_eq_true rfl) od_le.rf ?_
    refine r_zretq dX11_reads_107 rfl (od_nzb _) rfl ⟨N, ?_, hfX.up (by unfold XD; omega), ?_, ?_, hN, hkX.fr (X := fun x y => x = M ∧ y = 14) (od_fr.rf.up ⟨rfl, rfl⟩) (by omega) (fun y => by omega)⟩
    · rw [hX]
      have e : mFine (od_up (gw) M 14 ((gw) M 21)) M ↔ (s).2.2 = -1 := by
        unfold mFine
        rw [od_up_at, if_neg (by omega), hsX.bad]
      rw [od_b_iff e]
    · rw [od_up_at, if_neg (by omega)]
      exact h13
    · rw [od_up_at, if_pos rfl, hX, hsX.bad]
set_option maxRecDepth 10000 in
theorem lp_X11_rds {E : od_E} {g : od_G} {M : Int} (hm : MoAt E M) {B : Int → Int} {n : Int} (hT : TpM g M B n) {lw : Bool} (hf : MFl g M lw) {N : Int} (hN : ∀ i : Int, 0 ≤ i → (i < N ↔ tQ B n (tpl B n i) ≠ 0)) : ∀ (m : Nat) (nn : Int) (s : pS) (gw : od_G), (1 ≤ nn ∧ nn ≤ 13 ∧ TkOk gw M (tC B n) (tV B n) (tpl B n) N ∧ MSt gw M N s ∧ od_fr (XD M) g gw ∧ gw M 13 = 0 ∧ MFl gw M lw ∧ ((nn ≤ 12 ∧ pG (tC B n) (tV B n) (tpl B n) lw (12 - nn).toNat s = (pTxt (tC B n) (tV B n) (tpl B n) lw 12 (0, 0, -1))) ∨ (s.2.2 ≠ -1 ∧ (pTxt (tC B n) (tV B n) (tpl B n) lw 12 (0, 0, -1)) = s))) → ((13 - nn).toNat) < m → od_Rq 37 mX11_reads od_Z0 E (E, fun v g' => ∃ N : Int, v = some (0, od_b ((pAll (tC B n) (tV B n) (tpl B n) lw N).2.2 = -1)) ∧ od_fr (XD M) g g' ∧ g' M 13 = 0 ∧ g' M 14 = (pAll (tC B n) (tV B n) (tpl B n) lw N).2.2 ∧ (∀ i : Int, 0 ≤ i → (i < N ↔ tQ B n (tpl B n i) ≠ 0)) ∧ TkOk g' M (tC B n) (tV B n) (tpl B n) N) 34 [some (2, M), some (0, nn)] [] E gw := by
  intro m
  induction m with
  | zero => intro nn s gw hi hM; exact absurd hM (Nat.not_lt_zero _)
  | succ m ih =>
    intro nn s gw hi hM
    obtain ⟨hi0, hi1, hkw, hsw, hfr, h13, hfw, hcase⟩ := hi
    refine r_aload_n dX11_reads_34 rfl ?_
    refine r_bipush dX11_reads_35 lb_59 ?_
    refine r_callS1i dX11_reads_37 csX11_222 (c_X11_sign _ (by omega)) (by decide) (Nat.le_of_ble_eq_true rfl) od_le.rf ?_
    refine r_callV1p dX11_reads_40 cvX11_180 (mo_o hm) (c_X11_takesS hm hkw hsw _ (by omega)) (by decide) (Nat.le_of_ble_eq_true rfl) od_le.rf (fun r40 g40 h40 => ?_)
    rcases h40 with ⟨rfl, h40⟩ | ⟨rfl, h40⟩
    · show od_Rq _ _ _ _ _ _ _ ((0, 1) :: _) _ _
      skip
      refine r_if_eq (tgt := 73) dX11_reads_43 rfl (fun h => absurd h (by decide)) (fun _ => ?_)
      have h159 : s.2.2 = -1 ∧ tC B n s.1 = 159 := ⟨h40.1.1, by have := h40.1.2; omega⟩
      obtain ⟨hn12, hgn0⟩ : nn ≤ 12 ∧ pG (tC B n) (tV B n) (tpl B n) lw (12 - nn).toNat s = (pTxt (tC B n) (tV B n) (tpl B n) lw 12 (0, 0, -1)) := by
        rcases hcase with h | h
        · exact h
        · exact absurd h159.1 h.1
      have hgn : True → pG (tC B n) (tV B n) (tpl B n) lw (12 - nn).toNat s = (pTxt (tC B n) (tV B n) (tpl B n) lw 12 (0, 0, -1)) := fun _ => hgn0
      have hgn : (0 : Int) ≤ 0 → pG (tC B n) (tV B n) (tpl B n) lw (12 - nn).toNat s = (pTxt (tC B n) (tV B n) (tpl B n) lw 12 (0, 0, -1)) := fun _ => hgn0
      have hk40 := hkw.xt h40.2.1
      have hf40 := hfw.xt h40.2.1
      refine r_iload_n dX11_reads_46 rfl ?_
      refine r_bipush dX11_reads_47 lb_12 ?_
      refine r_icmp_ne (tgt := 56) dX11_reads_49 rfl (fun c49 => ?_) (fun c49 => ?_)
      · have h40x := h40.2.2.fine h40.1.1
        refine r_aload_n dX11_reads_56 rfl ?_
        refine r_callV0i dX11_reads_57 cvX11_173 (mo_o hm) (c_X11_fineT hm h40x.2.2.2.2) (by decide) (Nat.le_of_ble_eq_true rfl) od_le.rf ?_
        refine r_if_eq (tgt := 67) dX11_reads_60 rfl (fun h => absurd h (by decide)) (fun _ => ?_)
        refine r_aload_n dX11_reads_63 rfl ?_
        refine r_callV0p dX11_reads_64 cvX11_244 (mo_o hm) (c_X11_readOne hm hk40 h40.2.2 hf40) (by decide) (Nat.le_of_ble_eq_true rfl) od_le.rf (fun r64 g64 h64 => ?_)
        obtain ⟨rfl, hq64⟩ := h64
        show od_Rq _ _ _ _ _ _ _ [] _ _
        refine r_iincE dX11_reads_67 rfl (by decide) (by first | exact od_w0 (by omega) (by omega) | exact od_wI (by omega) (by omega) | rfl) rfl ?_
        refine r_goto (tgt := 34) dX11_reads_70 rfl ?_
        refine ih _ _ _ ⟨by omega, by omega, hkw.xt (h40.2.1.tr hq64.1), hq64.2.1, hfr.tr ((h40.2.1.tr hq64.1).mo (fun x y z => by unfold XT at z; unfold XD; omega)), ((h40.2.1.tr hq64.1) M 13 (by unfold XT; omega)).trans h13, hfw.xt (h40.2.1.tr hq64.1), Or.inl ⟨by omega, ?_⟩⟩ (by omega)
        have hG : pG (tC B n) (tV B n) (tpl B n) lw (12 - nn).toNat s = (pTxt (tC B n) (tV B n) (tpl B n) lw 12 (0, 0, -1)) := hgn (by omega)
        rw [← hG]
        have e1 : pG (tC B n) (tV B n) (tpl B n) lw (12 - nn).toNat s = pTxt (tC B n) (tV B n) (tpl B n) lw (12 - nn).toNat (pNx s) := if_pos h159
        rw [e1, show (12 - nn).toNat = (12 - (nn + 1)).toNat + 1 by omega, pTxt_G]
      · refine r_aload_n dX11_reads_52 rfl ?_
        refine r_callV0v dX11_reads_53 cvX11_183 (mo_o hm) (c_X11_faults hm (by have := h40.2.2.1; omega)) (by decide) (Nat.le_of_ble_eq_true rfl) od_le.rf ?_
        have qf := h40.2.2.flt hk40
        have nb : (pF (tpl B n) (pNx s)).2.2 ≠ -1 := pF_nb (hkw.2.2.2.2 _)
        refine r_aload_n dX11_reads_56 rfl ?_
        refine r_callV0i dX11_reads_57 cvX11_173 (mo_o hm) (c_X11_fineF hm (by rw [qf.1.bad]; exact nb)) (by decide) (Nat.le_of_ble_eq_true rfl) od_le.rf ?_
        refine r_if_eq (tgt := 67) dX11_reads_60 rfl (fun _ => ?_) (fun h => absurd h (by decide))
        refine r_iincE dX11_reads_67 rfl (by decide) (by first | exact od_w0 (by omega) (by omega) | exact od_wI (by omega) (by omega) | rfl) rfl ?_
        refine r_goto (tgt := 34) dX11_reads_70 rfl ?_
        refine ih _ _ _ ⟨by omega, by omega, hk40.xt qf.2, qf.1, (hfr.tr (h40.2.1.mo (fun x y z => by unfold XT at z; unfold XD; omega))).tr (qf.2.mo (fun x y z => by unfold XT at z; unfold XD; omega)), (qf.2 M 13 (by unfold XT; omega)).trans ((h40.2.1 M 13 (by unfold XT; omega)).trans h13), hf40.xt qf.2, Or.inr ⟨nb, ?_⟩⟩ (by omega)
        have hG : pG (tC B n) (tV B n) (tpl B n) lw (12 - nn).toNat s = (pTxt (tC B n) (tV B n) (tpl B n) lw 12 (0, 0, -1)) := hgn (by omega)
        rw [← hG]
        have e1 : pG (tC B n) (tV B n) (tpl B n) lw (12 - nn).toNat s = pTxt (tC B n) (tV B n) (tpl B n) lw (12 - nn).toNat (pNx s) := if_pos h159
        rw [e1, show (12 - nn).toNat = 0 by omega]
        rfl
    · show od_Rq _ _ _ _ _ _ _ ((0, 0) :: _) _ _
      skip
      refine r_if_eq (tgt := 73) dX11_reads_43 rfl (fun _ => ?_) (fun h => absurd h (by decide))
      obtain ⟨n40, rfl⟩ := h40
      refine sg_X11_rd hm hT hf hN hkw hsw hfr h13 ?_ _
      rcases hcase with h | h
      · rw [← h.2]
        exact if_neg (fun z => n40 ⟨z.1, by have := z.2; omega⟩)
      · exact h.2
set_option maxRecDepth 10000 in
theorem c_X11_reads {E : od_E} {g : od_G} {M : Int} (hm : MoAt E M) {B : Int → Int} {n : Int} (hT : TpM g M B n) {lw : Bool} (hf : MFl g M lw) : od_Cq (37) mX11_reads [(2, M)] E g (E, fun v g' => ∃ N : Int, v = some (0, od_b ((pAll (tC B n) (tV B n) (tpl B n) lw N).2.2 = -1)) ∧ od_fr (XD M) g g' ∧ g' M 13 = 0 ∧ g' M 14 = (pAll (tC B n) (tV B n) (tpl B n) lw N).2.2 ∧ (∀ i : Int, 0 ≤ i → (i < N ↔ tQ B n (tpl B n i) ≠ 0)) ∧ TkOk g' M (tC B n) (tV B n) (tpl B n) N) := by
  refine od_cqI pnX11 rfl (Nat.le_of_ble_eq_true rfl) od_le.rf ?_
  show od_Rq (37) mX11_reads od_Z0 E (E, fun v g' => ∃ N : Int, v = some (0, od_b ((pAll (tC B n) (tV B n) (tpl B n) lw N).2.2 = -1)) ∧ od_fr (XD M) g g' ∧ g' M 13 = 0 ∧ g' M 14 = (pAll (tC B n) (tV B n) (tpl B n) lw N).2.2 ∧ (∀ i : Int, 0 ≤ i → (i < N ↔ tQ B n (tpl B n i) ≠ 0)) ∧ TkOk g' M (tC B n) (tV B n) (tpl B n) N) 0 [some (2, M), none] [] E g
  refine r_aload_n dX11_reads_0 rfl ?_
  refine r_aload_n dX11_reads_1 rfl ?_
  refine r_getIj (j := 13) rfl dX11_reads_2 fkX11_151 gf11_13 (mo_o hm) (by first | exact hT.2.1 | rfl) ?_
  refine r_callV1p dX11_reads_5 cvX11_241 (mo_o hm) (c_X11_splits hm hT.1 hT.2.2.1 hT.2.2.2) (by decide) (Nat.le_of_ble_eq_true rfl) od_le.rf (fun r5 g5 h5 => ?_)
  obtain ⟨rfl, f5, N, hN, hk5⟩ := h5
  show od_Rq _ _ _ _ _ _ _ [] _ _
  refine r_aload_n dX11_reads_8 rfl ?_
  refine r_iconst dX11_reads_9 li_0 ?_
  refine r_putIj (j := 13) rfl dX11_reads_10 fkX11_151 gf11_13 pf11_13 (mo_o hm) ?_
  refine r_aload_n dX11_reads_13 rfl ?_
  refine r_iconst dX11_reads_14 li_0 ?_
  refine r_putIj (j := 19) rfl dX11_reads_15 fkX11_177 gf11_19 pf11_19 (mo_o hm) ?_
  refine r_aload_n dX11_reads_18 rfl ?_
  refine r_iconst dX11_reads_19 li_0 ?_
  refine r_putIj (j := 20) rfl dX11_reads_20 fkX11_186 gf11_20 pf11_20 (mo_o hm) ?_
  refine r_aload_n dX11_reads_23 rfl ?_
  refine r_iconst dX11_reads_24 li_m1 ?_
  refine r_putIj (j := 21) rfl dX11_reads_25 fkX11_170 gf11_21 pf11_21 (mo_o hm) ?_
  have hk0 : TkOk (od_up (od_up (od_up (od_up g5 M 13 0) M 19 0) M 20 0) M 21 (-1)) M (tC B n) (tV B n) (tpl B n) N := hk5.fr (X := fun x y => x = M ∧ (y = 13 ∨ (19 ≤ y ∧ y ≤ 21))) ((((od_fr.rf.up (by omega)).up (by omega)).up (by omega)).up (by omega)) (by omega) (fun y => by omega)
  have hs0 : MSt (od_up (od_up (od_up (od_up g5 M 13 0) M 19 0) M 20 0) M 21 (-1)) M N (0, 0, -1) := by
    have h400 := hk5.2.1
    refine ⟨?_, Or.inl ⟨rfl, ⟨by show (0 : Int) ≤ 0; omega, h400.1⟩, ⟨by show (0 : Int) ≤ 0; omega, by show (0 : Int) ≤ 50; omega⟩, ?_, ?_, ?_⟩⟩
    · rw [od_up_at, if_neg (by omega), od_up_at, if_neg (by omega), od_up_at, if_pos rfl]; omega
    · rw [od_up_at, if_neg (by omega), od_up_at, if_neg (by omega), od_up_at, if_pos rfl]
    · rw [od_up_at, if_neg (by omega), od_up_at, if_pos rfl]
    · rw [od_up_at, if_pos rfl]
  have ff : od_fr (XD M) g (od_up (od_up (od_up (od_up g5 M 13 0) M 19 0) M 20 0) M 21 (-1)) := (((((f5.mo (fun x y z => by unfold XS at z; unfold XD; omega)).up (by unfold XD; omega)).up (by unfold XD; omega)).up (by unfold XD; omega)).up (by unfold XD; omega))
  have hf0 : MFl (od_up (od_up (od_up (od_up g5 M 13 0) M 19 0) M 20 0) M 21 (-1)) M lw := hf.fr ff ⟨by unfold XD; omega, by unfold XD; omega, by unfold XD; omega⟩
  refine r_aload_n dX11_reads_28 rfl ?_
  refine r_callV0p dX11_reads_29 cvX11_244 (mo_o hm) (c_X11_readOne hm hk0 hs0 hf0) (by decide) (Nat.le_of_ble_eq_true rfl) od_le.rf (fun r29 g29 h29 => ?_)
  obtain ⟨rfl, hq29⟩ := h29
  show od_Rq _ _ _ _ _ _ _ [] _ _
  refine r_iconst dX11_reads_32 li_1 ?_
  refine r_istore_n dX11_reads_33 (by decide) rfl ?_
  exact lp_X11_rds hm hT hf hN _ _ _ _ ⟨by omega, by omega, hk0.xt hq29.1, hq29.2.1, ff.tr (hq29.1.mo (fun x y z => by unfold XT at z; unfold XD; omega)), (hq29.1 M 13 (by unfold XT; omega)).trans (by rw [od_up_at, if_neg (by omega), od_up_at, if_neg (by omega), od_up_at, if_neg (by omega), od_up_at, if_pos rfl]), hf0.xt hq29.1, Or.inl ⟨by omega, (pTxt_G _ _ _ _ 11 _).symm⟩⟩ (Nat.lt_succ_self _)
set_option maxRecDepth 10000 in
theorem c_X11_readsAs_t {E : od_E} {g : od_G} {M : Int} (hm : MoAt E M) {B : Int → Int} {n : Int} (hT : TpM g M B n) : od_Cq (38) mX11_readsAs [(2, M), (0, 0)] E g (E, fun v g' => ∃ N : Int, v = some (0, od_b ((pAll (tC B n) (tV B n) (tpl B n) true N).2.2 = -1)) ∧ od_fr (fun x y => XD M x y ∨ (x = M ∧ 8 ≤ y ∧ y ≤ 10)) g g' ∧ g' M 13 = 0 ∧ g' M 14 = (pAll (tC B n) (tV B n) (tpl B n) true N).2.2 ∧ (∀ i : Int, 0 ≤ i → (i < N ↔ tQ B n (tpl B n i) ≠ 0)) ∧ TkOk g' M (tC B n) (tV B n) (tpl B n) N) := by
  refine od_cqI pnX11 rfl (Nat.le_of_ble_eq_true rfl) od_le.rf ?_
  show od_Rq (38) mX11_readsAs od_Z0 E (E, fun v g' => ∃ N : Int, v = some (0, od_b ((pAll (tC B n) (tV B n) (tpl B n) true N).2.2 = -1)) ∧ od_fr (fun x y => XD M x y ∨ (x = M ∧ 8 ≤ y ∧ y ≤ 10)) g g' ∧ g' M 13 = 0 ∧ g' M 14 = (pAll (tC B n) (tV B n) (tpl B n) true N).2.2 ∧ (∀ i : Int, 0 ≤ i → (i < N ↔ tQ B n (tpl B n i) ≠ 0)) ∧ TkOk g' M (tC B n) (tV B n) (tpl B n) N) 0 [some (2, M), some (0, 0)] [] E g
  refine r_aload_n dX11_readsAs_0 rfl ?_
  refine r_iload_n dX11_readsAs_1 rfl ?_
  refine r_putZj (j := 10) rfl dX11_readsAs_2 fkX11_206 gf11_10 pf11_10 (by first | exact Or.inl rfl | exact Or.inr rfl | omega | assumption) (mo_o hm) ?_
  refine r_aload_n dX11_readsAs_5 rfl ?_
  refine r_iload_n dX11_readsAs_6 rfl ?_
  refine r_if_eq (tgt := 15) dX11_readsAs_7 rfl (fun _ => ?_) (fun h => absurd h (by decide))
  refine r_bipush dX11_readsAs_15 lb_8 ?_
  refine r_putIj (j := 8) rfl dX11_readsAs_17 fkX11_232 gf11_8 pf11_8 (mo_o hm) ?_
  refine r_aload_n dX11_readsAs_20 rfl ?_
  refine r_iload_n dX11_readsAs_21 rfl ?_
  refine r_if_eq (tgt := 30) dX11_readsAs_22 rfl (fun _ => ?_) (fun h => absurd h (by decide))
  refine r_bipush dX11_readsAs_30 lb_14 ?_
  refine r_putIj (j := 9) rfl dX11_readsAs_32 fkX11_235 gf11_9 pf11_9 (mo_o hm) ?_
  have ff : od_fr (fun x y => XD M x y ∨ (x = M ∧ 8 ≤ y ∧ y ≤ 10)) g (od_up (od_up (od_up g M 10 0) M 8 8) M 9 14) := (((od_fr.rf.up (by omega)).up (by omega)).up (by omega))
  have hT1 : TpM (od_up (od_up (od_up g M 10 0) M 8 8) M 9 14) M B n := by
    refine ⟨fun j j0 j1 => ?_, ?_, hT.2.2.1, fun j j0 j1 => ?_⟩
    · rw [od_upn (by omega), od_upn (by omega), od_upn (by omega)]; exact hT.1 j j0 j1
    · rw [od_up_at, if_neg (by omega), od_up_at, if_neg (by omega), od_up_at, if_neg (by omega)]; exact hT.2.1
    · rw [od_upn (by omega), od_upn (by omega), od_upn (by omega)]; exact hT.2.2.2 j j0 j1
  have hf1 : MFl (od_up (od_up (od_up g M 10 0) M 8 8) M 9 14) M true := by
    refine ⟨?_, ?_, ?_⟩
    · rw [od_up_at, if_neg (by omega), od_up_at, if_pos rfl]; rfl
    · rw [od_up_at, if_pos rfl]; rfl
    · rw [od_up_at, if_neg (by omega), od_up_at, if_neg (by omega), od_up_at, if_pos rfl]; rfl
  refine r_aload_n dX11_readsAs_35 rfl ?_
  refine r_callV0p dX11_readsAs_36 cvX11_247 (mo_o hm) (c_X11_reads hm hT1 hf1) (by decide) (Nat.le_of_ble_eq_true rfl) od_le.rf (fun r36 g36 h36 => ?_)
  obtain ⟨N, rfl, f36, p13, p14, hN, hk36⟩ := h36
  show od_Rq _ _ _ _ _ _ _ ((0, _) :: _) _ _
  exact r_zretq dX11_readsAs_39 rfl (od_nzb _) rfl ⟨N, rfl, ff.tr (f36.mo (fun x y z => Or.inl z)), p13, p14, hN, hk36⟩
set_option maxRecDepth 10000 in
theorem c_X11_readsAs_f {E : od_E} {g : od_G} {M : Int} (hm : MoAt E M) {B : Int → Int} {n : Int} (hT : TpM g M B n) : od_Cq (38) mX11_readsAs [(2, M), (0, 1)] E g (E, fun v g' => ∃ N : Int, v = some (0, od_b ((pAll (tC B n) (tV B n) (tpl B n) false N).2.2 = -1)) ∧ od_fr (fun x y => XD M x y ∨ (x = M ∧ 8 ≤ y ∧ y ≤ 10)) g g' ∧ g' M 13 = 0 ∧ g' M 14 = (pAll (tC B n) (tV B n) (tpl B n) false N).2.2 ∧ (∀ i : Int, 0 ≤ i → (i < N ↔ tQ B n (tpl B n i) ≠ 0)) ∧ TkOk g' M (tC B n) (tV B n) (tpl B n) N) := by
  refine od_cqI pnX11 rfl (Nat.le_of_ble_eq_true rfl) od_le.rf ?_
  show od_Rq (38) mX11_readsAs od_Z0 E (E, fun v g' => ∃ N : Int, v = some (0, od_b ((pAll (tC B n) (tV B n) (tpl B n) false N).2.2 = -1)) ∧ od_fr (fun x y => XD M x y ∨ (x = M ∧ 8 ≤ y ∧ y ≤ 10)) g g' ∧ g' M 13 = 0 ∧ g' M 14 = (pAll (tC B n) (tV B n) (tpl B n) false N).2.2 ∧ (∀ i : Int, 0 ≤ i → (i < N ↔ tQ B n (tpl B n i) ≠ 0)) ∧ TkOk g' M (tC B n) (tV B n) (tpl B n) N) 0 [some (2, M), some (0, 1)] [] E g
  refine r_aload_n dX11_readsAs_0 rfl ?_
  refine r_iload_n dX11_readsAs_1 rfl ?_
  refine r_putZj (j := 10) rfl dX11_readsAs_2 fkX11_206 gf11_10 pf11_10 (by first | exact Or.inl rfl | exact Or.inr rfl | omega | assumption) (mo_o hm) ?_
  refine r_aload_n dX11_readsAs_5 rfl ?_
  refine r_iload_n dX11_readsAs_6 rfl ?_
  refine r_if_eq (tgt := 15) dX11_readsAs_7 rfl (fun h => absurd h (by decide)) (fun _ => ?_)
  refine r_bipush dX11_readsAs_10 lb_13 ?_
  refine r_goto (tgt := 17) dX11_readsAs_12 rfl ?_
  refine r_putIj (j := 8) rfl dX11_readsAs_17 fkX11_232 gf11_8 pf11_8 (mo_o hm) ?_
  refine r_aload_n dX11_readsAs_20 rfl ?_
  refine r_iload_n dX11_readsAs_21 rfl ?_
  refine r_if_eq (tgt := 30) dX11_readsAs_22 rfl (fun h => absurd h (by decide)) (fun _ => ?_)
  refine r_bipush dX11_readsAs_25 lb_19 ?_
  refine r_goto (tgt := 32) dX11_readsAs_27 rfl ?_
  refine r_putIj (j := 9) rfl dX11_readsAs_32 fkX11_235 gf11_9 pf11_9 (mo_o hm) ?_
  have ff : od_fr (fun x y => XD M x y ∨ (x = M ∧ 8 ≤ y ∧ y ≤ 10)) g (od_up (od_up (od_up g M 10 1) M 8 13) M 9 19) := (((od_fr.rf.up (by omega)).up (by omega)).up (by omega))
  have hT1 : TpM (od_up (od_up (od_up g M 10 1) M 8 13) M 9 19) M B n := by
    refine ⟨fun j j0 j1 => ?_, ?_, hT.2.2.1, fun j j0 j1 => ?_⟩
    · rw [od_upn (by omega), od_upn (by omega), od_upn (by omega)]; exact hT.1 j j0 j1
    · rw [od_up_at, if_neg (by omega), od_up_at, if_neg (by omega), od_up_at, if_neg (by omega)]; exact hT.2.1
    · rw [od_upn (by omega), od_upn (by omega), od_upn (by omega)]; exact hT.2.2.2 j j0 j1
  have hf1 : MFl (od_up (od_up (od_up g M 10 1) M 8 13) M 9 19) M false := by
    refine ⟨?_, ?_, ?_⟩
    · rw [od_up_at, if_neg (by omega), od_up_at, if_pos rfl]; rfl
    · rw [od_up_at, if_pos rfl]; rfl
    · rw [od_up_at, if_neg (by omega), od_up_at, if_neg (by omega), od_up_at, if_pos rfl]; rfl
  refine r_aload_n dX11_readsAs_35 rfl ?_
  refine r_callV0p dX11_readsAs_36 cvX11_247 (mo_o hm) (c_X11_reads hm hT1 hf1) (by decide) (Nat.le_of_ble_eq_true rfl) od_le.rf (fun r36 g36 h36 => ?_)
  obtain ⟨N, rfl, f36, p13, p14, hN, hk36⟩ := h36
  show od_Rq _ _ _ _ _ _ _ ((0, _) :: _) _ _
  exact r_zretq dX11_readsAs_39 rfl (od_nzb _) rfl ⟨N, rfl, ff.tr (f36.mo (fun x y z => Or.inl z)), p13, p14, hN, hk36⟩
set_option maxRecDepth 10000 in
theorem lp_X11_ly {E : od_E} {g : od_G} {M : Int} (hm : MoAt E M) {c v pl : Int → Int} {N : Int} (hk : TkOk g M c v pl N) (t : Int) (ht : 0 ≤ t ∧ t ≤ 6) : ∀ (m : Nat) (k : Int) (gw : od_G), (0 ≤ k ∧ k ≤ N ∧ od_fr (fun x y => x = M + 2 ∧ (y = 49 + t ∨ (56 + 400 * t ≤ y ∧ y < 456 + 400 * t) ∨ (2856 + 400 * t ≤ y ∧ y < 3256 + 400 * t))) g gw ∧ gw (M + 2) (49 + t) = N ∧ (∀ i : Int, 0 ≤ i → i < k → gw (M + 2) (56 + 400 * t + i) = c i ∧ gw (M + 2) (2856 + 400 * t + i) = v i)) → ((N - k).toNat) < m → od_Rq 1 mX11_lays od_Z0 E (E, fun w g' => w = none ∧ od_fr (fun x y => x = M + 2 ∧ (y = 49 + t ∨ (56 + 400 * t ≤ y ∧ y < 456 + 400 * t) ∨ (2856 + 400 * t ≤ y ∧ y < 3256 + 400 * t))) g g' ∧ g' (M + 2) (49 + t) = N ∧ (∀ i : Int, 0 ≤ i → i < N → g' (M + 2) (56 + 400 * t + i) = c i ∧ g' (M + 2) (2856 + 400 * t + i) = v i)) 15 [some (2, M), some (0, t), some (0, k)] [] E gw := by
  intro m
  induction m with
  | zero => intro k gw hi hM; exact absurd hM (Nat.not_lt_zero _)
  | succ m ih =>
    intro k gw hi hM
    obtain ⟨hi0, hi1, hfr, h49, hrw⟩ := hi
    have h400 := hk.2.1
    have e18 : gw M 18 = N := (hfr M 18 (by omega)).trans hk.1
    have e9 : gw (M + 9) = g (M + 9) := hfr.row (fun y => by omega)
    have e10 : gw (M + 10) = g (M + 10) := hfr.row (fun y => by omega)
    refine r_iload_n dX11_lays_15 rfl ?_
    refine r_aload_n dX11_lays_16 rfl ?_
    refine r_getIj (j := 18) rfl dX11_lays_17 fkX11_157 gf11_18 (mo_o hm) (by (repeat (first | rewrite [od_upn (by omega)])); first | exact e18 | rfl) ?_
    refine r_icmp_ge (tgt := 72) dX11_lays_20 rfl (fun c20 => ?_) (fun c20 => ?_)
    · exact r_vretq dX11_lays_72 rfl rfl ⟨rfl, hfr, h49, fun i i0 i1 => hrw i i0 (by omega)⟩
    · refine r_aload_n dX11_lays_23 rfl ?_
      refine r_getR dX11_lays_24 fkX11_28 gf11_2 (mo_o hm) (mo_r2 hm) ?_
      refine r_bipush dX11_lays_27 lb_56 ?_
      refine r_sipush dX11_lays_29 ls_400 ?_
      refine r_iload_n dX11_lays_32 rfl ?_
      refine r_imulE dX11_lays_33 (by first | exact od_w0 (by omega) (by omega) | exact od_wI (by omega) (by omega) | rfl) ?_
      refine r_iaddE dX11_lays_34 (by first | exact od_w0 (by omega) (by omega) | exact od_wI (by omega) (by omega) | rfl) ?_
      refine r_iload_n dX11_lays_35 rfl ?_
      refine r_iaddE dX11_lays_36 (by first | exact od_w0 (by omega) (by omega) | exact od_wI (by omega) (by omega) | rfl) ?_
      refine r_aload_n dX11_lays_37 rfl ?_
      refine r_getR dX11_lays_38 fkX11_54 gf11_15 (mo_o hm) (mo_r15 hm) ?_
      refine r_iload_n dX11_lays_41 rfl ?_
      refine r_iald dX11_lays_42 (mo_k15 hm) (by omega) (by (repeat (first | rewrite [od_upn (by omega)])); first | exact e18 | rfl) ?_
      rw [e9, (hk.2.2.1 k hi0 (by omega)).1]
      refine r_iast dX11_lays_43 (mo_k2 hm) (by omega) ?_
      refine r_aload_n dX11_lays_44 rfl ?_
      refine r_getR dX11_lays_45 fkX11_28 gf11_2 (mo_o hm) (mo_r2 hm) ?_
      refine r_sipush dX11_lays_48 ls_2856 ?_
      refine r_sipush dX11_lays_51 ls_400 ?_
      refine r_iload_n dX11_lays_54 rfl ?_
      refine r_imulE dX11_lays_55 (by first | exact od_w0 (by omega) (by omega) | exact od_wI (by omega) (by omega) | rfl) ?_
      refine r_iaddE dX11_lays_56 (by first | exact od_w0 (by omega) (by omega) | exact od_wI (by omega) (by omega) | rfl) ?_
      refine r_iload_n dX11_lays_57 rfl ?_
      refine r_iaddE dX11_lays_58 (by first | exact od_w0 (by omega) (by omega) | exact od_wI (by omega) (by omega) | rfl) ?_
      refine r_aload_n dX11_lays_59 rfl ?_
      refine r_getR dX11_lays_60 fkX11_57 gf11_16 (mo_o hm) (mo_r16 hm) ?_
      refine r_iload_n dX11_lays_63 rfl ?_
      refine r_iald dX11_lays_64 (mo_k16 hm) (by omega) (by (repeat (first | rewrite [od_upn (by omega)])); first | exact e18 | rfl) ?_
      rw [e10, (hk.2.2.1 k hi0 (by omega)).2.1]
      refine r_iast dX11_lays_65 (mo_k2 hm) (by omega) ?_
      refine r_iincE dX11_lays_66 rfl (by decide) (by first | exact od_w0 (by omega) (by omega) | exact od_wI (by omega) (by omega) | rfl) rfl ?_
      refine r_goto (tgt := 15) dX11_lays_69 rfl ?_
      refine ih _ _ ⟨by omega, by omega, (hfr.up (by omega)).up (by omega), ?_, fun i i0 i1 => ?_⟩ (by omega)
      · rw [od_up_at, if_neg (by omega), od_up_at, if_neg (by omega)]; exact h49
      · by_cases ci : i = k
        · rw [ci]
          refine ⟨?_, ?_⟩
          · rw [od_up_at, if_neg (by omega), od_up_at, if_pos rfl]
          · rw [od_up_at, if_pos rfl]
        · obtain ⟨r1, r2⟩ := hrw i i0 (by omega)
          refine ⟨?_, ?_⟩
          · rw [od_up_at, if_neg (by omega), od_up_at, if_neg (by omega)]; exact r1
          · rw [od_up_at, if_neg (by omega), od_up_at, if_neg (by omega)]; exact r2
set_option maxRecDepth 10000 in
theorem c_X11_lays {E : od_E} {g : od_G} {M : Int} (hm : MoAt E M) {c v pl : Int → Int} {N : Int} (hk : TkOk g M c v pl N) (t : Int) (ht : 0 ≤ t ∧ t ≤ 6) : od_Cq (1) mX11_lays [(2, M), (0, t)] E g (E, fun w g' => w = none ∧ od_fr (fun x y => x = M + 2 ∧ (y = 49 + t ∨ (56 + 400 * t ≤ y ∧ y < 456 + 400 * t) ∨ (2856 + 400 * t ≤ y ∧ y < 3256 + 400 * t))) g g' ∧ g' (M + 2) (49 + t) = N ∧ (∀ i : Int, 0 ≤ i → i < N → g' (M + 2) (56 + 400 * t + i) = c i ∧ g' (M + 2) (2856 + 400 * t + i) = v i)) := by
  refine od_cqI pnX11 rfl (Nat.le_of_ble_eq_true rfl) od_le.rf ?_
  show od_Rq (1) mX11_lays od_Z0 E (E, fun w g' => w = none ∧ od_fr (fun x y => x = M + 2 ∧ (y = 49 + t ∨ (56 + 400 * t ≤ y ∧ y < 456 + 400 * t) ∨ (2856 + 400 * t ≤ y ∧ y < 3256 + 400 * t))) g g' ∧ g' (M + 2) (49 + t) = N ∧ (∀ i : Int, 0 ≤ i → i < N → g' (M + 2) (56 + 400 * t + i) = c i ∧ g' (M + 2) (2856 + 400 * t + i) = v i)) 0 [some (2, M), some (0, t), none] [] E g
  refine r_aload_n dX11_lays_0 rfl ?_
  refine r_getR dX11_lays_1 fkX11_28 gf11_2 (mo_o hm) (mo_r2 hm) ?_
  refine r_bipush dX11_lays_4 lb_49 ?_
  refine r_iload_n dX11_lays_6 rfl ?_
  refine r_iaddE dX11_lays_7 (by first | exact od_w0 (by omega) (by omega) | exact od_wI (by omega) (by omega) | rfl) ?_
  refine r_aload_n dX11_lays_8 rfl ?_
  refine r_getIj (j := 18) rfl dX11_lays_9 fkX11_157 gf11_18 (mo_o hm) hk.1 ?_
  refine r_iast dX11_lays_12 (mo_k2 hm) (by omega) ?_
  refine r_iconst dX11_lays_13 li_0 ?_
  refine r_istore_n dX11_lays_14 (by decide) rfl ?_
  exact lp_X11_ly hm hk t ht _ _ _ ⟨by omega, hk.2.1.1, od_fr.rf.up (by omega), by rw [od_up_at, if_pos rfl], fun i i0 i1 => by omega⟩ (Nat.lt_succ_self _)
