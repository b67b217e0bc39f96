theorem mSumL {E : od_E} {M : Int} (hm : MoAt E M) (c v pl : Int → Int) (N : Int) (lw : Bool) : ∀ L : Nat, L ≤ 8 → MSum E M c v pl N lw L := by
  intro L
  induction L with
  | zero =>
    intro hL g s hk hs hf
    rw [show pSumL c v pl lw 0 s = pSum c v pl lw (pSub c v pl lw 0) s from pSumL_eq _ _ _ _ _ _]
    exact c_X11_readSum hm hk hs hf (fun g s hk hs hf => c_X11_readTerm hm hk hs hf (c_X11_readPart hm hL (fun L1 e => absurd e (by omega))))
  | succ L ih =>
    intro hL g s hk hs hf
    rw [pSumL_eq]
    exact c_X11_readSum hm hk hs hf (fun g s hk hs hf => c_X11_readTerm hm hk hs hf (c_X11_readPart hm hL (fun L1 e => by
      have e2 : L1 = L := by omega
      subst e2
      exact ih (by omega))))
set_option maxRecDepth 10000 in
theorem sg_X11_pl {E : od_E} {g : od_G} {M : Int} (hm : MoAt E M) {c v pl : Int → Int} {N : Int} (hk : TkOk g M c v pl N) {s : pS} (hs : MSt g M N s) {lw : Bool} (hf : MFl g M lw) {L : Nat} (hL : L ≤ 8) (hS : MSum E M c v pl N lw L) (hTs : ∀ L1 : Nat, L = L1 + 1 → MTst E M c v pl N lw L1) {s1 : pS} {b : Bool} {gw : od_G} (mo : Int) (hq : MdQ g gw M N s s1) (hkw : TkOk gw M c v pl N) (hfw : MFl gw M lw) (hF : pNots c 400 s false = (s1, b)) (x : Option od_V) : od_Rq (8 + 3 * L) mX11_readPlain od_Z0 E (E, fun w g' => w = none ∧ MdQ g g' M N s (pPlain c pl (pSumL c v pl lw L) (pTub c v pl lw L) s).1) 16 [some (2, M), some (0, 8 - (L : Int)), some (0, mo), x] [] E gw := by
  have hFx : pPlain c pl (pSumL c v pl lw L) (pTub c v pl lw L) s = pPos c pl (pSumL c v pl lw L) (pTub c v pl lw L) b s1 := by unfold pPlain; rw [hF]
  refine r_aload_n dX11_readPlain_16 rfl ?_
  refine r_callV0b dX11_readPlain_17 cvX11_173 (mo_o hm) (c_X11_fine hm) (by omega) (Nat.le_of_ble_eq_true rfl) od_le.rf (fun q17 => ?_) (fun q17 => ?_)
  · refine r_if_ne (tgt := 24) dX11_readPlain_20 rfl (fun _ => ?_) (fun h => absurd h (by decide))
    have hb : s1.2.2 = -1 := by have := hq.2.1.bad; unfold mFine at q17; omega
    obtain ⟨e1, e2, e3⟩ := hq.2.1.cd hkw hb
    have hq1 := hq.2.1.fine hb
    have h19 := hq.2.1.1
    refine r_aload_n dX11_readPlain_24 rfl ?_
    refine r_getR dX11_readPlain_25 fkX11_54 gf11_15 (mo_o hm) (mo_r15 hm) ?_
    refine r_aload_n dX11_readPlain_28 rfl ?_
    refine r_getIj (j := 19) rfl dX11_readPlain_29 fkX11_177 gf11_19 (mo_o hm) (by (repeat (first | rewrite [od_upn (by omega)] | rewrite [od_up_at, if_pos (by omega)] | rewrite [od_up_at, if_neg (by omega)])); rfl) ?_
    refine r_iald dX11_readPlain_32 (mo_k15 hm) (by omega) (by (repeat (first | rewrite [od_upn (by omega)] | rewrite [od_up_at, if_pos (by omega)] | rewrite [od_up_at, if_neg (by omega)])); rfl) ?_
    rw [e1]
    refine r_istore_n dX11_readPlain_33 (by decide) rfl ?_
    refine r_iload_n dX11_readPlain_34 rfl ?_
    refine r_bipush dX11_readPlain_35 lb_40 ?_
    refine r_callS1i dX11_readPlain_37 csX11_222 (c_X11_sign _ (by omega)) (by omega) (Nat.le_of_ble_eq_true rfl) od_le.rf ?_
    refine r_icmp_ne (tgt := 90) dX11_readPlain_40 rfl (fun c40 => ?_) (fun c40 => ?_)
    · refine r_aload_n dX11_readPlain_90 rfl ?_
      refine r_iload_n dX11_readPlain_91 rfl ?_
      refine r_callV1p dX11_readPlain_92 cvX11_189 (mo_o hm) (hS gw s1 hkw hq.2.1 hfw) (by omega) (Nat.le_of_ble_eq_true rfl) od_le.rf (fun r92 g92 h92 => ?_)
      obtain ⟨rfl, hq92⟩ := h92
      show od_Rq _ _ _ _ _ _ _ [] _ _
      have hk92 := hkw.xt hq92.1
      have hf92 := hfw.xt hq92.1
      refine r_aload_n dX11_readPlain_95 rfl ?_
      refine r_bipush dX11_readPlain_96 lb_60 ?_
      refine r_callS1i dX11_readPlain_98 csX11_222 (c_X11_sign _ (by omega)) (by omega) (Nat.le_of_ble_eq_true rfl) od_le.rf ?_
      refine r_callV1p dX11_readPlain_101 cvX11_180 (mo_o hm) (c_X11_takesS hm hk92 hq92.2.1 _ (by omega)) (by omega) (Nat.le_of_ble_eq_true rfl) od_le.rf (fun r101 g101 h101 => ?_)
      rcases h101 with ⟨rfl, h101⟩ | ⟨rfl, h101⟩
      · show od_Rq _ _ _ _ _ _ _ ((0, 1) :: _) _ _
        skip
        refine r_if_ne (tgt := 128) dX11_readPlain_104 rfl (fun _ => ?_) (fun h => absurd h (by decide))
        refine r_aload_n dX11_readPlain_128 rfl ?_
        refine r_iload_n dX11_readPlain_129 rfl ?_
        refine r_callV1p dX11_readPlain_130 cvX11_189 (mo_o hm) (hS _ (pNx (pSumL c v pl lw L s1).1) (hk92.xt h101.2.1) h101.2.2 (hf92.xt h101.2.1)) (by omega) (Nat.le_of_ble_eq_true rfl) od_le.rf (fun r130 g130 h130 => ?_)
        obtain ⟨rfl, h130⟩ := h130
        show od_Rq _ _ _ _ _ _ _ [] _ _
        refine r_vretq dX11_readPlain_133 rfl rfl ⟨rfl, ?_⟩
        rw [hFx]
        unfold pPos
        rw [if_neg (by omega), if_neg (by omega)]
        have eo : pOc (c (pSumL c v pl lw L s1).1.1) ≠ -1 := by rw [h101.1.2]; decide
        rw [if_neg (by have := h101.1.1; omega), if_neg eo]
        exact (hq.tr hq92).tr ⟨h101.2.1.tr h130.1, h130.2.1, Int.le_trans (by show _ ≤ _ + 1; omega) h130.2.2⟩
      · show od_Rq _ _ _ _ _ _ _ ((0, 0) :: _) _ _
        skip
        refine r_if_ne (tgt := 128) dX11_readPlain_104 rfl (fun h => absurd h (by decide)) (fun _ => ?_)
        obtain ⟨n101, rfl⟩ := h101
        refine r_aload_n dX11_readPlain_107 rfl ?_
        refine r_bipush dX11_readPlain_108 lb_62 ?_
        refine r_callS1i dX11_readPlain_110 csX11_222 (c_X11_sign _ (by omega)) (by omega) (Nat.le_of_ble_eq_true rfl) od_le.rf ?_
        refine r_callV1p dX11_readPlain_113 cvX11_180 (mo_o hm) (c_X11_takesS hm hk92 hq92.2.1 _ (by omega)) (by omega) (Nat.le_of_ble_eq_true rfl) od_le.rf (fun r113 g113 h113 => ?_)
        rcases h113 with ⟨rfl, h113⟩ | ⟨rfl, h113⟩
        · show od_Rq _ _ _ _ _ _ _ ((0, 1) :: _) _ _
          skip
          refine r_if_ne (tgt := 128) dX11_readPlain_116 rfl (fun _ => ?_) (fun h => absurd h (by decide))
          refine r_aload_n dX11_readPlain_128 rfl ?_
          refine r_iload_n dX11_readPlain_129 rfl ?_
          refine r_callV1p dX11_readPlain_130 cvX11_189 (mo_o hm) (hS _ (pNx (pSumL c v pl lw L s1).1) (hk92.xt h113.2.1) h113.2.2 (hf92.xt h113.2.1)) (by omega) (Nat.le_of_ble_eq_true rfl) od_le.rf (fun r130 g130 h130 => ?_)
          obtain ⟨rfl, h130⟩ := h130
          show od_Rq _ _ _ _ _ _ _ [] _ _
          refine r_vretq dX11_readPlain_133 rfl rfl ⟨rfl, ?_⟩
          rw [hFx]
          unfold pPos
          rw [if_neg (by omega), if_neg (by omega)]
          have eo : pOc (c (pSumL c v pl lw L s1).1.1) ≠ -1 := by rw [h113.1.2]; decide
          rw [if_neg (by have := h113.1.1; omega), if_neg eo]
          exact (hq.tr hq92).tr ⟨h113.2.1.tr h130.1, h130.2.1, Int.le_trans (by show _ ≤ _ + 1; omega) h130.2.2⟩
        · show od_Rq _ _ _ _ _ _ _ ((0, 0) :: _) _ _
          skip
          refine r_if_ne (tgt := 128) dX11_readPlain_116 rfl (fun h => absurd h (by decide)) (fun _ => ?_)
          obtain ⟨n113, rfl⟩ := h113
          refine r_aload_n dX11_readPlain_119 rfl ?_
          refine r_bipush dX11_readPlain_120 lb_61 ?_
          refine r_callS1i dX11_readPlain_122 csX11_222 (c_X11_sign _ (by omega)) (by omega) (Nat.le_of_ble_eq_true rfl) od_le.rf ?_
          refine r_callV1p dX11_readPlain_125 cvX11_193 (mo_o hm) (c_X11_must hm hk92 hq92.2.1 _ (by omega)) (by omega) (Nat.le_of_ble_eq_true rfl) od_le.rf (fun r125 g125 h125 => ?_)
          obtain ⟨rfl, h125⟩ := h125
          show od_Rq _ _ _ _ _ _ _ [] _ _
          refine r_aload_n dX11_readPlain_128 rfl ?_
          refine r_iload_n dX11_readPlain_129 rfl ?_
          refine r_callV1p dX11_readPlain_130 cvX11_189 (mo_o hm) (hS _ _ (hk92.xt h125.1) h125.2.1 (hf92.xt h125.1)) (by omega) (Nat.le_of_ble_eq_true rfl) od_le.rf (fun r130 g130 h130 => ?_)
          obtain ⟨rfl, h130⟩ := h130
          show od_Rq _ _ _ _ _ _ _ [] _ _
          refine r_vretq dX11_readPlain_133 rfl rfl ⟨rfl, ?_⟩
          rw [hFx]
          unfold pPos
          rw [if_neg (by omega), if_neg (by omega)]
          have hM2 := (hq.tr hq92).tr (h125.tr h130)
          by_cases hba : (pSumL c v pl lw L s1).1.2.2 = -1
          · rw [if_neg (by omega)]
            by_cases h161 : c (pSumL c v pl lw L s1).1.1 = 161
            · have eo : pOc (c (pSumL c v pl lw L s1).1.1) ≠ -1 := by rw [h161]; decide
              rw [if_neg eo]
              rw [pMu_t ⟨hba, by omega⟩] at hM2
              exact hM2
            · have eo : pOc (c (pSumL c v pl lw L s1).1.1) = -1 := by
                unfold pOc
                rw [if_neg (fun z => n101 ⟨hba, by omega⟩), if_neg (fun z => n113 ⟨hba, by omega⟩), if_neg h161]
              rw [if_pos eo]
              rw [pMu_f (fun z => h161 (by have := z.2; omega)), pSumL_bad (pF_nb (hk.2.2.2.2 _))] at hM2
              exact hM2
          · rw [if_pos hba]
            rw [pMu_f (fun z => hba z.1), pF_bad hba, pSumL_bad hba] at hM2
            exact hM2
    · refine r_iload_n dX11_readPlain_43 rfl ?_
      refine r_bipush dX11_readPlain_44 lb_8 ?_
      refine r_icmp_ne (tgt := 53) dX11_readPlain_46 rfl (fun c46 => ?_) (fun c46 => ?_)
      · obtain ⟨L1, hL1⟩ : ∃ L1 : Nat, L = L1 + 1 := ⟨L - 1, by omega⟩
        subst hL1
        refine r_aload_n dX11_readPlain_53 rfl ?_
        refine r_callV0i dX11_readPlain_54 cvX11_173 (mo_o hm) (c_X11_fineT hm hq1.2.2.2.2) (by omega) (Nat.le_of_ble_eq_true rfl) od_le.rf ?_
        refine r_if_ne (tgt := 61) dX11_readPlain_57 rfl (fun _ => ?_) (fun h => absurd h (by decide))
        refine r_aload_n dX11_readPlain_61 rfl ?_
        refine r_dup dX11_readPlain_62 (by first | exact od_ne2 | exact od_ne0) ?_
        refine r_getIj (j := 19) rfl dX11_readPlain_63 fkX11_177 gf11_19 (mo_o hm) (by (repeat (first | rewrite [od_upn (by omega)] | rewrite [od_up_at, if_pos (by omega)] | rewrite [od_up_at, if_neg (by omega)])); rfl) ?_
        refine r_iconst dX11_readPlain_66 li_1 ?_
        refine r_iaddE dX11_readPlain_67 (by first | exact od_w0 (by omega) (by omega) | exact od_wI (by omega) (by omega) | rfl) ?_
        refine r_putIj (j := 19) rfl dX11_readPlain_68 fkX11_177 gf11_19 pf11_19 (mo_o hm) ?_
        have f1 : od_fr (XT M) gw (od_up gw M 19 (gw M 19 + 1)) := od_fr.rf.up (by unfold XT; omega)
        have hs1 := hq.2.1.nx hkw hb (by omega)
        have hk1 := hkw.xt f1
        have hf1 := hfw.xt f1
        refine r_aload_n dX11_readPlain_71 rfl ?_
        refine r_iload_n dX11_readPlain_72 rfl ?_
        refine r_iconst dX11_readPlain_73 li_1 ?_
        refine r_iaddE dX11_readPlain_74 (by first | exact od_w0 (by omega) (by omega) | exact od_wI (by omega) (by omega) | rfl) ?_
        rw [show (8 - ((L1 + 1 : Nat) : Int)) + 1 = 8 - (L1 : Int) by omega]
        refine r_callV1p dX11_readPlain_75 cvX11_196 (mo_o hm) (hTs L1 rfl _ (pNx s1) hk1 hs1 hf1) (by omega) (Nat.le_of_ble_eq_true rfl) od_le.rf (fun r75 g75 h75 => ?_)
        obtain ⟨rfl, hq75⟩ := h75
        show od_Rq _ _ _ _ _ _ _ [] _ _
        have hk75 := hk1.xt hq75.1
        refine r_aload_n dX11_readPlain_78 rfl ?_
        refine r_bipush dX11_readPlain_79 lb_41 ?_
        refine r_callS1i dX11_readPlain_81 csX11_222 (c_X11_sign _ (by omega)) (by omega) (Nat.le_of_ble_eq_true rfl) od_le.rf ?_
        refine r_callV1p dX11_readPlain_84 cvX11_193 (mo_o hm) (c_X11_must hm hk75 hq75.2.1 _ (by omega)) (by omega) (Nat.le_of_ble_eq_true rfl) od_le.rf (fun r84 g84 h84 => ?_)
        obtain ⟨rfl, h84⟩ := h84
        show od_Rq _ _ _ _ _ _ _ [] _ _
        refine r_goto (tgt := 133) dX11_readPlain_87 rfl ?_
        refine r_vretq dX11_readPlain_133 rfl rfl ⟨rfl, ?_⟩
        rw [hFx]
        unfold pPos
        rw [if_neg (by omega), if_pos (by omega)]
        show MdQ _ _ _ _ _ (pMu c pl 141 (pTestL c v pl lw L1 (pNx s1)).1)
        exact hq.tr ⟨(f1.tr hq75.1).tr h84.1, h84.2.1, Int.le_trans (by have := hq75.2.2; have bx : (pNx s1).1 = s1.1 + 1 := rfl; omega) h84.2.2⟩
      · refine r_aload_n dX11_readPlain_49 rfl ?_
        refine r_callV0v dX11_readPlain_50 cvX11_183 (mo_o hm) (c_X11_faults hm (by have := hq.2.1.1; omega)) (by omega) (Nat.le_of_ble_eq_true rfl) od_le.rf ?_
        have qf := hq.2.1.flt hkw
        have nb : (pF pl s1).2.2 ≠ -1 := pF_nb (hk.2.2.2.2 _)
        refine r_aload_n dX11_readPlain_53 rfl ?_
        refine r_callV0i dX11_readPlain_54 cvX11_173 (mo_o hm) (c_X11_fineF hm (by rw [qf.1.bad]; exact nb)) (by omega) (Nat.le_of_ble_eq_true rfl) od_le.rf ?_
        refine r_if_ne (tgt := 61) dX11_readPlain_57 rfl (fun h => absurd h (by decide)) (fun _ => ?_)
        have hL0 : L = 0 := by omega
        subst hL0
        refine r_vretq dX11_readPlain_60 rfl rfl ⟨rfl, ?_⟩
        rw [hFx]
        unfold pPos
        rw [if_neg (by omega), if_pos (by omega)]
        exact hq.tr ⟨qf.2, qf.1, by show s1.1 ≤ (pF pl s1).1; rw [pF_1]; omega⟩
  · refine r_if_ne (tgt := 24) dX11_readPlain_20 rfl (fun h => absurd h (by decide)) (fun _ => ?_)
    have hnb : s1.2.2 ≠ -1 := by have := hq.2.1.bad; unfold mFine at q17; omega
    refine r_vretq dX11_readPlain_23 rfl rfl ⟨rfl, ?_⟩
    rw [hFx]
    unfold pPos
    rw [if_pos hnb]
    exact hq
set_option maxRecDepth 10000 in
theorem lp_X11_pl {E : od_E} {g : od_G} {M : Int} (hm : MoAt E M) {c v pl : Int → Int} {N : Int} (hk : TkOk g M c v pl N) {s : pS} (hs : MSt g M N s) {lw : Bool} (hf : MFl g M lw) {L : Nat} (hL : L ≤ 8) (hS : MSum E M c v pl N lw L) (hTs : ∀ L1 : Nat, L = L1 + 1 → MTst E M c v pl N lw L1) : ∀ (m : Nat) (gw : od_G) (f : Nat) (s1 : pS) (b : Bool) (mo : Int), (MdQ g gw M N s s1 ∧ TkOk gw M c v pl N ∧ MFl gw M lw ∧ ((mo = 1 ∧ (s1.2.2 = -1 → N - s1.1 ≤ f) ∧ pNots c f s1 b = pNots c 400 s false) ∨ (mo = 0 ∧ pNots c 400 s false = (s1, b)))) → (2 * (N - s1.1).toNat + mo.toNat) < m → od_Rq (8 + 3 * L) mX11_readPlain od_Z0 E (E, fun w g' => w = none ∧ MdQ g g' M N s (pPlain c pl (pSumL c v pl lw L) (pTub c v pl lw L) s).1) 2 [some (2, M), some (0, 8 - (L : Int)), some (0, mo), none] [] E gw := by
  intro m
  induction m with
  | zero => intro gw f s1 b mo hi hM; exact absurd hM (Nat.not_lt_zero _)
  | succ m ih =>
    intro gw f s1 b mo hi hM
    obtain ⟨hq, hkw, hfw, hmo⟩ := hi
    refine r_iload_n dX11_readPlain_2 rfl ?_
    refine r_if_eq (tgt := 16) dX11_readPlain_3 rfl (fun c3 => ?_) (fun c3 => ?_)
    · rcases hmo with h | h
      · exfalso; omega
      · exact sg_X11_pl hm hk hs hf hL hS hTs _ hq hkw hfw h.2 _
    · obtain ⟨m1, m2, m3⟩ : mo = 1 ∧ (s1.2.2 = -1 → N - s1.1 ≤ f) ∧ pNots c f s1 b = pNots c 400 s false := by
        rcases hmo with h | h
        · exact h
        · exact absurd h.1 (by assumption)
      refine r_aload_n dX11_readPlain_6 rfl ?_
      refine r_bipush dX11_readPlain_7 lb_7 ?_
      refine r_callV1p dX11_readPlain_9 cvX11_180 (mo_o hm) (c_X11_takesS hm hkw hq.2.1 _ (by omega)) (by omega) (Nat.le_of_ble_eq_true rfl) od_le.rf (fun r9 g9 h9 => ?_)
      rcases h9 with ⟨rfl, h9⟩ | ⟨rfl, h9⟩
      · show od_Rq _ _ _ _ _ _ _ ((0, 1) :: _) _ _
        skip
        refine r_istore_n dX11_readPlain_12 (by decide) rfl ?_
        refine r_goto (tgt := 2) dX11_readPlain_13 rfl ?_
        first
        | (have hlt := hkw.lt (i := s1.1) (by have := h9.1.2; omega)
           obtain ⟨f0, hf0⟩ : ∃ f0 : Nat, f = f0 + 1 := ⟨f - 1, by have := m2 h9.1.1; omega⟩
           have bx : (pNx s1).1 = s1.1 + 1 := rfl
           refine ih _ f0 (pNx s1) (!b) _ ⟨hq.tr ⟨h9.2.1, h9.2.2, by omega⟩, hkw.xt h9.2.1, hfw.xt h9.2.1, Or.inl ⟨rfl, fun z => by have := m2 z; omega, ?_⟩⟩ (by rw [bx]; show _ + (1 : Int).toNat < m; omega)
           rw [← m3, hf0, pNots_s h9.1])
        | (obtain ⟨n9, rfl⟩ := h9
           refine ih _ f s1 b _ ⟨hq, hkw, hfw, Or.inr ⟨rfl, ?_⟩⟩ (by show _ + (0 : Int).toNat < m; rw [m1] at hM; have : (1 : Int).toNat = 1 := rfl; have : (0 : Int).toNat = 0 := rfl; omega)
           rw [← m3, pNots_e n9])
      · show od_Rq _ _ _ _ _ _ _ ((0, 0) :: _) _ _
        skip
        refine r_istore_n dX11_readPlain_12 (by decide) rfl ?_
        refine r_goto (tgt := 2) dX11_readPlain_13 rfl ?_
        first
        | (have hlt := hkw.lt (i := s1.1) (by have := h9.1.2; omega)
           obtain ⟨f0, hf0⟩ : ∃ f0 : Nat, f = f0 + 1 := ⟨f - 1, by have := m2 h9.1.1; omega⟩
           have bx : (pNx s1).1 = s1.1 + 1 := rfl
           refine ih _ f0 (pNx s1) (!b) _ ⟨hq.tr ⟨h9.2.1, h9.2.2, by omega⟩, hkw.xt h9.2.1, hfw.xt h9.2.1, Or.inl ⟨rfl, fun z => by have := m2 z; omega, ?_⟩⟩ (by rw [bx]; show _ + (1 : Int).toNat < m; omega)
           rw [← m3, hf0, pNots_s h9.1])
        | (obtain ⟨n9, rfl⟩ := h9
           refine ih _ f s1 b _ ⟨hq, hkw, hfw, Or.inr ⟨rfl, ?_⟩⟩ (by show _ + (0 : Int).toNat < m; rw [m1] at hM; have : (1 : Int).toNat = 1 := rfl; have : (0 : Int).toNat = 0 := rfl; omega)
           rw [← m3, pNots_e n9])
set_option maxRecDepth 10000 in
theorem c_X11_readPlain {E : od_E} {g : od_G} {M : Int} (hm : MoAt E M) {c v pl : Int → Int} {N : Int} (hk : TkOk g M c v pl N) {s : pS} (hs : MSt g M N s) {lw : Bool} (hf : MFl g M lw) {L : Nat} (hL : L ≤ 8) (hS : MSum E M c v pl N lw L) (hTs : ∀ L1 : Nat, L = L1 + 1 → MTst E M c v pl N lw L1) : od_Cq (8 + 3 * L) mX11_readPlain [(2, M), (0, 8 - (L : Int))] E g (E, fun w g' => w = none ∧ MdQ g g' M N s (pPlain c pl (pSumL c v pl lw L) (pTub c v pl lw L) s).1) := by
  refine od_cqI pnX11 rfl (Nat.le_of_ble_eq_true rfl) od_le.rf ?_
  show od_Rq (8 + 3 * L) mX11_readPlain od_Z0 E (E, fun w g' => w = none ∧ MdQ g g' M N s (pPlain c pl (pSumL c v pl lw L) (pTub c v pl lw L) s).1) 0 [some (2, M), some (0, 8 - (L : Int)), none, none] [] E g
  refine r_iconst dX11_readPlain_0 li_1 ?_
  refine r_istore_n dX11_readPlain_1 (by decide) rfl ?_
  exact lp_X11_pl hm hk hs hf hL hS hTs _ _ 400 s false _ ⟨MdQ.rf hs, hk, hf, Or.inl ⟨rfl, fun hb => by have := (hs.fine hb).1; have := hk.2.1; omega, rfl⟩⟩ (Nat.lt_succ_self _)
set_option maxRecDepth 10000 in
theorem lp_X11_readBoth {E : od_E} {g : od_G} {M : Int} (hm : MoAt E M) {c v pl : Int → Int} {N : Int} (hk : TkOk g M c v pl N) {s : pS} (hs : MSt g M N s) {lw : Bool} (hf : MFl g M lw) {L : Nat} (hI : MPln E M c v pl N lw L) : ∀ (m : Nat) (gw : od_G) (f : Nat) (r : pR), (pAO c 6 0 (pPlain c pl (pSumL c v pl lw L) (pTub c v pl lw L)) f r = pBoth c pl (pSumL c v pl lw L) (pTub c v pl lw L) s ∧ (r.1.2.2 = -1 → N - r.1.1 ≤ f) ∧ MdQ g gw M N s r.1 ∧ TkOk gw M c v pl N ∧ MFl gw M lw) → ((N - r.1.1).toNat) < m → od_Rq (9 + 3 * L) mX11_readBoth od_Z0 E (E, fun w g' => w = none ∧ MdQ g g' M N s (pBoth c pl (pSumL c v pl lw L) (pTub c v pl lw L) s).1) 5 [some (2, M), some (0, 8 - (L : Int))] [] E gw := by
  intro m
  induction m with
  | zero => intro gw f r hi hM; exact absurd hM (Nat.not_lt_zero _)
  | succ m ih =>
    intro gw f r hi hM
    obtain ⟨hF, hfu, hq, hkw, hfw⟩ := hi
    have hN := hk.2.1
    refine r_aload_n dX11_readBoth_5 rfl ?_
    refine r_bipush dX11_readBoth_6 lb_6 ?_
    refine r_callV1p dX11_readBoth_8 cvX11_180 (mo_o hm) (c_X11_takesS hm hkw hq.2.1 _ (by omega)) (by omega) (Nat.le_of_ble_eq_true rfl) od_le.rf (fun r8 g8 h8 => ?_)
    rcases h8 with ⟨rfl, h8⟩ | ⟨rfl, h8⟩
    · show od_Rq _ _ _ _ _ _ _ ((0, 1) :: _) _ _
      skip
      refine r_if_eq (tgt := 22) dX11_readBoth_11 rfl (fun h => absurd h (by decide)) (fun _ => ?_)
      refine r_aload_n dX11_readBoth_14 rfl ?_
      refine r_iload_n dX11_readBoth_15 rfl ?_
      refine r_callV1p dX11_readBoth_16 cvX11_219 (mo_o hm) (hI _ (pNx r.1) (hkw.xt h8.2.1) h8.2.2 (hfw.xt h8.2.1)) (by omega) (Nat.le_of_ble_eq_true rfl) od_le.rf (fun r16 g16 h16 => ?_)
      obtain ⟨rfl, hqc⟩ := h16
      show od_Rq _ _ _ _ _ _ _ [] _ _
      refine r_goto (tgt := 5) dX11_readBoth_19 rfl ?_
      have hlt := hkw.lt (i := r.1.1) (by have := h8.1.2; omega)
      obtain ⟨f0, hf0⟩ : ∃ f0 : Nat, f = f0 + 1 := ⟨f - 1, by have := hfu h8.1.1; omega⟩
      have bx : (pNx r.1).1 = r.1.1 + 1 := rfl
      have hz := hqc.2.2
      have hfz := (hq.1.tr h8.2.1).tr hqc.1
      exact ih _ f0 ((pPlain c pl (pSumL c v pl lw L) (pTub c v pl lw L) (pNx r.1)).1, pSc 0 r.2 (pPlain c pl (pSumL c v pl lw L) (pTub c v pl lw L) (pNx r.1)).2) ⟨by rw [← hF, hf0, pAO_s h8.1], fun hb2 => by show N - (pPlain c pl (pSumL c v pl lw L) (pTub c v pl lw L) (pNx r.1)).1.1 ≤ _; omega, ⟨hfz, hqc.2.1, by show s.1 ≤ (pPlain c pl (pSumL c v pl lw L) (pTub c v pl lw L) (pNx r.1)).1.1; have := hq.2.2; omega⟩, hk.xt hfz, hf.xt hfz⟩ (by show (N - (pPlain c pl (pSumL c v pl lw L) (pTub c v pl lw L) (pNx r.1)).1.1).toNat < m; omega)
    · show od_Rq _ _ _ _ _ _ _ ((0, 0) :: _) _ _
      skip
      refine r_if_eq (tgt := 22) dX11_readBoth_11 rfl (fun _ => ?_) (fun h => absurd h (by decide))
      obtain ⟨na, rfl⟩ := h8
      refine r_vretq dX11_readBoth_22 rfl rfl ⟨rfl, ?_⟩
      rw [← hF, pAO_e na]
      exact hq
set_option maxRecDepth 10000 in
theorem c_X11_readBoth {E : od_E} {g : od_G} {M : Int} (hm : MoAt E M) {c v pl : Int → Int} {N : Int} (hk : TkOk g M c v pl N) {s : pS} (hs : MSt g M N s) {lw : Bool} (hf : MFl g M lw) {L : Nat} (hI : MPln E M c v pl N lw L) : od_Cq (9 + 3 * L) mX11_readBoth [(2, M), (0, 8 - (L : Int))] E g (E, fun w g' => w = none ∧ MdQ g g' M N s (pBoth c pl (pSumL c v pl lw L) (pTub c v pl lw L) s).1) := by
  refine od_cqI pnX11 rfl (Nat.le_of_ble_eq_true rfl) od_le.rf ?_
  show od_Rq (9 + 3 * L) mX11_readBoth od_Z0 E (E, fun w g' => w = none ∧ MdQ g g' M N s (pBoth c pl (pSumL c v pl lw L) (pTub c v pl lw L) s).1) 0 [some (2, M), some (0, 8 - (L : Int))] [] E g
  refine r_aload_n dX11_readBoth_0 rfl ?_
  refine r_iload_n dX11_readBoth_1 rfl ?_
  refine r_callV1p dX11_readBoth_2 cvX11_219 (mo_o hm) (hI g s hk hs hf) (by omega) (Nat.le_of_ble_eq_true rfl) od_le.rf (fun r2 g2 h2 => ?_)
  obtain ⟨rfl, hq2⟩ := h2
  show od_Rq _ _ _ _ _ _ _ [] _ _
  exact lp_X11_readBoth hm hk hs hf hI _ _ 400 (pPlain c pl (pSumL c v pl lw L) (pTub c v pl lw L) s) ⟨rfl, fun hb => by have z := (hq2.2.1.fine hb).1; have := hk.2.1; omega, hq2, hk.xt hq2.1, hf.xt hq2.1⟩ (Nat.lt_succ_self _)
set_option maxRecDepth 10000 in
theorem lp_X11_readTest {E : od_E} {g : od_G} {M : Int} (hm : MoAt E M) {c v pl : Int → Int} {N : Int} (hk : TkOk g M c v pl N) {s : pS} (hs : MSt g M N s) {lw : Bool} (hf : MFl g M lw) {L : Nat} (hI : MBth E M c v pl N lw L) : ∀ (m : Nat) (gw : od_G) (f : Nat) (r : pR), (pAO c 5 1 (pBoth c pl (pSumL c v pl lw L) (pTub c v pl lw L)) f r = pTest c pl (pSumL c v pl lw L) (pTub c v pl lw L) s ∧ (r.1.2.2 = -1 → N - r.1.1 ≤ f) ∧ MdQ g gw M N s r.1 ∧ TkOk gw M c v pl N ∧ MFl gw M lw) → ((N - r.1.1).toNat) < m → od_Rq (10 + 3 * L) mX11_readTest od_Z0 E (E, fun w g' => w = none ∧ MdQ g g' M N s (pTest c pl (pSumL c v pl lw L) (pTub c v pl lw L) s).1) 5 [some (2, M), some (0, 8 - (L : Int))] [] E gw := by
  intro m
  induction m with
  | zero => intro gw f r hi hM; exact absurd hM (Nat.not_lt_zero _)
  | succ m ih =>
    intro gw f r hi hM
    obtain ⟨hF, hfu, hq, hkw, hfw⟩ := hi
    have hN := hk.2.1
    refine r_aload_n dX11_readTest_5 rfl ?_
    refine r_iconst dX11_readTest_6 li_5 ?_
    refine r_callV1p dX11_readTest_7 cvX11_180 (mo_o hm) (c_X11_takesS hm hkw hq.2.1 _ (by omega)) (by omega) (Nat.le_of_ble_eq_true rfl) od_le.rf (fun r7 g7 h7 => ?_)
    rcases h7 with ⟨rfl, h7⟩ | ⟨rfl, h7⟩
    · show od_Rq _ _ _ _ _ _ _ ((0, 1) :: _) _ _
      skip
      refine r_if_eq (tgt := 21) dX11_readTest_10 rfl (fun h => absurd h (by decide)) (fun _ => ?_)
      refine r_aload_n dX11_readTest_13 rfl ?_
      refine r_iload_n dX11_readTest_14 rfl ?_
      refine r_callV1p dX11_readTest_15 cvX11_216 (mo_o hm) (hI _ (pNx r.1) (hkw.xt h7.2.1) h7.2.2 (hfw.xt h7.2.1)) (by omega) (Nat.le_of_ble_eq_true rfl) od_le.rf (fun r15 g15 h15 => ?_)
      obtain ⟨rfl, hqc⟩ := h15
      show od_Rq _ _ _ _ _ _ _ [] _ _
      refine r_goto (tgt := 5) dX11_readTest_18 rfl ?_
      have hlt := hkw.lt (i := r.1.1) (by have := h7.1.2; omega)
      obtain ⟨f0, hf0⟩ : ∃ f0 : Nat, f = f0 + 1 := ⟨f - 1, by have := hfu h7.1.1; omega⟩
      have bx : (pNx r.1).1 = r.1.1 + 1 := rfl
      have hz := hqc.2.2
      have hfz := (hq.1.tr h7.2.1).tr hqc.1
      exact ih _ f0 ((pBoth c pl (pSumL c v pl lw L) (pTub c v pl lw L) (pNx r.1)).1, pSc 1 r.2 (pBoth c pl (pSumL c v pl lw L) (pTub c v pl lw L) (pNx r.1)).2) ⟨by rw [← hF, hf0, pAO_s h7.1], fun hb2 => by show N - (pBoth c pl (pSumL c v pl lw L) (pTub c v pl lw L) (pNx r.1)).1.1 ≤ _; omega, ⟨hfz, hqc.2.1, by show s.1 ≤ (pBoth c pl (pSumL c v pl lw L) (pTub c v pl lw L) (pNx r.1)).1.1; have := hq.2.2; omega⟩, hk.xt hfz, hf.xt hfz⟩ (by show (N - (pBoth c pl (pSumL c v pl lw L) (pTub c v pl lw L) (pNx r.1)).1.1).toNat < m; omega)
    · show od_Rq _ _ _ _ _ _ _ ((0, 0) :: _) _ _
      skip
      refine r_if_eq (tgt := 21) dX11_readTest_10 rfl (fun _ => ?_) (fun h => absurd h (by decide))
      obtain ⟨na, rfl⟩ := h7
      refine r_vretq dX11_readTest_21 rfl rfl ⟨rfl, ?_⟩
      rw [← hF, pAO_e na]
      exact hq
set_option maxRecDepth 10000 in
theorem c_X11_readTest {E : od_E} {g : od_G} {M : Int} (hm : MoAt E M) {c v pl : Int → Int} {N : Int} (hk : TkOk g M c v pl N) {s : pS} (hs : MSt g M N s) {lw : Bool} (hf : MFl g M lw) {L : Nat} (hI : MBth E M c v pl N lw L) : od_Cq (10 + 3 * L) mX11_readTest [(2, M), (0, 8 - (L : Int))] E g (E, fun w g' => w = none ∧ MdQ g g' M N s (pTest c pl (pSumL c v pl lw L) (pTub c v pl lw L) s).1) := by
  refine od_cqI pnX11 rfl (Nat.le_of_ble_eq_true rfl) od_le.rf ?_
  show od_Rq (10 + 3 * L) mX11_readTest od_Z0 E (E, fun w g' => w = none ∧ MdQ g g' M N s (pTest c pl (pSumL c v pl lw L) (pTub c v pl lw L) s).1) 0 [some (2, M), some (0, 8 - (L : Int))] [] E g
  refine r_aload_n dX11_readTest_0 rfl ?_
  refine r_iload_n dX11_readTest_1 rfl ?_
  refine r_callV1p dX11_readTest_2 cvX11_216 (mo_o hm) (hI g s hk hs hf) (by omega) (Nat.le_of_ble_eq_true rfl) od_le.rf (fun r2 g2 h2 => ?_)
  obtain ⟨rfl, hq2⟩ := h2
  show od_Rq _ _ _ _ _ _ _ [] _ _
  exact lp_X11_readTest hm hk hs hf hI _ _ 400 (pBoth c pl (pSumL c v pl lw L) (pTub c v pl lw L) s) ⟨rfl, fun hb => by have z := (hq2.2.1.fine hb).1; have := hk.2.1; omega, hq2, hk.xt hq2.1, hf.xt hq2.1⟩ (Nat.lt_succ_self _)
theorem mTestL {E : od_E} {M : Int} (hm : MoAt E M) (c v pl : Int → Int) (N : Int) (lw : Bool) : ∀ L : Nat, L ≤ 8 → MTst E M c v pl N lw L := by
  intro L
  induction L with
  | zero =>
    intro hL g s hk hs hf
    rw [show pTestL c v pl lw 0 s = pTest c pl (pSumL c v pl lw 0) (pTub c v pl lw 0) s from pTestL_eq _ _ _ _ _ _]
    exact c_X11_readTest hm hk hs hf (fun g s hk hs hf => c_X11_readBoth hm hk hs hf (fun g s hk hs hf => c_X11_readPlain hm hk hs hf hL (mSumL hm c v pl N lw 0 hL) (fun L1 e => absurd e (by omega))))
  | succ L ih =>
    intro hL g s hk hs hf
    rw [pTestL_eq]
    exact c_X11_readTest hm hk hs hf (fun g s hk hs hf => c_X11_readBoth hm hk hs hf (fun g s hk hs hf => c_X11_readPlain hm hk hs hf hL (mSumL hm c v pl N lw (L + 1) hL) (fun L1 e => by
      have e2 : L1 = L := by omega
      subst e2
      exact ih (by omega))))
theorem c_X11_sum8 {E : od_E} {g : od_G} {M : Int} (hm : MoAt E M) {c v pl : Int → Int} {N : Int} (hk : TkOk g M c v pl N) {s : pS} (hs : MSt g M N s) {lw : Bool} (hf : MFl g M lw) : od_Cq 31 mX11_readSum [(2, M), (0, 0)] E g (E, fun w g' => w = none ∧ MdQ g g' M N s (pSumL c v pl lw 8 s).1) := mSumL hm c v pl N lw 8 (by omega) g s hk hs hf
theorem c_X11_test8 {E : od_E} {g : od_G} {M : Int} (hm : MoAt E M) {c v pl : Int → Int} {N : Int} (hk : TkOk g M c v pl N) {s : pS} (hs : MSt g M N s) {lw : Bool} (hf : MFl g M lw) : od_Cq 34 mX11_readTest [(2, M), (0, 0)] E g (E, fun w g' => w = none ∧ MdQ g g' M N s (pTestL c v pl lw 8 s).1) := mTestL hm c v pl N lw 8 (by omega) g s hk hs hf
set_option maxRecDepth 10000 in
theorem c_X11_readTwo {E : od_E} {g : od_G} {M : Int} (hm : MoAt E M) {c v pl : Int → Int} {N : Int} (hk : TkOk g M c v pl N) {s : pS} (hs : MSt g M N s) (hf : MFl g M false) (k : Int) (h0 : k ≠ 0) : od_Cq (32) mX11_readTwo [(2, M), (0, k)] E g (E, fun w g' => w = none ∧ MdQ g g' M N s (pTwo c v pl k s).1) := by
  refine od_cqI pnX11 rfl (Nat.le_of_ble_eq_true rfl) od_le.rf ?_
  show od_Rq (32) mX11_readTwo od_Z0 E (E, fun w g' => w = none ∧ MdQ g g' M N s (pTwo c v pl k s).1) 0 [some (2, M), some (0, k)] [] E g
  refine r_aload_n dX11_readTwo_0 rfl ?_
  refine r_iconst dX11_readTwo_1 li_0 ?_
  refine r_callV1p dX11_readTwo_2 cvX11_189 (mo_o hm) (c_X11_sum8 hm hk hs hf) (by decide) (Nat.le_of_ble_eq_true rfl) od_le.rf (fun r2 g2 h2 => ?_)
  obtain ⟨rfl, h2⟩ := h2
  show od_Rq _ _ _ _ _ _ _ [] _ _
  refine r_aload_n dX11_readTwo_5 rfl ?_
  refine r_iload_n dX11_readTwo_6 rfl ?_
  refine r_callV1p dX11_readTwo_7 cvX11_193 (mo_o hm) (c_X11_must hm (hk.xt h2.1) h2.2.1 _ h0) (by decide) (Nat.le_of_ble_eq_true rfl) od_le.rf (fun r7 g7 h7 => ?_)
  obtain ⟨rfl, h7⟩ := h7
  show od_Rq _ _ _ _ _ _ _ [] _ _
  refine r_aload_n dX11_readTwo_10 rfl ?_
  refine r_iconst dX11_readTwo_11 li_0 ?_
  refine r_callV1p dX11_readTwo_12 cvX11_189 (mo_o hm) (c_X11_sum8 hm (hk.xt (h2.1.tr h7.1)) h7.2.1 (hf.xt (h2.1.tr h7.1))) (by decide) (Nat.le_of_ble_eq_true rfl) od_le.rf (fun r12 g12 h12 => ?_)
  obtain ⟨rfl, h12⟩ := h12
  show od_Rq _ _ _ _ _ _ _ [] _ _
  exact r_vretq dX11_readTwo_15 rfl rfl ⟨rfl, (h2.tr h7).tr h12⟩
set_option maxRecDepth 10000 in
theorem sg_X11_readClause {E : od_E} {g gw : od_G} {M : Int} (hm : MoAt E M) {c v pl : Int → Int} {N : Int} (hk : TkOk g M c v pl N) {s : pS} (hs : MSt g M N s) (hf : MFl g M true) {S s2 : pS} (hq : MdQ g gw M N s s2) (hS : S = (pIf c v pl true s2).1) : od_Rq 35 mX11_readClause od_Z0 E (E, fun w g' => w = none ∧ MdQ g g' M N s S) 29 [some (2, M)] [] E gw := by
  have hkw := hk.xt hq.1
  have hfw := hf.xt hq.1
  refine r_aload_n dX11_readClause_29 rfl ?_
  refine r_iconst dX11_readClause_30 li_4 ?_
  refine r_callV1p dX11_readClause_31 cvX11_180 (mo_o hm) (c_X11_takesS hm hkw hq.2.1 _ (by omega)) (by decide) (Nat.le_of_ble_eq_true rfl) od_le.rf (fun r31 g31 h31 => ?_)
  rcases h31 with ⟨rfl, h31⟩ | ⟨rfl, h31⟩
  · show od_Rq _ _ _ _ _ _ _ ((0, 1) :: _) _ _
    skip
    refine r_if_eq (tgt := 42) dX11_readClause_34 rfl (fun h => absurd h (by decide)) (fun _ => ?_)
    refine r_aload_n dX11_readClause_37 rfl ?_
    refine r_iconst dX11_readClause_38 li_0 ?_
    refine r_callV1p dX11_readClause_39 cvX11_196 (mo_o hm) (c_X11_test8 hm (hkw.xt h31.2.1) h31.2.2 (hfw.xt h31.2.1)) (by decide) (Nat.le_of_ble_eq_true rfl) od_le.rf (fun r39 g39 h39 => ?_)
    obtain ⟨rfl, h39⟩ := h39
    show od_Rq _ _ _ _ _ _ _ [] _ _
    first
    | (have eI : pIf c v pl true s2 = pTestL c v pl true 8 (pNx s2) := if_pos h31.1
       refine r_vretq dX11_readClause_42 rfl rfl ⟨rfl, ?_⟩
       rw [hS, eI]
       exact hq.tr ⟨h31.2.1.tr h39.1, h39.2.1, Int.le_trans (by show s2.1 ≤ s2.1 + 1; omega) h39.2.2⟩)
    | (obtain ⟨na, rfl⟩ := h31
       have eI : pIf c v pl true s2 = (s2, pOne) := if_neg na
       refine r_vretq dX11_readClause_42 rfl rfl ⟨rfl, ?_⟩
       rw [hS, eI]
       exact hq)
  · show od_Rq _ _ _ _ _ _ _ ((0, 0) :: _) _ _
    skip
    refine r_if_eq (tgt := 42) dX11_readClause_34 rfl (fun _ => ?_) (fun h => absurd h (by decide))
    first
    | (have eI : pIf c v pl true s2 = pTestL c v pl true 8 (pNx s2) := if_pos h31.1
       refine r_vretq dX11_readClause_42 rfl rfl ⟨rfl, ?_⟩
       rw [hS, eI]
       exact hq.tr ⟨h31.2.1.tr h39.1, h39.2.1, Int.le_trans (by show s2.1 ≤ s2.1 + 1; omega) h39.2.2⟩)
    | (obtain ⟨na, rfl⟩ := h31
       have eI : pIf c v pl true s2 = (s2, pOne) := if_neg na
       refine r_vretq dX11_readClause_42 rfl rfl ⟨rfl, ?_⟩
       rw [hS, eI]
       exact hq)
set_option maxRecDepth 10000 in
theorem sg_X11_readOrder {E : od_E} {g gw : od_G} {M : Int} (hm : MoAt E M) {c v pl : Int → Int} {N : Int} (hk : TkOk g M c v pl N) {s : pS} (hs : MSt g M N s) (hf : MFl g M false) {S s2 : pS} (hq : MdQ g gw M N s s2) (hS : S = (pIf c v pl false s2).1) : od_Rq 35 mX11_readOrder od_Z0 E (E, fun w g' => w = none ∧ MdQ g g' M N s S) 75 [some (2, M)] [] E gw := by
  have hkw := hk.xt hq.1
  have hfw := hf.xt hq.1
  refine r_aload_n dX11_readOrder_75 rfl ?_
  refine r_iconst dX11_readOrder_76 li_4 ?_
  refine r_callV1p dX11_readOrder_77 cvX11_180 (mo_o hm) (c_X11_takesS hm hkw hq.2.1 _ (by omega)) (by decide) (Nat.le_of_ble_eq_true rfl) od_le.rf (fun r77 g77 h77 => ?_)
  rcases h77 with ⟨rfl, h77⟩ | ⟨rfl, h77⟩
  · show od_Rq _ _ _ _ _ _ _ ((0, 1) :: _) _ _
    skip
    refine r_if_eq (tgt := 88) dX11_readOrder_80 rfl (fun h => absurd h (by decide)) (fun _ => ?_)
    refine r_aload_n dX11_readOrder_83 rfl ?_
    refine r_iconst dX11_readOrder_84 li_0 ?_
    refine r_callV1p dX11_readOrder_85 cvX11_196 (mo_o hm) (c_X11_test8 hm (hkw.xt h77.2.1) h77.2.2 (hfw.xt h77.2.1)) (by decide) (Nat.le_of_ble_eq_true rfl) od_le.rf (fun r85 g85 h85 => ?_)
    obtain ⟨rfl, h85⟩ := h85
    show od_Rq _ _ _ _ _ _ _ [] _ _
    first
    | (have eI : pIf c v pl false s2 = pTestL c v pl false 8 (pNx s2) := if_pos h77.1
       refine r_vretq dX11_readOrder_88 rfl rfl ⟨rfl, ?_⟩
       rw [hS, eI]
       exact hq.tr ⟨h77.2.1.tr h85.1, h85.2.1, Int.le_trans (by show s2.1 ≤ s2.1 + 1; omega) h85.2.2⟩)
    | (obtain ⟨na, rfl⟩ := h77
       have eI : pIf c v pl false s2 = (s2, pOne) := if_neg na
       refine r_vretq dX11_readOrder_88 rfl rfl ⟨rfl, ?_⟩
       rw [hS, eI]
       exact hq)
  · show od_Rq _ _ _ _ _ _ _ ((0, 0) :: _) _ _
    skip
    refine r_if_eq (tgt := 88) dX11_readOrder_80 rfl (fun _ => ?_) (fun h => absurd h (by decide))
    first
    | (have eI : pIf c v pl false s2 = pTestL c v pl false 8 (pNx s2) := if_pos h77.1
       refine r_vretq dX11_readOrder_88 rfl rfl ⟨rfl, ?_⟩
       rw [hS, eI]
       exact hq.tr ⟨h77.2.1.tr h85.1, h85.2.1, Int.le_trans (by show s2.1 ≤ s2.1 + 1; omega) h85.2.2⟩)
    | (obtain ⟨na, rfl⟩ := h77
       have eI : pIf c v pl false s2 = (s2, pOne) := if_neg na
       refine r_vretq dX11_readOrder_88 rfl rfl ⟨rfl, ?_⟩
       rw [hS, eI]
       exact hq)
set_option maxRecDepth 10000 in
theorem c_X11_readClause {E : od_E} {g : od_G} {M : Int} (hm : MoAt E M) {c v pl : Int → Int} {N : Int} (hk : TkOk g M c v pl N) {s : pS} (hs : MSt g M N s) (hf : MFl g M true) : od_Cq (35) mX11_readClause [(2, M)] E g (E, fun w g' => w = none ∧ MdQ g g' M N s (pCl c v pl true s).1) := by
  refine od_cqI pnX11 rfl (Nat.le_of_ble_eq_true rfl) od_le.rf ?_
  show od_Rq (35) mX11_readClause od_Z0 E (E, fun w g' => w = none ∧ MdQ g g' M N s (pCl c v pl true s).1) 0 [some (2, M)] [] E g
  refine r_aload_n dX11_readClause_0 rfl ?_
  refine r_iconst dX11_readClause_1 li_1 ?_
  refine r_callV1p dX11_readClause_2 cvX11_180 (mo_o hm) (c_X11_takesS hm hk hs _ (by omega)) (by decide) (Nat.le_of_ble_eq_true rfl) od_le.rf (fun r2 g2 h2 => ?_)
  rcases h2 with ⟨rfl, h2⟩ | ⟨rfl, h2⟩
  · show od_Rq _ _ _ _ _ _ _ ((0, 1) :: _) _ _
    skip
    refine r_if_eq (tgt := 16) dX11_readClause_5 rfl (fun h => absurd h (by decide)) (fun _ => ?_)
    refine r_aload_n dX11_readClause_8 rfl ?_
    refine r_iconst dX11_readClause_9 li_0 ?_
    refine r_callV1p dX11_readClause_10 cvX11_189 (mo_o hm) (c_X11_sum8 hm (hk.xt h2.2.1) h2.2.2 (hf.xt h2.2.1)) (by decide) (Nat.le_of_ble_eq_true rfl) od_le.rf (fun r10 g10 h10 => ?_)
    obtain ⟨rfl, h10⟩ := h10
    show od_Rq _ _ _ _ _ _ _ [] _ _
    refine r_goto (tgt := 29) dX11_readClause_13 rfl ?_
    first
    | exact sg_X11_readClause hm hk hs hf ⟨h2.2.1.tr h10.1, h10.2.1, Int.le_trans (by show s.1 ≤ s.1 + 1; omega) h10.2.2⟩ (by unfold pCl; rw [if_pos rfl]; unfold pHdL; rw [if_pos h2.1])
    | exact sg_X11_readClause hm hk hs hf (s2 := pNx s) ⟨h18.2.1, h18.2.2, by show s.1 ≤ s.1 + 1; omega⟩ (by unfold pCl; rw [if_pos rfl]; unfold pHdL; rw [if_neg n2, if_pos h18.1])
    | exact sg_X11_readClause hm hk hs hf h26 (by unfold pCl; rw [if_pos rfl]; unfold pHdL; rw [if_neg n2, if_neg n18])
  · show od_Rq _ _ _ _ _ _ _ ((0, 0) :: _) _ _
    skip
    refine r_if_eq (tgt := 16) dX11_readClause_5 rfl (fun _ => ?_) (fun h => absurd h (by decide))
    obtain ⟨n2, rfl⟩ := h2
    refine r_aload_n dX11_readClause_16 rfl ?_
    refine r_iconst dX11_readClause_17 li_2 ?_
    refine r_callV1p dX11_readClause_18 cvX11_180 (mo_o hm) (c_X11_takesS hm hk hs _ (by omega)) (by decide) (Nat.le_of_ble_eq_true rfl) od_le.rf (fun r18 g18 h18 => ?_)
    rcases h18 with ⟨rfl, h18⟩ | ⟨rfl, h18⟩
    · show od_Rq _ _ _ _ _ _ _ ((0, 1) :: _) _ _
      skip
      refine r_if_ne (tgt := 29) dX11_readClause_21 rfl (fun _ => ?_) (fun h => absurd h (by decide))
      first
      | exact sg_X11_readClause hm hk hs hf ⟨h2.2.1.tr h10.1, h10.2.1, Int.le_trans (by show s.1 ≤ s.1 + 1; omega) h10.2.2⟩ (by unfold pCl; rw [if_pos rfl]; unfold pHdL; rw [if_pos h2.1])
      | exact sg_X11_readClause hm hk hs hf (s2 := pNx s) ⟨h18.2.1, h18.2.2, by show s.1 ≤ s.1 + 1; omega⟩ (by unfold pCl; rw [if_pos rfl]; unfold pHdL; rw [if_neg n2, if_pos h18.1])
      | exact sg_X11_readClause hm hk hs hf h26 (by unfold pCl; rw [if_pos rfl]; unfold pHdL; rw [if_neg n2, if_neg n18])
    · show od_Rq _ _ _ _ _ _ _ ((0, 0) :: _) _ _
      skip
      refine r_if_ne (tgt := 29) dX11_readClause_21 rfl (fun h => absurd h (by decide)) (fun _ => ?_)
      obtain ⟨n18, rfl⟩ := h18
      refine r_aload_n dX11_readClause_24 rfl ?_
      refine r_iconst dX11_readClause_25 li_3 ?_
      refine r_callV1p dX11_readClause_26 cvX11_193 (mo_o hm) (c_X11_must hm hk hs _ (by omega)) (by decide) (Nat.le_of_ble_eq_true rfl) od_le.rf (fun r26 g26 h26 => ?_)
      obtain ⟨rfl, h26⟩ := h26
      show od_Rq _ _ _ _ _ _ _ [] _ _
      first
      | exact sg_X11_readClause hm hk hs hf ⟨h2.2.1.tr h10.1, h10.2.1, Int.le_trans (by show s.1 ≤ s.1 + 1; omega) h10.2.2⟩ (by unfold pCl; rw [if_pos rfl]; unfold pHdL; rw [if_pos h2.1])
      | exact sg_X11_readClause hm hk hs hf (s2 := pNx s) ⟨h18.2.1, h18.2.2, by show s.1 ≤ s.1 + 1; omega⟩ (by unfold pCl; rw [if_pos rfl]; unfold pHdL; rw [if_neg n2, if_pos h18.1])
      | exact sg_X11_readClause hm hk hs hf h26 (by unfold pCl; rw [if_pos rfl]; unfold pHdL; rw [if_neg n2, if_neg n18])
set_option maxRecDepth 10000 in
theorem sg_X11_readOrd2 {E : od_E} {g gw : od_G} {M : Int} (hm : MoAt E M) {c v pl : Int → Int} {N : Int} (hk : TkOk g M c v pl N) {s : pS} (hs : MSt g M N s) (hf : MFl g M false) {S s2 : pS} (hq : MdQ g gw M N s s2) (hS : S = (pIf c v pl false (pTi c v pl s2).1).1) : od_Rq 35 mX11_readOrder od_Z0 E (E, fun w g' => w = none ∧ MdQ g g' M N s S) 59 [some (2, M)] [] E gw := by
  have hkw := hk.xt hq.1
  have hfw := hf.xt hq.1
  refine r_aload_n dX11_readOrder_59 rfl ?_
  refine r_bipush dX11_readOrder_60 lb_25 ?_
  refine r_callV1p dX11_readOrder_62 cvX11_180 (mo_o hm) (c_X11_takesS hm hkw hq.2.1 _ (by omega)) (by decide) (Nat.le_of_ble_eq_true rfl) od_le.rf (fun r62 g62 h62 => ?_)
  rcases h62 with ⟨rfl, h62⟩ | ⟨rfl, h62⟩
  · show od_Rq _ _ _ _ _ _ _ ((0, 1) :: _) _ _
    skip
    refine r_if_eq (tgt := 75) dX11_readOrder_65 rfl (fun h => absurd h (by decide)) (fun _ => ?_)
    refine r_aload_n dX11_readOrder_68 rfl ?_
    refine r_iconst dX11_readOrder_69 li_1 ?_
    refine r_bipush dX11_readOrder_70 lb_20 ?_
    refine r_callV2p dX11_readOrder_72 cvX11_202 (mo_o hm) (c_X11_mustNumber hm (hkw.xt h62.2.1) h62.2.2 1 20) (by decide) (Nat.le_of_ble_eq_true rfl) od_le.rf (fun r72 g72 h72 => ?_)
    obtain ⟨rfl, h72⟩ := h72
    show od_Rq _ _ _ _ _ _ _ [] _ _
    first
    | (have eT : pTi c v pl s2 = (pMn c v pl 1 20 (pNx s2), v (s2.1 + 1)) := if_pos h62.1
       exact sg_X11_readOrder hm hk hs hf (hq.tr ⟨h62.2.1.tr h72.1, h72.2.1, Int.le_trans (by show s2.1 ≤ s2.1 + 1; omega) h72.2.2⟩) (by rw [hS, eT]))
    | (obtain ⟨na, rfl⟩ := h62
       have eT : pTi c v pl s2 = (s2, 1) := if_neg na
       exact sg_X11_readOrder hm hk hs hf hq (by rw [hS, eT]))
  · show od_Rq _ _ _ _ _ _ _ ((0, 0) :: _) _ _
    skip
    refine r_if_eq (tgt := 75) dX11_readOrder_65 rfl (fun _ => ?_) (fun h => absurd h (by decide))
    first
    | (have eT : pTi c v pl s2 = (pMn c v pl 1 20 (pNx s2), v (s2.1 + 1)) := if_pos h62.1
       exact sg_X11_readOrder hm hk hs hf (hq.tr ⟨h62.2.1.tr h72.1, h72.2.1, Int.le_trans (by show s2.1 ≤ s2.1 + 1; omega) h72.2.2⟩) (by rw [hS, eT]))
    | (obtain ⟨na, rfl⟩ := h62
       have eT : pTi c v pl s2 = (s2, 1) := if_neg na
       exact sg_X11_readOrder hm hk hs hf hq (by rw [hS, eT]))
set_option maxRecDepth 10000 in
theorem c_X11_readOrder {E : od_E} {g : od_G} {M : Int} (hm : MoAt E M) {c v pl : Int → Int} {N : Int} (hk : TkOk g M c v pl N) {s : pS} (hs : MSt g M N s) (hf : MFl g M false) : od_Cq (35) mX11_readOrder [(2, M)] E g (E, fun w g' => w = none ∧ MdQ g g' M N s (pCl c v pl false s).1) := by
  refine od_cqI pnX11 rfl (Nat.le_of_ble_eq_true rfl) od_le.rf ?_
  show od_Rq (35) mX11_readOrder od_Z0 E (E, fun w g' => w = none ∧ MdQ g g' M N s (pCl c v pl false s).1) 0 [some (2, M)] [] E g
  refine r_aload_n dX11_readOrder_0 rfl ?_
  refine r_bipush dX11_readOrder_1 lb_20 ?_
  refine r_callV1p dX11_readOrder_3 cvX11_180 (mo_o hm) (c_X11_takesS hm hk hs _ (by omega)) (by decide) (Nat.le_of_ble_eq_true rfl) od_le.rf (fun r3 g3 h3 => ?_)
  rcases h3 with ⟨rfl, h3⟩ | ⟨rfl, h3⟩
  · show od_Rq _ _ _ _ _ _ _ ((0, 1) :: _) _ _
    skip
    refine r_if_eq (tgt := 18) dX11_readOrder_6 rfl (fun h => absurd h (by decide)) (fun _ => ?_)
    refine r_aload_n dX11_readOrder_9 rfl ?_
    refine r_bipush dX11_readOrder_10 lb_19 ?_
    refine r_callV1p dX11_readOrder_12 cvX11_199 (mo_o hm) (c_X11_readTwo hm (hk.xt h3.2.1) h3.2.2 (hf.xt h3.2.1) _ (by omega)) (by decide) (Nat.le_of_ble_eq_true rfl) od_le.rf (fun r12 g12 h12 => ?_)
    obtain ⟨rfl, h12⟩ := h12
    show od_Rq _ _ _ _ _ _ _ [] _ _
    refine r_goto (tgt := 59) dX11_readOrder_15 rfl ?_
    first
    | exact sg_X11_readOrd2 hm hk hs hf ⟨h3.2.1.tr h12.1, h12.2.1, Int.le_trans (by show s.1 ≤ s.1 + 1; omega) h12.2.2⟩ (by unfold pCl; rw [if_neg (by decide)]; unfold pHdO; rw [if_pos h3.1])
    | exact sg_X11_readOrd2 hm hk hs hf ⟨h21.2.1.tr h30.1, h30.2.1, Int.le_trans (by show s.1 ≤ s.1 + 1; omega) h30.2.2⟩ (by unfold pCl; rw [if_neg (by decide)]; unfold pHdO; rw [if_neg n3, if_pos h21.1])
    | exact sg_X11_readOrd2 hm hk hs hf ⟨h39.2.1.tr h47.1, h47.2.1, Int.le_trans (by show s.1 ≤ s.1 + 1; omega) h47.2.2⟩ (by unfold pCl; rw [if_neg (by decide)]; unfold pHdO; rw [if_neg n3, if_neg n21, if_pos h39.1])
    | exact sg_X11_readOrd2 hm hk hs hf h56 (by unfold pCl; rw [if_neg (by decide)]; unfold pHdO; rw [if_neg n3, if_neg n21, if_neg n39])
  · show od_Rq _ _ _ _ _ _ _ ((0, 0) :: _) _ _
    skip
    refine r_if_eq (tgt := 18) dX11_readOrder_6 rfl (fun _ => ?_) (fun h => absurd h (by decide))
    obtain ⟨n3, rfl⟩ := h3
    refine r_aload_n dX11_readOrder_18 rfl ?_
    refine r_bipush dX11_readOrder_19 lb_21 ?_
    refine r_callV1p dX11_readOrder_21 cvX11_180 (mo_o hm) (c_X11_takesS hm hk hs _ (by omega)) (by decide) (Nat.le_of_ble_eq_true rfl) od_le.rf (fun r21 g21 h21 => ?_)
    rcases h21 with ⟨rfl, h21⟩ | ⟨rfl, h21⟩
    · show od_Rq _ _ _ _ _ _ _ ((0, 1) :: _) _ _
      skip
      refine r_if_eq (tgt := 36) dX11_readOrder_24 rfl (fun h => absurd h (by decide)) (fun _ => ?_)
      refine r_aload_n dX11_readOrder_27 rfl ?_
      refine r_bipush dX11_readOrder_28 lb_22 ?_
      refine r_callV1p dX11_readOrder_30 cvX11_199 (mo_o hm) (c_X11_readTwo hm (hk.xt h21.2.1) h21.2.2 (hf.xt h21.2.1) _ (by omega)) (by decide) (Nat.le_of_ble_eq_true rfl) od_le.rf (fun r30 g30 h30 => ?_)
      obtain ⟨rfl, h30⟩ := h30
      show od_Rq _ _ _ _ _ _ _ [] _ _
      refine r_goto (tgt := 59) dX11_readOrder_33 rfl ?_
      first
      | exact sg_X11_readOrd2 hm hk hs hf ⟨h3.2.1.tr h12.1, h12.2.1, Int.le_trans (by show s.1 ≤ s.1 + 1; omega) h12.2.2⟩ (by unfold pCl; rw [if_neg (by decide)]; unfold pHdO; rw [if_pos h3.1])
      | exact sg_X11_readOrd2 hm hk hs hf ⟨h21.2.1.tr h30.1, h30.2.1, Int.le_trans (by show s.1 ≤ s.1 + 1; omega) h30.2.2⟩ (by unfold pCl; rw [if_neg (by decide)]; unfold pHdO; rw [if_neg n3, if_pos h21.1])
      | exact sg_X11_readOrd2 hm hk hs hf ⟨h39.2.1.tr h47.1, h47.2.1, Int.le_trans (by show s.1 ≤ s.1 + 1; omega) h47.2.2⟩ (by unfold pCl; rw [if_neg (by decide)]; unfold pHdO; rw [if_neg n3, if_neg n21, if_pos h39.1])
      | exact sg_X11_readOrd2 hm hk hs hf h56 (by unfold pCl; rw [if_neg (by decide)]; unfold pHdO; rw [if_neg n3, if_neg n21, if_neg n39])
    · show od_Rq _ _ _ _ _ _ _ ((0, 0) :: _) _ _
      skip
      refine r_if_eq (tgt := 36) dX11_readOrder_24 rfl (fun _ => ?_) (fun h => absurd h (by decide))
      obtain ⟨n21, rfl⟩ := h21
      refine r_aload_n dX11_readOrder_36 rfl ?_
      refine r_bipush dX11_readOrder_37 lb_23 ?_
      refine r_callV1p dX11_readOrder_39 cvX11_180 (mo_o hm) (c_X11_takesS hm hk hs _ (by omega)) (by decide) (Nat.le_of_ble_eq_true rfl) od_le.rf (fun r39 g39 h39 => ?_)
      rcases h39 with ⟨rfl, h39⟩ | ⟨rfl, h39⟩
      · show od_Rq _ _ _ _ _ _ _ ((0, 1) :: _) _ _
        skip
        refine r_if_eq (tgt := 53) dX11_readOrder_42 rfl (fun h => absurd h (by decide)) (fun _ => ?_)
        refine r_aload_n dX11_readOrder_45 rfl ?_
        refine r_iconst dX11_readOrder_46 li_0 ?_
        refine r_callV1p dX11_readOrder_47 cvX11_189 (mo_o hm) (c_X11_sum8 hm (hk.xt h39.2.1) h39.2.2 (hf.xt h39.2.1)) (by decide) (Nat.le_of_ble_eq_true rfl) od_le.rf (fun r47 g47 h47 => ?_)
        obtain ⟨rfl, h47⟩ := h47
        show od_Rq _ _ _ _ _ _ _ [] _ _
        refine r_goto (tgt := 59) dX11_readOrder_50 rfl ?_
        first
        | exact sg_X11_readOrd2 hm hk hs hf ⟨h3.2.1.tr h12.1, h12.2.1, Int.le_trans (by show s.1 ≤ s.1 + 1; omega) h12.2.2⟩ (by unfold pCl; rw [if_neg (by decide)]; unfold pHdO; rw [if_pos h3.1])
        | exact sg_X11_readOrd2 hm hk hs hf ⟨h21.2.1.tr h30.1, h30.2.1, Int.le_trans (by show s.1 ≤ s.1 + 1; omega) h30.2.2⟩ (by unfold pCl; rw [if_neg (by decide)]; unfold pHdO; rw [if_neg n3, if_pos h21.1])
        | exact sg_X11_readOrd2 hm hk hs hf ⟨h39.2.1.tr h47.1, h47.2.1, Int.le_trans (by show s.1 ≤ s.1 + 1; omega) h47.2.2⟩ (by unfold pCl; rw [if_neg (by decide)]; unfold pHdO; rw [if_neg n3, if_neg n21, if_pos h39.1])
        | exact sg_X11_readOrd2 hm hk hs hf h56 (by unfold pCl; rw [if_neg (by decide)]; unfold pHdO; rw [if_neg n3, if_neg n21, if_neg n39])
      · show od_Rq _ _ _ _ _ _ _ ((0, 0) :: _) _ _
        skip
        refine r_if_eq (tgt := 53) dX11_readOrder_42 rfl (fun _ => ?_) (fun h => absurd h (by decide))
        obtain ⟨n39, rfl⟩ := h39
        refine r_aload_n dX11_readOrder_53 rfl ?_
        refine r_bipush dX11_readOrder_54 lb_24 ?_
        refine r_callV1p dX11_readOrder_56 cvX11_193 (mo_o hm) (c_X11_must hm hk hs _ (by omega)) (by decide) (Nat.le_of_ble_eq_true rfl) od_le.rf (fun r56 g56 h56 => ?_)
        obtain ⟨rfl, h56⟩ := h56
        show od_Rq _ _ _ _ _ _ _ [] _ _
        first
        | exact sg_X11_readOrd2 hm hk hs hf ⟨h3.2.1.tr h12.1, h12.2.1, Int.le_trans (by show s.1 ≤ s.1 + 1; omega) h12.2.2⟩ (by unfold pCl; rw [if_neg (by decide)]; unfold pHdO; rw [if_pos h3.1])
        | exact sg_X11_readOrd2 hm hk hs hf ⟨h21.2.1.tr h30.1, h30.2.1, Int.le_trans (by show s.1 ≤ s.1 + 1; omega) h30.2.2⟩ (by unfold pCl; rw [if_neg (by decide)]; unfold pHdO; rw [if_neg n3, if_pos h21.1])
        | exact sg_X11_readOrd2 hm hk hs hf ⟨h39.2.1.tr h47.1, h47.2.1, Int.le_trans (by show s.1 ≤ s.1 + 1; omega) h47.2.2⟩ (by unfold pCl; rw [if_neg (by decide)]; unfold pHdO; rw [if_neg n3, if_neg n21, if_pos h39.1])
        | exact sg_X11_readOrd2 hm hk hs hf h56 (by unfold pCl; rw [if_neg (by decide)]; unfold pHdO; rw [if_neg n3, if_neg n21, if_neg n39])
set_option maxRecDepth 10000 in
theorem c_X11_readOne_t {E : od_E} {g : od_G} {M : Int} (hm : MoAt E M) {c v pl : Int → Int} {N : Int} (hk : TkOk g M c v pl N) {s : pS} (hs : MSt g M N s) (hf : MFl g M true) : od_Cq (36) mX11_readOne [(2, M)] E g (E, fun w g' => w = none ∧ MdQ g g' M N s (pCl c v pl true s).1) := by
  refine od_cqI pnX11 rfl (Nat.le_of_ble_eq_true rfl) od_le.rf ?_
  show od_Rq (36) mX11_readOne od_Z0 E (E, fun w g' => w = none ∧ MdQ g g' M N s (pCl c v pl true s).1) 0 [some (2, M)] [] E g
  refine r_aload_n dX11_readOne_0 rfl ?_
  refine r_getIj (j := 10) rfl dX11_readOne_1 fkX11_206 gf11_10 (mo_o hm) (by (repeat (first | rewrite [od_upn (by omega)] | rewrite [od_up_at, if_pos (by omega)] | rewrite [od_up_at, if_neg (by omega)])); rfl) ?_
  rw [show g M 10 = 0 from hf.2.2]
  refine r_if_eq (tgt := 14) dX11_readOne_4 rfl (fun _ => ?_) (fun h => absurd h (by decide))
  refine r_aload_n dX11_readOne_14 rfl ?_
  refine r_callV0p dX11_readOne_15 cvX11_213 (mo_o hm) (c_X11_readClause hm hk hs hf) (by decide) (Nat.le_of_ble_eq_true rfl) od_le.rf (fun r15 g15 h15 => ?_)
  obtain ⟨rfl, hx⟩ := h15
  show od_Rq _ _ _ _ _ _ _ [] _ _
  exact r_vretq dX11_readOne_18 rfl rfl ⟨rfl, hx⟩
set_option maxRecDepth 10000 in
theorem c_X11_readOne_f {E : od_E} {g : od_G} {M : Int} (hm : MoAt E M) {c v pl : Int → Int} {N : Int} (hk : TkOk g M c v pl N) {s : pS} (hs : MSt g M N s) (hf : MFl g M false) : od_Cq (36) mX11_readOne [(2, M)] E g (E, fun w g' => w = none ∧ MdQ g g' M N s (pCl c v pl false s).1) := by
  refine od_cqI pnX11 rfl (Nat.le_of_ble_eq_true rfl) od_le.rf ?_
  show od_Rq (36) mX11_readOne od_Z0 E (E, fun w g' => w = none ∧ MdQ g g' M N s (pCl c v pl false s).1) 0 [some (2, M)] [] E g
  refine r_aload_n dX11_readOne_0 rfl ?_
  refine r_getIj (j := 10) rfl dX11_readOne_1 fkX11_206 gf11_10 (mo_o hm) (by (repeat (first | rewrite [od_upn (by omega)] | rewrite [od_up_at, if_pos (by omega)] | rewrite [od_up_at, if_neg (by omega)])); rfl) ?_
  rw [show g M 10 = 1 from hf.2.2]
  refine r_if_eq (tgt := 14) dX11_readOne_4 rfl (fun h => absurd h (by decide)) (fun _ => ?_)
  refine r_aload_n dX11_readOne_7 rfl ?_
  refine r_callV0p dX11_readOne_8 cvX11_210 (mo_o hm) (c_X11_readOrder hm hk hs hf) (by decide) (Nat.le_of_ble_eq_true rfl) od_le.rf (fun r8 g8 h8 => ?_)
  obtain ⟨rfl, hx⟩ := h8
  show od_Rq _ _ _ _ _ _ _ [] _ _
  refine r_goto (tgt := 18) dX11_readOne_11 rfl ?_
  exact r_vretq dX11_readOne_18 rfl rfl ⟨rfl, hx⟩
theorem c_X11_readOne {E : od_E} {g : od_G} {M : Int} (hm : MoAt E M) {c v pl : Int → Int} {N : Int} (hk : TkOk g M c v pl N) {s : pS} (hs : MSt g M N s) {lw : Bool} (hf : MFl g M lw) : od_Cq 36 mX11_readOne [(2, M)] E g (E, fun w g' => w = none ∧ MdQ g g' M N s (pCl c v pl lw s).1) := by
  cases lw with
  | true => exact c_X11_readOne_t hm hk hs hf
  | false => exact c_X11_readOne_f hm hk hs hf
