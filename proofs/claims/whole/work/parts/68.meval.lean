theorem c_X11_partOf {E : od_E} {M : Int} (hm : MoAt E M) {b N : Int} {c v pl : Int → Int} {lw : Bool} {w : Int → Int} (hp : ∀ i : Int, 0 ≤ pl i) {L : Nat} (hS : ∀ L1 : Nat, L = L1 + 1 → ESum E M b N c v pl lw w L1) : EPrt E M b N c v pl lw w L := fun g s lv hv hl hbr hg hs0 hb hf => by
  cases lw with
  | true => exact c_X11_partOf_t hm hv hp hl hbr hg hs0 hb hf hS
  | false => exact c_X11_partOf_f hm hv hp hl hbr hg hs0 hb hf hS
theorem mBd_n (g : od_G) (M x lv : Int) {y : Int} (h : y ≠ 24) : mBd g M x lv M y = g M y := by
  unfold mBd
  split
  · rw [od_up_at, if_neg h]
  · rfl
theorem BrQ.zero {lv br br1 br2 x o : Int} {g : od_G} {M : Int} {d e : pD} {w : Int → Int} (hl : lv = 0 ∨ lv = 1) (h1 : BrQ lv br br1 x (d w)) (h2 : BrQ lv br1 br2 0 (e w)) (ho : o = 9 ∨ o = 10) (hq : (g M 24 = 1 ∧ (br2 ≠ 0 ∨ lv = 1)) ∨ (g M 24 = 0 ∧ br2 = 0 ∧ lv = 0)) (val : Int) : BrQ lv br (mBd g M val lv M 24) (od_ite (mBd g M val lv M 24 = 0) val 0) (pBin o d e w) := by
  have e24 : mBd g M val lv M 24 = if lv = 1 ∧ (1000000000 < val ∨ val < -1000000000) then 1 else g M 24 := by
    unfold mBd
    split
    · rw [od_up_at, if_pos rfl]
    · rfl
  rw [e24]
  obtain ⟨b1, h1⟩ := h1
  obtain ⟨b2, h2⟩ := h2
  have hj : pJn o x 0 = none := by
    unfold pJn
    have : cJoin o x 0 = -2000000000 := by
      unfold cJoin
      rcases ho with rfl | rfl
      · rfl
      · rfl
    rw [this, if_pos (by omega)]
  refine ⟨by split <;> omega, ?_⟩
  rcases h1 with ⟨l1, z1, ⟨n1, y1⟩ | ⟨n1, y1⟩⟩ | ⟨z1, y1⟩
  · exact Or.inl ⟨l1, z1, Or.inl ⟨pBin_n1 n1, by split <;> omega⟩⟩
  · rcases h2 with ⟨l2, z2, ⟨n2, y2⟩ | ⟨n2, y2⟩⟩ | ⟨z2, y2⟩
    · exact Or.inl ⟨l1, z1, Or.inl ⟨pBin_n2 n1 n2, by split <;> omega⟩⟩
    · exact Or.inl ⟨l1, z1, Or.inl ⟨by rw [pBin_s n1 n2]; exact hj, by split <;> omega⟩⟩
    · omega
  · refine Or.inr ⟨z1, ?_⟩
    rcases h2 with h | h
    · omega
    · split
      · omega
      · omega
theorem cJoin_6 (x y : Int) : cJoin 6 x y = od_wl (x + y) := rfl
theorem cJoin_7 (x y : Int) : cJoin 7 x y = od_wl (x - y) := rfl
theorem cJoin_8 (x y : Int) : cJoin 8 x y = od_wl (x * y) := rfl
theorem cJoin_9 {x y : Int} (h : y ≠ 0) : cJoin 9 x y = od_wl (x.tdiv y) := by
  unfold cJoin
  rw [if_neg (by decide), if_neg (by decide), if_neg (by decide), if_pos rfl, if_neg h]
theorem cJoin_10 {x y : Int} (h : y ≠ 0) : cJoin 10 x y = x.tmod y := by
  unfold cJoin
  rw [if_neg (by decide), if_neg (by decide), if_neg (by decide), if_neg (by decide), if_pos rfl, if_neg h]
set_option maxRecDepth 10000 in
theorem lp_X11_termOf {E : od_E} {g : od_G} {M : Int} (hm : MoAt E M) {b N : Int} {c v pl : Int → Int} {lw : Bool} {w : Int → Int} (hv : EV g M b N c v lw w) (hp : ∀ i : Int, 0 ≤ pl i) {s : pS} {lv : Int} (hl : lv = 0 ∨ lv = 1) (hbr : g M 24 = 0 ∨ g M 24 = 1) (hg : g M 22 = b + s.1) (hs0 : 0 ≤ s.1) (hb : s.2.2 = -1) {L : Nat} (hf : (pTerm c v pl lw (pSub c v pl lw L) s).1.2.2 = -1) (hI : EPrt E M b N c v pl lw w L) : ∀ (m : Nat) (gw : od_G) (f : Nat) (r : pR) (x : Int) (L4 L5 L6 : Option od_V), (pLoop c pOt (pPart c v pl lw (pSub c v pl lw L)) f r = pTerm c v pl lw (pSub c v pl lw L) s ∧ N - r.1.1 ≤ f ∧ EQ g gw M b w lv x s r) → ((N - r.1.1).toNat) < m → od_Rq (6 + 4 * L) mX11_termOf od_Z0 E (E, fun o g' => ∃ x : Int, o = some (1, x) ∧ EQ g g' M b w lv x s (pTerm c v pl lw (pSub c v pl lw L) s)) 6 [some (2, M), some (0, lv), some (1, x), none, L4, L5, L6] [] E gw := by
  intro m
  induction m with
  | zero => intro gw f r x L4 L5 L6 hi hM; exact absurd hM (Nat.not_lt_zero _)
  | succ m ih =>
    intro gw f r x L4 L5 L6 hi hM
    obtain ⟨hF, hfu, hq⟩ := hi
    have hvw := hv.fr hq.1
    have e22 := hq.2.1
    have hb0 := hv.1.2.1
    have hN0 := hv.1.2.2.1
    have hbw := hq.2.2.2.1
    have hr0 := hq.2.2.1
    have hrb : r.1.2.2 = -1 := pLoop_fine (by rw [hF]; exact hf)
    refine r_aload_n dX11_termOf_6 rfl ?_
    refine r_aload_n dX11_termOf_7 rfl ?_
    refine r_getIj (j := 22) rfl dX11_termOf_8 fkX11_263 gf11_22 (mo_o hm) (by first | exact e22 | rfl) ?_
    refine r_callV1i dX11_termOf_11 cvX11_266 (mo_o hm) (c_X11_codeAt hm hvw r.1.1 (by omega)) (by omega) (Nat.le_of_ble_eq_true rfl) od_le.rf ?_
    refine r_bipush dX11_termOf_14 lb_42 ?_
    refine r_callS1i dX11_termOf_16 csX11_222 (c_X11_sign _ (by omega)) (by omega) (Nat.le_of_ble_eq_true rfl) od_le.rf ?_
    refine r_icmp_eq (tgt := 54) dX11_termOf_19 rfl (fun c19 => ?_) (fun c19 => ?_)
    · have hck : c r.1.1 = 142 := by omega
      have hopk : pOt (c r.1.1) = 8 := by rw [hck]; rfl
      have hop : r.1.2.2 = -1 ∧ pOt (c r.1.1) ≠ -1 := ⟨hrb, by rw [hopk]; decide⟩
      have lt := hvw.lt (i := r.1.1) (by omega)
      obtain ⟨f0, hf0⟩ : ∃ f0 : Nat, f = f0 + 1 := ⟨f - 1, by omega⟩
      have f1 : od_fr (XB M) gw (od_up gw M 22 (b + (r.1.1 + 1))) := od_fr.rf.up (by unfold XB; omega)
      have hPf : (pPart c v pl lw (pSub c v pl lw L) (pNx r.1)).1.2.2 = -1 := by
        have z := hf
        rw [← hF, hf0, pLoop_s hop] at z
        have y := pLoop_fine z
        exact y
      refine r_aload_n dX11_termOf_54 rfl ?_
      refine r_aload_n dX11_termOf_55 rfl ?_
      refine r_getIj (j := 22) rfl dX11_termOf_56 fkX11_263 gf11_22 (mo_o hm) (by first | exact e22 | rfl) ?_
      refine r_callV1i dX11_termOf_59 cvX11_266 (mo_o hm) (c_X11_codeAt hm hvw r.1.1 (by omega)) (by omega) (Nat.le_of_ble_eq_true rfl) od_le.rf ?_
      refine r_istore dX11_termOf_62 (by decide) rfl ?_
      refine r_aload_n dX11_termOf_64 rfl ?_
      refine r_dup dX11_termOf_65 (by first | exact od_ne2 | exact od_ne0) ?_
      refine r_getIj (j := 22) rfl dX11_termOf_66 fkX11_263 gf11_22 (mo_o hm) (by first | exact e22 | rfl) ?_
      refine r_iconst dX11_termOf_69 li_1 ?_
      refine r_iaddE dX11_termOf_70 (by first | exact od_w0 (by omega) (by omega) | exact od_wI (by omega) (by omega) | rfl) ?_
      rw [show b + r.1.1 + 1 = b + (r.1.1 + 1) by omega]
      refine r_putIj (j := 22) rfl dX11_termOf_71 fkX11_263 gf11_22 pf11_22 (mo_o hm) ?_
      refine r_aload_n dX11_termOf_74 rfl ?_
      refine r_iload_n dX11_termOf_75 rfl ?_
      refine r_callV1p dX11_termOf_76 cvX11_284 (mo_o hm) (hI _ (pNx r.1) lv (hvw.fr f1) hl (by rw [od_up_at, if_neg (by omega)]; exact hbw) (by rw [od_up_at, if_pos rfl]; rfl) (by show 0 ≤ r.1.1 + 1; omega) hrb hPf) (by omega) (Nat.le_of_ble_eq_true rfl) od_le.rf (fun r76 g76 h76 => ?_)
      obtain ⟨xc, rfl, hqc⟩ := h76
      show od_Rq _ _ _ _ _ _ _ ((1, _) :: _) _ _
      refine r_lstore dX11_termOf_79 (by decide) rfl ?_
      refine r_iload dX11_termOf_81 rfl ?_
      refine r_bipush dX11_termOf_83 lb_42 ?_
      refine r_callS1i dX11_termOf_85 csX11_222 (c_X11_sign _ (by omega)) (by omega) (Nat.le_of_ble_eq_true rfl) od_le.rf ?_
      refine r_icmp_eq (tgt := 121) dX11_termOf_88 rfl (fun c88 => ?_) (fun h => absurd h (by omega))
      refine r_aload_n dX11_termOf_121 rfl ?_
      refine r_iload dX11_termOf_122 rfl ?_
      refine r_bipush dX11_termOf_124 lb_42 ?_
      refine r_callS1i dX11_termOf_126 csX11_222 (c_X11_sign _ (by omega)) (by omega) (Nat.le_of_ble_eq_true rfl) od_le.rf ?_
      refine r_icmp_ne (tgt := 139) dX11_termOf_129 rfl (fun h => absurd h (by omega)) (fun c129 => ?_)
      refine r_lload_n dX11_termOf_132 rfl ?_
      refine r_lload dX11_termOf_133 rfl ?_
      refine r_lmulE dX11_termOf_135 rfl ?_
      refine r_goto (tgt := 160) dX11_termOf_136 rfl ?_
      refine r_iload_n dX11_termOf_160 rfl ?_
      refine r_callV2i dX11_termOf_161 cvX11_280 (mo_o hm) (c_X11_bounded hm _ _ hl) (by omega) (Nat.le_of_ble_eq_true rfl) od_le.rf ?_
      refine r_lstore_n dX11_termOf_164 (by decide) rfl ?_
      refine r_goto (tgt := 6) dX11_termOf_165 rfl ?_
      have z := hqc.2.2.1
      have bx : (pNx r.1).1 = r.1.1 + 1 := rfl
      have e24 := hqc.2.2.2
      rw [od_up_at, if_neg (by omega)] at e24
      first
      | (refine ih _ f0 ((pPart c v pl lw (pSub c v pl lw L) (pNx r.1)).1, pBin (pOt (c r.1.1)) r.2 (pPart c v pl lw (pSub c v pl lw L) (pNx r.1)).2) _ _ _ _ ⟨by rw [← hF, hf0, pLoop_s hop], by show N - (pPart c v pl lw (pSub c v pl lw L) (pNx r.1)).1.1 ≤ _; omega, ((hq.1.tr f1).tr hqc.1).tr (mBd_fr _ _ _ _), (mBd_n _ _ _ _ (by omega)).trans hqc.2.1, by show s.1 ≤ (pPart c v pl lw (pSub c v pl lw L) (pNx r.1)).1.1; have := hq.2.2.1; omega, ?_⟩ (by show (N - (pPart c v pl lw (pSub c v pl lw L) (pNx r.1)).1.1).toNat < m; omega)
         rw [hopk]
         exact BrQ.bin hl hq.2.2.2 e24 rfl (fun _ _ => by first | rfl | rw [cJoin_9 (by omega)] | rw [cJoin_10 (by omega)]))
      | (refine ih _ f0 ((pPart c v pl lw (pSub c v pl lw L) (pNx r.1)).1, pBin (pOt (c r.1.1)) r.2 (pPart c v pl lw (pSub c v pl lw L) (pNx r.1)).2) _ _ _ _ ⟨by rw [← hF, hf0, pLoop_s hop], by show N - (pPart c v pl lw (pSub c v pl lw L) (pNx r.1)).1.1 ≤ _; omega, (((hq.1.tr f1).tr hqc.1).up (by unfold XB; omega)).tr (mBd_fr _ _ _ _), (mBd_n _ _ _ _ (by omega)).trans (by rw [od_up_at, if_neg (by omega)]; exact hqc.2.1), by show s.1 ≤ (pPart c v pl lw (pSub c v pl lw L) (pNx r.1)).1.1; have := hq.2.2.1; omega, ?_⟩ (by show (N - (pPart c v pl lw (pSub c v pl lw L) (pNx r.1)).1.1).toNat < m; omega)
         rw [hopk]
         have ez : xc = 0 := by omega
         rw [ez] at e24
         refine BrQ.zero hl hq.2.2.2 e24 (by omega) ?_ _
         rw [od_up_at, if_pos rfl]
         omega)
    · refine r_aload_n dX11_termOf_22 rfl ?_
      refine r_aload_n dX11_termOf_23 rfl ?_
      refine r_getIj (j := 22) rfl dX11_termOf_24 fkX11_263 gf11_22 (mo_o hm) (by first | exact e22 | rfl) ?_
      refine r_callV1i dX11_termOf_27 cvX11_266 (mo_o hm) (c_X11_codeAt hm hvw r.1.1 (by omega)) (by omega) (Nat.le_of_ble_eq_true rfl) od_le.rf ?_
      refine r_bipush dX11_termOf_30 lb_47 ?_
      refine r_callS1i dX11_termOf_32 csX11_222 (c_X11_sign _ (by omega)) (by omega) (Nat.le_of_ble_eq_true rfl) od_le.rf ?_
      refine r_icmp_eq (tgt := 54) dX11_termOf_35 rfl (fun c35 => ?_) (fun c35 => ?_)
      · have hck : c r.1.1 = 147 := by omega
        have hopk : pOt (c r.1.1) = 9 := by rw [hck]; rfl
        have hop : r.1.2.2 = -1 ∧ pOt (c r.1.1) ≠ -1 := ⟨hrb, by rw [hopk]; decide⟩
        have lt := hvw.lt (i := r.1.1) (by omega)
        obtain ⟨f0, hf0⟩ : ∃ f0 : Nat, f = f0 + 1 := ⟨f - 1, by omega⟩
        have f1 : od_fr (XB M) gw (od_up gw M 22 (b + (r.1.1 + 1))) := od_fr.rf.up (by unfold XB; omega)
        have hPf : (pPart c v pl lw (pSub c v pl lw L) (pNx r.1)).1.2.2 = -1 := by
          have z := hf
          rw [← hF, hf0, pLoop_s hop] at z
          have y := pLoop_fine z
          exact y
        refine r_aload_n dX11_termOf_54 rfl ?_
        refine r_aload_n dX11_termOf_55 rfl ?_
        refine r_getIj (j := 22) rfl dX11_termOf_56 fkX11_263 gf11_22 (mo_o hm) (by first | exact e22 | rfl) ?_
        refine r_callV1i dX11_termOf_59 cvX11_266 (mo_o hm) (c_X11_codeAt hm hvw r.1.1 (by omega)) (by omega) (Nat.le_of_ble_eq_true rfl) od_le.rf ?_
        refine r_istore dX11_termOf_62 (by decide) rfl ?_
        refine r_aload_n dX11_termOf_64 rfl ?_
        refine r_dup dX11_termOf_65 (by first | exact od_ne2 | exact od_ne0) ?_
        refine r_getIj (j := 22) rfl dX11_termOf_66 fkX11_263 gf11_22 (mo_o hm) (by first | exact e22 | rfl) ?_
        refine r_iconst dX11_termOf_69 li_1 ?_
        refine r_iaddE dX11_termOf_70 (by first | exact od_w0 (by omega) (by omega) | exact od_wI (by omega) (by omega) | rfl) ?_
        rw [show b + r.1.1 + 1 = b + (r.1.1 + 1) by omega]
        refine r_putIj (j := 22) rfl dX11_termOf_71 fkX11_263 gf11_22 pf11_22 (mo_o hm) ?_
        refine r_aload_n dX11_termOf_74 rfl ?_
        refine r_iload_n dX11_termOf_75 rfl ?_
        refine r_callV1p dX11_termOf_76 cvX11_284 (mo_o hm) (hI _ (pNx r.1) lv (hvw.fr f1) hl (by rw [od_up_at, if_neg (by omega)]; exact hbw) (by rw [od_up_at, if_pos rfl]; rfl) (by show 0 ≤ r.1.1 + 1; omega) hrb hPf) (by omega) (Nat.le_of_ble_eq_true rfl) od_le.rf (fun r76 g76 h76 => ?_)
        obtain ⟨xc, rfl, hqc⟩ := h76
        show od_Rq _ _ _ _ _ _ _ ((1, _) :: _) _ _
        refine r_lstore dX11_termOf_79 (by decide) rfl ?_
        refine r_iload dX11_termOf_81 rfl ?_
        refine r_bipush dX11_termOf_83 lb_42 ?_
        refine r_callS1i dX11_termOf_85 csX11_222 (c_X11_sign _ (by omega)) (by omega) (Nat.le_of_ble_eq_true rfl) od_le.rf ?_
        refine r_icmp_eq (tgt := 121) dX11_termOf_88 rfl (fun h => absurd h (by omega)) (fun c88 => ?_)
        refine r_lload dX11_termOf_91 rfl ?_
        refine r_lconst dX11_termOf_93 ll_0 ?_
        refine r_lcmp3 dX11_termOf_94 (fun c94 => ?_) (fun c94 => ?_) (fun c94 => ?_)
        · refine r_if_ne (tgt := 121) dX11_termOf_95 rfl (fun _ => ?_) (fun h => absurd h (by decide))
          refine r_aload_n dX11_termOf_121 rfl ?_
          refine r_iload dX11_termOf_122 rfl ?_
          refine r_bipush dX11_termOf_124 lb_42 ?_
          refine r_callS1i dX11_termOf_126 csX11_222 (c_X11_sign _ (by omega)) (by omega) (Nat.le_of_ble_eq_true rfl) od_le.rf ?_
          refine r_icmp_ne (tgt := 139) dX11_termOf_129 rfl (fun c129 => ?_) (fun h => absurd h (by omega))
          refine r_iload dX11_termOf_139 rfl ?_
          refine r_bipush dX11_termOf_141 lb_47 ?_
          refine r_callS1i dX11_termOf_143 csX11_222 (c_X11_sign _ (by omega)) (by omega) (Nat.le_of_ble_eq_true rfl) od_le.rf ?_
          refine r_icmp_ne (tgt := 156) dX11_termOf_146 rfl (fun h => absurd h (by omega)) (fun c146 => ?_)
          refine r_lload_n dX11_termOf_149 rfl ?_
          refine r_lload dX11_termOf_150 rfl ?_
          refine r_ldiv dX11_termOf_152 (by first | decide | omega) ?_
          refine r_goto (tgt := 160) dX11_termOf_153 rfl ?_
          refine r_iload_n dX11_termOf_160 rfl ?_
          refine r_callV2i dX11_termOf_161 cvX11_280 (mo_o hm) (c_X11_bounded hm _ _ hl) (by omega) (Nat.le_of_ble_eq_true rfl) od_le.rf ?_
          refine r_lstore_n dX11_termOf_164 (by decide) rfl ?_
          refine r_goto (tgt := 6) dX11_termOf_165 rfl ?_
          have z := hqc.2.2.1
          have bx : (pNx r.1).1 = r.1.1 + 1 := rfl
          have e24 := hqc.2.2.2
          rw [od_up_at, if_neg (by omega)] at e24
          first
          | (refine ih _ f0 ((pPart c v pl lw (pSub c v pl lw L) (pNx r.1)).1, pBin (pOt (c r.1.1)) r.2 (pPart c v pl lw (pSub c v pl lw L) (pNx r.1)).2) _ _ _ _ ⟨by rw [← hF, hf0, pLoop_s hop], by show N - (pPart c v pl lw (pSub c v pl lw L) (pNx r.1)).1.1 ≤ _; omega, ((hq.1.tr f1).tr hqc.1).tr (mBd_fr _ _ _ _), (mBd_n _ _ _ _ (by omega)).trans hqc.2.1, by show s.1 ≤ (pPart c v pl lw (pSub c v pl lw L) (pNx r.1)).1.1; have := hq.2.2.1; omega, ?_⟩ (by show (N - (pPart c v pl lw (pSub c v pl lw L) (pNx r.1)).1.1).toNat < m; omega)
             rw [hopk]
             exact BrQ.bin hl hq.2.2.2 e24 rfl (fun _ _ => by first | rfl | rw [cJoin_9 (by omega)] | rw [cJoin_10 (by omega)]))
          | (refine ih _ f0 ((pPart c v pl lw (pSub c v pl lw L) (pNx r.1)).1, pBin (pOt (c r.1.1)) r.2 (pPart c v pl lw (pSub c v pl lw L) (pNx r.1)).2) _ _ _ _ ⟨by rw [← hF, hf0, pLoop_s hop], by show N - (pPart c v pl lw (pSub c v pl lw L) (pNx r.1)).1.1 ≤ _; omega, (((hq.1.tr f1).tr hqc.1).up (by unfold XB; omega)).tr (mBd_fr _ _ _ _), (mBd_n _ _ _ _ (by omega)).trans (by rw [od_up_at, if_neg (by omega)]; exact hqc.2.1), by show s.1 ≤ (pPart c v pl lw (pSub c v pl lw L) (pNx r.1)).1.1; have := hq.2.2.1; omega, ?_⟩ (by show (N - (pPart c v pl lw (pSub c v pl lw L) (pNx r.1)).1.1).toNat < m; omega)
             rw [hopk]
             have ez : xc = 0 := by omega
             rw [ez] at e24
             refine BrQ.zero hl hq.2.2.2 e24 (by omega) ?_ _
             rw [od_up_at, if_pos rfl]
             omega)
        · refine r_if_ne (tgt := 121) dX11_termOf_95 rfl (fun h => absurd h (by decide)) (fun _ => ?_)
          have hb24 := hqc.2.2.2.1
          refine r_aload_n dX11_termOf_98 rfl ?_
          refine r_aload_n dX11_termOf_99 rfl ?_
          refine r_getIj (j := 24) rfl dX11_termOf_100 fkX11_273 gf11_24 (mo_o hm) (by first | exact e22 | rfl) ?_
          refine r_if_ne (tgt := 110) dX11_termOf_103 rfl (fun c103 => ?_) (fun c103 => ?_)
          · refine r_iconst dX11_termOf_110 li_1 ?_
            refine r_goto (tgt := 115) dX11_termOf_111 rfl ?_
            refine r_putZj (j := 24) rfl dX11_termOf_115 fkX11_273 gf11_24 pf11_24 (by first | exact Or.inl rfl | exact Or.inr rfl | omega | assumption) (mo_o hm) ?_
            refine r_lconst dX11_termOf_118 ll_1 ?_
            refine r_lstore dX11_termOf_119 (by decide) rfl ?_
            refine r_aload_n dX11_termOf_121 rfl ?_
            refine r_iload dX11_termOf_122 rfl ?_
            refine r_bipush dX11_termOf_124 lb_42 ?_
            refine r_callS1i dX11_termOf_126 csX11_222 (c_X11_sign _ (by omega)) (by omega) (Nat.le_of_ble_eq_true rfl) od_le.rf ?_
            refine r_icmp_ne (tgt := 139) dX11_termOf_129 rfl (fun c129 => ?_) (fun h => absurd h (by omega))
            refine r_iload dX11_termOf_139 rfl ?_
            refine r_bipush dX11_termOf_141 lb_47 ?_
            refine r_callS1i dX11_termOf_143 csX11_222 (c_X11_sign _ (by omega)) (by omega) (Nat.le_of_ble_eq_true rfl) od_le.rf ?_
            refine r_icmp_ne (tgt := 156) dX11_termOf_146 rfl (fun h => absurd h (by omega)) (fun c146 => ?_)
            refine r_lload_n dX11_termOf_149 rfl ?_
            refine r_lload dX11_termOf_150 rfl ?_
            refine r_ldiv dX11_termOf_152 (by first | decide | omega) ?_
            refine r_goto (tgt := 160) dX11_termOf_153 rfl ?_
            refine r_iload_n dX11_termOf_160 rfl ?_
            refine r_callV2i dX11_termOf_161 cvX11_280 (mo_o hm) (c_X11_bounded hm _ _ hl) (by omega) (Nat.le_of_ble_eq_true rfl) od_le.rf ?_
            refine r_lstore_n dX11_termOf_164 (by decide) rfl ?_
            refine r_goto (tgt := 6) dX11_termOf_165 rfl ?_
            have z := hqc.2.2.1
            have bx : (pNx r.1).1 = r.1.1 + 1 := rfl
            have e24 := hqc.2.2.2
            rw [od_up_at, if_neg (by omega)] at e24
            first
            | (refine ih _ f0 ((pPart c v pl lw (pSub c v pl lw L) (pNx r.1)).1, pBin (pOt (c r.1.1)) r.2 (pPart c v pl lw (pSub c v pl lw L) (pNx r.1)).2) _ _ _ _ ⟨by rw [← hF, hf0, pLoop_s hop], by show N - (pPart c v pl lw (pSub c v pl lw L) (pNx r.1)).1.1 ≤ _; omega, ((hq.1.tr f1).tr hqc.1).tr (mBd_fr _ _ _ _), (mBd_n _ _ _ _ (by omega)).trans hqc.2.1, by show s.1 ≤ (pPart c v pl lw (pSub c v pl lw L) (pNx r.1)).1.1; have := hq.2.2.1; omega, ?_⟩ (by show (N - (pPart c v pl lw (pSub c v pl lw L) (pNx r.1)).1.1).toNat < m; omega)
               rw [hopk]
               exact BrQ.bin hl hq.2.2.2 e24 rfl (fun _ _ => by first | rfl | rw [cJoin_9 (by omega)] | rw [cJoin_10 (by omega)]))
            | (refine ih _ f0 ((pPart c v pl lw (pSub c v pl lw L) (pNx r.1)).1, pBin (pOt (c r.1.1)) r.2 (pPart c v pl lw (pSub c v pl lw L) (pNx r.1)).2) _ _ _ _ ⟨by rw [← hF, hf0, pLoop_s hop], by show N - (pPart c v pl lw (pSub c v pl lw L) (pNx r.1)).1.1 ≤ _; omega, (((hq.1.tr f1).tr hqc.1).up (by unfold XB; omega)).tr (mBd_fr _ _ _ _), (mBd_n _ _ _ _ (by omega)).trans (by rw [od_up_at, if_neg (by omega)]; exact hqc.2.1), by show s.1 ≤ (pPart c v pl lw (pSub c v pl lw L) (pNx r.1)).1.1; have := hq.2.2.1; omega, ?_⟩ (by show (N - (pPart c v pl lw (pSub c v pl lw L) (pNx r.1)).1.1).toNat < m; omega)
               rw [hopk]
               have ez : xc = 0 := by omega
               rw [ez] at e24
               refine BrQ.zero hl hq.2.2.2 e24 (by omega) ?_ _
               rw [od_up_at, if_pos rfl]
               omega)
          · refine r_iload_n dX11_termOf_106 rfl ?_
            refine r_if_eq (tgt := 114) dX11_termOf_107 rfl (fun c107 => ?_) (fun c107 => ?_)
            · refine r_iconst dX11_termOf_114 li_0 ?_
              refine r_putZj (j := 24) rfl dX11_termOf_115 fkX11_273 gf11_24 pf11_24 (by first | exact Or.inl rfl | exact Or.inr rfl | omega | assumption) (mo_o hm) ?_
              refine r_lconst dX11_termOf_118 ll_1 ?_
              refine r_lstore dX11_termOf_119 (by decide) rfl ?_
              refine r_aload_n dX11_termOf_121 rfl ?_
              refine r_iload dX11_termOf_122 rfl ?_
              refine r_bipush dX11_termOf_124 lb_42 ?_
              refine r_callS1i dX11_termOf_126 csX11_222 (c_X11_sign _ (by omega)) (by omega) (Nat.le_of_ble_eq_true rfl) od_le.rf ?_
              refine r_icmp_ne (tgt := 139) dX11_termOf_129 rfl (fun c129 => ?_) (fun h => absurd h (by omega))
              refine r_iload dX11_termOf_139 rfl ?_
              refine r_bipush dX11_termOf_141 lb_47 ?_
              refine r_callS1i dX11_termOf_143 csX11_222 (c_X11_sign _ (by omega)) (by omega) (Nat.le_of_ble_eq_true rfl) od_le.rf ?_
              refine r_icmp_ne (tgt := 156) dX11_termOf_146 rfl (fun h => absurd h (by omega)) (fun c146 => ?_)
              refine r_lload_n dX11_termOf_149 rfl ?_
              refine r_lload dX11_termOf_150 rfl ?_
              refine r_ldiv dX11_termOf_152 (by first | decide | omega) ?_
              refine r_goto (tgt := 160) dX11_termOf_153 rfl ?_
              refine r_iload_n dX11_termOf_160 rfl ?_
              refine r_callV2i dX11_termOf_161 cvX11_280 (mo_o hm) (c_X11_bounded hm _ _ hl) (by omega) (Nat.le_of_ble_eq_true rfl) od_le.rf ?_
              refine r_lstore_n dX11_termOf_164 (by decide) rfl ?_
              refine r_goto (tgt := 6) dX11_termOf_165 rfl ?_
              have z := hqc.2.2.1
              have bx : (pNx r.1).1 = r.1.1 + 1 := rfl
              have e24 := hqc.2.2.2
              rw [od_up_at, if_neg (by omega)] at e24
              first
              | (refine ih _ f0 ((pPart c v pl lw (pSub c v pl lw L) (pNx r.1)).1, pBin (pOt (c r.1.1)) r.2 (pPart c v pl lw (pSub c v pl lw L) (pNx r.1)).2) _ _ _ _ ⟨by rw [← hF, hf0, pLoop_s hop], by show N - (pPart c v pl lw (pSub c v pl lw L) (pNx r.1)).1.1 ≤ _; omega, ((hq.1.tr f1).tr hqc.1).tr (mBd_fr _ _ _ _), (mBd_n _ _ _ _ (by omega)).trans hqc.2.1, by show s.1 ≤ (pPart c v pl lw (pSub c v pl lw L) (pNx r.1)).1.1; have := hq.2.2.1; omega, ?_⟩ (by show (N - (pPart c v pl lw (pSub c v pl lw L) (pNx r.1)).1.1).toNat < m; omega)
                 rw [hopk]
                 exact BrQ.bin hl hq.2.2.2 e24 rfl (fun _ _ => by first | rfl | rw [cJoin_9 (by omega)] | rw [cJoin_10 (by omega)]))
              | (refine ih _ f0 ((pPart c v pl lw (pSub c v pl lw L) (pNx r.1)).1, pBin (pOt (c r.1.1)) r.2 (pPart c v pl lw (pSub c v pl lw L) (pNx r.1)).2) _ _ _ _ ⟨by rw [← hF, hf0, pLoop_s hop], by show N - (pPart c v pl lw (pSub c v pl lw L) (pNx r.1)).1.1 ≤ _; omega, (((hq.1.tr f1).tr hqc.1).up (by unfold XB; omega)).tr (mBd_fr _ _ _ _), (mBd_n _ _ _ _ (by omega)).trans (by rw [od_up_at, if_neg (by omega)]; exact hqc.2.1), by show s.1 ≤ (pPart c v pl lw (pSub c v pl lw L) (pNx r.1)).1.1; have := hq.2.2.1; omega, ?_⟩ (by show (N - (pPart c v pl lw (pSub c v pl lw L) (pNx r.1)).1.1).toNat < m; omega)
                 rw [hopk]
                 have ez : xc = 0 := by omega
                 rw [ez] at e24
                 refine BrQ.zero hl hq.2.2.2 e24 (by omega) ?_ _
                 rw [od_up_at, if_pos rfl]
                 omega)
            · refine r_iconst dX11_termOf_110 li_1 ?_
              refine r_goto (tgt := 115) dX11_termOf_111 rfl ?_
              refine r_putZj (j := 24) rfl dX11_termOf_115 fkX11_273 gf11_24 pf11_24 (by first | exact Or.inl rfl | exact Or.inr rfl | omega | assumption) (mo_o hm) ?_
              refine r_lconst dX11_termOf_118 ll_1 ?_
              refine r_lstore dX11_termOf_119 (by decide) rfl ?_
              refine r_aload_n dX11_termOf_121 rfl ?_
              refine r_iload dX11_termOf_122 rfl ?_
              refine r_bipush dX11_termOf_124 lb_42 ?_
              refine r_callS1i dX11_termOf_126 csX11_222 (c_X11_sign _ (by omega)) (by omega) (Nat.le_of_ble_eq_true rfl) od_le.rf ?_
              refine r_icmp_ne (tgt := 139) dX11_termOf_129 rfl (fun c129 => ?_) (fun h => absurd h (by omega))
              refine r_iload dX11_termOf_139 rfl ?_
              refine r_bipush dX11_termOf_141 lb_47 ?_
              refine r_callS1i dX11_termOf_143 csX11_222 (c_X11_sign _ (by omega)) (by omega) (Nat.le_of_ble_eq_true rfl) od_le.rf ?_
              refine r_icmp_ne (tgt := 156) dX11_termOf_146 rfl (fun h => absurd h (by omega)) (fun c146 => ?_)
              refine r_lload_n dX11_termOf_149 rfl ?_
              refine r_lload dX11_termOf_150 rfl ?_
              refine r_ldiv dX11_termOf_152 (by first | decide | omega) ?_
              refine r_goto (tgt := 160) dX11_termOf_153 rfl ?_
              refine r_iload_n dX11_termOf_160 rfl ?_
              refine r_callV2i dX11_termOf_161 cvX11_280 (mo_o hm) (c_X11_bounded hm _ _ hl) (by omega) (Nat.le_of_ble_eq_true rfl) od_le.rf ?_
              refine r_lstore_n dX11_termOf_164 (by decide) rfl ?_
              refine r_goto (tgt := 6) dX11_termOf_165 rfl ?_
              have z := hqc.2.2.1
              have bx : (pNx r.1).1 = r.1.1 + 1 := rfl
              have e24 := hqc.2.2.2
              rw [od_up_at, if_neg (by omega)] at e24
              first
              | (refine ih _ f0 ((pPart c v pl lw (pSub c v pl lw L) (pNx r.1)).1, pBin (pOt (c r.1.1)) r.2 (pPart c v pl lw (pSub c v pl lw L) (pNx r.1)).2) _ _ _ _ ⟨by rw [← hF, hf0, pLoop_s hop], by show N - (pPart c v pl lw (pSub c v pl lw L) (pNx r.1)).1.1 ≤ _; omega, ((hq.1.tr f1).tr hqc.1).tr (mBd_fr _ _ _ _), (mBd_n _ _ _ _ (by omega)).trans hqc.2.1, by show s.1 ≤ (pPart c v pl lw (pSub c v pl lw L) (pNx r.1)).1.1; have := hq.2.2.1; omega, ?_⟩ (by show (N - (pPart c v pl lw (pSub c v pl lw L) (pNx r.1)).1.1).toNat < m; omega)
                 rw [hopk]
                 exact BrQ.bin hl hq.2.2.2 e24 rfl (fun _ _ => by first | rfl | rw [cJoin_9 (by omega)] | rw [cJoin_10 (by omega)]))
              | (refine ih _ f0 ((pPart c v pl lw (pSub c v pl lw L) (pNx r.1)).1, pBin (pOt (c r.1.1)) r.2 (pPart c v pl lw (pSub c v pl lw L) (pNx r.1)).2) _ _ _ _ ⟨by rw [← hF, hf0, pLoop_s hop], by show N - (pPart c v pl lw (pSub c v pl lw L) (pNx r.1)).1.1 ≤ _; omega, (((hq.1.tr f1).tr hqc.1).up (by unfold XB; omega)).tr (mBd_fr _ _ _ _), (mBd_n _ _ _ _ (by omega)).trans (by rw [od_up_at, if_neg (by omega)]; exact hqc.2.1), by show s.1 ≤ (pPart c v pl lw (pSub c v pl lw L) (pNx r.1)).1.1; have := hq.2.2.1; omega, ?_⟩ (by show (N - (pPart c v pl lw (pSub c v pl lw L) (pNx r.1)).1.1).toNat < m; omega)
                 rw [hopk]
                 have ez : xc = 0 := by omega
                 rw [ez] at e24
                 refine BrQ.zero hl hq.2.2.2 e24 (by omega) ?_ _
                 rw [od_up_at, if_pos rfl]
                 omega)
        · refine r_if_ne (tgt := 121) dX11_termOf_95 rfl (fun _ => ?_) (fun h => absurd h (by decide))
          refine r_aload_n dX11_termOf_121 rfl ?_
          refine r_iload dX11_termOf_122 rfl ?_
          refine r_bipush dX11_termOf_124 lb_42 ?_
          refine r_callS1i dX11_termOf_126 csX11_222 (c_X11_sign _ (by omega)) (by omega) (Nat.le_of_ble_eq_true rfl) od_le.rf ?_
          refine r_icmp_ne (tgt := 139) dX11_termOf_129 rfl (fun c129 => ?_) (fun h => absurd h (by omega))
          refine r_iload dX11_termOf_139 rfl ?_
          refine r_bipush dX11_termOf_141 lb_47 ?_
          refine r_callS1i dX11_termOf_143 csX11_222 (c_X11_sign _ (by omega)) (by omega) (Nat.le_of_ble_eq_true rfl) od_le.rf ?_
          refine r_icmp_ne (tgt := 156) dX11_termOf_146 rfl (fun h => absurd h (by omega)) (fun c146 => ?_)
          refine r_lload_n dX11_termOf_149 rfl ?_
          refine r_lload dX11_termOf_150 rfl ?_
          refine r_ldiv dX11_termOf_152 (by first | decide | omega) ?_
          refine r_goto (tgt := 160) dX11_termOf_153 rfl ?_
          refine r_iload_n dX11_termOf_160 rfl ?_
          refine r_callV2i dX11_termOf_161 cvX11_280 (mo_o hm) (c_X11_bounded hm _ _ hl) (by omega) (Nat.le_of_ble_eq_true rfl) od_le.rf ?_
          refine r_lstore_n dX11_termOf_164 (by decide) rfl ?_
          refine r_goto (tgt := 6) dX11_termOf_165 rfl ?_
          have z := hqc.2.2.1
          have bx : (pNx r.1).1 = r.1.1 + 1 := rfl
          have e24 := hqc.2.2.2
          rw [od_up_at, if_neg (by omega)] at e24
          first
          | (refine ih _ f0 ((pPart c v pl lw (pSub c v pl lw L) (pNx r.1)).1, pBin (pOt (c r.1.1)) r.2 (pPart c v pl lw (pSub c v pl lw L) (pNx r.1)).2) _ _ _ _ ⟨by rw [← hF, hf0, pLoop_s hop], by show N - (pPart c v pl lw (pSub c v pl lw L) (pNx r.1)).1.1 ≤ _; omega, ((hq.1.tr f1).tr hqc.1).tr (mBd_fr _ _ _ _), (mBd_n _ _ _ _ (by omega)).trans hqc.2.1, by show s.1 ≤ (pPart c v pl lw (pSub c v pl lw L) (pNx r.1)).1.1; have := hq.2.2.1; omega, ?_⟩ (by show (N - (pPart c v pl lw (pSub c v pl lw L) (pNx r.1)).1.1).toNat < m; omega)
             rw [hopk]
             exact BrQ.bin hl hq.2.2.2 e24 rfl (fun _ _ => by first | rfl | rw [cJoin_9 (by omega)] | rw [cJoin_10 (by omega)]))
          | (refine ih _ f0 ((pPart c v pl lw (pSub c v pl lw L) (pNx r.1)).1, pBin (pOt (c r.1.1)) r.2 (pPart c v pl lw (pSub c v pl lw L) (pNx r.1)).2) _ _ _ _ ⟨by rw [← hF, hf0, pLoop_s hop], by show N - (pPart c v pl lw (pSub c v pl lw L) (pNx r.1)).1.1 ≤ _; omega, (((hq.1.tr f1).tr hqc.1).up (by unfold XB; omega)).tr (mBd_fr _ _ _ _), (mBd_n _ _ _ _ (by omega)).trans (by rw [od_up_at, if_neg (by omega)]; exact hqc.2.1), by show s.1 ≤ (pPart c v pl lw (pSub c v pl lw L) (pNx r.1)).1.1; have := hq.2.2.1; omega, ?_⟩ (by show (N - (pPart c v pl lw (pSub c v pl lw L) (pNx r.1)).1.1).toNat < m; omega)
             rw [hopk]
             have ez : xc = 0 := by omega
             rw [ez] at e24
             refine BrQ.zero hl hq.2.2.2 e24 (by omega) ?_ _
             rw [od_up_at, if_pos rfl]
             omega)
      · refine r_aload_n dX11_termOf_38 rfl ?_
        refine r_aload_n dX11_termOf_39 rfl ?_
        refine r_getIj (j := 22) rfl dX11_termOf_40 fkX11_263 gf11_22 (mo_o hm) (by first | exact e22 | rfl) ?_
        refine r_callV1i dX11_termOf_43 cvX11_266 (mo_o hm) (c_X11_codeAt hm hvw r.1.1 (by omega)) (by omega) (Nat.le_of_ble_eq_true rfl) od_le.rf ?_
        refine r_bipush dX11_termOf_46 lb_37 ?_
        refine r_callS1i dX11_termOf_48 csX11_222 (c_X11_sign _ (by omega)) (by omega) (Nat.le_of_ble_eq_true rfl) od_le.rf ?_
        refine r_icmp_ne (tgt := 168) dX11_termOf_51 rfl (fun c51 => ?_) (fun c51 => ?_)
        · refine r_lload_n dX11_termOf_168 rfl ?_
          refine r_lretq dX11_termOf_169 rfl rfl ⟨_, rfl, ?_⟩
          have hne : ¬ (r.1.2.2 = -1 ∧ pOt (c r.1.1) ≠ -1) := fun z => z.2 (by
            unfold pOt
            rw [if_neg (by omega), if_neg (by omega), if_neg (by omega)])
          rw [← hF, pLoop_e hne]
          exact hq
        · have hck : c r.1.1 = 137 := by omega
          have hopk : pOt (c r.1.1) = 10 := by rw [hck]; rfl
          have hop : r.1.2.2 = -1 ∧ pOt (c r.1.1) ≠ -1 := ⟨hrb, by rw [hopk]; decide⟩
          have lt := hvw.lt (i := r.1.1) (by omega)
          obtain ⟨f0, hf0⟩ : ∃ f0 : Nat, f = f0 + 1 := ⟨f - 1, by omega⟩
          have f1 : od_fr (XB M) gw (od_up gw M 22 (b + (r.1.1 + 1))) := od_fr.rf.up (by unfold XB; omega)
          have hPf : (pPart c v pl lw (pSub c v pl lw L) (pNx r.1)).1.2.2 = -1 := by
            have z := hf
            rw [← hF, hf0, pLoop_s hop] at z
            have y := pLoop_fine z
            exact y
          refine r_aload_n dX11_termOf_54 rfl ?_
          refine r_aload_n dX11_termOf_55 rfl ?_
          refine r_getIj (j := 22) rfl dX11_termOf_56 fkX11_263 gf11_22 (mo_o hm) (by first | exact e22 | rfl) ?_
          refine r_callV1i dX11_termOf_59 cvX11_266 (mo_o hm) (c_X11_codeAt hm hvw r.1.1 (by omega)) (by omega) (Nat.le_of_ble_eq_true rfl) od_le.rf ?_
          refine r_istore dX11_termOf_62 (by decide) rfl ?_
          refine r_aload_n dX11_termOf_64 rfl ?_
          refine r_dup dX11_termOf_65 (by first | exact od_ne2 | exact od_ne0) ?_
          refine r_getIj (j := 22) rfl dX11_termOf_66 fkX11_263 gf11_22 (mo_o hm) (by first | exact e22 | rfl) ?_
          refine r_iconst dX11_termOf_69 li_1 ?_
          refine r_iaddE dX11_termOf_70 (by first | exact od_w0 (by omega) (by omega) | exact od_wI (by omega) (by omega) | rfl) ?_
          rw [show b + r.1.1 + 1 = b + (r.1.1 + 1) by omega]
          refine r_putIj (j := 22) rfl dX11_termOf_71 fkX11_263 gf11_22 pf11_22 (mo_o hm) ?_
          refine r_aload_n dX11_termOf_74 rfl ?_
          refine r_iload_n dX11_termOf_75 rfl ?_
          refine r_callV1p dX11_termOf_76 cvX11_284 (mo_o hm) (hI _ (pNx r.1) lv (hvw.fr f1) hl (by rw [od_up_at, if_neg (by omega)]; exact hbw) (by rw [od_up_at, if_pos rfl]; rfl) (by show 0 ≤ r.1.1 + 1; omega) hrb hPf) (by omega) (Nat.le_of_ble_eq_true rfl) od_le.rf (fun r76 g76 h76 => ?_)
          obtain ⟨xc, rfl, hqc⟩ := h76
          show od_Rq _ _ _ _ _ _ _ ((1, _) :: _) _ _
          refine r_lstore dX11_termOf_79 (by decide) rfl ?_
          refine r_iload dX11_termOf_81 rfl ?_
          refine r_bipush dX11_termOf_83 lb_42 ?_
          refine r_callS1i dX11_termOf_85 csX11_222 (c_X11_sign _ (by omega)) (by omega) (Nat.le_of_ble_eq_true rfl) od_le.rf ?_
          refine r_icmp_eq (tgt := 121) dX11_termOf_88 rfl (fun h => absurd h (by omega)) (fun c88 => ?_)
          refine r_lload dX11_termOf_91 rfl ?_
          refine r_lconst dX11_termOf_93 ll_0 ?_
          refine r_lcmp3 dX11_termOf_94 (fun c94 => ?_) (fun c94 => ?_) (fun c94 => ?_)
          · refine r_if_ne (tgt := 121) dX11_termOf_95 rfl (fun _ => ?_) (fun h => absurd h (by decide))
            refine r_aload_n dX11_termOf_121 rfl ?_
            refine r_iload dX11_termOf_122 rfl ?_
            refine r_bipush dX11_termOf_124 lb_42 ?_
            refine r_callS1i dX11_termOf_126 csX11_222 (c_X11_sign _ (by omega)) (by omega) (Nat.le_of_ble_eq_true rfl) od_le.rf ?_
            refine r_icmp_ne (tgt := 139) dX11_termOf_129 rfl (fun c129 => ?_) (fun h => absurd h (by omega))
            refine r_iload dX11_termOf_139 rfl ?_
            refine r_bipush dX11_termOf_141 lb_47 ?_
            refine r_callS1i dX11_termOf_143 csX11_222 (c_X11_sign _ (by omega)) (by omega) (Nat.le_of_ble_eq_true rfl) od_le.rf ?_
            refine r_icmp_ne (tgt := 156) dX11_termOf_146 rfl (fun c146 => ?_) (fun h => absurd h (by omega))
            refine r_lload_n dX11_termOf_156 rfl ?_
            refine r_lload dX11_termOf_157 rfl ?_
            refine r_lrem dX11_termOf_159 (by first | decide | omega) ?_
            refine r_iload_n dX11_termOf_160 rfl ?_
            refine r_callV2i dX11_termOf_161 cvX11_280 (mo_o hm) (c_X11_bounded hm _ _ hl) (by omega) (Nat.le_of_ble_eq_true rfl) od_le.rf ?_
            refine r_lstore_n dX11_termOf_164 (by decide) rfl ?_
            refine r_goto (tgt := 6) dX11_termOf_165 rfl ?_
            have z := hqc.2.2.1
            have bx : (pNx r.1).1 = r.1.1 + 1 := rfl
            have e24 := hqc.2.2.2
            rw [od_up_at, if_neg (by omega)] at e24
            first
            | (refine ih _ f0 ((pPart c v pl lw (pSub c v pl lw L) (pNx r.1)).1, pBin (pOt (c r.1.1)) r.2 (pPart c v pl lw (pSub c v pl lw L) (pNx r.1)).2) _ _ _ _ ⟨by rw [← hF, hf0, pLoop_s hop], by show N - (pPart c v pl lw (pSub c v pl lw L) (pNx r.1)).1.1 ≤ _; omega, ((hq.1.tr f1).tr hqc.1).tr (mBd_fr _ _ _ _), (mBd_n _ _ _ _ (by omega)).trans hqc.2.1, by show s.1 ≤ (pPart c v pl lw (pSub c v pl lw L) (pNx r.1)).1.1; have := hq.2.2.1; omega, ?_⟩ (by show (N - (pPart c v pl lw (pSub c v pl lw L) (pNx r.1)).1.1).toNat < m; omega)
               rw [hopk]
               exact BrQ.bin hl hq.2.2.2 e24 rfl (fun _ _ => by first | rfl | rw [cJoin_9 (by omega)] | rw [cJoin_10 (by omega)]))
            | (refine ih _ f0 ((pPart c v pl lw (pSub c v pl lw L) (pNx r.1)).1, pBin (pOt (c r.1.1)) r.2 (pPart c v pl lw (pSub c v pl lw L) (pNx r.1)).2) _ _ _ _ ⟨by rw [← hF, hf0, pLoop_s hop], by show N - (pPart c v pl lw (pSub c v pl lw L) (pNx r.1)).1.1 ≤ _; omega, (((hq.1.tr f1).tr hqc.1).up (by unfold XB; omega)).tr (mBd_fr _ _ _ _), (mBd_n _ _ _ _ (by omega)).trans (by rw [od_up_at, if_neg (by omega)]; exact hqc.2.1), by show s.1 ≤ (pPart c v pl lw (pSub c v pl lw L) (pNx r.1)).1.1; have := hq.2.2.1; omega, ?_⟩ (by show (N - (pPart c v pl lw (pSub c v pl lw L) (pNx r.1)).1.1).toNat < m; omega)
               rw [hopk]
               have ez : xc = 0 := by omega
               rw [ez] at e24
               refine BrQ.zero hl hq.2.2.2 e24 (by omega) ?_ _
               rw [od_up_at, if_pos rfl]
               omega)
          · refine r_if_ne (tgt := 121) dX11_termOf_95 rfl (fun h => absurd h (by decide)) (fun _ => ?_)
            have hb24 := hqc.2.2.2.1
            refine r_aload_n dX11_termOf_98 rfl ?_
            refine r_aload_n dX11_termOf_99 rfl ?_
            refine r_getIj (j := 24) rfl dX11_termOf_100 fkX11_273 gf11_24 (mo_o hm) (by first | exact e22 | rfl) ?_
            refine r_if_ne (tgt := 110) dX11_termOf_103 rfl (fun c103 => ?_) (fun c103 => ?_)
            · refine r_iconst dX11_termOf_110 li_1 ?_
              refine r_goto (tgt := 115) dX11_termOf_111 rfl ?_
              refine r_putZj (j := 24) rfl dX11_termOf_115 fkX11_273 gf11_24 pf11_24 (by first | exact Or.inl rfl | exact Or.inr rfl | omega | assumption) (mo_o hm) ?_
              refine r_lconst dX11_termOf_118 ll_1 ?_
              refine r_lstore dX11_termOf_119 (by decide) rfl ?_
              refine r_aload_n dX11_termOf_121 rfl ?_
              refine r_iload dX11_termOf_122 rfl ?_
              refine r_bipush dX11_termOf_124 lb_42 ?_
              refine r_callS1i dX11_termOf_126 csX11_222 (c_X11_sign _ (by omega)) (by omega) (Nat.le_of_ble_eq_true rfl) od_le.rf ?_
              refine r_icmp_ne (tgt := 139) dX11_termOf_129 rfl (fun c129 => ?_) (fun h => absurd h (by omega))
              refine r_iload dX11_termOf_139 rfl ?_
              refine r_bipush dX11_termOf_141 lb_47 ?_
              refine r_callS1i dX11_termOf_143 csX11_222 (c_X11_sign _ (by omega)) (by omega) (Nat.le_of_ble_eq_true rfl) od_le.rf ?_
              refine r_icmp_ne (tgt := 156) dX11_termOf_146 rfl (fun c146 => ?_) (fun h => absurd h (by omega))
              refine r_lload_n dX11_termOf_156 rfl ?_
              refine r_lload dX11_termOf_157 rfl ?_
              refine r_lrem dX11_termOf_159 (by first | decide | omega) ?_
              refine r_iload_n dX11_termOf_160 rfl ?_
              refine r_callV2i dX11_termOf_161 cvX11_280 (mo_o hm) (c_X11_bounded hm _ _ hl) (by omega) (Nat.le_of_ble_eq_true rfl) od_le.rf ?_
              refine r_lstore_n dX11_termOf_164 (by decide) rfl ?_
              refine r_goto (tgt := 6) dX11_termOf_165 rfl ?_
              have z := hqc.2.2.1
              have bx : (pNx r.1).1 = r.1.1 + 1 := rfl
              have e24 := hqc.2.2.2
              rw [od_up_at, if_neg (by omega)] at e24
              first
              | (refine ih _ f0 ((pPart c v pl lw (pSub c v pl lw L) (pNx r.1)).1, pBin (pOt (c r.1.1)) r.2 (pPart c v pl lw (pSub c v pl lw L) (pNx r.1)).2) _ _ _ _ ⟨by rw [← hF, hf0, pLoop_s hop], by show N - (pPart c v pl lw (pSub c v pl lw L) (pNx r.1)).1.1 ≤ _; omega, ((hq.1.tr f1).tr hqc.1).tr (mBd_fr _ _ _ _), (mBd_n _ _ _ _ (by omega)).trans hqc.2.1, by show s.1 ≤ (pPart c v pl lw (pSub c v pl lw L) (pNx r.1)).1.1; have := hq.2.2.1; omega, ?_⟩ (by show (N - (pPart c v pl lw (pSub c v pl lw L) (pNx r.1)).1.1).toNat < m; omega)
                 rw [hopk]
                 exact BrQ.bin hl hq.2.2.2 e24 rfl (fun _ _ => by first | rfl | rw [cJoin_9 (by omega)] | rw [cJoin_10 (by omega)]))
              | (refine ih _ f0 ((pPart c v pl lw (pSub c v pl lw L) (pNx r.1)).1, pBin (pOt (c r.1.1)) r.2 (pPart c v pl lw (pSub c v pl lw L) (pNx r.1)).2) _ _ _ _ ⟨by rw [← hF, hf0, pLoop_s hop], by show N - (pPart c v pl lw (pSub c v pl lw L) (pNx r.1)).1.1 ≤ _; omega, (((hq.1.tr f1).tr hqc.1).up (by unfold XB; omega)).tr (mBd_fr _ _ _ _), (mBd_n _ _ _ _ (by omega)).trans (by rw [od_up_at, if_neg (by omega)]; exact hqc.2.1), by show s.1 ≤ (pPart c v pl lw (pSub c v pl lw L) (pNx r.1)).1.1; have := hq.2.2.1; omega, ?_⟩ (by show (N - (pPart c v pl lw (pSub c v pl lw L) (pNx r.1)).1.1).toNat < m; omega)
                 rw [hopk]
                 have ez : xc = 0 := by omega
                 rw [ez] at e24
                 refine BrQ.zero hl hq.2.2.2 e24 (by omega) ?_ _
                 rw [od_up_at, if_pos rfl]
                 omega)
            · refine r_iload_n dX11_termOf_106 rfl ?_
              refine r_if_eq (tgt := 114) dX11_termOf_107 rfl (fun c107 => ?_) (fun c107 => ?_)
              · refine r_iconst dX11_termOf_114 li_0 ?_
                refine r_putZj (j := 24) rfl dX11_termOf_115 fkX11_273 gf11_24 pf11_24 (by first | exact Or.inl rfl | exact Or.inr rfl | omega | assumption) (mo_o hm) ?_
                refine r_lconst dX11_termOf_118 ll_1 ?_
                refine r_lstore dX11_termOf_119 (by decide) rfl ?_
                refine r_aload_n dX11_termOf_121 rfl ?_
                refine r_iload dX11_termOf_122 rfl ?_
                refine r_bipush dX11_termOf_124 lb_42 ?_
                refine r_callS1i dX11_termOf_126 csX11_222 (c_X11_sign _ (by omega)) (by omega) (Nat.le_of_ble_eq_true rfl) od_le.rf ?_
                refine r_icmp_ne (tgt := 139) dX11_termOf_129 rfl (fun c129 => ?_) (fun h => absurd h (by omega))
                refine r_iload dX11_termOf_139 rfl ?_
                refine r_bipush dX11_termOf_141 lb_47 ?_
                refine r_callS1i dX11_termOf_143 csX11_222 (c_X11_sign _ (by omega)) (by omega) (Nat.le_of_ble_eq_true rfl) od_le.rf ?_
                refine r_icmp_ne (tgt := 156) dX11_termOf_146 rfl (fun c146 => ?_) (fun h => absurd h (by omega))
                refine r_lload_n dX11_termOf_156 rfl ?_
                refine r_lload dX11_termOf_157 rfl ?_
                refine r_lrem dX11_termOf_159 (by first | decide | omega) ?_
                refine r_iload_n dX11_termOf_160 rfl ?_
                refine r_callV2i dX11_termOf_161 cvX11_280 (mo_o hm) (c_X11_bounded hm _ _ hl) (by omega) (Nat.le_of_ble_eq_true rfl) od_le.rf ?_
                refine r_lstore_n dX11_termOf_164 (by decide) rfl ?_
                refine r_goto (tgt := 6) dX11_termOf_165 rfl ?_
                have z := hqc.2.2.1
                have bx : (pNx r.1).1 = r.1.1 + 1 := rfl
                have e24 := hqc.2.2.2
                rw [od_up_at, if_neg (by omega)] at e24
                first
                | (refine ih _ f0 ((pPart c v pl lw (pSub c v pl lw L) (pNx r.1)).1, pBin (pOt (c r.1.1)) r.2 (pPart c v pl lw (pSub c v pl lw L) (pNx r.1)).2) _ _ _ _ ⟨by rw [← hF, hf0, pLoop_s hop], by show N - (pPart c v pl lw (pSub c v pl lw L) (pNx r.1)).1.1 ≤ _; omega, ((hq.1.tr f1).tr hqc.1).tr (mBd_fr _ _ _ _), (mBd_n _ _ _ _ (by omega)).trans hqc.2.1, by show s.1 ≤ (pPart c v pl lw (pSub c v pl lw L) (pNx r.1)).1.1; have := hq.2.2.1; omega, ?_⟩ (by show (N - (pPart c v pl lw (pSub c v pl lw L) (pNx r.1)).1.1).toNat < m; omega)
                   rw [hopk]
                   exact BrQ.bin hl hq.2.2.2 e24 rfl (fun _ _ => by first | rfl | rw [cJoin_9 (by omega)] | rw [cJoin_10 (by omega)]))
                | (refine ih _ f0 ((pPart c v pl lw (pSub c v pl lw L) (pNx r.1)).1, pBin (pOt (c r.1.1)) r.2 (pPart c v pl lw (pSub c v pl lw L) (pNx r.1)).2) _ _ _ _ ⟨by rw [← hF, hf0, pLoop_s hop], by show N - (pPart c v pl lw (pSub c v pl lw L) (pNx r.1)).1.1 ≤ _; omega, (((hq.1.tr f1).tr hqc.1).up (by unfold XB; omega)).tr (mBd_fr _ _ _ _), (mBd_n _ _ _ _ (by omega)).trans (by rw [od_up_at, if_neg (by omega)]; exact hqc.2.1), by show s.1 ≤ (pPart c v pl lw (pSub c v pl lw L) (pNx r.1)).1.1; have := hq.2.2.1; omega, ?_⟩ (by show (N - (pPart c v pl lw (pSub c v pl lw L) (pNx r.1)).1.1).toNat < m; omega)
                   rw [hopk]
                   have ez : xc = 0 := by omega
                   rw [ez] at e24
                   refine BrQ.zero hl hq.2.2.2 e24 (by omega) ?_ _
                   rw [od_up_at, if_pos rfl]
                   omega)
              · refine r_iconst dX11_termOf_110 li_1 ?_
                refine r_goto (tgt := 115) dX11_termOf_111 rfl ?_
                refine r_putZj (j := 24) rfl dX11_termOf_115 fkX11_273 gf11_24 pf11_24 (by first | exact Or.inl rfl | exact Or.inr rfl | omega | assumption) (mo_o hm) ?_
                refine r_lconst dX11_termOf_118 ll_1 ?_
                refine r_lstore dX11_termOf_119 (by decide) rfl ?_
                refine r_aload_n dX11_termOf_121 rfl ?_
                refine r_iload dX11_termOf_122 rfl ?_
                refine r_bipush dX11_termOf_124 lb_42 ?_
                refine r_callS1i dX11_termOf_126 csX11_222 (c_X11_sign _ (by omega)) (by omega) (Nat.le_of_ble_eq_true rfl) od_le.rf ?_
                refine r_icmp_ne (tgt := 139) dX11_termOf_129 rfl (fun c129 => ?_) (fun h => absurd h (by omega))
                refine r_iload dX11_termOf_139 rfl ?_
                refine r_bipush dX11_termOf_141 lb_47 ?_
                refine r_callS1i dX11_termOf_143 csX11_222 (c_X11_sign _ (by omega)) (by omega) (Nat.le_of_ble_eq_true rfl) od_le.rf ?_
                refine r_icmp_ne (tgt := 156) dX11_termOf_146 rfl (fun c146 => ?_) (fun h => absurd h (by omega))
                refine r_lload_n dX11_termOf_156 rfl ?_
                refine r_lload dX11_termOf_157 rfl ?_
                refine r_lrem dX11_termOf_159 (by first | decide | omega) ?_
                refine r_iload_n dX11_termOf_160 rfl ?_
                refine r_callV2i dX11_termOf_161 cvX11_280 (mo_o hm) (c_X11_bounded hm _ _ hl) (by omega) (Nat.le_of_ble_eq_true rfl) od_le.rf ?_
                refine r_lstore_n dX11_termOf_164 (by decide) rfl ?_
                refine r_goto (tgt := 6) dX11_termOf_165 rfl ?_
                have z := hqc.2.2.1
                have bx : (pNx r.1).1 = r.1.1 + 1 := rfl
                have e24 := hqc.2.2.2
                rw [od_up_at, if_neg (by omega)] at e24
                first
                | (refine ih _ f0 ((pPart c v pl lw (pSub c v pl lw L) (pNx r.1)).1, pBin (pOt (c r.1.1)) r.2 (pPart c v pl lw (pSub c v pl lw L) (pNx r.1)).2) _ _ _ _ ⟨by rw [← hF, hf0, pLoop_s hop], by show N - (pPart c v pl lw (pSub c v pl lw L) (pNx r.1)).1.1 ≤ _; omega, ((hq.1.tr f1).tr hqc.1).tr (mBd_fr _ _ _ _), (mBd_n _ _ _ _ (by omega)).trans hqc.2.1, by show s.1 ≤ (pPart c v pl lw (pSub c v pl lw L) (pNx r.1)).1.1; have := hq.2.2.1; omega, ?_⟩ (by show (N - (pPart c v pl lw (pSub c v pl lw L) (pNx r.1)).1.1).toNat < m; omega)
                   rw [hopk]
                   exact BrQ.bin hl hq.2.2.2 e24 rfl (fun _ _ => by first | rfl | rw [cJoin_9 (by omega)] | rw [cJoin_10 (by omega)]))
                | (refine ih _ f0 ((pPart c v pl lw (pSub c v pl lw L) (pNx r.1)).1, pBin (pOt (c r.1.1)) r.2 (pPart c v pl lw (pSub c v pl lw L) (pNx r.1)).2) _ _ _ _ ⟨by rw [← hF, hf0, pLoop_s hop], by show N - (pPart c v pl lw (pSub c v pl lw L) (pNx r.1)).1.1 ≤ _; omega, (((hq.1.tr f1).tr hqc.1).up (by unfold XB; omega)).tr (mBd_fr _ _ _ _), (mBd_n _ _ _ _ (by omega)).trans (by rw [od_up_at, if_neg (by omega)]; exact hqc.2.1), by show s.1 ≤ (pPart c v pl lw (pSub c v pl lw L) (pNx r.1)).1.1; have := hq.2.2.1; omega, ?_⟩ (by show (N - (pPart c v pl lw (pSub c v pl lw L) (pNx r.1)).1.1).toNat < m; omega)
                   rw [hopk]
                   have ez : xc = 0 := by omega
                   rw [ez] at e24
                   refine BrQ.zero hl hq.2.2.2 e24 (by omega) ?_ _
                   rw [od_up_at, if_pos rfl]
                   omega)
          · refine r_if_ne (tgt := 121) dX11_termOf_95 rfl (fun _ => ?_) (fun h => absurd h (by decide))
            refine r_aload_n dX11_termOf_121 rfl ?_
            refine r_iload dX11_termOf_122 rfl ?_
            refine r_bipush dX11_termOf_124 lb_42 ?_
            refine r_callS1i dX11_termOf_126 csX11_222 (c_X11_sign _ (by omega)) (by omega) (Nat.le_of_ble_eq_true rfl) od_le.rf ?_
            refine r_icmp_ne (tgt := 139) dX11_termOf_129 rfl (fun c129 => ?_) (fun h => absurd h (by omega))
            refine r_iload dX11_termOf_139 rfl ?_
            refine r_bipush dX11_termOf_141 lb_47 ?_
            refine r_callS1i dX11_termOf_143 csX11_222 (c_X11_sign _ (by omega)) (by omega) (Nat.le_of_ble_eq_true rfl) od_le.rf ?_
            refine r_icmp_ne (tgt := 156) dX11_termOf_146 rfl (fun c146 => ?_) (fun h => absurd h (by omega))
            refine r_lload_n dX11_termOf_156 rfl ?_
            refine r_lload dX11_termOf_157 rfl ?_
            refine r_lrem dX11_termOf_159 (by first | decide | omega) ?_
            refine r_iload_n dX11_termOf_160 rfl ?_
            refine r_callV2i dX11_termOf_161 cvX11_280 (mo_o hm) (c_X11_bounded hm _ _ hl) (by omega) (Nat.le_of_ble_eq_true rfl) od_le.rf ?_
            refine r_lstore_n dX11_termOf_164 (by decide) rfl ?_
            refine r_goto (tgt := 6) dX11_termOf_165 rfl ?_
            have z := hqc.2.2.1
            have bx : (pNx r.1).1 = r.1.1 + 1 := rfl
            have e24 := hqc.2.2.2
            rw [od_up_at, if_neg (by omega)] at e24
            first
            | (refine ih _ f0 ((pPart c v pl lw (pSub c v pl lw L) (pNx r.1)).1, pBin (pOt (c r.1.1)) r.2 (pPart c v pl lw (pSub c v pl lw L) (pNx r.1)).2) _ _ _ _ ⟨by rw [← hF, hf0, pLoop_s hop], by show N - (pPart c v pl lw (pSub c v pl lw L) (pNx r.1)).1.1 ≤ _; omega, ((hq.1.tr f1).tr hqc.1).tr (mBd_fr _ _ _ _), (mBd_n _ _ _ _ (by omega)).trans hqc.2.1, by show s.1 ≤ (pPart c v pl lw (pSub c v pl lw L) (pNx r.1)).1.1; have := hq.2.2.1; omega, ?_⟩ (by show (N - (pPart c v pl lw (pSub c v pl lw L) (pNx r.1)).1.1).toNat < m; omega)
               rw [hopk]
               exact BrQ.bin hl hq.2.2.2 e24 rfl (fun _ _ => by first | rfl | rw [cJoin_9 (by omega)] | rw [cJoin_10 (by omega)]))
            | (refine ih _ f0 ((pPart c v pl lw (pSub c v pl lw L) (pNx r.1)).1, pBin (pOt (c r.1.1)) r.2 (pPart c v pl lw (pSub c v pl lw L) (pNx r.1)).2) _ _ _ _ ⟨by rw [← hF, hf0, pLoop_s hop], by show N - (pPart c v pl lw (pSub c v pl lw L) (pNx r.1)).1.1 ≤ _; omega, (((hq.1.tr f1).tr hqc.1).up (by unfold XB; omega)).tr (mBd_fr _ _ _ _), (mBd_n _ _ _ _ (by omega)).trans (by rw [od_up_at, if_neg (by omega)]; exact hqc.2.1), by show s.1 ≤ (pPart c v pl lw (pSub c v pl lw L) (pNx r.1)).1.1; have := hq.2.2.1; omega, ?_⟩ (by show (N - (pPart c v pl lw (pSub c v pl lw L) (pNx r.1)).1.1).toNat < m; omega)
               rw [hopk]
               have ez : xc = 0 := by omega
               rw [ez] at e24
               refine BrQ.zero hl hq.2.2.2 e24 (by omega) ?_ _
               rw [od_up_at, if_pos rfl]
               omega)
set_option maxRecDepth 10000 in
theorem c_X11_termOf {E : od_E} {g : od_G} {M : Int} (hm : MoAt E M) {b N : Int} {c v pl : Int → Int} {lw : Bool} {w : Int → Int} (hv : EV g M b N c v lw w) (hp : ∀ i : Int, 0 ≤ pl i) {s : pS} {lv : Int} (hl : lv = 0 ∨ lv = 1) (hbr : g M 24 = 0 ∨ g M 24 = 1) (hg : g M 22 = b + s.1) (hs0 : 0 ≤ s.1) (hb : s.2.2 = -1) {L : Nat} (hf : (pTerm c v pl lw (pSub c v pl lw L) s).1.2.2 = -1) (hI : EPrt E M b N c v pl lw w L) : od_Cq (6 + 4 * L) mX11_termOf [(2, M), (0, lv)] E g (E, fun o g' => ∃ x : Int, o = some (1, x) ∧ EQ g g' M b w lv x s (pTerm c v pl lw (pSub c v pl lw L) s)) := by
  have hPs : (pPart c v pl lw (pSub c v pl lw L) s).1.2.2 = -1 := pLoop_fine hf
  refine od_cqI pnX11 rfl (Nat.le_of_ble_eq_true rfl) od_le.rf ?_
  show od_Rq (6 + 4 * L) mX11_termOf od_Z0 E (E, fun o g' => ∃ x : Int, o = some (1, x) ∧ EQ g g' M b w lv x s (pTerm c v pl lw (pSub c v pl lw L) s)) 0 [some (2, M), some (0, lv), none, none, none, none, none] [] E g
  refine r_aload_n dX11_termOf_0 rfl ?_
  refine r_iload_n dX11_termOf_1 rfl ?_
  refine r_callV1p dX11_termOf_2 cvX11_284 (mo_o hm) (hI g s lv hv hl hbr hg hs0 hb hPs) (by omega) (Nat.le_of_ble_eq_true rfl) od_le.rf (fun r2 g2 h2 => ?_)
  obtain ⟨x2, rfl, hq2⟩ := h2
  show od_Rq _ _ _ _ _ _ _ ((1, _) :: _) _ _
  refine r_lstore_n dX11_termOf_5 (by decide) rfl ?_
  exact lp_X11_termOf hm hv hp hl hbr hg hs0 hb hf hI _ _ 400 (pPart c v pl lw (pSub c v pl lw L) s) _ _ _ _ ⟨rfl, by have := hv.1.2.2.1; have := hq2.2.2.1; omega, hq2⟩ (Nat.lt_succ_self _)
set_option maxRecDepth 10000 in
theorem lp_X11_sumOf {E : od_E} {g : od_G} {M : Int} (hm : MoAt E M) {b N : Int} {c v pl : Int → Int} {lw : Bool} {w : Int → Int} (hv : EV g M b N c v lw w) (hp : ∀ i : Int, 0 ≤ pl i) {s : pS} {lv : Int} (hl : lv = 0 ∨ lv = 1) (hbr : g M 24 = 0 ∨ g M 24 = 1) (hg : g M 22 = b + s.1) (hs0 : 0 ≤ s.1) (hb : s.2.2 = -1) {L : Nat} (hf : (pSum c v pl lw (pSub c v pl lw L) s).1.2.2 = -1) (hI : ETrm E M b N c v pl lw w L) : ∀ (m : Nat) (gw : od_G) (f : Nat) (r : pR) (x : Int) (L4 L5 L6 : Option od_V), (pLoop c pOs (pTerm c v pl lw (pSub c v pl lw L)) f r = pSum c v pl lw (pSub c v pl lw L) s ∧ N - r.1.1 ≤ f ∧ EQ g gw M b w lv x s r) → ((N - r.1.1).toNat) < m → od_Rq (7 + 4 * L) mX11_sumOf od_Z0 E (E, fun o g' => ∃ x : Int, o = some (1, x) ∧ EQ g g' M b w lv x s (pSum c v pl lw (pSub c v pl lw L) s)) 6 [some (2, M), some (0, lv), some (1, x), none, L4, L5, L6] [] E gw := by
  intro m
  induction m with
  | zero => intro gw f r x L4 L5 L6 hi hM; exact absurd hM (Nat.not_lt_zero _)
  | succ m ih =>
    intro gw f r x L4 L5 L6 hi hM
    obtain ⟨hF, hfu, hq⟩ := hi
    have hvw := hv.fr hq.1
    have e22 := hq.2.1
    have hb0 := hv.1.2.1
    have hN0 := hv.1.2.2.1
    have hbw := hq.2.2.2.1
    have hr0 := hq.2.2.1
    have hrb : r.1.2.2 = -1 := pLoop_fine (by rw [hF]; exact hf)
    refine r_aload_n dX11_sumOf_6 rfl ?_
    refine r_aload_n dX11_sumOf_7 rfl ?_
    refine r_getIj (j := 22) rfl dX11_sumOf_8 fkX11_263 gf11_22 (mo_o hm) (by first | exact e22 | rfl) ?_
    refine r_callV1i dX11_sumOf_11 cvX11_266 (mo_o hm) (c_X11_codeAt hm hvw r.1.1 (by omega)) (by omega) (Nat.le_of_ble_eq_true rfl) od_le.rf ?_
    refine r_bipush dX11_sumOf_14 lb_43 ?_
    refine r_callS1i dX11_sumOf_16 csX11_222 (c_X11_sign _ (by omega)) (by omega) (Nat.le_of_ble_eq_true rfl) od_le.rf ?_
    refine r_icmp_eq (tgt := 38) dX11_sumOf_19 rfl (fun c19 => ?_) (fun c19 => ?_)
    · have hck : c r.1.1 = 143 := by omega
      have hopk : pOs (c r.1.1) = 6 := by rw [hck]; rfl
      have hop : r.1.2.2 = -1 ∧ pOs (c r.1.1) ≠ -1 := ⟨hrb, by rw [hopk]; decide⟩
      have lt := hvw.lt (i := r.1.1) (by omega)
      obtain ⟨f0, hf0⟩ : ∃ f0 : Nat, f = f0 + 1 := ⟨f - 1, by omega⟩
      have f1 : od_fr (XB M) gw (od_up gw M 22 (b + (r.1.1 + 1))) := od_fr.rf.up (by unfold XB; omega)
      have hPf : (pTerm c v pl lw (pSub c v pl lw L) (pNx r.1)).1.2.2 = -1 := by
        have z := hf
        rw [← hF, hf0, pLoop_s hop] at z
        have y := pLoop_fine z
        exact y
      refine r_aload_n dX11_sumOf_38 rfl ?_
      refine r_aload_n dX11_sumOf_39 rfl ?_
      refine r_getIj (j := 22) rfl dX11_sumOf_40 fkX11_263 gf11_22 (mo_o hm) (by first | exact e22 | rfl) ?_
      refine r_callV1i dX11_sumOf_43 cvX11_266 (mo_o hm) (c_X11_codeAt hm hvw r.1.1 (by omega)) (by omega) (Nat.le_of_ble_eq_true rfl) od_le.rf ?_
      refine r_bipush dX11_sumOf_46 lb_43 ?_
      refine r_callS1i dX11_sumOf_48 csX11_222 (c_X11_sign _ (by omega)) (by omega) (Nat.le_of_ble_eq_true rfl) od_le.rf ?_
      refine r_icmp_ne (tgt := 58) dX11_sumOf_51 rfl (fun h => absurd h (by omega)) (fun c51 => ?_)
      refine r_iconst dX11_sumOf_54 li_1 ?_
      refine r_goto (tgt := 59) dX11_sumOf_55 rfl ?_
      refine r_istore dX11_sumOf_59 (by decide) rfl ?_
      refine r_aload_n dX11_sumOf_61 rfl ?_
      refine r_dup dX11_sumOf_62 (by first | exact od_ne2 | exact od_ne0) ?_
      refine r_getIj (j := 22) rfl dX11_sumOf_63 fkX11_263 gf11_22 (mo_o hm) (by first | exact e22 | rfl) ?_
      refine r_iconst dX11_sumOf_66 li_1 ?_
      refine r_iaddE dX11_sumOf_67 (by first | exact od_w0 (by omega) (by omega) | exact od_wI (by omega) (by omega) | rfl) ?_
      rw [show b + r.1.1 + 1 = b + (r.1.1 + 1) by omega]
      refine r_putIj (j := 22) rfl dX11_sumOf_68 fkX11_263 gf11_22 pf11_22 (mo_o hm) ?_
      refine r_aload_n dX11_sumOf_71 rfl ?_
      refine r_iload_n dX11_sumOf_72 rfl ?_
      refine r_callV1p dX11_sumOf_73 cvX11_276 (mo_o hm) (hI _ (pNx r.1) lv (hvw.fr f1) hl (by rw [od_up_at, if_neg (by omega)]; exact hbw) (by rw [od_up_at, if_pos rfl]; rfl) (by show 0 ≤ r.1.1 + 1; omega) hrb hPf) (by omega) (Nat.le_of_ble_eq_true rfl) od_le.rf (fun r73 g73 h73 => ?_)
      obtain ⟨xc, rfl, hqc⟩ := h73
      show od_Rq _ _ _ _ _ _ _ ((1, _) :: _) _ _
      refine r_lstore dX11_sumOf_76 (by decide) rfl ?_
      refine r_aload_n dX11_sumOf_78 rfl ?_
      refine r_iload dX11_sumOf_79 rfl ?_
      refine r_if_eq (tgt := 91) dX11_sumOf_81 rfl (fun h => absurd h (by decide)) (fun _ => ?_)
      refine r_lload_n dX11_sumOf_84 rfl ?_
      refine r_lload dX11_sumOf_85 rfl ?_
      refine r_laddE dX11_sumOf_87 rfl ?_
      refine r_goto (tgt := 95) dX11_sumOf_88 rfl ?_
      refine r_iload_n dX11_sumOf_95 rfl ?_
      refine r_callV2i dX11_sumOf_96 cvX11_280 (mo_o hm) (c_X11_bounded hm _ _ hl) (by omega) (Nat.le_of_ble_eq_true rfl) od_le.rf ?_
      refine r_lstore_n dX11_sumOf_99 (by decide) rfl ?_
      refine r_goto (tgt := 6) dX11_sumOf_100 rfl ?_
      have z := hqc.2.2.1
      have bx : (pNx r.1).1 = r.1.1 + 1 := rfl
      have e24 := hqc.2.2.2
      rw [od_up_at, if_neg (by omega)] at e24
      first
      | (refine ih _ f0 ((pTerm c v pl lw (pSub c v pl lw L) (pNx r.1)).1, pBin (pOs (c r.1.1)) r.2 (pTerm c v pl lw (pSub c v pl lw L) (pNx r.1)).2) _ _ _ _ ⟨by rw [← hF, hf0, pLoop_s hop], by show N - (pTerm c v pl lw (pSub c v pl lw L) (pNx r.1)).1.1 ≤ _; omega, ((hq.1.tr f1).tr hqc.1).tr (mBd_fr _ _ _ _), (mBd_n _ _ _ _ (by omega)).trans hqc.2.1, by show s.1 ≤ (pTerm c v pl lw (pSub c v pl lw L) (pNx r.1)).1.1; have := hq.2.2.1; omega, ?_⟩ (by show (N - (pTerm c v pl lw (pSub c v pl lw L) (pNx r.1)).1.1).toNat < m; omega)
         rw [hopk]
         exact BrQ.bin hl hq.2.2.2 e24 rfl (fun _ _ => by first | rfl | rw [cJoin_9 (by omega)] | rw [cJoin_10 (by omega)]))
      | (refine ih _ f0 ((pTerm c v pl lw (pSub c v pl lw L) (pNx r.1)).1, pBin (pOs (c r.1.1)) r.2 (pTerm c v pl lw (pSub c v pl lw L) (pNx r.1)).2) _ _ _ _ ⟨by rw [← hF, hf0, pLoop_s hop], by show N - (pTerm c v pl lw (pSub c v pl lw L) (pNx r.1)).1.1 ≤ _; omega, (((hq.1.tr f1).tr hqc.1).up (by unfold XB; omega)).tr (mBd_fr _ _ _ _), (mBd_n _ _ _ _ (by omega)).trans (by rw [od_up_at, if_neg (by omega)]; exact hqc.2.1), by show s.1 ≤ (pTerm c v pl lw (pSub c v pl lw L) (pNx r.1)).1.1; have := hq.2.2.1; omega, ?_⟩ (by show (N - (pTerm c v pl lw (pSub c v pl lw L) (pNx r.1)).1.1).toNat < m; omega)
         rw [hopk]
         have ez : xc = 0 := by omega
         rw [ez] at e24
         refine BrQ.zero hl hq.2.2.2 e24 (by omega) ?_ _
         rw [od_up_at, if_pos rfl]
         omega)
    · refine r_aload_n dX11_sumOf_22 rfl ?_
      refine r_aload_n dX11_sumOf_23 rfl ?_
      refine r_getIj (j := 22) rfl dX11_sumOf_24 fkX11_263 gf11_22 (mo_o hm) (by first | exact e22 | rfl) ?_
      refine r_callV1i dX11_sumOf_27 cvX11_266 (mo_o hm) (c_X11_codeAt hm hvw r.1.1 (by omega)) (by omega) (Nat.le_of_ble_eq_true rfl) od_le.rf ?_
      refine r_bipush dX11_sumOf_30 lb_45 ?_
      refine r_callS1i dX11_sumOf_32 csX11_222 (c_X11_sign _ (by omega)) (by omega) (Nat.le_of_ble_eq_true rfl) od_le.rf ?_
      refine r_icmp_ne (tgt := 103) dX11_sumOf_35 rfl (fun c35 => ?_) (fun c35 => ?_)
      · refine r_lload_n dX11_sumOf_103 rfl ?_
        refine r_lretq dX11_sumOf_104 rfl rfl ⟨_, rfl, ?_⟩
        have hne : ¬ (r.1.2.2 = -1 ∧ pOs (c r.1.1) ≠ -1) := fun z => z.2 (by
          unfold pOs
          rw [if_neg (by omega), if_neg (by omega)])
        rw [← hF, pLoop_e hne]
        exact hq
      · have hck : c r.1.1 = 145 := by omega
        have hopk : pOs (c r.1.1) = 7 := by rw [hck]; rfl
        have hop : r.1.2.2 = -1 ∧ pOs (c r.1.1) ≠ -1 := ⟨hrb, by rw [hopk]; decide⟩
        have lt := hvw.lt (i := r.1.1) (by omega)
        obtain ⟨f0, hf0⟩ : ∃ f0 : Nat, f = f0 + 1 := ⟨f - 1, by omega⟩
        have f1 : od_fr (XB M) gw (od_up gw M 22 (b + (r.1.1 + 1))) := od_fr.rf.up (by unfold XB; omega)
        have hPf : (pTerm c v pl lw (pSub c v pl lw L) (pNx r.1)).1.2.2 = -1 := by
          have z := hf
          rw [← hF, hf0, pLoop_s hop] at z
          have y := pLoop_fine z
          exact y
        refine r_aload_n dX11_sumOf_38 rfl ?_
        refine r_aload_n dX11_sumOf_39 rfl ?_
        refine r_getIj (j := 22) rfl dX11_sumOf_40 fkX11_263 gf11_22 (mo_o hm) (by first | exact e22 | rfl) ?_
        refine r_callV1i dX11_sumOf_43 cvX11_266 (mo_o hm) (c_X11_codeAt hm hvw r.1.1 (by omega)) (by omega) (Nat.le_of_ble_eq_true rfl) od_le.rf ?_
        refine r_bipush dX11_sumOf_46 lb_43 ?_
        refine r_callS1i dX11_sumOf_48 csX11_222 (c_X11_sign _ (by omega)) (by omega) (Nat.le_of_ble_eq_true rfl) od_le.rf ?_
        refine r_icmp_ne (tgt := 58) dX11_sumOf_51 rfl (fun c51 => ?_) (fun h => absurd h (by omega))
        refine r_iconst dX11_sumOf_58 li_0 ?_
        refine r_istore dX11_sumOf_59 (by decide) rfl ?_
        refine r_aload_n dX11_sumOf_61 rfl ?_
        refine r_dup dX11_sumOf_62 (by first | exact od_ne2 | exact od_ne0) ?_
        refine r_getIj (j := 22) rfl dX11_sumOf_63 fkX11_263 gf11_22 (mo_o hm) (by first | exact e22 | rfl) ?_
        refine r_iconst dX11_sumOf_66 li_1 ?_
        refine r_iaddE dX11_sumOf_67 (by first | exact od_w0 (by omega) (by omega) | exact od_wI (by omega) (by omega) | rfl) ?_
        rw [show b + r.1.1 + 1 = b + (r.1.1 + 1) by omega]
        refine r_putIj (j := 22) rfl dX11_sumOf_68 fkX11_263 gf11_22 pf11_22 (mo_o hm) ?_
        refine r_aload_n dX11_sumOf_71 rfl ?_
        refine r_iload_n dX11_sumOf_72 rfl ?_
        refine r_callV1p dX11_sumOf_73 cvX11_276 (mo_o hm) (hI _ (pNx r.1) lv (hvw.fr f1) hl (by rw [od_up_at, if_neg (by omega)]; exact hbw) (by rw [od_up_at, if_pos rfl]; rfl) (by show 0 ≤ r.1.1 + 1; omega) hrb hPf) (by omega) (Nat.le_of_ble_eq_true rfl) od_le.rf (fun r73 g73 h73 => ?_)
        obtain ⟨xc, rfl, hqc⟩ := h73
        show od_Rq _ _ _ _ _ _ _ ((1, _) :: _) _ _
        refine r_lstore dX11_sumOf_76 (by decide) rfl ?_
        refine r_aload_n dX11_sumOf_78 rfl ?_
        refine r_iload dX11_sumOf_79 rfl ?_
        refine r_if_eq (tgt := 91) dX11_sumOf_81 rfl (fun _ => ?_) (fun h => absurd h (by decide))
        refine r_lload_n dX11_sumOf_91 rfl ?_
        refine r_lload dX11_sumOf_92 rfl ?_
        refine r_lsubE dX11_sumOf_94 rfl ?_
        refine r_iload_n dX11_sumOf_95 rfl ?_
        refine r_callV2i dX11_sumOf_96 cvX11_280 (mo_o hm) (c_X11_bounded hm _ _ hl) (by omega) (Nat.le_of_ble_eq_true rfl) od_le.rf ?_
        refine r_lstore_n dX11_sumOf_99 (by decide) rfl ?_
        refine r_goto (tgt := 6) dX11_sumOf_100 rfl ?_
        have z := hqc.2.2.1
        have bx : (pNx r.1).1 = r.1.1 + 1 := rfl
        have e24 := hqc.2.2.2
        rw [od_up_at, if_neg (by omega)] at e24
        first
        | (refine ih _ f0 ((pTerm c v pl lw (pSub c v pl lw L) (pNx r.1)).1, pBin (pOs (c r.1.1)) r.2 (pTerm c v pl lw (pSub c v pl lw L) (pNx r.1)).2) _ _ _ _ ⟨by rw [← hF, hf0, pLoop_s hop], by show N - (pTerm c v pl lw (pSub c v pl lw L) (pNx r.1)).1.1 ≤ _; omega, ((hq.1.tr f1).tr hqc.1).tr (mBd_fr _ _ _ _), (mBd_n _ _ _ _ (by omega)).trans hqc.2.1, by show s.1 ≤ (pTerm c v pl lw (pSub c v pl lw L) (pNx r.1)).1.1; have := hq.2.2.1; omega, ?_⟩ (by show (N - (pTerm c v pl lw (pSub c v pl lw L) (pNx r.1)).1.1).toNat < m; omega)
           rw [hopk]
           exact BrQ.bin hl hq.2.2.2 e24 rfl (fun _ _ => by first | rfl | rw [cJoin_9 (by omega)] | rw [cJoin_10 (by omega)]))
        | (refine ih _ f0 ((pTerm c v pl lw (pSub c v pl lw L) (pNx r.1)).1, pBin (pOs (c r.1.1)) r.2 (pTerm c v pl lw (pSub c v pl lw L) (pNx r.1)).2) _ _ _ _ ⟨by rw [← hF, hf0, pLoop_s hop], by show N - (pTerm c v pl lw (pSub c v pl lw L) (pNx r.1)).1.1 ≤ _; omega, (((hq.1.tr f1).tr hqc.1).up (by unfold XB; omega)).tr (mBd_fr _ _ _ _), (mBd_n _ _ _ _ (by omega)).trans (by rw [od_up_at, if_neg (by omega)]; exact hqc.2.1), by show s.1 ≤ (pTerm c v pl lw (pSub c v pl lw L) (pNx r.1)).1.1; have := hq.2.2.1; omega, ?_⟩ (by show (N - (pTerm c v pl lw (pSub c v pl lw L) (pNx r.1)).1.1).toNat < m; omega)
           rw [hopk]
           have ez : xc = 0 := by omega
           rw [ez] at e24
           refine BrQ.zero hl hq.2.2.2 e24 (by omega) ?_ _
           rw [od_up_at, if_pos rfl]
           omega)
set_option maxRecDepth 10000 in
theorem c_X11_sumOf {E : od_E} {g : od_G} {M : Int} (hm : MoAt E M) {b N : Int} {c v pl : Int → Int} {lw : Bool} {w : Int → Int} (hv : EV g M b N c v lw w) (hp : ∀ i : Int, 0 ≤ pl i) {s : pS} {lv : Int} (hl : lv = 0 ∨ lv = 1) (hbr : g M 24 = 0 ∨ g M 24 = 1) (hg : g M 22 = b + s.1) (hs0 : 0 ≤ s.1) (hb : s.2.2 = -1) {L : Nat} (hf : (pSum c v pl lw (pSub c v pl lw L) s).1.2.2 = -1) (hI : ETrm E M b N c v pl lw w L) : od_Cq (7 + 4 * L) mX11_sumOf [(2, M), (0, lv)] E g (E, fun o g' => ∃ x : Int, o = some (1, x) ∧ EQ g g' M b w lv x s (pSum c v pl lw (pSub c v pl lw L) s)) := by
  have hPs : (pTerm c v pl lw (pSub c v pl lw L) s).1.2.2 = -1 := pLoop_fine hf
  refine od_cqI pnX11 rfl (Nat.le_of_ble_eq_true rfl) od_le.rf ?_
  show od_Rq (7 + 4 * L) mX11_sumOf od_Z0 E (E, fun o g' => ∃ x : Int, o = some (1, x) ∧ EQ g g' M b w lv x s (pSum c v pl lw (pSub c v pl lw L) s)) 0 [some (2, M), some (0, lv), none, none, none, none, none] [] E g
  refine r_aload_n dX11_sumOf_0 rfl ?_
  refine r_iload_n dX11_sumOf_1 rfl ?_
  refine r_callV1p dX11_sumOf_2 cvX11_276 (mo_o hm) (hI g s lv hv hl hbr hg hs0 hb hPs) (by omega) (Nat.le_of_ble_eq_true rfl) od_le.rf (fun r2 g2 h2 => ?_)
  obtain ⟨x2, rfl, hq2⟩ := h2
  show od_Rq _ _ _ _ _ _ _ ((1, _) :: _) _ _
  refine r_lstore_n dX11_sumOf_5 (by decide) rfl ?_
  exact lp_X11_sumOf hm hv hp hl hbr hg hs0 hb hf hI _ _ 400 (pTerm c v pl lw (pSub c v pl lw L) s) _ _ _ _ ⟨rfl, by have := hv.1.2.2.1; have := hq2.2.2.1; omega, hq2⟩ (Nat.lt_succ_self _)
theorem eSumL {E : od_E} {M : Int} (hm : MoAt E M) (b N : Int) (c v : Int → Int) {pl : Int → Int} (hp : ∀ i : Int, 0 ≤ pl i) (lw : Bool) (w : Int → Int) : ∀ L : Nat, ESum E M b N c v pl lw w L := by
  intro L
  induction L with
  | zero =>
    intro g s lv hv hl hbr hg hs0 hb hf
    rw [show pSumL c v pl lw 0 s = pSum c v pl lw (pSub c v pl lw 0) s from pSumL_eq _ _ _ _ _ _] at hf ⊢
    exact c_X11_sumOf hm hv hp hl hbr hg hs0 hb hf (fun g s lv hv hl hbr hg hs0 hb hf => c_X11_termOf hm hv hp hl hbr hg hs0 hb hf (c_X11_partOf hm hp (fun L1 e => absurd e (by omega))))
  | succ L ih =>
    intro g s lv hv hl hbr hg hs0 hb hf
    rw [pSumL_eq] at hf ⊢
    exact c_X11_sumOf hm hv hp hl hbr hg hs0 hb hf (fun g s lv hv hl hbr hg hs0 hb hf => c_X11_termOf hm hv hp hl hbr hg hs0 hb hf (c_X11_partOf hm hp (fun L1 e => by
      have e2 : L1 = L := by omega
      subst e2
      exact ih)))
