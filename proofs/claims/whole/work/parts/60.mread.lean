/-! the reference reads -/
/-- the tokens as they lie in its rows -/
def TkOk (g : od_G) (M : Int) (c v pl : Int → Int) (N : Int) : Prop := g M 18 = N ∧ (0 ≤ N ∧ N ≤ 400) ∧ (∀ i : Int, 0 ≤ i → i ≤ N → g (M + 9) i = c i ∧ g (M + 10) i = v i ∧ g (M + 11) i = pl i) ∧ (∀ i : Int, N ≤ i → c i = 0) ∧ ∀ i : Int, 0 ≤ pl i
def MSt (g : od_G) (M N : Int) (s : pS) : Prop := (0 ≤ g M 19 ∧ g M 19 ≤ 400) ∧ ((s.2.2 = -1 ∧ (0 ≤ s.1 ∧ s.1 ≤ N) ∧ (0 ≤ s.2.1 ∧ s.2.1 ≤ 50) ∧ g M 19 = s.1 ∧ g M 20 = s.2.1 ∧ g M 21 = -1) ∨ (s.2.2 ≠ -1 ∧ g M 21 = s.2.2))
def XT (M : Int) : Int → Int → Prop := fun x y => x = M ∧ 19 ≤ y ∧ y ≤ 21
theorem TkOk.fr {X : Int → Int → Prop} {g g' : od_G} {M : Int} {c v pl : Int → Int} {N : Int} (h : TkOk g M c v pl N) (f : od_fr X g g') (h1 : ¬ X M 18) (h2 : ∀ y, ¬ X (M + 9) y ∧ ¬ X (M + 10) y ∧ ¬ X (M + 11) y) : TkOk g' M c v pl N := by
  refine ⟨(f M 18 h1).trans h.1, h.2.1, fun i i0 i1 => ?_, h.2.2.2⟩
  rw [f.row (fun y => (h2 y).1), f.row (fun y => (h2 y).2.1), f.row (fun y => (h2 y).2.2)]
  exact h.2.2.1 i i0 i1
theorem TkOk.xt {g g' : od_G} {M : Int} {c v pl : Int → Int} {N : Int} (h : TkOk g M c v pl N) (f : od_fr (XT M) g g') : TkOk g' M c v pl N := h.fr f (by unfold XT; omega) (fun y => by unfold XT; omega)
theorem MSt.fine {g : od_G} {M N : Int} {s : pS} (h : MSt g M N s) (hb : s.2.2 = -1) : (0 ≤ s.1 ∧ s.1 ≤ N) ∧ (0 ≤ s.2.1 ∧ s.2.1 ≤ 50) ∧ g M 19 = s.1 ∧ g M 20 = s.2.1 ∧ g M 21 = -1 := by
  rcases h.2 with h | h
  · exact h.2
  · exact absurd hb h.1
theorem MSt.bad {g : od_G} {M N : Int} {s : pS} (h : MSt g M N s) : g M 21 = s.2.2 := by
  rcases h.2 with h | h
  · exact h.2.2.2.2.2.trans h.1.symm
  · exact h.2
theorem MSt.cd {g : od_G} {M N : Int} {c v pl : Int → Int} {s : pS} (hk : TkOk g M c v pl N) (h : MSt g M N s) (hb : s.2.2 = -1) : g (M + 9) (g M 19) = c s.1 ∧ g (M + 10) (g M 19) = v s.1 ∧ g (M + 11) (g M 19) = pl s.1 := by
  have q := h.fine hb
  rw [q.2.2.1]
  exact hk.2.2.1 _ q.1.1 q.1.2
theorem TkOk.lt {g : od_G} {M N : Int} {c v pl : Int → Int} (hk : TkOk g M c v pl N) {i : Int} (h : c i ≠ 0) : i < N := by
  by_cases z : i < N
  · exact z
  · exact absurd (hk.2.2.2.1 i (by omega)) h
theorem MSt.flt {g : od_G} {M N : Int} {c v pl : Int → Int} {s : pS} (hk : TkOk g M c v pl N) (h : MSt g M N s) : MSt (mFaults g M) M N (pF pl s) ∧ od_fr (XT M) g (mFaults g M) := by
  unfold mFaults pF
  by_cases hb : s.2.2 = -1
  · have q := h.fine hb
    have e := (h.cd hk hb).2.2
    rw [if_pos q.2.2.2.2, if_pos hb]
    refine ⟨⟨by rw [od_up_at, if_neg (by omega)]; exact h.1, Or.inr ⟨?_, ?_⟩⟩, od_fr.rf.up (by unfold XT; omega)⟩
    · show pl s.1 ≠ -1
      have := hk.2.2.2.2 s.1
      omega
    · rw [od_up_at, if_pos rfl, e]
  · have := h.bad
    rw [if_neg (by omega), if_neg hb]
    exact ⟨h, od_fr.rf⟩
theorem MSt.nx {g : od_G} {M N : Int} {c v pl : Int → Int} {s : pS} (hk : TkOk g M c v pl N) (h : MSt g M N s) (hb : s.2.2 = -1) (hc : c s.1 ≠ 0) : MSt (od_up g M 19 (g M 19 + 1)) M N (pNx s) := by
  have q := h.fine hb
  have l := hk.lt hc
  have h400 := hk.2.1
  refine ⟨by rw [od_up_at, if_pos rfl]; omega, Or.inl ⟨hb, ⟨by show 0 ≤ s.1 + 1; omega, by show s.1 + 1 ≤ N; omega⟩, q.2.1, ?_, ?_, ?_⟩⟩
  · rw [od_up_at, if_pos rfl, q.2.2.1]; rfl
  · rw [od_up_at, if_neg (by omega)]; exact q.2.2.2.1
  · rw [od_up_at, if_neg (by omega)]; exact q.2.2.2.2
/-- behind the reading of a piece -/
def MdQ (g g' : od_G) (M N : Int) (s s' : pS) : Prop := od_fr (XT M) g g' ∧ MSt g' M N s' ∧ s.1 ≤ s'.1
set_option maxRecDepth 10000 in
theorem c_X11_sign {E : od_E} {g : od_G} (x : Int) (hx : 0 ≤ x ∧ x ≤ 200) : od_Ct 1 mX11_sign [(0, x)] E g (some (0, 100 + x), E, g) := by
  refine od_ctI pnX11 rfl (Nat.le_of_ble_eq_true rfl) od_le.rf ?_
  show od_R _ _ _ _ _ 0 [some (0, x)] [] E g
  refine r_bipush dX11_sign_0 lb_100 ?_
  refine r_iload_n dX11_sign_2 rfl ?_
  refine r_iaddE dX11_sign_3 (by first | exact od_w0 (by omega) (by omega) | exact od_wI (by omega) (by omega) | rfl) ?_
  exact r_iret dX11_sign_4 rfl (by rfl)
theorem c_X11_fineT {E : od_E} {g : od_G} {M : Int} (hm : MoAt E M) (h : g M 21 = -1) : od_Ct 1 mX11_fine [(2, M)] E g (some (0, 1), E, g) := by
  have q := c_X11_fine (g := g) hm
  rw [show od_b (mFine g M) = 1 from od_b_t h] at q
  exact q
theorem c_X11_fineF {E : od_E} {g : od_G} {M : Int} (hm : MoAt E M) (h : g M 21 ≠ -1) : od_Ct 1 mX11_fine [(2, M)] E g (some (0, 0), E, g) := by
  have q := c_X11_fine (g := g) hm
  rw [show od_b (mFine g M) = 0 from od_b_f h] at q
  exact q
set_option maxRecDepth 10000 in
theorem c_X11_takesS {E : od_E} {g : od_G} {M : Int} (hm : MoAt E M) {c v pl : Int → Int} {N : Int} (hk : TkOk g M c v pl N) {s : pS} (hs : MSt g M N s) (k : Int) (h0 : k ≠ 0) : od_Cq (2) mX11_takes0 [(2, M), (0, k)] E g (E, fun w g' => (w = some (0, 1) ∧ (s.2.2 = -1 ∧ c s.1 = k) ∧ od_fr (XT M) g g' ∧ MSt g' M N (pNx s)) ∨ (w = some (0, 0) ∧ ¬ (s.2.2 = -1 ∧ c s.1 = k) ∧ g' = g)) := by
  refine od_cqI pnX11 rfl (Nat.le_of_ble_eq_true rfl) od_le.rf ?_
  show od_Rq (2) mX11_takes0 od_Z0 E (E, fun w g' => (w = some (0, 1) ∧ (s.2.2 = -1 ∧ c s.1 = k) ∧ od_fr (XT M) g g' ∧ MSt g' M N (pNx s)) ∨ (w = some (0, 0) ∧ ¬ (s.2.2 = -1 ∧ c s.1 = k) ∧ g' = g)) 0 [some (2, M), some (0, k), none] [] E g
  refine r_aload_n dX11_takes0_0 rfl ?_
  refine r_callV0b dX11_takes0_1 cvX11_173 (mo_o hm) (c_X11_fine hm) (by decide) (Nat.le_of_ble_eq_true rfl) od_le.rf (fun q1 => ?_) (fun q1 => ?_)
  · refine r_if_eq (tgt := 24) dX11_takes0_4 rfl (fun h => absurd h (by decide)) (fun _ => ?_)
    have hb : s.2.2 = -1 := by have := hs.bad; unfold mFine at q1; omega
    have e := (hs.cd hk hb).1
    have hq := hs.fine hb
    have h19 := hs.1
    refine r_aload_n dX11_takes0_7 rfl ?_
    refine r_getR dX11_takes0_8 fkX11_54 gf11_15 (mo_o hm) (mo_r15 hm) ?_
    refine r_aload_n dX11_takes0_11 rfl ?_
    refine r_getIj (j := 19) rfl dX11_takes0_12 fkX11_177 gf11_19 (mo_o hm) (by (repeat (first | rewrite [od_upn (by omega)] | rewrite [od_up_at, if_pos (by omega)] | rewrite [od_up_at, if_neg (by omega)])); rfl) ?_
    refine r_iald dX11_takes0_15 (mo_k15 hm) (by omega) (by (repeat (first | rewrite [od_upn (by omega)] | rewrite [od_up_at, if_pos (by omega)] | rewrite [od_up_at, if_neg (by omega)])); rfl) ?_
    refine r_iload_n dX11_takes0_16 rfl ?_
    refine r_icmp_ne (tgt := 24) dX11_takes0_17 rfl (fun c17 => ?_) (fun c17 => ?_)
    · refine r_iconst dX11_takes0_24 li_0 ?_
      refine r_istore_n dX11_takes0_25 (by decide) rfl ?_
      refine r_iload_n dX11_takes0_26 rfl ?_
      refine r_if_eq (tgt := 40) dX11_takes0_27 rfl (fun _ => ?_) (fun h => absurd h (by decide))
      refine r_iload_n dX11_takes0_40 rfl ?_
      first
      | exact r_zretq dX11_takes0_41 rfl od_nz0 rfl (Or.inr ⟨rfl, fun z => q1 (by have := hs.bad; unfold mFine; omega), rfl⟩)
      | exact r_zretq dX11_takes0_41 rfl od_nz0 rfl (Or.inr ⟨rfl, fun z => by have z2 := z.2; have e := (hs.cd hk z.1).1; omega, rfl⟩)
    · refine r_iconst dX11_takes0_20 li_1 ?_
      refine r_goto (tgt := 25) dX11_takes0_21 rfl ?_
      refine r_istore_n dX11_takes0_25 (by decide) rfl ?_
      refine r_iload_n dX11_takes0_26 rfl ?_
      refine r_if_eq (tgt := 40) dX11_takes0_27 rfl (fun h => absurd h (by decide)) (fun _ => ?_)
      refine r_aload_n dX11_takes0_30 rfl ?_
      refine r_dup dX11_takes0_31 (by first | exact od_ne2 | exact od_ne0) ?_
      refine r_getIj (j := 19) rfl dX11_takes0_32 fkX11_177 gf11_19 (mo_o hm) (by (repeat (first | rewrite [od_upn (by omega)] | rewrite [od_up_at, if_pos (by omega)] | rewrite [od_up_at, if_neg (by omega)])); rfl) ?_
      refine r_iconst dX11_takes0_35 li_1 ?_
      refine r_iaddE dX11_takes0_36 (by first | exact od_w0 (by omega) (by omega) | exact od_wI (by omega) (by omega) | rfl) ?_
      refine r_putIj (j := 19) rfl dX11_takes0_37 fkX11_177 gf11_19 pf11_19 (mo_o hm) ?_
      refine r_iload_n dX11_takes0_40 rfl ?_
      exact r_zretq dX11_takes0_41 rfl od_nz1 rfl (Or.inl ⟨rfl, ⟨hb, by omega⟩, od_fr.rf.up (by unfold XT; omega), hs.nx hk hb (by omega)⟩)
  · refine r_if_eq (tgt := 24) dX11_takes0_4 rfl (fun _ => ?_) (fun h => absurd h (by decide))
    refine r_iconst dX11_takes0_24 li_0 ?_
    refine r_istore_n dX11_takes0_25 (by decide) rfl ?_
    refine r_iload_n dX11_takes0_26 rfl ?_
    refine r_if_eq (tgt := 40) dX11_takes0_27 rfl (fun _ => ?_) (fun h => absurd h (by decide))
    refine r_iload_n dX11_takes0_40 rfl ?_
    first
    | exact r_zretq dX11_takes0_41 rfl od_nz0 rfl (Or.inr ⟨rfl, fun z => q1 (by have := hs.bad; unfold mFine; omega), rfl⟩)
    | exact r_zretq dX11_takes0_41 rfl od_nz0 rfl (Or.inr ⟨rfl, fun z => by have z2 := z.2; have e := (hs.cd hk z.1).1; omega, rfl⟩)
set_option maxRecDepth 10000 in
theorem c_X11_must {E : od_E} {g : od_G} {M : Int} (hm : MoAt E M) {c v pl : Int → Int} {N : Int} (hk : TkOk g M c v pl N) {s : pS} (hs : MSt g M N s) (k : Int) (h0 : k ≠ 0) : od_Cq (3) mX11_must [(2, M), (0, k)] E g (E, fun w g' => w = none ∧ MdQ g g' M N s (pMu c pl k s)) := by
  refine od_cqI pnX11 rfl (Nat.le_of_ble_eq_true rfl) od_le.rf ?_
  show od_Rq (3) mX11_must od_Z0 E (E, fun w g' => w = none ∧ MdQ g g' M N s (pMu c pl k s)) 0 [some (2, M), some (0, k)] [] E g
  refine r_aload_n dX11_must_0 rfl ?_
  refine r_iload_n dX11_must_1 rfl ?_
  refine r_callV1p dX11_must_2 cvX11_180 (mo_o hm) (c_X11_takesS hm hk hs _ (by omega)) (by decide) (Nat.le_of_ble_eq_true rfl) od_le.rf (fun r2 g2 h2 => ?_)
  rcases h2 with ⟨rfl, h2⟩ | ⟨rfl, h2⟩
  · show od_Rq _ _ _ _ _ _ _ ((0, 1) :: _) _ _
    skip
    refine r_if_ne (tgt := 12) dX11_must_5 rfl (fun _ => ?_) (fun h => absurd h (by decide))
    first
    | (refine r_vretq dX11_must_12 rfl rfl ⟨rfl, ?_⟩
       rw [pMu_t h2.1]
       exact ⟨h2.2.1, h2.2.2, by show s.1 ≤ s.1 + 1; omega⟩)
    | (obtain ⟨h2a, rfl⟩ := h2
       refine r_vretq dX11_must_12 rfl rfl ⟨rfl, ?_⟩
       rw [pMu_f h2a]
       have q := hs.flt hk
       exact ⟨q.2, q.1, by rw [pF_1]; omega⟩)
  · show od_Rq _ _ _ _ _ _ _ ((0, 0) :: _) _ _
    skip
    refine r_if_ne (tgt := 12) dX11_must_5 rfl (fun h => absurd h (by decide)) (fun _ => ?_)
    refine r_aload_n dX11_must_8 rfl ?_
    refine r_callV0v dX11_must_9 cvX11_183 (mo_o hm) (c_X11_faults hm (by rw [h2.2]; exact hs.1)) (by decide) (Nat.le_of_ble_eq_true rfl) od_le.rf ?_
    first
    | (refine r_vretq dX11_must_12 rfl rfl ⟨rfl, ?_⟩
       rw [pMu_t h2.1]
       exact ⟨h2.2.1, h2.2.2, by show s.1 ≤ s.1 + 1; omega⟩)
    | (obtain ⟨h2a, rfl⟩ := h2
       refine r_vretq dX11_must_12 rfl rfl ⟨rfl, ?_⟩
       rw [pMu_f h2a]
       have q := hs.flt hk
       exact ⟨q.2, q.1, by rw [pF_1]; omega⟩)
def pLf (pl : Int → Int) (s : pS) : pS := if 50 ≤ s.2.1 then pF pl s else (s.1 + 1, s.2.1 + 1, s.2.2)
set_option maxRecDepth 10000 in
theorem c_X11_leaf {E : od_E} {g : od_G} {M : Int} (hm : MoAt E M) {c v pl : Int → Int} {N : Int} (hk : TkOk g M c v pl N) {s : pS} (hs : MSt g M N s) (hb : s.2.2 = -1) (hc : c s.1 ≠ 0) : od_Cq (3) mX11_leaf [(2, M)] E g (E, fun w g' => w = none ∧ MdQ g g' M N s (pLf pl s)) := by
  have hq := hs.fine hb
  have h19 := hs.1
  refine od_cqI pnX11 rfl (Nat.le_of_ble_eq_true rfl) od_le.rf ?_
  show od_Rq (3) mX11_leaf od_Z0 E (E, fun w g' => w = none ∧ MdQ g g' M N s (pLf pl s)) 0 [some (2, M)] [] E g
  refine r_aload_n dX11_leaf_0 rfl ?_
  refine r_getIj (j := 20) rfl dX11_leaf_1 fkX11_186 gf11_20 (mo_o hm) (by (repeat (first | rewrite [od_upn (by omega)] | rewrite [od_up_at, if_pos (by omega)] | rewrite [od_up_at, if_neg (by omega)])); rfl) ?_
  refine r_bipush dX11_leaf_4 lb_50 ?_
  refine r_icmp_ne (tgt := 13) dX11_leaf_6 rfl (fun c6 => ?_) (fun c6 => ?_)
  · refine r_aload_n dX11_leaf_13 rfl ?_
    refine r_dup dX11_leaf_14 (by first | exact od_ne2 | exact od_ne0) ?_
    refine r_getIj (j := 20) rfl dX11_leaf_15 fkX11_186 gf11_20 (mo_o hm) (by (repeat (first | rewrite [od_upn (by omega)] | rewrite [od_up_at, if_pos (by omega)] | rewrite [od_up_at, if_neg (by omega)])); rfl) ?_
    refine r_iconst dX11_leaf_18 li_1 ?_
    refine r_iaddE dX11_leaf_19 (by first | exact od_w0 (by omega) (by omega) | exact od_wI (by omega) (by omega) | rfl) ?_
    refine r_putIj (j := 20) rfl dX11_leaf_20 fkX11_186 gf11_20 pf11_20 (mo_o hm) ?_
    refine r_aload_n dX11_leaf_23 rfl ?_
    refine r_callV0i dX11_leaf_24 cvX11_173 (mo_o hm) (c_X11_fineT hm (by rw [od_up_at, if_neg (by omega)]; exact hq.2.2.2.2)) (by decide) (Nat.le_of_ble_eq_true rfl) od_le.rf ?_
    refine r_if_eq (tgt := 40) dX11_leaf_27 rfl (fun h => absurd h (by decide)) (fun _ => ?_)
    refine r_aload_n dX11_leaf_30 rfl ?_
    refine r_dup dX11_leaf_31 (by first | exact od_ne2 | exact od_ne0) ?_
    refine r_getIj (j := 19) rfl dX11_leaf_32 fkX11_177 gf11_19 (mo_o hm) (by (repeat (first | rewrite [od_upn (by omega)] | rewrite [od_up_at, if_pos (by omega)] | rewrite [od_up_at, if_neg (by omega)])); rfl) ?_
    refine r_iconst dX11_leaf_35 li_1 ?_
    refine r_iaddE dX11_leaf_36 (by first | exact od_w0 (by omega) (by omega) | exact od_wI (by omega) (by omega) | rfl) ?_
    refine r_putIj (j := 19) rfl dX11_leaf_37 fkX11_177 gf11_19 pf11_19 (mo_o hm) ?_
    refine r_vretq dX11_leaf_40 rfl rfl ⟨rfl, ?_⟩
    unfold pLf
    rw [if_neg (by omega)]
    have l := hk.lt hc
    have h400 := hk.2.1
    refine ⟨(od_fr.rf.up (by unfold XT; omega)).up (by unfold XT; omega), ⟨by rw [od_up_at, if_pos rfl]; omega, Or.inl ⟨hb, ⟨by show 0 ≤ s.1 + 1; omega, by show s.1 + 1 ≤ N; omega⟩, ⟨by show 0 ≤ s.2.1 + 1; omega, by show s.2.1 + 1 ≤ 50; omega⟩, ?_, ?_, ?_⟩⟩, by show s.1 ≤ s.1 + 1; omega⟩
    · rw [od_up_at, if_pos rfl, hq.2.2.1]
    · rw [od_up_at, if_neg (by omega), od_up_at, if_pos rfl, hq.2.2.2.1]
    · rw [od_up_at, if_neg (by omega), od_up_at, if_neg (by omega)]; exact hq.2.2.2.2
  · refine r_aload_n dX11_leaf_9 rfl ?_
    refine r_callV0v dX11_leaf_10 cvX11_183 (mo_o hm) (c_X11_faults hm (by omega)) (by decide) (Nat.le_of_ble_eq_true rfl) od_le.rf ?_
    have qf := hs.flt hk
    have nb : (pF pl s).2.2 ≠ -1 := pF_nb (hk.2.2.2.2 _)
    have e20 : mFaults g M M 20 = 50 := by
      unfold mFaults
      rw [if_pos hq.2.2.2.2, od_up_at, if_neg (by omega)]
      assumption
    refine r_aload_n dX11_leaf_13 rfl ?_
    refine r_dup dX11_leaf_14 (by first | exact od_ne2 | exact od_ne0) ?_
    refine r_getIj (j := 20) rfl dX11_leaf_15 fkX11_186 gf11_20 (mo_o hm) (by first | exact e20 | rfl) ?_
    refine r_iconst dX11_leaf_18 li_1 ?_
    refine r_iaddE dX11_leaf_19 (by first | exact od_w0 (by omega) (by omega) | exact od_wI (by omega) (by omega) | rfl) ?_
    refine r_putIj (j := 20) rfl dX11_leaf_20 fkX11_186 gf11_20 pf11_20 (mo_o hm) ?_
    refine r_aload_n dX11_leaf_23 rfl ?_
    refine r_callV0i dX11_leaf_24 cvX11_173 (mo_o hm) (c_X11_fineF hm (by rw [od_up_at, if_neg (by omega), qf.1.bad]; exact nb)) (by decide) (Nat.le_of_ble_eq_true rfl) od_le.rf ?_
    refine r_if_eq (tgt := 40) dX11_leaf_27 rfl (fun _ => ?_) (fun h => absurd h (by decide))
    refine r_vretq dX11_leaf_40 rfl rfl ⟨rfl, ?_⟩
    unfold pLf
    rw [if_pos (by omega)]
    have hbad := qf.1.bad
    refine ⟨qf.2.up (by unfold XT; omega), ⟨by rw [od_up_at, if_neg (by omega)]; exact qf.1.1, Or.inr ⟨nb, by rw [od_up_at, if_neg (by omega)]; exact hbad⟩⟩, by rw [pF_1]; omega⟩
set_option maxRecDepth 10000 in
theorem c_X11_mustNumber {E : od_E} {g : od_G} {M : Int} (hm : MoAt E M) {c v pl : Int → Int} {N : Int} (hk : TkOk g M c v pl N) {s : pS} (hs : MSt g M N s) (lo hi : Int) : od_Cq (3) mX11_mustNumber [(2, M), (0, lo), (0, hi)] E g (E, fun w g' => w = none ∧ MdQ g g' M N s (pMn c v pl lo hi s)) := by
  refine od_cqI pnX11 rfl (Nat.le_of_ble_eq_true rfl) od_le.rf ?_
  show od_Rq (3) mX11_mustNumber od_Z0 E (E, fun w g' => w = none ∧ MdQ g g' M N s (pMn c v pl lo hi s)) 0 [some (2, M), some (0, lo), some (0, hi)] [] E g
  refine r_aload_n dX11_mustNumber_0 rfl ?_
  refine r_callV0b dX11_mustNumber_1 cvX11_173 (mo_o hm) (c_X11_fine hm) (by decide) (Nat.le_of_ble_eq_true rfl) od_le.rf (fun q1 => ?_) (fun q1 => ?_)
  · refine r_if_eq (tgt := 42) dX11_mustNumber_4 rfl (fun h => absurd h (by decide)) (fun _ => ?_)
    have hb : s.2.2 = -1 := by have := hs.bad; unfold mFine at q1; omega
    obtain ⟨e1, e2, e3⟩ := hs.cd hk hb
    have hq := hs.fine hb
    have h19 := hs.1
    refine r_aload_n dX11_mustNumber_7 rfl ?_
    refine r_getR dX11_mustNumber_8 fkX11_54 gf11_15 (mo_o hm) (mo_r15 hm) ?_
    refine r_aload_n dX11_mustNumber_11 rfl ?_
    refine r_getIj (j := 19) rfl dX11_mustNumber_12 fkX11_177 gf11_19 (mo_o hm) (by (repeat (first | rewrite [od_upn (by omega)] | rewrite [od_up_at, if_pos (by omega)] | rewrite [od_up_at, if_neg (by omega)])); rfl) ?_
    refine r_iald dX11_mustNumber_15 (mo_k15 hm) (by omega) (by (repeat (first | rewrite [od_upn (by omega)] | rewrite [od_up_at, if_pos (by omega)] | rewrite [od_up_at, if_neg (by omega)])); rfl) ?_
    rw [e1]
    refine r_bipush dX11_mustNumber_16 lb_50 ?_
    refine r_icmp_ne (tgt := 38) dX11_mustNumber_18 rfl (fun c18 => ?_) (fun c18 => ?_)
    · refine r_aload_n dX11_mustNumber_38 rfl ?_
      refine r_callV0v dX11_mustNumber_39 cvX11_183 (mo_o hm) (c_X11_faults hm (by have := hs.1; omega)) (by decide) (Nat.le_of_ble_eq_true rfl) od_le.rf ?_
      have qf := hs.flt hk
      have nb : (pF pl s).2.2 ≠ -1 := pF_nb (hk.2.2.2.2 _)
      refine r_aload_n dX11_mustNumber_42 rfl ?_
      refine r_callV0i dX11_mustNumber_43 cvX11_173 (mo_o hm) (c_X11_fineF hm (by rw [qf.1.bad]; exact nb)) (by decide) (Nat.le_of_ble_eq_true rfl) od_le.rf ?_
      refine r_if_eq (tgt := 59) dX11_mustNumber_46 rfl (fun _ => ?_) (fun h => absurd h (by decide))
      refine r_vretq dX11_mustNumber_59 rfl rfl ⟨rfl, ?_⟩
      have eM : pMn c v pl lo hi s = pF pl s := if_neg (fun z => by
        have z1 := z.2.1
        have z2 := z.2.2
        first
        | omega
        | exact absurd z2 (by assumption))
      rw [eM]
      exact ⟨qf.2, qf.1, by rw [pF_1]; omega⟩
    · refine r_aload_n dX11_mustNumber_21 rfl ?_
      refine r_getR dX11_mustNumber_22 fkX11_57 gf11_16 (mo_o hm) (mo_r16 hm) ?_
      refine r_aload_n dX11_mustNumber_25 rfl ?_
      refine r_getIj (j := 19) rfl dX11_mustNumber_26 fkX11_177 gf11_19 (mo_o hm) (by (repeat (first | rewrite [od_upn (by omega)] | rewrite [od_up_at, if_pos (by omega)] | rewrite [od_up_at, if_neg (by omega)])); rfl) ?_
      refine r_iald dX11_mustNumber_29 (mo_k16 hm) (by omega) (by (repeat (first | rewrite [od_upn (by omega)] | rewrite [od_up_at, if_pos (by omega)] | rewrite [od_up_at, if_neg (by omega)])); rfl) ?_
      rw [e2]
      refine r_iload_n dX11_mustNumber_30 rfl ?_
      refine r_iload_n dX11_mustNumber_31 rfl ?_
      refine r_callS3b dX11_mustNumber_32 csX11_18 (c_X11_lies _ _ _) (by decide) (Nat.le_of_ble_eq_true rfl) od_le.rf (fun q32 => ?_) (fun q32 => ?_)
      · refine r_if_ne (tgt := 42) dX11_mustNumber_35 rfl (fun _ => ?_) (fun h => absurd h (by decide))
        refine r_aload_n dX11_mustNumber_42 rfl ?_
        refine r_callV0i dX11_mustNumber_43 cvX11_173 (mo_o hm) (c_X11_fineT hm hq.2.2.2.2) (by decide) (Nat.le_of_ble_eq_true rfl) od_le.rf ?_
        refine r_if_eq (tgt := 59) dX11_mustNumber_46 rfl (fun h => absurd h (by decide)) (fun _ => ?_)
        refine r_aload_n dX11_mustNumber_49 rfl ?_
        refine r_dup dX11_mustNumber_50 (by first | exact od_ne2 | exact od_ne0) ?_
        refine r_getIj (j := 19) rfl dX11_mustNumber_51 fkX11_177 gf11_19 (mo_o hm) (by (repeat (first | rewrite [od_upn (by omega)] | rewrite [od_up_at, if_pos (by omega)] | rewrite [od_up_at, if_neg (by omega)])); rfl) ?_
        refine r_iconst dX11_mustNumber_54 li_1 ?_
        refine r_iaddE dX11_mustNumber_55 (by first | exact od_w0 (by omega) (by omega) | exact od_wI (by omega) (by omega) | rfl) ?_
        refine r_putIj (j := 19) rfl dX11_mustNumber_56 fkX11_177 gf11_19 pf11_19 (mo_o hm) ?_
        refine r_vretq dX11_mustNumber_59 rfl rfl ⟨rfl, ?_⟩
        have eM : pMn c v pl lo hi s = pNx s := if_pos ⟨hb, by assumption, by assumption⟩
        rw [eM]
        exact ⟨od_fr.rf.up (by unfold XT; omega), hs.nx hk hb (by omega), by show s.1 ≤ s.1 + 1; omega⟩
      · refine r_if_ne (tgt := 42) dX11_mustNumber_35 rfl (fun h => absurd h (by decide)) (fun _ => ?_)
        refine r_aload_n dX11_mustNumber_38 rfl ?_
        refine r_callV0v dX11_mustNumber_39 cvX11_183 (mo_o hm) (c_X11_faults hm (by have := hs.1; omega)) (by decide) (Nat.le_of_ble_eq_true rfl) od_le.rf ?_
        have qf := hs.flt hk
        have nb : (pF pl s).2.2 ≠ -1 := pF_nb (hk.2.2.2.2 _)
        refine r_aload_n dX11_mustNumber_42 rfl ?_
        refine r_callV0i dX11_mustNumber_43 cvX11_173 (mo_o hm) (c_X11_fineF hm (by rw [qf.1.bad]; exact nb)) (by decide) (Nat.le_of_ble_eq_true rfl) od_le.rf ?_
        refine r_if_eq (tgt := 59) dX11_mustNumber_46 rfl (fun _ => ?_) (fun h => absurd h (by decide))
        refine r_vretq dX11_mustNumber_59 rfl rfl ⟨rfl, ?_⟩
        have eM : pMn c v pl lo hi s = pF pl s := if_neg (fun z => by
          have z1 := z.2.1
          have z2 := z.2.2
          first
          | omega
          | exact absurd z2 (by assumption))
        rw [eM]
        exact ⟨qf.2, qf.1, by rw [pF_1]; omega⟩
  · refine r_if_eq (tgt := 42) dX11_mustNumber_4 rfl (fun _ => ?_) (fun h => absurd h (by decide))
    refine r_aload_n dX11_mustNumber_42 rfl ?_
    refine r_callV0i dX11_mustNumber_43 cvX11_173 (mo_o hm) (c_X11_fineF hm q1) (by decide) (Nat.le_of_ble_eq_true rfl) od_le.rf ?_
    refine r_if_eq (tgt := 59) dX11_mustNumber_46 rfl (fun _ => ?_) (fun h => absurd h (by decide))
    refine r_vretq dX11_mustNumber_59 rfl rfl ⟨rfl, ?_⟩
    have hnb : s.2.2 ≠ -1 := by have := hs.bad; unfold mFine at q1; omega
    have eM : pMn c v pl lo hi s = s := (if_neg (fun z => hnb z.1)).trans (pF_bad hnb)
    rw [eM]
    exact ⟨od_fr.rf, hs, Int.le_refl _⟩
