/-! the reference: a law is read -/
noncomputable def mErr (B : Int → Int) (n : Int) (lw : Bool) (N : Int) : Int := (pAll (tC B n) (tV B n) (tpl B n) lw N).2.2
def XE (M : Int) : Int → Int → Prop := fun x y => XD M x y ∨ (x = M ∧ 8 ≤ y ∧ y ≤ 10)
def XL (M t : Int) : Int → Int → Prop := fun x y => x = M + 2 ∧ (y = 49 + t ∨ (56 + 400 * t ≤ y ∧ y < 456 + 400 * t) ∨ (2856 + 400 * t ≤ y ∧ y < 3256 + 400 * t))
/-- what reading a text of the tape leaves -/
def RdsQ (g g1 : od_G) (M : Int) (B : Int → Int) (n : Int) (lw : Bool) (N : Int) : Prop := od_fr (XE M) g g1 ∧ g1 M 13 = 0 ∧ g1 M 14 = mErr B n lw N ∧ (∀ i : Int, 0 ≤ i → (i < N ↔ tQ B n (tpl B n i) ≠ 0)) ∧ TkOk g1 M (tC B n) (tV B n) (tpl B n) N
def LwQ (g : od_G) (M : Int) (B : Int → Int) (n : Int) (w : Option od_V) (g' : od_G) : Prop :=
  (g (M + 2) 47 = 6 ∧ w = some (0, -5) ∧ g' = mRef (od_up g M 13 0) M (-5)) ∨
  (g (M + 2) 47 ≠ 6 ∧ ∃ (N : Int) (g1 : od_G), RdsQ g g1 M B n true N ∧
    ((mErr B n true N ≠ -1 ∧ w = some (0, -6) ∧ g' = mRef g1 M (-6)) ∨
     (mErr B n true N = -1 ∧ w = some (0, g (M + 2) 47) ∧ ∃ g2 : od_G, od_fr (XL M (g (M + 2) 47)) g1 g2 ∧ g2 (M + 2) (49 + g (M + 2) 47) = N ∧ (∀ i : Int, 0 ≤ i → i < N → g2 (M + 2) (56 + 400 * g (M + 2) 47 + i) = tC B n i ∧ g2 (M + 2) (2856 + 400 * g (M + 2) 47 + i) = tV B n i) ∧ g' = mGood (od_up g2 (M + 2) 47 (g (M + 2) 47 + 1)) M)))
set_option maxRecDepth 10000 in
theorem c_X11_law {E : od_E} {g : od_G} {M : Int} (hm : MoAt E M) {B : Int → Int} {n : Int} (hT : TpM g M B n) (hL : 0 ≤ g (M + 2) 47 ∧ g (M + 2) 47 ≤ 6) : od_Cq 39 mX11_law [(2, M)] E g (E, LwQ g M B n) := by
  refine od_cqI pnX11 rfl (Nat.le_of_ble_eq_true rfl) od_le.rf ?_
  show od_Rq 39 mX11_law od_Z0 E (E, LwQ g M B n) 0 [some (2, M)] [] E g
  refine r_aload_n dX11_law_0 rfl ?_
  refine r_getR dX11_law_1 fkX11_28 gf11_2 (mo_o hm) (mo_r2 hm) ?_
  refine r_bipush dX11_law_4 lb_47 ?_
  refine r_iald dX11_law_6 (mo_k2 hm) (by omega) (by first | exact e47 | exact e47b | exact od_up_i | rfl) ?_
  refine r_bipush dX11_law_7 lb_6 ?_
  refine r_icmp_ne (tgt := 24) dX11_law_9 rfl (fun c9 => ?_) (fun c9 => ?_)
  · refine r_aload_n dX11_law_24 rfl ?_
    refine r_iconst dX11_law_25 li_0 ?_
    refine r_callV1p dX11_law_26 cvX11_250 (mo_o hm) (c_X11_readsAs_t hm hT) (by decide) (Nat.le_of_ble_eq_true rfl) od_le.rf (fun r26 g26 h26 => ?_)
    obtain ⟨N, rfl, f26, e13, e14, hN, hk⟩ := h26
    show od_Rq _ _ _ _ _ _ _ ((0, _) :: _) _ _
    have e47 : g26 (M + 2) 47 = g (M + 2) 47 := f26 _ _ (by unfold XD; omega)
    refine r_if_ne (tgt := 39) dX11_law_29 rfl (fun c29 => ?_) (fun c29 => ?_)
    · refine r_aload_n dX11_law_39 rfl ?_
      refine r_aload_n dX11_law_40 rfl ?_
      refine r_getR dX11_law_41 fkX11_28 gf11_2 (mo_o hm) (mo_r2 hm) ?_
      refine r_bipush dX11_law_44 lb_47 ?_
      refine r_iald dX11_law_46 (mo_k2 hm) (by omega) (by first | exact e47 | exact e47b | exact od_up_i | rfl) ?_
      refine r_callV1p dX11_law_47 cvX11_254 (mo_o hm) (c_X11_lays hm hk _ (by omega)) (by decide) (Nat.le_of_ble_eq_true rfl) od_le.rf (fun r47 g47 h47 => ?_)
      obtain ⟨rfl, f47, l47, d47⟩ := h47
      show od_Rq _ _ _ _ _ _ _ [] _ _
      have e47b : g47 (M + 2) 47 = g (M + 2) 47 := (f47 _ _ (by omega)).trans e47
      refine r_aload_n dX11_law_50 rfl ?_
      refine r_getR dX11_law_51 fkX11_28 gf11_2 (mo_o hm) (mo_r2 hm) ?_
      refine r_bipush dX11_law_54 lb_47 ?_
      refine r_dup2 dX11_law_56 (by first | exact od_ne2 | exact od_ne0) (by first | exact od_ne2 | exact od_ne0) ?_
      refine r_iald dX11_law_57 (mo_k2 hm) (by omega) (by first | exact e47 | exact e47b | exact od_up_i | rfl) ?_
      refine r_iconst dX11_law_58 li_1 ?_
      refine r_iaddE dX11_law_59 (by first | exact od_w0 (by omega) (by omega) | exact od_wI (by omega) (by omega) | rfl) ?_
      refine r_iast dX11_law_60 (mo_k2 hm) (by omega) ?_
      refine r_aload_n dX11_law_61 rfl ?_
      refine r_aload_n dX11_law_62 rfl ?_
      refine r_getR dX11_law_63 fkX11_28 gf11_2 (mo_o hm) (mo_r2 hm) ?_
      refine r_bipush dX11_law_66 lb_47 ?_
      refine r_iald dX11_law_68 (mo_k2 hm) (by omega) (by first | exact e47 | exact e47b | exact od_up_i | rfl) ?_
      refine r_iconst dX11_law_69 li_1 ?_
      refine r_isubE dX11_law_70 (by first | exact od_w0 (by omega) (by omega) | exact od_wI (by omega) (by omega) | rfl) ?_
      refine r_callV1i dX11_law_71 cvX11_14 (mo_o hm) (c_X11_good hm _) (by decide) (Nat.le_of_ble_eq_true rfl) od_le.rf ?_
      refine r_iretq dX11_law_74 rfl rfl (Or.inr ⟨by assumption, N, g26, ⟨f26, e13, e14, hN, hk⟩, Or.inr ⟨Classical.byContradiction (fun z => c29 (od_b_f z)), ?_, g47, f47, l47, d47, rfl⟩⟩)
      rw [Int.add_sub_cancel]
    · refine r_aload_n dX11_law_32 rfl ?_
      refine r_bipush dX11_law_33 lb_m6 ?_
      refine r_callV1i dX11_law_35 cvX11_106 (mo_o hm) (c_X11_refuses hm _ (by omega)) (by decide) (Nat.le_of_ble_eq_true rfl) od_le.rf ?_
      exact r_iretq dX11_law_38 rfl rfl (Or.inr ⟨by assumption, N, g26, ⟨f26, e13, e14, hN, hk⟩, Or.inl ⟨fun z => by unfold mErr at z; rw [od_b_t z] at c29; exact absurd c29 (by decide), rfl, rfl⟩⟩)
  · refine r_aload_n dX11_law_12 rfl ?_
    refine r_iconst dX11_law_13 li_0 ?_
    refine r_putIj (j := 13) rfl dX11_law_14 fkX11_151 gf11_13 pf11_13 (mo_o hm) ?_
    refine r_aload_n dX11_law_17 rfl ?_
    refine r_bipush dX11_law_18 lb_m5 ?_
    refine r_callV1i dX11_law_20 cvX11_106 (mo_o hm) (c_X11_refuses hm _ (by omega)) (by decide) (Nat.le_of_ble_eq_true rfl) od_le.rf ?_
    exact r_iretq dX11_law_23 rfl rfl (Or.inl ⟨by assumption, rfl, rfl⟩)
