/-! the reference: what is kept for undo -/
theorem od_cq_s2 (g : od_G) {a o f i : Int} (h0 : 0 ≤ i) (hf : o ≤ f) : od_up (od_cq g a o a f i) a (o + i) (od_cq g a o a f i a (f + i)) = od_cq g a o a f (i + 1) := by
  funext x y
  simp only [od_up, od_cq]
  by_cases c1 : x = a ∧ y = o + i
  · rw [if_pos c1, if_neg (by omega), if_pos (by omega), c1.2]
    exact congrArg _ (by omega)
  · rw [if_neg c1]
    by_cases c2 : x = a ∧ o ≤ y ∧ y < o + i
    · rw [if_pos c2, if_pos (by omega)]
    · rw [if_neg c2, if_neg (by omega)]
theorem od_up_o {g : od_G} {a j v x y : Int} (h : x ≠ a) : od_up g a j v x y = g x y := by unfold od_up; exact if_neg (fun z => h z.1)
theorem od_up_i {g : od_G} {a j v : Int} : od_up g a j v a j = v := by unfold od_up; exact if_pos ⟨rfl, rfl⟩
def mKp0 (g : od_G) (M : Int) : od_G := if g M 33 = 16 then od_up (od_cq g (M + 14) 0 (M + 14) 20 300) M 33 15 else g
def mKp1 (g : od_G) (M k : Int) : od_G := od_up (od_up (od_cq g (M + 14) (20 * g M 33) (M + 2) 0 19) (M + 14) (20 * g M 33 + 19) k) M 33 (g M 33 + 1)
def mKp (g : od_G) (M k : Int) : od_G := mKp1 (mKp0 g M) M k
def KQ (M : Int) : Int → Int → Prop := fun x y => x = M + 14 ∨ (x = M ∧ y = 33)
theorem mKp_fr (g : od_G) (M k : Int) : od_fr (KQ M) g (mKp g M k) := by
  intro x y h
  unfold KQ at h
  unfold mKp mKp1 mKp0 od_up od_cq
  try dsimp only
  rw [if_neg (by omega), if_neg (by omega), if_neg (by omega)]
  split
  · try dsimp only
    rw [if_neg (by omega), if_neg (by omega)]
  · rfl
theorem mKp_33 (g : od_G) (M k : Int) : mKp g M k M 33 = (if g M 33 = 16 then 15 else g M 33) + 1 := by
  unfold mKp mKp1 mKp0 od_up
  try dsimp only
  rw [if_pos ⟨rfl, rfl⟩]
  split
  · try dsimp only
    rw [if_pos ⟨rfl, rfl⟩]
  · rfl
noncomputable def mUn (g : od_G) (M : Int) : Int × od_G := od_ip (g M 33 = 0) (-3, mRef g M (-3)) (g (M + 14) (20 * (g M 33 - 1) + 19), mGood (od_cq (od_up g M 33 (g M 33 - 1)) (M + 2) 0 (M + 14) (20 * (g M 33 - 1)) 19) M)
set_option maxRecDepth 10000 in
theorem lp_X11_keepsA {E : od_E} {g : od_G} {rs : od_Rs} {M : Int} (hm : MoAt E M) (k U : Int) (hU : 0 ≤ U ∧ U ≤ 15) (hx : ∀ gw : od_G, gw = od_cq g (M + 14) (20 * U) (M + 2) 0 19 → gw M 33 = U → od_R 1 mX11_keeps od_Z0 E rs 85 [some (2, M), some (0, k), some (0, 20), some (0, 19)] [] E gw) : ∀ (m : Nat) (i : Int) (gw : od_G), (0 ≤ i ∧ i ≤ 19 ∧ gw = od_cq g (M + 14) (20 * U) (M + 2) 0 i ∧ gw M 33 = U) → ((19 - i).toNat) < m → od_R 1 mX11_keeps od_Z0 E rs 54 [some (2, M), some (0, k), some (0, 20), some (0, i)] [] E gw := by
  intro m
  induction m with
  | zero => intro i gw hi hM; exact absurd hM (Nat.not_lt_zero _)
  | succ m ih =>
    intro i gw hi hM
    obtain ⟨hi0, hi6, hgw, e33⟩ := hi
    refine r_iload_n dX11_keeps_54 rfl ?_
    refine r_bipush dX11_keeps_55 lb_19 ?_
    refine r_icmp_ge (tgt := 85) dX11_keeps_57 rfl (fun c57 => ?_) (fun c57 => ?_)
    · have hi : i = 19 := by omega
      subst hi
      exact hx gw hgw e33
    · refine r_aload_n dX11_keeps_60 rfl ?_
      refine r_getR dX11_keeps_61 fkX11_69 gf11_31 (mo_o hm) (mo_r31 hm) ?_
      refine r_iload_n dX11_keeps_64 rfl ?_
      refine r_aload_n dX11_keeps_65 rfl ?_
      refine r_getIj (j := 33) rfl dX11_keeps_66 fkX11_11 gf11_33 (mo_o hm) (by first | assumption | rfl) ?_
      refine r_imulE dX11_keeps_69 (by first | exact od_w0 (by omega) (by omega) | exact od_wI (by omega) (by omega) | rfl) ?_
      refine r_iload_n dX11_keeps_70 rfl ?_
      refine r_iaddE dX11_keeps_71 (by first | exact od_w0 (by omega) (by omega) | exact od_wI (by omega) (by omega) | rfl) ?_
      refine r_aload_n dX11_keeps_72 rfl ?_
      refine r_getR dX11_keeps_73 fkX11_28 gf11_2 (mo_o hm) (mo_r2 hm) ?_
      refine r_iload_n dX11_keeps_76 rfl ?_
      refine r_iald dX11_keeps_77 (mo_k2 hm) (by omega) (by first | assumption | rfl) ?_
      refine r_iast dX11_keeps_78 (mo_k31 hm) (by omega) ?_
      refine r_iincE dX11_keeps_79 rfl (by decide) (by first | exact od_w0 (by omega) (by omega) | exact od_wI (by omega) (by omega) | rfl) rfl ?_
      refine r_goto (tgt := 54) dX11_keeps_82 rfl ?_
      refine ih (i + 1) _ ⟨by omega, by omega, ?_, by unfold od_up; (try dsimp only); rw [if_neg (by omega)]; exact e33⟩ (by omega)
      rw [← od_cq_s g (a := M + 14) (o := 20 * U) (b := M + 2) (f := 0) hi0 (by omega), Int.zero_add, ← hgw]
set_option maxRecDepth 10000 in
theorem lp_X11_keepsB {E : od_E} {g : od_G} {rs : od_Rs} {M : Int} (hm : MoAt E M) (k : Int) (hx : ∀ gw : od_G, gw = od_cq g (M + 14) 0 (M + 14) 20 300 → gw M 33 = 16 → od_R 1 mX11_keeps od_Z0 E rs 42 [some (2, M), some (0, k), some (0, 20), some (0, 300)] [] E gw) : ∀ (m : Nat) (i : Int) (gw : od_G), (0 ≤ i ∧ i ≤ 300 ∧ gw = od_cq g (M + 14) 0 (M + 14) 20 i ∧ gw M 33 = 16) → ((300 - i).toNat) < m → od_R 1 mX11_keeps od_Z0 E rs 14 [some (2, M), some (0, k), some (0, 20), some (0, i)] [] E gw := by
  intro m
  induction m with
  | zero => intro i gw hi hM; exact absurd hM (Nat.not_lt_zero _)
  | succ m ih =>
    intro i gw hi hM
    obtain ⟨hi0, hi6, hgw, e33⟩ := hi
    refine r_iload_n dX11_keeps_14 rfl ?_
    refine r_bipush dX11_keeps_15 lb_15 ?_
    refine r_iload_n dX11_keeps_17 rfl ?_
    refine r_imulE dX11_keeps_18 (by first | exact od_w0 (by omega) (by omega) | exact od_wI (by omega) (by omega) | rfl) ?_
    refine r_icmp_ge (tgt := 42) dX11_keeps_19 rfl (fun c19 => ?_) (fun c19 => ?_)
    · have hi : i = 300 := by omega
      subst hi
      exact hx gw hgw e33
    · refine r_aload_n dX11_keeps_22 rfl ?_
      refine r_getR dX11_keeps_23 fkX11_69 gf11_31 (mo_o hm) (mo_r31 hm) ?_
      refine r_iload_n dX11_keeps_26 rfl ?_
      refine r_aload_n dX11_keeps_27 rfl ?_
      refine r_getR dX11_keeps_28 fkX11_69 gf11_31 (mo_o hm) (mo_r31 hm) ?_
      refine r_iload_n dX11_keeps_31 rfl ?_
      refine r_iload_n dX11_keeps_32 rfl ?_
      refine r_iaddE dX11_keeps_33 (by first | exact od_w0 (by omega) (by omega) | exact od_wI (by omega) (by omega) | rfl) ?_
      refine r_iald dX11_keeps_34 (mo_k31 hm) (by omega) (by first | assumption | rfl) ?_
      refine r_iast dX11_keeps_35 (mo_k31 hm) (by omega) ?_
      refine r_iincE dX11_keeps_36 rfl (by decide) (by first | exact od_w0 (by omega) (by omega) | exact od_wI (by omega) (by omega) | rfl) rfl ?_
      refine r_goto (tgt := 14) dX11_keeps_39 rfl ?_
      refine ih (i + 1) _ ⟨by omega, by omega, ?_, by unfold od_up; (try dsimp only); rw [if_neg (by omega)]; exact e33⟩ (by omega)
      rw [← od_cq_s2 g (a := M + 14) (o := 0) (f := 20) hi0 (by omega), ← hgw, Int.zero_add, Int.add_comm 20 i]
set_option maxRecDepth 10000 in
theorem sg_X11_keeps {E : od_E} {g : od_G} {M : Int} (hm : MoAt E M) (k : Int) (j : Option od_V) (hU : 0 ≤ g M 33 ∧ g M 33 ≤ 15) : od_R 1 mX11_keeps od_Z0 E (none, E, mKp1 g M k) 52 [some (2, M), some (0, k), some (0, 20), j] [] E g := by
  refine r_iconst dX11_keeps_52 li_0 ?_
  refine r_istore_n dX11_keeps_53 (by decide) rfl ?_
  refine lp_X11_keepsA hm k (g M 33) hU (fun gw hgw e33 => ?_) _ _ _ ⟨by omega, by omega, (od_cq_0 _ _ _ _ _).symm, rfl⟩ (Nat.lt_succ_self _)
  refine r_aload_n dX11_keeps_85 rfl ?_
  refine r_getR dX11_keeps_86 fkX11_69 gf11_31 (mo_o hm) (mo_r31 hm) ?_
  refine r_iload_n dX11_keeps_89 rfl ?_
  refine r_aload_n dX11_keeps_90 rfl ?_
  refine r_getIj (j := 33) rfl dX11_keeps_91 fkX11_11 gf11_33 (mo_o hm) (by first | exact e33 | exact (od_up_o (by omega)).trans e33 | rfl) ?_
  refine r_imulE dX11_keeps_94 (by first | exact od_w0 (by omega) (by omega) | exact od_wI (by omega) (by omega) | rfl) ?_
  refine r_bipush dX11_keeps_95 lb_19 ?_
  refine r_iaddE dX11_keeps_97 (by first | exact od_w0 (by omega) (by omega) | exact od_wI (by omega) (by omega) | rfl) ?_
  refine r_iload_n dX11_keeps_98 rfl ?_
  refine r_iast dX11_keeps_99 (mo_k31 hm) (by omega) ?_
  refine r_aload_n dX11_keeps_100 rfl ?_
  refine r_dup dX11_keeps_101 (by first | exact od_ne2 | exact od_ne0) ?_
  refine r_getIj (j := 33) rfl dX11_keeps_102 fkX11_11 gf11_33 (mo_o hm) (by first | exact e33 | exact (od_up_o (by omega)).trans e33 | rfl) ?_
  refine r_iconst dX11_keeps_105 li_1 ?_
  refine r_iaddE dX11_keeps_106 (by first | exact od_w0 (by omega) (by omega) | exact od_wI (by omega) (by omega) | rfl) ?_
  refine r_putIj (j := 33) rfl dX11_keeps_107 fkX11_11 gf11_33 pf11_33 (mo_o hm) ?_
  exact r_vret dX11_keeps_110 rfl (by rw [hgw]; rfl)
set_option maxRecDepth 10000 in
theorem c_X11_keeps {E : od_E} {g : od_G} {M : Int} (hm : MoAt E M) (hU : 0 ≤ g M 33 ∧ g M 33 ≤ 16) (k : Int) : od_Ct 1 mX11_keeps [(2, M), (0, k)] E g (none, E, mKp g M k) := by
  refine od_ctI pnX11 rfl (Nat.le_of_ble_eq_true rfl) od_le.rf ?_
  show od_R _ _ _ _ _ 0 [some (2, M), some (0, k), none, none] [] E g
  refine r_bipush dX11_keeps_0 lb_20 ?_
  refine r_istore_n dX11_keeps_2 (by decide) rfl ?_
  refine r_aload_n dX11_keeps_3 rfl ?_
  refine r_getIj (j := 33) rfl dX11_keeps_4 fkX11_11 gf11_33 (mo_o hm) (by first | assumption | rfl) ?_
  refine r_bipush dX11_keeps_7 lb_16 ?_
  refine r_icmp_ne (tgt := 52) dX11_keeps_9 rfl (fun c9 => ?_) (fun c9 => ?_)
  · first
    | (have e : mKp0 g M = g := by unfold mKp0; rw [if_neg (by assumption)]
       have z := sg_X11_keeps (g := g) hm k none (by omega)
       unfold mKp; rw [e]; exact z)
    | (have e : mKp0 g M = od_up gw M 33 (16 - 1) := by unfold mKp0; rw [if_pos (by assumption), ← hgw]; rfl
       have z := sg_X11_keeps (g := od_up gw M 33 (16 - 1)) hm k (some (0, 300)) (by unfold od_up; (try dsimp only); rw [if_pos ⟨rfl, rfl⟩]; omega)
       unfold mKp; rw [e]; exact z)
  · refine r_iconst dX11_keeps_12 li_0 ?_
    refine r_istore_n dX11_keeps_13 (by decide) rfl ?_
    refine lp_X11_keepsB hm k (fun gw hgw e33 => ?_) _ _ _ ⟨by omega, by omega, (od_cq_0 _ _ _ _ _).symm, by assumption⟩ (Nat.lt_succ_self _)
    refine r_aload_n dX11_keeps_42 rfl ?_
    refine r_dup dX11_keeps_43 (by first | exact od_ne2 | exact od_ne0) ?_
    refine r_getIj (j := 33) rfl dX11_keeps_44 fkX11_11 gf11_33 (mo_o hm) (by first | assumption | rfl) ?_
    refine r_iconst dX11_keeps_47 li_1 ?_
    refine r_isubE dX11_keeps_48 (by first | exact od_w0 (by omega) (by omega) | exact od_wI (by omega) (by omega) | rfl) ?_
    refine r_putIj (j := 33) rfl dX11_keeps_49 fkX11_11 gf11_33 pf11_33 (mo_o hm) ?_
    first
    | (have e : mKp0 g M = g := by unfold mKp0; rw [if_neg (by assumption)]
       have z := sg_X11_keeps (g := g) hm k none (by omega)
       unfold mKp; rw [e]; exact z)
    | (have e : mKp0 g M = od_up gw M 33 (16 - 1) := by unfold mKp0; rw [if_pos (by assumption), ← hgw]; rfl
       have z := sg_X11_keeps (g := od_up gw M 33 (16 - 1)) hm k (some (0, 300)) (by unfold od_up; (try dsimp only); rw [if_pos ⟨rfl, rfl⟩]; omega)
       unfold mKp; rw [e]; exact z)
set_option maxRecDepth 10000 in
theorem lp_X11_undo {E : od_E} {g : od_G} {rs : od_Rs} {M : Int} (hm : MoAt E M) (U : Int) (hU : 0 ≤ U ∧ U ≤ 15) (hx : ∀ gw : od_G, gw = od_cq g (M + 2) 0 (M + 14) (20 * U) 19 → od_R 2 mX11_undo od_Z0 E rs 60 [some (2, M), some (0, 20 * U), some (0, 19)] [] E gw) : ∀ (m : Nat) (i : Int) (gw : od_G), (0 ≤ i ∧ i ≤ 19 ∧ gw = od_cq g (M + 2) 0 (M + 14) (20 * U) i) → ((19 - i).toNat) < m → od_R 2 mX11_undo od_Z0 E rs 34 [some (2, M), some (0, 20 * U), some (0, i)] [] E gw := by
  intro m
  induction m with
  | zero => intro i gw hi hM; exact absurd hM (Nat.not_lt_zero _)
  | succ m ih =>
    intro i gw hi hM
    obtain ⟨hi0, hi6, hgw⟩ := hi
    refine r_iload_n dX11_undo_34 rfl ?_
    refine r_bipush dX11_undo_35 lb_19 ?_
    refine r_icmp_ge (tgt := 60) dX11_undo_37 rfl (fun c37 => ?_) (fun c37 => ?_)
    · have hi : i = 19 := by omega
      subst hi
      exact hx gw hgw
    · refine r_aload_n dX11_undo_40 rfl ?_
      refine r_getR dX11_undo_41 fkX11_28 gf11_2 (mo_o hm) (mo_r2 hm) ?_
      refine r_iload_n dX11_undo_44 rfl ?_
      refine r_aload_n dX11_undo_45 rfl ?_
      refine r_getR dX11_undo_46 fkX11_69 gf11_31 (mo_o hm) (mo_r31 hm) ?_
      refine r_iload_n dX11_undo_49 rfl ?_
      refine r_iload_n dX11_undo_50 rfl ?_
      refine r_iaddE dX11_undo_51 (by first | exact od_w0 (by omega) (by omega) | exact od_wI (by omega) (by omega) | rfl) ?_
      refine r_iald dX11_undo_52 (mo_k31 hm) (by omega) (by first | assumption | rfl) ?_
      refine r_iast dX11_undo_53 (mo_k2 hm) (by omega) ?_
      refine r_iincE dX11_undo_54 rfl (by decide) (by first | exact od_w0 (by omega) (by omega) | exact od_wI (by omega) (by omega) | rfl) rfl ?_
      refine r_goto (tgt := 34) dX11_undo_57 rfl ?_
      refine ih (i + 1) _ ⟨by omega, by omega, ?_⟩ (by omega)
      rw [← od_cq_s g (a := M + 2) (o := 0) (b := M + 14) (f := 20 * U) hi0 (by omega), ← hgw, Int.zero_add]
set_option maxRecDepth 10000 in
theorem c_X11_undo {E : od_E} {g : od_G} {M : Int} (hm : MoAt E M) (hU : 0 ≤ g M 33 ∧ g M 33 ≤ 16) : od_Ct 2 mX11_undo [(2, M)] E g (some (0, (mUn g M).1), E, (mUn g M).2) := by
  refine od_ctI pnX11 rfl (Nat.le_of_ble_eq_true rfl) od_le.rf ?_
  show od_R _ _ _ _ _ 0 [some (2, M), none, none] [] E g
  refine r_aload_n dX11_undo_0 rfl ?_
  refine r_getIj (j := 33) rfl dX11_undo_1 fkX11_11 gf11_33 (mo_o hm) (by first | exact e14 | exact od_up_i | rfl) ?_
  refine r_if_ne (tgt := 14) dX11_undo_4 rfl (fun c4 => ?_) (fun c4 => ?_)
  · refine r_aload_n dX11_undo_14 rfl ?_
    refine r_dup dX11_undo_15 (by first | exact od_ne2 | exact od_ne0) ?_
    refine r_getIj (j := 33) rfl dX11_undo_16 fkX11_11 gf11_33 (mo_o hm) (by first | exact e14 | exact od_up_i | rfl) ?_
    refine r_iconst dX11_undo_19 li_1 ?_
    refine r_isubE dX11_undo_20 (by first | exact od_w0 (by omega) (by omega) | exact od_wI (by omega) (by omega) | rfl) ?_
    refine r_putIj (j := 33) rfl dX11_undo_21 fkX11_11 gf11_33 pf11_33 (mo_o hm) ?_
    refine r_bipush dX11_undo_24 lb_20 ?_
    refine r_aload_n dX11_undo_26 rfl ?_
    refine r_getIj (j := 33) rfl dX11_undo_27 fkX11_11 gf11_33 (mo_o hm) (by first | exact e14 | exact od_up_i | rfl) ?_
    refine r_imulE dX11_undo_30 (by first | exact od_w0 (by omega) (by omega) | exact od_wI (by omega) (by omega) | rfl) ?_
    refine r_istore_n dX11_undo_31 (by decide) rfl ?_
    refine r_iconst dX11_undo_32 li_0 ?_
    refine r_istore_n dX11_undo_33 (by decide) rfl ?_
    refine lp_X11_undo hm (g M 33 - 1) (by omega) (fun gw hgw => ?_) _ _ _ ⟨by omega, by omega, (od_cq_0 _ _ _ _ _).symm⟩ (Nat.lt_succ_self _)
    have e14 : gw (M + 14) (20 * (g M 33 - 1) + 19) = g (M + 14) (20 * (g M 33 - 1) + 19) := by rw [hgw]; unfold od_cq od_up; (try dsimp only); rw [if_neg (by omega), if_neg (by omega)]
    refine r_aload_n dX11_undo_60 rfl ?_
    refine r_aload_n dX11_undo_61 rfl ?_
    refine r_getR dX11_undo_62 fkX11_69 gf11_31 (mo_o hm) (mo_r31 hm) ?_
    refine r_iload_n dX11_undo_65 rfl ?_
    refine r_bipush dX11_undo_66 lb_19 ?_
    refine r_iaddE dX11_undo_68 (by first | exact od_w0 (by omega) (by omega) | exact od_wI (by omega) (by omega) | rfl) ?_
    refine r_iald dX11_undo_69 (mo_k31 hm) (by omega) (by first | exact e14 | exact od_up_i | rfl) ?_
    refine r_callV1i dX11_undo_70 cvX11_14 (mo_o hm) (c_X11_good hm _) (by decide) (Nat.le_of_ble_eq_true rfl) od_le.rf ?_
    exact r_iret dX11_undo_73 rfl (by unfold mUn; first | rw [od_ip_t (by assumption)] | (rw [od_ip_f (by assumption)]; rw [hgw]))
  · refine r_aload_n dX11_undo_7 rfl ?_
    refine r_bipush dX11_undo_8 lb_m3 ?_
    refine r_callV1i dX11_undo_10 cvX11_106 (mo_o hm) (c_X11_refuses hm _ (by omega)) (by decide) (Nat.le_of_ble_eq_true rfl) od_le.rf ?_
    exact r_iret dX11_undo_13 rfl (by unfold mUn; first | rw [od_ip_t (by assumption)] | (rw [od_ip_f (by assumption)]; rw [hgw]))
