/-! the reference: feed and row -/
def mFv (a b c d e k : Int) : Int := if k = 0 then a else if k = 1 then b else if k = 2 then c else if k = 3 then d else e
def mFb (a b c d e j : Int) : Int := od_byte (od_byte (od_shr (mFv a b c d e (j / 4)) (24 - 8 * (j % 4))))
def FQ (M T : Int) : Int → Int → Prop := fun x y => x = M + 8 ∨ (x = M + 7 ∧ T ≤ y) ∨ (x = M ∧ y = 13)
set_option maxRecDepth 10000 in
theorem lp_X11_feed {E : od_E} {g : od_G} {Q : Option od_V → od_G → Prop} {M : Int} (hm : MoAt E M) (a b c d e T : Int) (hT : 0 ≤ T ∧ T + 20 ≤ 400) (hx : ∀ gw : od_G, od_fr (FQ M T) g gw → gw M 13 = T → (∀ j : Int, 0 ≤ j → j < 20 → gw (M + 7) (T + j) = mFb a b c d e j) → od_Rq 1 mX11_feed od_Z0 E (E, Q) 101 [some (2, M), some (0, a), some (0, b), some (0, c), some (0, d), some (0, e), some (0, 20)] [] E gw) : ∀ (m : Nat) (i : Int) (gw : od_G), (0 ≤ i ∧ i ≤ 20 ∧ od_fr (FQ M T) g gw ∧ gw M 13 = T ∧ (∀ k : Int, 0 ≤ k → k < 5 → gw (M + 8) k = mFv a b c d e k) ∧ ∀ j : Int, 0 ≤ j → j < i → gw (M + 7) (T + j) = mFb a b c d e j) → ((20 - i).toNat) < m → od_Rq 1 mX11_feed od_Z0 E (E, Q) 55 [some (2, M), some (0, a), some (0, b), some (0, c), some (0, d), some (0, e), some (0, i)] [] E gw := by
  intro m
  induction m with
  | zero => intro i gw hi hM; exact absurd hM (Nat.not_lt_zero _)
  | succ m ih =>
    intro i gw hi hM
    obtain ⟨hi0, hi1, hfr, e13, h5, hd⟩ := hi
    have t4 : od_w (i.tdiv 4) = i / 4 := by rw [Int.tdiv_eq_ediv_of_nonneg hi0]; exact od_wI (by omega) (by omega)
    have m4 : i.tmod 4 = i % 4 := Int.tmod_eq_emod_of_nonneg hi0
    refine r_iload dX11_feed_55 rfl ?_
    refine r_bipush dX11_feed_57 lb_20 ?_
    refine r_icmp_ge (tgt := 101) dX11_feed_59 rfl (fun c59 => ?_) (fun c59 => ?_)
    · have hi : i = 20 := by omega
      subst hi
      exact hx gw hfr e13 hd
    · refine r_aload_n dX11_feed_62 rfl ?_
      refine r_getR dX11_feed_63 fkX11_45 gf11_11 (mo_o hm) (mo_r11 hm) ?_
      refine r_aload_n dX11_feed_66 rfl ?_
      refine r_getIj (j := 13) rfl dX11_feed_67 fkX11_151 gf11_13 (mo_o hm) (by first | exact e13 | exact h5 _ (by omega) (by omega) | rfl) ?_
      refine r_iload dX11_feed_70 rfl ?_
      refine r_iaddE dX11_feed_72 (by first | exact od_w0 (by omega) (by omega) | exact od_wI (by omega) (by omega) | rfl) ?_
      refine r_aload_n dX11_feed_73 rfl ?_
      refine r_getR dX11_feed_74 fkX11_48 gf11_12 (mo_o hm) (mo_r12 hm) ?_
      refine r_iload dX11_feed_77 rfl ?_
      refine r_iconst dX11_feed_79 li_4 ?_
      refine r_idiv dX11_feed_80 (by first | decide | omega) ?_
      rw [t4]
      refine r_iald dX11_feed_81 (mo_k12 hm) (by omega) (by first | exact e13 | exact h5 _ (by omega) (by omega) | rfl) ?_
      refine r_bipush dX11_feed_82 lb_24 ?_
      refine r_bipush dX11_feed_84 lb_8 ?_
      refine r_iload dX11_feed_86 rfl ?_
      refine r_iconst dX11_feed_88 li_4 ?_
      refine r_irem dX11_feed_89 (by first | decide | omega) ?_
      rw [m4]
      refine r_imulE dX11_feed_90 (by first | exact od_w0 (by omega) (by omega) | exact od_wI (by omega) (by omega) | rfl) ?_
      refine r_isubE dX11_feed_91 (by first | exact od_w0 (by omega) (by omega) | exact od_wI (by omega) (by omega) | rfl) ?_
      refine r_ishr dX11_feed_92 ?_
      refine r_i2b dX11_feed_93 ?_
      refine r_bast dX11_feed_94 (mo_k11 hm) (by omega) ?_
      refine r_iincE dX11_feed_95 rfl (by decide) (by first | exact od_w0 (by omega) (by omega) | exact od_wI (by omega) (by omega) | rfl) rfl ?_
      refine r_goto (tgt := 55) dX11_feed_98 rfl ?_
      refine ih _ _ ⟨by omega, by omega, hfr.up (Or.inr (Or.inl ⟨rfl, by omega⟩)), by rw [od_upn (by omega)]; exact e13, fun k h0 h1 => by rw [od_upn (by omega)]; exact h5 k h0 h1, fun j h0 h1 => ?_⟩ (by omega)
      rw [od_up_at]
      by_cases cj : T + j = T + i
      · rw [if_pos cj, show j = i by omega]
        rfl
      · rw [if_neg cj]
        exact hd j h0 (by omega)
set_option maxRecDepth 10000 in
theorem c_X11_feed {E : od_E} {g : od_G} {M : Int} (hm : MoAt E M) (h13 : 0 ≤ g M 13 ∧ g M 13 ≤ 400) (a b c d e : Int) : od_Cq 1 mX11_feed [(2, M), (0, a), (0, b), (0, c), (0, d), (0, e)] E g (E, fun w g' => (400 < g M 13 + 20 ∧ w = some (0, -1) ∧ g' = g) ∨ (g M 13 + 20 ≤ 400 ∧ w = some (0, g M 13 + 20) ∧ od_fr (FQ M (g M 13)) g g' ∧ g' M 13 = g M 13 + 20 ∧ ∀ j : Int, 0 ≤ j → j < 20 → g' (M + 7) (g M 13 + j) = mFb a b c d e j)) := by
  refine od_cqI pnX11 rfl (Nat.le_of_ble_eq_true rfl) od_le.rf ?_
  show od_Rq 1 mX11_feed od_Z0 E (E, fun w g' => (400 < g M 13 + 20 ∧ w = some (0, -1) ∧ g' = g) ∨ (g M 13 + 20 ≤ 400 ∧ w = some (0, g M 13 + 20) ∧ od_fr (FQ M (g M 13)) g g' ∧ g' M 13 = g M 13 + 20 ∧ ∀ j : Int, 0 ≤ j → j < 20 → g' (M + 7) (g M 13 + j) = mFb a b c d e j)) 0 [some (2, M), some (0, a), some (0, b), some (0, c), some (0, d), some (0, e), none] [] E g
  refine r_aload_n dX11_feed_0 rfl ?_
  refine r_getIj (j := 13) rfl dX11_feed_1 fkX11_151 gf11_13 (mo_o hm) (by first | exact e13 | exact od_up_i | rfl) ?_
  refine r_bipush dX11_feed_4 lb_20 ?_
  refine r_iaddE dX11_feed_6 (by first | exact od_w0 (by omega) (by omega) | exact od_wI (by omega) (by omega) | rfl) ?_
  refine r_sipush dX11_feed_7 ls_400 ?_
  refine r_icmp_le (tgt := 15) dX11_feed_10 rfl (fun c10 => ?_) (fun c10 => ?_)
  · refine r_aload_n dX11_feed_15 rfl ?_
    refine r_getR dX11_feed_16 fkX11_48 gf11_12 (mo_o hm) (mo_r12 hm) ?_
    refine r_iconst dX11_feed_19 li_0 ?_
    refine r_iload_n dX11_feed_20 rfl ?_
    refine r_iast dX11_feed_21 (mo_k12 hm) (by omega) ?_
    refine r_aload_n dX11_feed_22 rfl ?_
    refine r_getR dX11_feed_23 fkX11_48 gf11_12 (mo_o hm) (mo_r12 hm) ?_
    refine r_iconst dX11_feed_26 li_1 ?_
    refine r_iload_n dX11_feed_27 rfl ?_
    refine r_iast dX11_feed_28 (mo_k12 hm) (by omega) ?_
    refine r_aload_n dX11_feed_29 rfl ?_
    refine r_getR dX11_feed_30 fkX11_48 gf11_12 (mo_o hm) (mo_r12 hm) ?_
    refine r_iconst dX11_feed_33 li_2 ?_
    refine r_iload_n dX11_feed_34 rfl ?_
    refine r_iast dX11_feed_35 (mo_k12 hm) (by omega) ?_
    refine r_aload_n dX11_feed_36 rfl ?_
    refine r_getR dX11_feed_37 fkX11_48 gf11_12 (mo_o hm) (mo_r12 hm) ?_
    refine r_iconst dX11_feed_40 li_3 ?_
    refine r_iload dX11_feed_41 rfl ?_
    refine r_iast dX11_feed_43 (mo_k12 hm) (by omega) ?_
    refine r_aload_n dX11_feed_44 rfl ?_
    refine r_getR dX11_feed_45 fkX11_48 gf11_12 (mo_o hm) (mo_r12 hm) ?_
    refine r_iconst dX11_feed_48 li_4 ?_
    refine r_iload dX11_feed_49 rfl ?_
    refine r_iast dX11_feed_51 (mo_k12 hm) (by omega) ?_
    refine r_iconst dX11_feed_52 li_0 ?_
    refine r_istore dX11_feed_53 (by decide) rfl ?_
    have o13 : ∀ v0 v1 v2 v3 v4 : Int, od_up (od_up (od_up (od_up (od_up g (M + 8) 0 v0) (M + 8) 1 v1) (M + 8) 2 v2) (M + 8) 3 v3) (M + 8) 4 v4 M 13 = g M 13 := fun _ _ _ _ _ => by rw [od_upn (by omega), od_upn (by omega), od_upn (by omega), od_upn (by omega), od_upn (by omega)]
    refine lp_X11_feed (g := g) hm a b c d e (g M 13) (by omega) (fun gy hgy e13 hdy => ?_) _ _ _ ⟨by omega, by omega, ((((od_fr.rf.up (Or.inl rfl)).up (Or.inl rfl)).up (Or.inl rfl)).up (Or.inl rfl)).up (Or.inl rfl), o13 _ _ _ _ _, fun k h0 h1 => ?_, fun j h0 h1 => by omega⟩ (Nat.lt_succ_self _)
    rotate_left
    · rw [od_up_at, od_up_at, od_up_at, od_up_at, od_up_at]
      unfold mFv
      have ck : k = 0 ∨ k = 1 ∨ k = 2 ∨ k = 3 ∨ k = 4 := by omega
      rcases ck with rfl | rfl | rfl | rfl | rfl <;> rfl
    refine r_aload_n dX11_feed_101 rfl ?_
    refine r_dup dX11_feed_102 (by first | exact od_ne2 | exact od_ne0) ?_
    refine r_getIj (j := 13) rfl dX11_feed_103 fkX11_151 gf11_13 (mo_o hm) (by first | exact e13 | exact od_up_i | rfl) ?_
    refine r_bipush dX11_feed_106 lb_20 ?_
    refine r_iaddE dX11_feed_108 (by first | exact od_w0 (by omega) (by omega) | exact od_wI (by omega) (by omega) | rfl) ?_
    refine r_putIj (j := 13) rfl dX11_feed_109 fkX11_151 gf11_13 pf11_13 (mo_o hm) ?_
    refine r_aload_n dX11_feed_112 rfl ?_
    refine r_getIj (j := 13) rfl dX11_feed_113 fkX11_151 gf11_13 (mo_o hm) (by first | exact e13 | exact od_up_i | rfl) ?_
    refine r_iretq dX11_feed_116 rfl rfl (Or.inr ⟨by omega, rfl, hgy.up (Or.inr (Or.inr ⟨rfl, rfl⟩)), od_up_i, fun j h0 h1 => ?_⟩)
    rw [od_upn (by omega)]
    exact hdy j h0 h1
  · refine r_iconst dX11_feed_13 li_m1 ?_
    exact r_iretq dX11_feed_14 rfl rfl (Or.inl ⟨by omega, rfl, rfl⟩)
