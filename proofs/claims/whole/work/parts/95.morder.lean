/-! the reference: orders, what is left aside -/
set_option maxRecDepth 10000 in
theorem lp_X11_ordA {E : od_E} {g : od_G} {Q : Option od_V → od_G → Prop} {M : Int} (hm : MoAt E M) (hx : od_Rq 60 mX11_orders od_Z0 E (E, Q) 52 [some (2, M), some (0, 320), none, none, none] [] E (od_cq g (M + 15) 0 (M + 14) 0 320)) : ∀ (m : Nat) (i : Int) (gw : od_G), (0 ≤ i ∧ i ≤ 320 ∧ gw = od_cq g (M + 15) 0 (M + 14) 0 i) → ((320 - i).toNat) < m → od_Rq 60 mX11_orders od_Z0 E (E, Q) 27 [some (2, M), some (0, i), none, none, none] [] E gw := by
  intro m
  induction m with
  | zero => intro i gw hi hM; exact absurd hM (Nat.not_lt_zero _)
  | succ m ih =>
    intro i gw hi hM
    obtain ⟨hi0, hi1, hgw⟩ := hi
    refine r_iload_n dX11_orders_27 rfl ?_
    refine r_sipush dX11_orders_28 ls_320 ?_
    refine r_icmp_ge (tgt := 52) dX11_orders_31 rfl (fun c31 => ?_) (fun c31 => ?_)
    · have hi9 : i = 320 := by omega
      subst hi9
      rw [hgw]
      exact hx
    · refine r_aload_n dX11_orders_34 rfl ?_
      refine r_getR dX11_orders_35 fkX11_72 gf11_32 (mo_o hm) (mo_r32 hm) ?_
      refine r_iload_n dX11_orders_38 rfl ?_
      refine r_aload_n dX11_orders_39 rfl ?_
      refine r_getR dX11_orders_40 fkX11_69 gf11_31 (mo_o hm) (mo_r31 hm) ?_
      refine r_iload_n dX11_orders_43 rfl ?_
      refine r_iald dX11_orders_44 (mo_k31 hm) (by omega) rfl ?_
      refine r_iast dX11_orders_45 (mo_k32 hm) (by omega) ?_
      refine r_iincE dX11_orders_46 rfl (by decide) (by first | exact od_w0 (by omega) (by omega) | exact od_wI (by omega) (by omega) | rfl) rfl ?_
      refine r_goto (tgt := 27) dX11_orders_49 rfl ?_
      refine ih _ _ ⟨by omega, by omega, ?_⟩ (by omega)
      rw [← od_cq_s g (a := M + 15) (o := 0) (b := M + 14) (f := 0) hi0 (by omega), Int.zero_add, ← hgw]
set_option maxRecDepth 10000 in
theorem lp_X11_ordB {E : od_E} {g : od_G} {Q : Option od_V → od_G → Prop} {M : Int} (hm : MoAt E M) (u e n : Int) (hx : od_Rq 60 mX11_orders od_Z0 E (E, Q) 150 [some (2, M), some (0, u), some (0, e), some (0, n), some (0, 320)] [] E (od_cq g (M + 14) 0 (M + 15) 0 320)) : ∀ (m : Nat) (i : Int) (gw : od_G), (0 ≤ i ∧ i ≤ 320 ∧ gw = od_cq g (M + 14) 0 (M + 15) 0 i) → ((320 - i).toNat) < m → od_Rq 60 mX11_orders od_Z0 E (E, Q) 122 [some (2, M), some (0, u), some (0, e), some (0, n), some (0, i)] [] E gw := by
  intro m
  induction m with
  | zero => intro i gw hi hM; exact absurd hM (Nat.not_lt_zero _)
  | succ m ih =>
    intro i gw hi hM
    obtain ⟨hi0, hi1, hgw⟩ := hi
    refine r_iload dX11_orders_122 rfl ?_
    refine r_sipush dX11_orders_124 ls_320 ?_
    refine r_icmp_ge (tgt := 150) dX11_orders_127 rfl (fun c127 => ?_) (fun c127 => ?_)
    · have hi9 : i = 320 := by omega
      subst hi9
      rw [hgw]
      exact hx
    · refine r_aload_n dX11_orders_130 rfl ?_
      refine r_getR dX11_orders_131 fkX11_69 gf11_31 (mo_o hm) (mo_r31 hm) ?_
      refine r_iload dX11_orders_134 rfl ?_
      refine r_aload_n dX11_orders_136 rfl ?_
      refine r_getR dX11_orders_137 fkX11_72 gf11_32 (mo_o hm) (mo_r32 hm) ?_
      refine r_iload dX11_orders_140 rfl ?_
      refine r_iald dX11_orders_142 (mo_k32 hm) (by omega) rfl ?_
      refine r_iast dX11_orders_143 (mo_k31 hm) (by omega) ?_
      refine r_iincE dX11_orders_144 rfl (by decide) (by first | exact od_w0 (by omega) (by omega) | exact od_wI (by omega) (by omega) | rfl) rfl ?_
      refine r_goto (tgt := 122) dX11_orders_147 rfl ?_
      refine ih _ _ ⟨by omega, by omega, ?_⟩ (by omega)
      rw [← od_cq_s g (a := M + 14) (o := 0) (b := M + 15) (f := 0) hi0 (by omega), Int.zero_add, ← hgw]
