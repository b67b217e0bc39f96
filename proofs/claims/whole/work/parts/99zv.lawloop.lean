/-! the law: its loop -/
def resL : od_Qz := ((600000, 7302250), fun _ r _ => r = some (0, 1))
section Loop
variable {E0 : od_E} {N : Nat} {xs : Nat → Int32}
theorem z_out {u : Nat × Nat} {i : Int} {E : od_E} {g : od_G} (hu : u.1 ≤ 600000 ∧ u.2 ≤ 7302250) : od_Rz 61 mL_law (od_Zs N xs) E0 resL u 1259 (LcL i) [] E g := by
  refine z_iconst dL_law_1259 li_1 ?_
  exact z_zret (ty := .boolean) dL_law_1260 rfl rfl hu rfl
theorem z_loop (hN : N ≤ 3072) : ∀ (m : Nat) (i : Int) (u : Nat × Nat) (E : od_E) (g : od_G), EW E 0 86 → Rel2 E 0 86 g g → 0 ≤ i → i ≤ 4000 → (N : Int) - i < 6 * (m : Int) → (u.1 + 7 * m ≤ 600000 ∧ u.2 + 600 * m ≤ 7302250) → od_Rz 61 mL_law (od_Zs N xs) E0 resL u 18 (LcL i) [] E g := by
  intro m
  induction m with
  | zero =>
    intro i u E g hE hR i0 i4 hm hu
    refine z_iload_n dL_law_18 rfl ?_
    refine z_aload_n dL_law_19 rfl ?_
    refine z_slen dL_law_20 hN ?_
    refine z_bipush dL_law_21 lb_6 ?_
    refine z_isubE (y := (N : Int) - 6) dL_law_23 (od_wI (by omega) (by omega)) ?_
    exact z_icmp_gt (tgt := 1259) dL_law_24 rfl (fun _ => z_out (by omega)) (fun c => by omega)
  | succ m ih =>
    intro i u E g hE hR i0 i4 hm hu
    refine z_iload_n dL_law_18 rfl ?_
    refine z_aload_n dL_law_19 rfl ?_
    refine z_slen dL_law_20 hN ?_
    refine z_bipush dL_law_21 lb_6 ?_
    refine z_isubE (y := (N : Int) - 6) dL_law_23 (od_wI (by omega) (by omega)) ?_
    refine z_icmp_gt (tgt := 1259) dL_law_24 rfl (fun _ => z_out (by omega)) (fun c => ?_)
    have hi : 0 ≤ i ∧ i + 6 ≤ (N : Int) ∧ N ≤ 3072 := by omega
    have nx : ∀ (E' : od_E) (g2 : od_G) (u' : Nat × Nat), EW E' 0 86 → Rel2 E' 0 86 g2 g2 → (u'.1 + 7 * m ≤ 600000 ∧ u'.2 + 600 * m ≤ 7302250) → od_Rz 61 mL_law (od_Zs N xs) E0 resL u' 1253 (LcL i) [] E' g2 := fun E' g2 u' hE' hR' hu' => by
      refine z_iincE (y := i + 6) (L' := LcL (i + 6)) dL_law_1253 rfl (by decide) (od_wI (by omega) (by omega)) rfl ?_
      refine z_goto (tgt := 18) dL_law_1256 rfl ?_
      exact ih (i + 6) u' E' g2 hE' hR' (by omega) (by omega) (by omega) hu'
    have hu1 : u.1 ≤ resL.1.1 ∧ u.2 ≤ resL.1.2 := by show u.1 ≤ 600000 ∧ u.2 ≤ 7302250; omega
    have hu2 : u.1 + 7 ≤ resL.1.1 ∧ u.2 + 600 ≤ resL.1.2 := by show u.1 + 7 ≤ 600000 ∧ u.2 + 600 ≤ 7302250; omega
    have kk : ∀ g2 : od_G, Rel2 E 0 86 g2 g2 → od_Rz 61 mL_law (od_Zs N xs) E0 resL u 1253 (LcL i) [] E g2 := fun g2 r2 => nx E g2 u hE r2 (by omega)
    refine z_aload_n dL_law_27 rfl ?_
    refine z_iload_n dL_law_28 rfl ?_
    refine z_sld dL_law_29 (by omega) ?_
    refine z_bipush dL_law_30 lb_63 ?_
    refine z_iand dL_law_32 ?_
    refine z_sw42 (t0 := 216) (t1 := 269) (t2 := 302) (t3 := 345) (t4 := 378) (t5 := 441) (t6 := 464) (t7 := 477) (t8 := 490) (t9 := 503) (t10 := 516) (t11 := 529) (t12 := 542) (t13 := 565) (t14 := 598) (t15 := 631) (t16 := 654) (t17 := 667) (t18 := 680) (t19 := 703) (t20 := 716) (t21 := 739) (t22 := 762) (t23 := 785) (t24 := 808) (t25 := 831) (t26 := 864) (t27 := 897) (t28 := 920) (t29 := 953) (t30 := 966) (t31 := 999) (t32 := 1012) (t33 := 1025) (t34 := 1048) (t35 := 1082) (t36 := 1105) (t37 := 1138) (t38 := 1171) (t39 := 1194) (t40 := 1217) (t41 := 1240) (td := 1253) dL_law_33 rfl rfl rfl rfl rfl rfl rfl rfl rfl rfl rfl rfl rfl rfl rfl rfl rfl rfl rfl rfl rfl rfl rfl rfl rfl rfl rfl rfl rfl rfl rfl rfl rfl rfl rfl rfl rfl rfl rfl rfl rfl rfl rfl rfl (fun _ => zc_drum hE hR hi hu1 kk) (fun _ => zc_of hE hR hi hu1 kk) (fun _ => zc_asks hE hR hi hu1 kk) (fun _ => zc_terms hE hR hi hu1 kk) (fun _ => zc_feed hE hR hi hu1 kk) (fun _ => zc_end hE hR hi hu1 kk) (fun _ => zc_row hE hR hi hu1 kk) (fun _ => zc_sleeves hE hR hi hu1 kk) (fun _ => zc_law hE hR hu2 (fun E' g2 hE' r2 => nx E' g2 _ hE' r2 (by show u.1 + 7 + 7 * m ≤ 600000 ∧ u.2 + 600 + 600 * m ≤ 7302250; omega))) (fun _ => zc_orders hE hR hi hu1 kk) (fun _ => zc_fault hE hR hi hu1 kk) (fun _ => zc_stopped hE hR hi hu1 kk) (fun _ => zc_force hE hR hi hu1 kk) (fun _ => zc_pin hE hR hi hu1 kk) (fun _ => zc_shift hE hR hi hu1 kk) (fun _ => zc_stop hE hR hi hu1 kk) (fun _ => zc_pass hE hR hi hu1 kk) (fun _ => zc_undo hE hR hi hu1 kk) (fun _ => zc_loud hE hR hi hu1 kk) (fun _ => zc_round hE hR hi hu1 kk) (fun _ => zc_when hE hR hi hu1 kk) (fun _ => zc_often hE hR hi hu1 kk) (fun _ => zc_alone hE hR hi hu1 kk) (fun _ => zc_loudest hE hR hi hu1 kk) (fun _ => zc_quiet hE hR hi hu1 kk) (fun _ => zc_most hE hR hi hu1 kk) (fun _ => zc_least hE hR hi hu1 kk) (fun _ => zc_never hE hR hi hu1 kk) (fun _ => zc_add hE hR hi hu1 kk) (fun _ => zc_tune hE hR hi hu1 kk) (fun _ => zc_heard hE hR hi hu1 kk) (fun _ => zc_forget hE hR hi hu1 kk) (fun _ => zc_canBe hE hR hi hu1 kk) (fun _ => zc_listen hE hR hi hu1 kk) (fun _ => zc_few hE hR hi hu1 kk) (fun _ => zc_compare hE hR hi hu1 kk) (fun _ => zc_days hE hR hi hu1 kk) (fun _ => zc_drawn hE hR hi hu1 kk) (fun _ => zc_image hE hR hi hu1 kk) (fun _ => zc_back hE hR hi hu1 kk) (fun _ => zc_count hE hR hi hu1 kk) (fun _ => zc_status hE hR hi hu1 kk) (fun _ => kk g hR)
end Loop
