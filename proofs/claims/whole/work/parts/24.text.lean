def cPBe1 (g : od_G) (p q i : Int) : od_G := od_cp (od_cp (od_cp g (p + 1) (q + 1) i) (p + 2) (q + 2) i) (p + 3) (q + 3) i
def cPBe2 (g : od_G) (p q i : Int) : od_G := od_cp (od_cp g (p + 4) (q + 4) i) (p + 5) (q + 5) i
theorem cPBe1_0 (g : od_G) (p q : Int) : g = cPBe1 g p q 0 := by simp [cPBe1, od_cp_0]
theorem cPBe2_0 (g : od_G) (p q : Int) : g = cPBe2 g p q 0 := by simp [cPBe2, od_cp_0]
def cPBecome (g : od_G) (p q : Int) : od_G := fun x y => if (x = p ∧ 5 ≤ y ∧ y ≤ 6) ∨ (p + 1 ≤ x ∧ x ≤ p + 3 ∧ 0 ≤ y ∧ y < 16) ∨ (p + 4 ≤ x ∧ x ≤ p + 5 ∧ 0 ≤ y ∧ y < 96) then g (x - p + q) y else g x y
theorem cPBe_all {g : od_G} {p q : Int} (hne : p + 6 ≤ q ∨ q + 6 ≤ p) : cPBe2 (cPBe1 g p q 16) p q 96 = fun x y => if (p + 1 ≤ x ∧ x ≤ p + 3 ∧ 0 ≤ y ∧ y < 16) ∨ (p + 4 ≤ x ∧ x ≤ p + 5 ∧ 0 ≤ y ∧ y < 96) then g (x - p + q) y else g x y := by
  funext x y
  simp only [cPBe2, cPBe1, od_cp]
  by_cases h1 : x = p + 5
  · subst h1; rw [show p + 5 - p + q = q + 5 by omega]; grind (splits := 40)
  by_cases h1 : x = p + 4
  · subst h1; rw [show p + 4 - p + q = q + 4 by omega]; grind (splits := 40)
  by_cases h1 : x = p + 3
  · subst h1; rw [show p + 3 - p + q = q + 3 by omega]; grind (splits := 40)
  by_cases h1 : x = p + 2
  · subst h1; rw [show p + 2 - p + q = q + 2 by omega]; grind (splits := 40)
  by_cases h1 : x = p + 1
  · subst h1; rw [show p + 1 - p + q = q + 1 by omega]; grind (splits := 40)
  grind (splits := 40)
set_option maxRecDepth 10000 in
theorem lp_X2_be1 {E : od_E} {g g2 : od_G} {p : Int} (hp : PaAt E p) {q : Int} (hq : PaAt E q) (hne : p + 6 ≤ q ∨ q + 6 ≤ p) (hx : od_R 1 mX2_become od_Z0 E (none, E, g2) 50 [some (2, p), some (2, q), some (0, 16)] [] E (cPBe1 g p q 16)) : ∀ (m : Nat) (i : Int) (gw : od_G), (0 ≤ i ∧ i ≤ 16 ∧ gw = cPBe1 g p q i) → ((16 - i).toNat) < m → od_R 1 mX2_become od_Z0 E (none, E, g2) 2 [some (2, p), some (2, q), some (0, i)] [] E gw := by
  have hp0 := hp
  obtain ⟨hkp, p0, p1, p2, p3, p4, d1, d2, d3, d4, d5⟩ := hp
  have hq0 := hq
  obtain ⟨hkq, q0, q1, q2, q3, q4, e1, e2, e3, e4, e5⟩ := hq
  intro m
  induction m with
  | zero => intro i gw hi hM; exact absurd hM (Nat.not_lt_zero _)
  | succ m ih =>
    intro i gw hi hM
    obtain ⟨hi0, hi6, rfl⟩ := hi
    refine r_iload_n dX2_become_2 rfl ?_
    refine r_bipush dX2_become_3 lb_16 ?_
    refine r_icmp_ge (tgt := 50) dX2_become_5 rfl (fun c5 => ?_) (fun c5 => ?_)
    · rw [show i = 16 by omega]
      exact hx
    · refine r_aload_n dX2_become_8 rfl ?_
      refine r_getR dX2_become_9 fkX2_9 gf2_0 (by assumption) (by assumption) ?_
      refine r_iload_n dX2_become_12 rfl ?_
      refine r_aload_n dX2_become_13 rfl ?_
      refine r_getR dX2_become_14 fkX2_9 gf2_0 (by assumption) (by assumption) ?_
      refine r_iload_n dX2_become_17 rfl ?_
      refine r_iald dX2_become_18 (by assumption) (by omega) (by (repeat (first | rewrite [od_upn (by omega)] | rewrite [od_up_at, if_pos (by omega)] | rewrite [od_up_at, if_neg (by omega)])); rfl) ?_
      refine r_iast dX2_become_19 (by assumption) (by omega) ?_
      refine r_aload_n dX2_become_20 rfl ?_
      refine r_getR dX2_become_21 fkX2_15 gf2_1 (by assumption) (by assumption) ?_
      refine r_iload_n dX2_become_24 rfl ?_
      refine r_aload_n dX2_become_25 rfl ?_
      refine r_getR dX2_become_26 fkX2_15 gf2_1 (by assumption) (by assumption) ?_
      refine r_iload_n dX2_become_29 rfl ?_
      refine r_iald dX2_become_30 (by assumption) (by omega) (by (repeat (first | rewrite [od_upn (by omega)] | rewrite [od_up_at, if_pos (by omega)] | rewrite [od_up_at, if_neg (by omega)])); rfl) ?_
      refine r_iast dX2_become_31 (by assumption) (by omega) ?_
      refine r_aload_n dX2_become_32 rfl ?_
      refine r_getR dX2_become_33 fkX2_18 gf2_2 (by assumption) (by assumption) ?_
      refine r_iload_n dX2_become_36 rfl ?_
      refine r_aload_n dX2_become_37 rfl ?_
      refine r_getR dX2_become_38 fkX2_18 gf2_2 (by assumption) (by assumption) ?_
      refine r_iload_n dX2_become_41 rfl ?_
      refine r_iald dX2_become_42 (by assumption) (by omega) (by (repeat (first | rewrite [od_upn (by omega)] | rewrite [od_up_at, if_pos (by omega)] | rewrite [od_up_at, if_neg (by omega)])); rfl) ?_
      refine r_iast dX2_become_43 (by assumption) (by omega) ?_
      refine r_iincE dX2_become_44 rfl (by decide) (by first | exact od_w0 (by omega) (by omega) | exact od_wI (by omega) (by omega) | rfl) rfl ?_
      refine r_goto (tgt := 2) dX2_become_47 rfl ?_
      refine ih (i + 1) _ ⟨by omega, by omega, ?_⟩ (by omega)
      clear ih hx hp0 hkp p0 p1 p2 p3 p4 d1 d2 d3 d4 d5 hq0 hkq q0 q1 q2 q3 q4 e1 e2 e3 e4 e5
      funext x y
      simp only [cPBe1, od_cp, od_up]
      grind (splits := 40)
set_option maxRecDepth 10000 in
theorem lp_X2_be2 {E : od_E} {g g2 : od_G} {p : Int} (hp : PaAt E p) {q : Int} (hq : PaAt E q) (hne : p + 6 ≤ q ∨ q + 6 ≤ p) (hx : od_R 1 mX2_become od_Z0 E (none, E, g2) 88 [some (2, p), some (2, q), some (0, 96)] [] E (cPBe2 g p q 96)) : ∀ (m : Nat) (i : Int) (gw : od_G), (0 ≤ i ∧ i ≤ 96 ∧ gw = cPBe2 g p q i) → ((96 - i).toNat) < m → od_R 1 mX2_become od_Z0 E (none, E, g2) 52 [some (2, p), some (2, q), some (0, i)] [] E gw := by
  have hp0 := hp
  obtain ⟨hkp, p0, p1, p2, p3, p4, d1, d2, d3, d4, d5⟩ := hp
  have hq0 := hq
  obtain ⟨hkq, q0, q1, q2, q3, q4, e1, e2, e3, e4, e5⟩ := hq
  intro m
  induction m with
  | zero => intro i gw hi hM; exact absurd hM (Nat.not_lt_zero _)
  | succ m ih =>
    intro i gw hi hM
    obtain ⟨hi0, hi6, rfl⟩ := hi
    refine r_iload_n dX2_become_52 rfl ?_
    refine r_bipush dX2_become_53 lb_96 ?_
    refine r_icmp_ge (tgt := 88) dX2_become_55 rfl (fun c55 => ?_) (fun c55 => ?_)
    · rw [show i = 96 by omega]
      exact hx
    · refine r_aload_n dX2_become_58 rfl ?_
      refine r_getR dX2_become_59 fkX2_21 gf2_3 (by assumption) (by assumption) ?_
      refine r_iload_n dX2_become_62 rfl ?_
      refine r_aload_n dX2_become_63 rfl ?_
      refine r_getR dX2_become_64 fkX2_21 gf2_3 (by assumption) (by assumption) ?_
      refine r_iload_n dX2_become_67 rfl ?_
      refine r_iald dX2_become_68 (by assumption) (by omega) (by (repeat (first | rewrite [od_upn (by omega)] | rewrite [od_up_at, if_pos (by omega)] | rewrite [od_up_at, if_neg (by omega)])); rfl) ?_
      refine r_iast dX2_become_69 (by assumption) (by omega) ?_
      refine r_aload_n dX2_become_70 rfl ?_
      refine r_getR dX2_become_71 fkX2_24 gf2_4 (by assumption) (by assumption) ?_
      refine r_iload_n dX2_become_74 rfl ?_
      refine r_aload_n dX2_become_75 rfl ?_
      refine r_getR dX2_become_76 fkX2_24 gf2_4 (by assumption) (by assumption) ?_
      refine r_iload_n dX2_become_79 rfl ?_
      refine r_iald dX2_become_80 (by assumption) (by omega) (by (repeat (first | rewrite [od_upn (by omega)] | rewrite [od_up_at, if_pos (by omega)] | rewrite [od_up_at, if_neg (by omega)])); rfl) ?_
      refine r_iast dX2_become_81 (by assumption) (by omega) ?_
      refine r_iincE dX2_become_82 rfl (by decide) (by first | exact od_w0 (by omega) (by omega) | exact od_wI (by omega) (by omega) | rfl) rfl ?_
      refine r_goto (tgt := 52) dX2_become_85 rfl ?_
      refine ih (i + 1) _ ⟨by omega, by omega, ?_⟩ (by omega)
      clear ih hx hp0 hkp p0 p1 p2 p3 p4 d1 d2 d3 d4 d5 hq0 hkq q0 q1 q2 q3 q4 e1 e2 e3 e4 e5
      funext x y
      simp only [cPBe2, od_cp, od_up]
      grind (splits := 40)
set_option maxRecDepth 10000 in
theorem c_X2_become {E : od_E} {g : od_G} {p : Int} (hp : PaAt E p) {q : Int} (hq : PaAt E q) (hne : p + 6 ≤ q ∨ q + 6 ≤ p) : od_Ct 1 mX2_become [(2, p), (2, q)] E g (none, E, cPBecome g p q) := by
  have hp0 := hp
  obtain ⟨hkp, p0, p1, p2, p3, p4, d1, d2, d3, d4, d5⟩ := hp
  have hq0 := hq
  obtain ⟨hkq, q0, q1, q2, q3, q4, e1, e2, e3, e4, e5⟩ := hq
  refine od_ctI pnX2 rfl (Nat.le_of_ble_eq_true rfl) od_le.rf ?_
  show od_R _ _ _ _ _ 0 [some (2, p), some (2, q), none] [] E g
  refine r_iconst dX2_become_0 li_0 ?_
  refine r_istore_n dX2_become_1 (by decide) rfl ?_
  refine lp_X2_be1 hp0 hq0 hne ?_ _ _ _ ⟨by omega, by omega, cPBe1_0 _ _ _⟩ (Nat.lt_succ_self _)
  refine r_iconst dX2_become_50 li_0 ?_
  refine r_istore_n dX2_become_51 (by decide) rfl ?_
  refine lp_X2_be2 hp0 hq0 hne ?_ _ _ _ ⟨by omega, by omega, cPBe2_0 _ _ _⟩ (Nat.lt_succ_self _)
  refine od_gc (cPBe_all hne).symm ?_
  refine r_aload_n dX2_become_88 rfl ?_
  refine r_aload_n dX2_become_89 rfl ?_
  refine r_getIj (j := 5) rfl dX2_become_90 fkX2_27 gf2_5 (by assumption) (by (repeat (first | rewrite [od_upn (by omega)] | rewrite [od_up_at, if_pos (by omega)] | rewrite [od_up_at, if_neg (by omega)])); rfl) ?_
  refine r_putIj (j := 5) rfl dX2_become_93 fkX2_27 gf2_5 pf2_5 (by assumption) ?_
  refine r_aload_n dX2_become_96 rfl ?_
  refine r_aload_n dX2_become_97 rfl ?_
  refine r_getIj (j := 6) rfl dX2_become_98 fkX2_31 gf2_6 (by assumption) (by (repeat (first | rewrite [od_upn (by omega)] | rewrite [od_up_at, if_pos (by omega)] | rewrite [od_up_at, if_neg (by omega)])); rfl) ?_
  refine r_putIj (j := 6) rfl dX2_become_101 fkX2_31 gf2_6 pf2_6 (by assumption) ?_
  exact r_vret dX2_become_104 rfl (by refine Prod.ext rfl (Prod.ext rfl ?_); clear hp0 hkp p0 p1 p2 p3 p4 d1 d2 d3 d4 d5 hq0 hkq q0 q1 q2 q3 q4 e1 e2 e3 e4 e5; funext x y; simp only [cPBecome, od_up]; grind (splits := 60))
def cPut1 (g : od_G) (t n s : Int) : od_G := od_up (od_up g (t + 1) (g t 1) (od_and (od_ushr n s) 255)) t 1 (g t 1 + 1)
def cPut (g : od_G) (t n : Int) : od_G := cPut1 (cPut1 (cPut1 (cPut1 g t n 24) t n 16) t n 8) t n 0
theorem cPut1_l (g : od_G) (t n s : Int) : cPut1 g t n s t 1 = g t 1 + 1 := by simp [cPut1, od_up]
set_option maxRecDepth 10000 in
theorem sg_X8_put24 {E : od_E} {g g2 : od_G} {t : Int} (ht : TaAt E t) (n : Int) (h0 : 0 ≤ g t 1 ∧ g t 1 < 400) (hx : od_R 1 mX8_put od_Z0 E (none, E, g2) 3 [some (2, t), some (0, n), some (0, 16)] [] E (cPut1 g t n 24)) : od_R 1 mX8_put od_Z0 E (none, E, g2) 3 [some (2, t), some (0, n), some (0, 24)] [] E g := by
  have ht0 := ht
  obtain ⟨hkt, t0, t1⟩ := ht
  refine r_iload_n dX8_put_3 rfl ?_
  refine r_if_lt (tgt := 56) dX8_put_4 rfl (fun c4 => ?_) (fun c4 => ?_)
  · exfalso; omega
  · refine r_aload_n dX8_put_7 rfl ?_
    refine r_getIj (j := 1) rfl dX8_put_8 fkX8_15 gf8_1 (by assumption) (by first | rw [od_upn (by omega)] | rfl) ?_
    refine r_if_lt (tgt := 56) dX8_put_11 rfl (fun c11 => ?_) (fun c11 => ?_)
    · exfalso; omega
    · refine r_aload_n dX8_put_14 rfl ?_
      refine r_getIj (j := 1) rfl dX8_put_15 fkX8_15 gf8_1 (by assumption) (by first | rw [od_upn (by omega)] | rfl) ?_
      refine r_sipush dX8_put_18 ls_400 ?_
      refine r_icmp_ge (tgt := 56) dX8_put_21 rfl (fun c21 => ?_) (fun c21 => ?_)
      · exfalso; omega
      · refine r_aload_n dX8_put_24 rfl ?_
        refine r_getR dX8_put_25 fkX8_9 gf8_0 (by assumption) (by assumption) ?_
        refine r_aload_n dX8_put_28 rfl ?_
        refine r_getIj (j := 1) rfl dX8_put_29 fkX8_15 gf8_1 (by assumption) (by first | rw [od_upn (by omega)] | rfl) ?_
        refine r_iload_n dX8_put_32 rfl ?_
        refine r_iload_n dX8_put_33 rfl ?_
        refine r_iushr dX8_put_34 ?_
        refine r_sipush dX8_put_35 ls_255 ?_
        refine r_iand dX8_put_38 ?_
        refine r_iast dX8_put_39 (by assumption) (by omega) ?_
        refine r_aload_n dX8_put_40 rfl ?_
        refine r_dup dX8_put_41 (by first | exact od_ne2 | exact od_ne0) ?_
        refine r_getIj (j := 1) rfl dX8_put_42 fkX8_15 gf8_1 (by assumption) (by first | rw [od_upn (by omega)] | rfl) ?_
        refine r_iconst dX8_put_45 li_1 ?_
        refine r_iaddE dX8_put_46 (by first | exact od_w0 (by omega) (by omega) | exact od_wI (by omega) (by omega) | rfl) ?_
        refine r_putIj (j := 1) rfl dX8_put_47 fkX8_15 gf8_1 pf8_1 (by assumption) ?_
        refine r_iincE dX8_put_50 rfl (by decide) (by first | exact od_w0 (by omega) (by omega) | exact od_wI (by omega) (by omega) | rfl) rfl ?_
        refine r_goto (tgt := 3) dX8_put_53 rfl ?_
        exact hx
set_option maxRecDepth 10000 in
theorem sg_X8_put16 {E : od_E} {g g2 : od_G} {t : Int} (ht : TaAt E t) (n : Int) (h0 : 0 ≤ g t 1 ∧ g t 1 < 400) (hx : od_R 1 mX8_put od_Z0 E (none, E, g2) 3 [some (2, t), some (0, n), some (0, 8)] [] E (cPut1 g t n 16)) : od_R 1 mX8_put od_Z0 E (none, E, g2) 3 [some (2, t), some (0, n), some (0, 16)] [] E g := by
  have ht0 := ht
  obtain ⟨hkt, t0, t1⟩ := ht
  refine r_iload_n dX8_put_3 rfl ?_
  refine r_if_lt (tgt := 56) dX8_put_4 rfl (fun c4 => ?_) (fun c4 => ?_)
  · exfalso; omega
  · refine r_aload_n dX8_put_7 rfl ?_
    refine r_getIj (j := 1) rfl dX8_put_8 fkX8_15 gf8_1 (by assumption) (by first | rw [od_upn (by omega)] | rfl) ?_
    refine r_if_lt (tgt := 56) dX8_put_11 rfl (fun c11 => ?_) (fun c11 => ?_)
    · exfalso; omega
    · refine r_aload_n dX8_put_14 rfl ?_
      refine r_getIj (j := 1) rfl dX8_put_15 fkX8_15 gf8_1 (by assumption) (by first | rw [od_upn (by omega)] | rfl) ?_
      refine r_sipush dX8_put_18 ls_400 ?_
      refine r_icmp_ge (tgt := 56) dX8_put_21 rfl (fun c21 => ?_) (fun c21 => ?_)
      · exfalso; omega
      · refine r_aload_n dX8_put_24 rfl ?_
        refine r_getR dX8_put_25 fkX8_9 gf8_0 (by assumption) (by assumption) ?_
        refine r_aload_n dX8_put_28 rfl ?_
        refine r_getIj (j := 1) rfl dX8_put_29 fkX8_15 gf8_1 (by assumption) (by first | rw [od_upn (by omega)] | rfl) ?_
        refine r_iload_n dX8_put_32 rfl ?_
        refine r_iload_n dX8_put_33 rfl ?_
        refine r_iushr dX8_put_34 ?_
        refine r_sipush dX8_put_35 ls_255 ?_
        refine r_iand dX8_put_38 ?_
        refine r_iast dX8_put_39 (by assumption) (by omega) ?_
        refine r_aload_n dX8_put_40 rfl ?_
        refine r_dup dX8_put_41 (by first | exact od_ne2 | exact od_ne0) ?_
        refine r_getIj (j := 1) rfl dX8_put_42 fkX8_15 gf8_1 (by assumption) (by first | rw [od_upn (by omega)] | rfl) ?_
        refine r_iconst dX8_put_45 li_1 ?_
        refine r_iaddE dX8_put_46 (by first | exact od_w0 (by omega) (by omega) | exact od_wI (by omega) (by omega) | rfl) ?_
        refine r_putIj (j := 1) rfl dX8_put_47 fkX8_15 gf8_1 pf8_1 (by assumption) ?_
        refine r_iincE dX8_put_50 rfl (by decide) (by first | exact od_w0 (by omega) (by omega) | exact od_wI (by omega) (by omega) | rfl) rfl ?_
        refine r_goto (tgt := 3) dX8_put_53 rfl ?_
        exact hx
set_option maxRecDepth 10000 in
theorem sg_X8_put8 {E : od_E} {g g2 : od_G} {t : Int} (ht : TaAt E t) (n : Int) (h0 : 0 ≤ g t 1 ∧ g t 1 < 400) (hx : od_R 1 mX8_put od_Z0 E (none, E, g2) 3 [some (2, t), some (0, n), some (0, 0)] [] E (cPut1 g t n 8)) : od_R 1 mX8_put od_Z0 E (none, E, g2) 3 [some (2, t), some (0, n), some (0, 8)] [] E g := by
  have ht0 := ht
  obtain ⟨hkt, t0, t1⟩ := ht
  refine r_iload_n dX8_put_3 rfl ?_
  refine r_if_lt (tgt := 56) dX8_put_4 rfl (fun c4 => ?_) (fun c4 => ?_)
  · exfalso; omega
  · refine r_aload_n dX8_put_7 rfl ?_
    refine r_getIj (j := 1) rfl dX8_put_8 fkX8_15 gf8_1 (by assumption) (by first | rw [od_upn (by omega)] | rfl) ?_
    refine r_if_lt (tgt := 56) dX8_put_11 rfl (fun c11 => ?_) (fun c11 => ?_)
    · exfalso; omega
    · refine r_aload_n dX8_put_14 rfl ?_
      refine r_getIj (j := 1) rfl dX8_put_15 fkX8_15 gf8_1 (by assumption) (by first | rw [od_upn (by omega)] | rfl) ?_
      refine r_sipush dX8_put_18 ls_400 ?_
      refine r_icmp_ge (tgt := 56) dX8_put_21 rfl (fun c21 => ?_) (fun c21 => ?_)
      · exfalso; omega
      · refine r_aload_n dX8_put_24 rfl ?_
        refine r_getR dX8_put_25 fkX8_9 gf8_0 (by assumption) (by assumption) ?_
        refine r_aload_n dX8_put_28 rfl ?_
        refine r_getIj (j := 1) rfl dX8_put_29 fkX8_15 gf8_1 (by assumption) (by first | rw [od_upn (by omega)] | rfl) ?_
        refine r_iload_n dX8_put_32 rfl ?_
        refine r_iload_n dX8_put_33 rfl ?_
        refine r_iushr dX8_put_34 ?_
        refine r_sipush dX8_put_35 ls_255 ?_
        refine r_iand dX8_put_38 ?_
        refine r_iast dX8_put_39 (by assumption) (by omega) ?_
        refine r_aload_n dX8_put_40 rfl ?_
        refine r_dup dX8_put_41 (by first | exact od_ne2 | exact od_ne0) ?_
        refine r_getIj (j := 1) rfl dX8_put_42 fkX8_15 gf8_1 (by assumption) (by first | rw [od_upn (by omega)] | rfl) ?_
        refine r_iconst dX8_put_45 li_1 ?_
        refine r_iaddE dX8_put_46 (by first | exact od_w0 (by omega) (by omega) | exact od_wI (by omega) (by omega) | rfl) ?_
        refine r_putIj (j := 1) rfl dX8_put_47 fkX8_15 gf8_1 pf8_1 (by assumption) ?_
        refine r_iincE dX8_put_50 rfl (by decide) (by first | exact od_w0 (by omega) (by omega) | exact od_wI (by omega) (by omega) | rfl) rfl ?_
        refine r_goto (tgt := 3) dX8_put_53 rfl ?_
        exact hx
set_option maxRecDepth 10000 in
theorem sg_X8_put0 {E : od_E} {g g2 : od_G} {t : Int} (ht : TaAt E t) (n : Int) (h0 : 0 ≤ g t 1 ∧ g t 1 < 400) (hx : od_R 1 mX8_put od_Z0 E (none, E, g2) 3 [some (2, t), some (0, n), some (0, -8)] [] E (cPut1 g t n 0)) : od_R 1 mX8_put od_Z0 E (none, E, g2) 3 [some (2, t), some (0, n), some (0, 0)] [] E g := by
  have ht0 := ht
  obtain ⟨hkt, t0, t1⟩ := ht
  refine r_iload_n dX8_put_3 rfl ?_
  refine r_if_lt (tgt := 56) dX8_put_4 rfl (fun c4 => ?_) (fun c4 => ?_)
  · exfalso; omega
  · refine r_aload_n dX8_put_7 rfl ?_
    refine r_getIj (j := 1) rfl dX8_put_8 fkX8_15 gf8_1 (by assumption) (by first | rw [od_upn (by omega)] | rfl) ?_
    refine r_if_lt (tgt := 56) dX8_put_11 rfl (fun c11 => ?_) (fun c11 => ?_)
    · exfalso; omega
    · refine r_aload_n dX8_put_14 rfl ?_
      refine r_getIj (j := 1) rfl dX8_put_15 fkX8_15 gf8_1 (by assumption) (by first | rw [od_upn (by omega)] | rfl) ?_
      refine r_sipush dX8_put_18 ls_400 ?_
      refine r_icmp_ge (tgt := 56) dX8_put_21 rfl (fun c21 => ?_) (fun c21 => ?_)
      · exfalso; omega
      · refine r_aload_n dX8_put_24 rfl ?_
        refine r_getR dX8_put_25 fkX8_9 gf8_0 (by assumption) (by assumption) ?_
        refine r_aload_n dX8_put_28 rfl ?_
        refine r_getIj (j := 1) rfl dX8_put_29 fkX8_15 gf8_1 (by assumption) (by first | rw [od_upn (by omega)] | rfl) ?_
        refine r_iload_n dX8_put_32 rfl ?_
        refine r_iload_n dX8_put_33 rfl ?_
        refine r_iushr dX8_put_34 ?_
        refine r_sipush dX8_put_35 ls_255 ?_
        refine r_iand dX8_put_38 ?_
        refine r_iast dX8_put_39 (by assumption) (by omega) ?_
        refine r_aload_n dX8_put_40 rfl ?_
        refine r_dup dX8_put_41 (by first | exact od_ne2 | exact od_ne0) ?_
        refine r_getIj (j := 1) rfl dX8_put_42 fkX8_15 gf8_1 (by assumption) (by first | rw [od_upn (by omega)] | rfl) ?_
        refine r_iconst dX8_put_45 li_1 ?_
        refine r_iaddE dX8_put_46 (by first | exact od_w0 (by omega) (by omega) | exact od_wI (by omega) (by omega) | rfl) ?_
        refine r_putIj (j := 1) rfl dX8_put_47 fkX8_15 gf8_1 pf8_1 (by assumption) ?_
        refine r_iincE dX8_put_50 rfl (by decide) (by first | exact od_w0 (by omega) (by omega) | exact od_wI (by omega) (by omega) | rfl) rfl ?_
        refine r_goto (tgt := 3) dX8_put_53 rfl ?_
        exact hx
set_option maxRecDepth 10000 in
theorem c_X8_put {E : od_E} {g : od_G} {t : Int} (ht : TaAt E t) (n : Int) (h0 : 0 ≤ g t 1 ∧ g t 1 + 4 ≤ 400) : od_Ct 1 mX8_put [(2, t), (0, n)] E g (none, E, cPut g t n) := by
  have ht0 := ht
  obtain ⟨hkt, t0, t1⟩ := ht
  refine od_ctI pnX8 rfl (Nat.le_of_ble_eq_true rfl) od_le.rf ?_
  show od_R _ _ _ _ _ 0 [some (2, t), some (0, n), none] [] E g
  refine r_bipush dX8_put_0 lb_24 ?_
  refine r_istore_n dX8_put_2 (by decide) rfl ?_
  refine sg_X8_put24 ht0 n (by omega) ?_
  refine sg_X8_put16 ht0 n (by rw [cPut1_l]; omega) ?_
  refine sg_X8_put8 ht0 n (by rw [cPut1_l, cPut1_l]; omega) ?_
  refine sg_X8_put0 ht0 n (by rw [cPut1_l, cPut1_l, cPut1_l]; omega) ?_
  refine r_iload_n dX8_put_3 rfl ?_
  refine r_if_lt (tgt := 56) dX8_put_4 rfl (fun _ => ?_) (fun h => absurd h (by decide))
  exact r_vret dX8_put_56 rfl rfl
/-- a text at cell t with room for c clauses and s steps -/
def TxAt (E : od_E) (t : Int) (c s : Nat) : Prop := (E.2.1 t).1 = 9 ∧ E.2.2 t 0 = t + 1 ∧ E.2.2 t 1 = t + 2 ∧ E.2.2 t 2 = t + 3 ∧ E.2.2 t 3 = t + 4 ∧ E.2.2 t 4 = t + 5 ∧ E.2.2 t 5 = t + 6
  ∧ E.2.1 (t + 1) = (20, c) ∧ E.2.1 (t + 2) = (20, c) ∧ E.2.1 (t + 3) = (20, c) ∧ E.2.1 (t + 4) = (20, c) ∧ E.2.1 (t + 5) = (20, c) ∧ E.2.1 (t + 6) = (20, s) ∧ c < 1000000 ∧ s < 1000000
def cTBegin (g : od_G) (t : Int) : od_G := od_up (od_up g t 6 0) t 7 0
def cTOpen (g : od_G) (t kd : Int) : od_G := od_up (od_up (od_up (od_up (od_up (od_up g (t + 1) (g t 6) kd) (t + 2) (g t 6) 1) (t + 3) (g t 6) (-1)) (t + 4) (g t 6) (-1)) (t + 5) (g t 6) (-1)) t 6 (g t 6 + 1)
def cTPut (g : od_G) (t st nu : Int) : od_G := od_up (od_up g (t + 6) (g t 7) (od_or (od_shl nu 4) st)) t 7 (g t 7 + 1)
def cTLand (g : od_G) (t pl : Int) (s : Nat) : od_G := if 0 ≤ pl ∧ pl < s then od_up g (t + 6) pl (od_or (od_shl (g t 7) 4) (od_and (g (t + 6) pl) 15)) else g
set_option maxRecDepth 10000 in
theorem c_X9_begin {E : od_E} {g : od_G} {t : Int} {c s : Nat} (ht : TxAt E t c s) : od_Ct 1 mX9_begin [(2, t)] E g (none, E, cTBegin g t) := by
  have ht0 := ht
  obtain ⟨hkt, x0, x1, x2, x3, x4, x5, y1, y2, y3, y4, y5, y6, hc6, hs6⟩ := ht
  refine od_ctI pnX9 rfl (Nat.le_of_ble_eq_true rfl) od_le.rf ?_
  show od_R _ _ _ _ _ 0 [some (2, t)] [] E g
  refine r_aload_n dX9_begin_0 rfl ?_
  refine r_iconst dX9_begin_1 li_0 ?_
  refine r_putIj (j := 6) rfl dX9_begin_2 fkX9_9 gf9_6 pf9_6 (by assumption) ?_
  refine r_aload_n dX9_begin_5 rfl ?_
  refine r_iconst dX9_begin_6 li_0 ?_
  refine r_putIj (j := 7) rfl dX9_begin_7 fkX9_15 gf9_7 pf9_7 (by assumption) ?_
  exact r_vret dX9_begin_10 rfl (by rfl)
set_option maxRecDepth 10000 in
theorem c_X9_open {E : od_E} {g : od_G} {t : Int} {c s : Nat} (ht : TxAt E t c s) (kd : Int) (h0 : 0 ≤ g t 6 ∧ g t 6 < c) : od_Ct 1 mX9_open [(2, t), (0, kd)] E g (some (0, g t 6), E, cTOpen g t kd) := by
  have ht0 := ht
  obtain ⟨hkt, x0, x1, x2, x3, x4, x5, y1, y2, y3, y4, y5, y6, hc6, hs6⟩ := ht
  refine od_ctI pnX9 rfl (Nat.le_of_ble_eq_true rfl) od_le.rf ?_
  show od_R _ _ _ _ _ 0 [some (2, t), some (0, kd), none] [] E g
  refine r_aload_n dX9_open_0 rfl ?_
  refine r_getIj (j := 6) rfl dX9_open_1 fkX9_9 gf9_6 (by assumption) (by (repeat (first | rewrite [od_upn (by omega)] | rewrite [od_up_at, if_pos (by omega)] | rewrite [od_up_at, if_neg (by omega)])); rfl) ?_
  refine r_istore_n dX9_open_4 (by decide) rfl ?_
  refine r_iload_n dX9_open_5 rfl ?_
  refine r_if_lt (tgt := 18) dX9_open_6 rfl (fun c6 => ?_) (fun c6 => ?_)
  · refine r_iconst dX9_open_18 li_m1 ?_
    exfalso; omega
  · refine r_iload_n dX9_open_9 rfl ?_
    refine r_aload_n dX9_open_10 rfl ?_
    refine r_getR dX9_open_11 fkX9_24 gf9_0 (by assumption) (by assumption) ?_
    first | refine r_len_i dX9_open_14 (by assumption) (by first | decide | omega) ?_ | refine r_len_b dX9_open_14 (by assumption) (by first | decide | omega) ?_ | refine r_len_z dX9_open_14 (by assumption) (by first | decide | omega) ?_ | refine r_len_l dX9_open_14 (by assumption) (by first | decide | omega) ?_
    refine r_icmp_lt (tgt := 20) dX9_open_15 rfl (fun c15 => ?_) (fun c15 => ?_)
    · refine r_aload_n dX9_open_20 rfl ?_
      refine r_getR dX9_open_21 fkX9_24 gf9_0 (by assumption) (by assumption) ?_
      refine r_iload_n dX9_open_24 rfl ?_
      refine r_iload_n dX9_open_25 rfl ?_
      refine r_iast dX9_open_26 (by assumption) (by omega) ?_
      refine r_aload_n dX9_open_27 rfl ?_
      refine r_getR dX9_open_28 fkX9_28 gf9_1 (by assumption) (by assumption) ?_
      refine r_iload_n dX9_open_31 rfl ?_
      refine r_iconst dX9_open_32 li_1 ?_
      refine r_iast dX9_open_33 (by assumption) (by omega) ?_
      refine r_aload_n dX9_open_34 rfl ?_
      refine r_getR dX9_open_35 fkX9_31 gf9_2 (by assumption) (by assumption) ?_
      refine r_iload_n dX9_open_38 rfl ?_
      refine r_iconst dX9_open_39 li_m1 ?_
      refine r_iast dX9_open_40 (by assumption) (by omega) ?_
      refine r_aload_n dX9_open_41 rfl ?_
      refine r_getR dX9_open_42 fkX9_34 gf9_3 (by assumption) (by assumption) ?_
      refine r_iload_n dX9_open_45 rfl ?_
      refine r_iconst dX9_open_46 li_m1 ?_
      refine r_iast dX9_open_47 (by assumption) (by omega) ?_
      refine r_aload_n dX9_open_48 rfl ?_
      refine r_getR dX9_open_49 fkX9_37 gf9_4 (by assumption) (by assumption) ?_
      refine r_iload_n dX9_open_52 rfl ?_
      refine r_iconst dX9_open_53 li_m1 ?_
      refine r_iast dX9_open_54 (by assumption) (by omega) ?_
      refine r_aload_n dX9_open_55 rfl ?_
      refine r_dup dX9_open_56 (by first | exact od_ne2 | exact od_ne0) ?_
      refine r_getIj (j := 6) rfl dX9_open_57 fkX9_9 gf9_6 (by assumption) (by (repeat (first | rewrite [od_upn (by omega)] | rewrite [od_up_at, if_pos (by omega)] | rewrite [od_up_at, if_neg (by omega)])); rfl) ?_
      refine r_iconst dX9_open_60 li_1 ?_
      refine r_iaddE dX9_open_61 (by first | exact od_w0 (by omega) (by omega) | exact od_wI (by omega) (by omega) | rfl) ?_
      refine r_putIj (j := 6) rfl dX9_open_62 fkX9_9 gf9_6 pf9_6 (by assumption) ?_
      refine r_iload_n dX9_open_65 rfl ?_
      exact r_iret dX9_open_66 rfl rfl
    · refine r_iconst dX9_open_18 li_m1 ?_
      exfalso; omega
set_option maxRecDepth 10000 in
theorem c_X9_put {E : od_E} {g : od_G} {t : Int} {c s : Nat} (ht : TxAt E t c s) (st nu : Int) (h0 : 0 ≤ g t 7 ∧ g t 7 < s) : od_Ct 1 mX9_put [(2, t), (0, st), (0, nu)] E g (some (0, g t 7), E, cTPut g t st nu) := by
  have ht0 := ht
  obtain ⟨hkt, x0, x1, x2, x3, x4, x5, y1, y2, y3, y4, y5, y6, hc6, hs6⟩ := ht
  refine od_ctI pnX9 rfl (Nat.le_of_ble_eq_true rfl) od_le.rf ?_
  show od_R _ _ _ _ _ 0 [some (2, t), some (0, st), some (0, nu)] [] E g
  refine r_aload_n dX9_put_0 rfl ?_
  refine r_getIj (j := 7) rfl dX9_put_1 fkX9_15 gf9_7 (by assumption) (by (repeat (first | rewrite [od_upn (by omega)] | rewrite [od_up_at, if_pos (by omega)] | rewrite [od_up_at, if_neg (by omega)])); rfl) ?_
  refine r_if_lt (tgt := 19) dX9_put_4 rfl (fun c4 => ?_) (fun c4 => ?_)
  · refine r_iconst dX9_put_19 li_m1 ?_
    exfalso; omega
  · refine r_aload_n dX9_put_7 rfl ?_
    refine r_getIj (j := 7) rfl dX9_put_8 fkX9_15 gf9_7 (by assumption) (by (repeat (first | rewrite [od_upn (by omega)] | rewrite [od_up_at, if_pos (by omega)] | rewrite [od_up_at, if_neg (by omega)])); rfl) ?_
    refine r_aload_n dX9_put_11 rfl ?_
    refine r_getR dX9_put_12 fkX9_40 gf9_5 (by assumption) (by assumption) ?_
    first | refine r_len_i dX9_put_15 (by assumption) (by first | decide | omega) ?_ | refine r_len_b dX9_put_15 (by assumption) (by first | decide | omega) ?_ | refine r_len_z dX9_put_15 (by assumption) (by first | decide | omega) ?_ | refine r_len_l dX9_put_15 (by assumption) (by first | decide | omega) ?_
    refine r_icmp_lt (tgt := 21) dX9_put_16 rfl (fun c16 => ?_) (fun c16 => ?_)
    · refine r_aload_n dX9_put_21 rfl ?_
      refine r_getR dX9_put_22 fkX9_40 gf9_5 (by assumption) (by assumption) ?_
      refine r_aload_n dX9_put_25 rfl ?_
      refine r_getIj (j := 7) rfl dX9_put_26 fkX9_15 gf9_7 (by assumption) (by (repeat (first | rewrite [od_upn (by omega)] | rewrite [od_up_at, if_pos (by omega)] | rewrite [od_up_at, if_neg (by omega)])); rfl) ?_
      refine r_iload_n dX9_put_29 rfl ?_
      refine r_iconst dX9_put_30 li_4 ?_
      refine r_ishl dX9_put_31 ?_
      refine r_iload_n dX9_put_32 rfl ?_
      refine r_ior dX9_put_33 ?_
      refine r_iast dX9_put_34 (by assumption) (by omega) ?_
      refine r_aload_n dX9_put_35 rfl ?_
      refine r_dup dX9_put_36 (by first | exact od_ne2 | exact od_ne0) ?_
      refine r_getIj (j := 7) rfl dX9_put_37 fkX9_15 gf9_7 (by assumption) (by (repeat (first | rewrite [od_upn (by omega)] | rewrite [od_up_at, if_pos (by omega)] | rewrite [od_up_at, if_neg (by omega)])); rfl) ?_
      refine r_iconst dX9_put_40 li_1 ?_
      refine r_iaddE dX9_put_41 (by first | exact od_w0 (by omega) (by omega) | exact od_wI (by omega) (by omega) | rfl) ?_
      refine r_putIj (j := 7) rfl dX9_put_42 fkX9_15 gf9_7 pf9_7 (by assumption) ?_
      refine r_aload_n dX9_put_45 rfl ?_
      refine r_getIj (j := 7) rfl dX9_put_46 fkX9_15 gf9_7 (by assumption) (by (repeat (first | rewrite [od_upn (by omega)] | rewrite [od_up_at, if_pos (by omega)] | rewrite [od_up_at, if_neg (by omega)])); rfl) ?_
      refine r_iconst dX9_put_49 li_1 ?_
      refine r_isubE dX9_put_50 (by first | exact od_w0 (by omega) (by omega) | exact od_wI (by omega) (by omega) | rfl) ?_
      exact r_iret dX9_put_51 rfl (by rw [show g t 7 + 1 - 1 = g t 7 by omega]; rfl)
    · refine r_iconst dX9_put_19 li_m1 ?_
      exfalso; omega
set_option maxRecDepth 10000 in
theorem c_X9_land {E : od_E} {g : od_G} {t : Int} {c s : Nat} (ht : TxAt E t c s) (pl : Int) : od_Ct 1 mX9_land [(2, t), (0, pl)] E g (none, E, cTLand g t pl s) := by
  have ht0 := ht
  obtain ⟨hkt, x0, x1, x2, x3, x4, x5, y1, y2, y3, y4, y5, y6, hc6, hs6⟩ := ht
  refine od_ctI pnX9 rfl (Nat.le_of_ble_eq_true rfl) od_le.rf ?_
  show od_R _ _ _ _ _ 0 [some (2, t), some (0, pl)] [] E g
  refine r_iload_n dX9_land_0 rfl ?_
  refine r_if_lt (tgt := 35) dX9_land_1 rfl (fun c1 => ?_) (fun c1 => ?_)
  · exact r_vret dX9_land_35 rfl (by unfold cTLand; first | rw [if_pos (by omega)] | rw [if_neg (by omega)])
  · refine r_iload_n dX9_land_4 rfl ?_
    refine r_aload_n dX9_land_5 rfl ?_
    refine r_getR dX9_land_6 fkX9_40 gf9_5 (by assumption) (by assumption) ?_
    first | refine r_len_i dX9_land_9 (by assumption) (by first | decide | omega) ?_ | refine r_len_b dX9_land_9 (by assumption) (by first | decide | omega) ?_ | refine r_len_z dX9_land_9 (by assumption) (by first | decide | omega) ?_ | refine r_len_l dX9_land_9 (by assumption) (by first | decide | omega) ?_
    refine r_icmp_ge (tgt := 35) dX9_land_10 rfl (fun c10 => ?_) (fun c10 => ?_)
    · exact r_vret dX9_land_35 rfl (by unfold cTLand; first | rw [if_pos (by omega)] | rw [if_neg (by omega)])
    · refine r_aload_n dX9_land_13 rfl ?_
      refine r_getR dX9_land_14 fkX9_40 gf9_5 (by assumption) (by assumption) ?_
      refine r_iload_n dX9_land_17 rfl ?_
      refine r_aload_n dX9_land_18 rfl ?_
      refine r_getIj (j := 7) rfl dX9_land_19 fkX9_15 gf9_7 (by assumption) (by (repeat (first | rewrite [od_upn (by omega)] | rewrite [od_up_at, if_pos (by omega)] | rewrite [od_up_at, if_neg (by omega)])); rfl) ?_
      refine r_iconst dX9_land_22 li_4 ?_
      refine r_ishl dX9_land_23 ?_
      refine r_aload_n dX9_land_24 rfl ?_
      refine r_getR dX9_land_25 fkX9_40 gf9_5 (by assumption) (by assumption) ?_
      refine r_iload_n dX9_land_28 rfl ?_
      refine r_iald dX9_land_29 (by assumption) (by omega) (by (repeat (first | rewrite [od_upn (by omega)] | rewrite [od_up_at, if_pos (by omega)] | rewrite [od_up_at, if_neg (by omega)])); rfl) ?_
      refine r_bipush dX9_land_30 lb_15 ?_
      refine r_iand dX9_land_32 ?_
      refine r_ior dX9_land_33 ?_
      refine r_iast dX9_land_34 (by assumption) (by omega) ?_
      exact r_vret dX9_land_35 rfl (by unfold cTLand; first | rw [if_pos (by omega)] | rw [if_neg (by omega)])
