/-! OrganDrums$Asker -/
theorem cRunF_c {sr : Int → Int} {n : Int} {wr wr' : Int → Int} {wl : Int} (hw : ∀ i : Int, 0 ≤ i → i < wl → wr i = wr' i) : ∀ (f : Nat) (pl top : Int) (s s' : Int → Int), 0 ≤ top → (∀ i : Int, 0 ≤ i → i < top → s i = s' i) → cRunF sr n wr wl f pl top s = cRunF sr n wr' wl f pl top s' := by
  intro f
  induction f with
  | zero =>
    intro pl top s s' h0 hs
    simp only [cRunF]
    by_cases h : top = 1
    · rw [if_pos h, if_pos h, hs 0 (by omega) (by omega)]
    · rw [if_neg h, if_neg h]
  | succ f ih =>
    intro pl top s s' h0 hs
    have u4 := od_ushr4 (sr pl)
    simp only [cRunF]
    by_cases c1 : pl < 0 ∨ n ≤ pl ∨ od_and (sr pl) 15 = 0
    · rw [if_pos c1, if_pos c1]
      by_cases h : top = 1
      · rw [if_pos h, if_pos h, hs 0 (by omega) (by omega)]
      · rw [if_neg h, if_neg h]
    · rw [if_neg c1, if_neg c1]
      by_cases c2 : od_and (sr pl) 15 = 1 ∨ od_and (sr pl) 15 = 2
      · rw [if_pos c2, if_pos c2]
        by_cases c3 : 64 ≤ top ∨ (od_and (sr pl) 15 = 2 ∧ wl ≤ od_ushr (sr pl) 4)
        · rw [if_pos c3, if_pos c3]
        · rw [if_neg c3, if_neg c3]
          refine ih _ _ _ _ (by omega) (fun i i0 i1 => ?_)
          unfold od_u1
          by_cases c4 : i = top
          · rw [if_pos c4, if_pos c4]
            by_cases c5 : od_and (sr pl) 15 = 1
            · rw [if_pos c5, if_pos c5]
            · rw [if_neg c5, if_neg c5, hw _ u4.1 (by omega)]
          · rw [if_neg c4, if_neg c4]
            exact hs i i0 (by omega)
      · rw [if_neg c2, if_neg c2]
        by_cases c3 : od_and (sr pl) 15 = 3 ∧ 0 < top
        · rw [if_pos c3, if_pos c3, hs (top - 1) (by omega) (by omega)]
          refine ih _ _ _ _ h0 (fun i i0 i1 => ?_)
          unfold od_u1
          by_cases c4 : i = top - 1
          · rw [if_pos c4, if_pos c4]
          · rw [if_neg c4, if_neg c4]
            exact hs i i0 (by omega)
        · rw [if_neg c3, if_neg c3]
          by_cases c4 : (od_and (sr pl) 15 = 4 ∨ od_and (sr pl) 15 = 5) ∧ 0 < top
          · rw [if_pos c4, if_pos c4, hs (top - 1) (by omega) (by omega)]
            by_cases c5 : s' (top - 1) = (if od_and (sr pl) 15 = 4 then 1 else 0)
            · rw [if_pos c5, if_pos c5]
              exact ih _ _ _ _ h0 hs
            · rw [if_neg c5, if_neg c5]
              exact ih _ _ _ _ (by omega) (fun i i0 i1 => hs i i0 (by omega))
          · rw [if_neg c4, if_neg c4]
            by_cases c5 : 1 < top
            · rw [if_pos c5, if_pos c5, hs (top - 1) (by omega) (by omega), hs (top - 2) (by omega) (by omega)]
              by_cases c6 : 1000000000 < cJoin (od_and (sr pl) 15) (s' (top - 2)) (s' (top - 1)) ∨ cJoin (od_and (sr pl) 15) (s' (top - 2)) (s' (top - 1)) < -1000000000
              · rw [if_pos c6, if_pos c6]
              · rw [if_neg c6, if_neg c6]
                refine ih _ _ _ _ (by omega) (fun i i0 i1 => ?_)
                unfold od_u1
                by_cases c7 : i = top - 2
                · rw [if_pos c7, if_pos c7]
                · rw [if_neg c7, if_neg c7]
                  exact hs i i0 (by omega)
            · rw [if_neg c5, if_neg c5]
/-- what steps come to, with no stack before -/
def cVal (sr : Int → Int) (n : Nat) (wr : Int → Int) (wl : Nat) (fr : Int) : Int := cValue sr n fr wr wl (fun _ => 0)
theorem cVal_eq {sr : Int → Int} {n : Nat} {wr wr' : Int → Int} {wl : Nat} (fr : Int) (s : Int → Int) (hw : ∀ i : Int, 0 ≤ i → i < wl → wr i = wr' i) : cValue sr n fr wr wl s = cVal sr n wr' wl fr := by
  unfold cVal cValue
  by_cases h : fr = -1
  · rw [if_pos h, if_pos h]
  · rw [if_neg h, if_neg h]
    exact cRunF_c hw _ _ _ _ _ (by omega) (fun i i0 i1 => by omega)
def AsAt (E : od_E) (s : Int) : Prop := (E.2.1 s).1 = 0 ∧ E.2.2 s 0 = s + 1 ∧ E.2.2 s 1 = s + 3 ∧ SuAt E (s + 1) ∧ E.2.1 (s + 3) = (20, 7)
def cAW (g : od_G) (s k d b : Int) : od_G := od_up (od_up (od_up (od_up (od_up (od_up (od_up g (s + 3) 0 d) (s + 3) 1 (g (k + 1) d)) (s + 3) 2 (g (k + 2) d)) (s + 3) 3 b) (s + 3) 4 (od_bc (g (k + 4) d))) (s + 3) 5 (g (k + 5) 0)) (s + 3) 6 (g (k + 5) 2)
/-- the words of a law -/
def cWd (g : od_G) (k d b : Int) : Int → Int := fun i => if i = 0 then d else if i = 1 then g (k + 1) d else if i = 2 then g (k + 2) d else if i = 3 then b else if i = 4 then od_bc (g (k + 4) d) else if i = 5 then g (k + 5) 0 else g (k + 5) 2
theorem cAW_row (g : od_G) (s k d b : Int) : ∀ i : Int, 0 ≤ i → i < (7 : Nat) → cAW g s k d b (s + 3) i = cWd g k d b i := by
  intro i i0 i1
  rcases (by omega : i = 0 ∨ i = 1 ∨ i = 2 ∨ i = 3 ∨ i = 4 ∨ i = 5 ∨ i = 6) with rfl | rfl | rfl | rfl | rfl | rfl | rfl <;> simp [cAW, cWd, od_up]
theorem cAW_fr (g : od_G) (s k d b : Int) : od_fr (fun x _ => x = s + 2 ∨ x = s + 3) g (cAW g s k d b) := by
  unfold cAW
  exact ((((((od_fr.rf.up (Or.inr rfl)).up (Or.inr rfl)).up (Or.inr rfl)).up (Or.inr rfl)).up (Or.inr rfl)).up (Or.inr rfl)).up (Or.inr rfl)
set_option maxRecDepth 10000 in
theorem c_X0_setWords {E : od_E} {g : od_G} {s : Int} (ha : AsAt E s) {k : Int} (hs : StAt E k) (hne : k + 9 ≤ s ∨ s + 4 ≤ k) (d b : Int) (hd : 0 ≤ d ∧ d < 6) : od_Ct 2 mX0_setWords [(2, s), (2, k), (0, d), (0, b)] E g (none, E, cAW g s k d b) := by
  have ha0 := ha
  obtain ⟨hka, w0, w1, hu, w3⟩ := ha
  have hs0 := hs
  obtain ⟨hk, r0, r1, r2, r3, r4, r5, r6, r7, a1, a2, a3, a4, a5, a6, a7, a8⟩ := hs
  refine od_ctI pnX0 rfl (Nat.le_of_ble_eq_true rfl) od_le.rf ?_
  show od_R _ _ _ _ _ 0 [some (2, s), some (2, k), some (0, d), some (0, b)] [] E g
  refine r_aload_n dX0_setWords_0 rfl ?_
  refine r_getR dX0_setWords_1 fkX0_18 gf0_1 (by assumption) (by assumption) ?_
  refine r_iconst dX0_setWords_4 li_0 ?_
  refine r_iload_n dX0_setWords_5 rfl ?_
  refine r_iast dX0_setWords_6 (by assumption) (by omega) ?_
  refine r_aload_n dX0_setWords_7 rfl ?_
  refine r_getR dX0_setWords_8 fkX0_18 gf0_1 (by assumption) (by assumption) ?_
  refine r_iconst dX0_setWords_11 li_1 ?_
  refine r_aload_n dX0_setWords_12 rfl ?_
  refine r_getR dX0_setWords_13 fkX0_85 gf6_0 (by assumption) (by assumption) ?_
  refine r_iload_n dX0_setWords_16 rfl ?_
  refine r_iald dX0_setWords_17 (by assumption) (by omega) (by (repeat (first | rewrite [od_upn (by omega)] | rewrite [od_up_at, if_pos (by omega)] | rewrite [od_up_at, if_neg (by omega)])); rfl) ?_
  refine r_iast dX0_setWords_18 (by assumption) (by omega) ?_
  refine r_aload_n dX0_setWords_19 rfl ?_
  refine r_getR dX0_setWords_20 fkX0_18 gf0_1 (by assumption) (by assumption) ?_
  refine r_iconst dX0_setWords_23 li_2 ?_
  refine r_aload_n dX0_setWords_24 rfl ?_
  refine r_getR dX0_setWords_25 fkX0_88 gf6_1 (by assumption) (by assumption) ?_
  refine r_iload_n dX0_setWords_28 rfl ?_
  refine r_iald dX0_setWords_29 (by assumption) (by omega) (by (repeat (first | rewrite [od_upn (by omega)] | rewrite [od_up_at, if_pos (by omega)] | rewrite [od_up_at, if_neg (by omega)])); rfl) ?_
  refine r_iast dX0_setWords_30 (by assumption) (by omega) ?_
  refine r_aload_n dX0_setWords_31 rfl ?_
  refine r_getR dX0_setWords_32 fkX0_18 gf0_1 (by assumption) (by assumption) ?_
  refine r_iconst dX0_setWords_35 li_3 ?_
  refine r_iload_n dX0_setWords_36 rfl ?_
  refine r_iast dX0_setWords_37 (by assumption) (by omega) ?_
  refine r_aload_n dX0_setWords_38 rfl ?_
  refine r_getR dX0_setWords_39 fkX0_18 gf0_1 (by assumption) (by assumption) ?_
  refine r_iconst dX0_setWords_42 li_4 ?_
  refine r_aload_n dX0_setWords_43 rfl ?_
  refine r_getR dX0_setWords_44 fkX0_89 gf6_3 (by assumption) (by assumption) ?_
  refine r_iload_n dX0_setWords_47 rfl ?_
  refine r_iald dX0_setWords_48 (by assumption) (by omega) (by (repeat (first | rewrite [od_upn (by omega)] | rewrite [od_up_at, if_pos (by omega)] | rewrite [od_up_at, if_neg (by omega)])); rfl) ?_
  refine r_callS1i dX0_setWords_49 csX0_92 (c_J6_bitCount_0f7a4 _) (by decide) (Nat.le_of_ble_eq_true rfl) od_le.rf ?_
  refine r_iast dX0_setWords_52 (by assumption) (by omega) ?_
  refine r_aload_n dX0_setWords_53 rfl ?_
  refine r_getR dX0_setWords_54 fkX0_18 gf0_1 (by assumption) (by assumption) ?_
  refine r_iconst dX0_setWords_57 li_5 ?_
  refine r_aload_n dX0_setWords_58 rfl ?_
  refine r_getR dX0_setWords_59 fkX0_98 gf6_4 (by assumption) (by assumption) ?_
  refine r_iconst dX0_setWords_62 li_0 ?_
  refine r_iald dX0_setWords_63 (by assumption) (by omega) (by (repeat (first | rewrite [od_upn (by omega)] | rewrite [od_up_at, if_pos (by omega)] | rewrite [od_up_at, if_neg (by omega)])); rfl) ?_
  refine r_iast dX0_setWords_64 (by assumption) (by omega) ?_
  refine r_aload_n dX0_setWords_65 rfl ?_
  refine r_getR dX0_setWords_66 fkX0_18 gf0_1 (by assumption) (by assumption) ?_
  refine r_bipush dX0_setWords_69 lb_6 ?_
  refine r_aload_n dX0_setWords_71 rfl ?_
  refine r_getR dX0_setWords_72 fkX0_98 gf6_4 (by assumption) (by assumption) ?_
  refine r_iconst dX0_setWords_75 li_2 ?_
  refine r_iald dX0_setWords_76 (by assumption) (by omega) (by (repeat (first | rewrite [od_upn (by omega)] | rewrite [od_up_at, if_pos (by omega)] | rewrite [od_up_at, if_neg (by omega)])); rfl) ?_
  refine r_iast dX0_setWords_77 (by assumption) (by omega) ?_
  exact r_vret dX0_setWords_78 rfl (by rfl)
