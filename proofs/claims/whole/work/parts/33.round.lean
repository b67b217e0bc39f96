/-! OrganDrums$Round: a round is laid -/
def RoAt (E : od_E) (q s : Int) : Prop := (E.2.1 q).1 = 4 ∧ E.2.2 q 0 = s ∧ E.2.2 q 1 = q + 1 ∧ E.2.2 q 2 = q + 2 ∧ E.2.2 q 3 = q + 3 ∧ E.2.2 q 4 = q + 4 ∧ E.2.2 q 5 = q + 5 ∧ E.2.2 q 6 = q + 6 ∧ E.2.1 (q + 1) = (20, 990) ∧ E.2.1 (q + 2) = (20, 990) ∧ E.2.1 (q + 3) = (20, 12) ∧ E.2.1 (q + 4) = (20, 12) ∧ E.2.1 (q + 5) = (20, 6) ∧ E.2.1 (q + 6) = (22, 64)
def cClr (g : od_G) (a n : Int) : od_G := fun x y => if x = a ∧ 0 ≤ y ∧ y < n then 0 else g x y
theorem cClr_0 (g : od_G) (a : Int) : cClr g a 0 = g := by
  funext x y
  simp only [cClr]
  rw [if_neg (by omega)]
theorem cClr_s (g : od_G) {a i : Int} (h : 0 ≤ i) : od_up (cClr g a i) a i 0 = cClr g a (i + 1) := by
  funext x y
  simp only [cClr, od_up]
  grind
theorem od_tms {x L : Int} (h0 : 0 ≤ x) (hL : 1 ≤ L) : (x + 1).tmod L = if x.tmod L + 1 < L then x.tmod L + 1 else 0 := by
  rw [Int.tmod_eq_emod_of_nonneg h0, Int.tmod_eq_emod_of_nonneg (by omega)]
  have h1 := Int.emod_nonneg x (show L ≠ 0 by omega)
  have h2 := Int.emod_lt_of_pos x (show 0 < L by omega)
  have h3 := Int.mul_ediv_add_emod x L
  have e : (x + 1) % L = (x % L + 1) % L := by
    rw [show x + 1 = (x % L + 1) + L * (x / L) by omega, Int.add_mul_emod_self_left]
  rw [e]
  by_cases c : x % L + 1 < L
  · rw [if_pos c, Int.emod_eq_of_lt (by omega) c]
  · rw [if_neg c, show x % L + 1 = L by omega, Int.emod_self]
theorem od_tmb {x L : Int} (h0 : 0 ≤ x) (hL : 1 ≤ L) : 0 ≤ x.tmod L ∧ x.tmod L < L := ⟨Int.tmod_nonneg L h0, Int.tmod_lt_of_pos x (by omega)⟩
theorem od_tm_lt {x L : Int} (h0 : 0 ≤ x) (hL : x < L) : x.tmod L = x := Int.tmod_eq_of_lt h0 hL
def cDrm (g : od_G) (q k d a n : Int) : od_G := fun x y => if x = a ∧ 0 ≤ y ∧ y < n then g a y + g (q + 3) ((g (k + 3) d + y).tmod (g (k + 1) d)) else g x y
theorem cDrm_0 (g : od_G) (q k d a : Int) : cDrm g q k d a 0 = g := by
  funext x y
  simp only [cDrm]
  rw [if_neg (by omega)]
theorem cDrm_s (g : od_G) {q k d a i v : Int} (h : 0 ≤ i) (hv : v = g a i + g (q + 3) ((g (k + 3) d + i).tmod (g (k + 1) d))) : od_up (cDrm g q k d a i) a i v = cDrm g q k d a (i + 1) := by
  subst hv
  funext x y
  simp only [cDrm, od_up]
  by_cases c : x = a ∧ y = i
  · rw [if_pos c, if_pos (by omega), c.2]
  · rw [if_neg c]
    by_cases c2 : x = a ∧ 0 ≤ y ∧ y < i
    · rw [if_pos c2, if_pos (by omega)]
    · rw [if_neg c2, if_neg (by omega)]
theorem cDrm_o (g : od_G) {q k d a n x y : Int} (h : x ≠ a ∨ n ≤ y) : cDrm g q k d a n x y = g x y := by
  simp only [cDrm]
  rw [if_neg (by omega)]
/-- a cell of a drum at a beat -/
noncomputable def cCl (g : od_G) (k t : Int) (sn : Nat) (ws d b : Int) : Int := od_ite (cHasPin g k d b) (od_shl 1 d + 64 * od_ite (ws = 1) (cSound g k t d b sn) 0) 0
theorem od_sh6 {d : Int} (h : 0 ≤ d ∧ d < 6) : 1 ≤ od_shl 1 d ∧ od_shl 1 d ≤ 32 := by
  rcases (by omega : d = 0 ∨ d = 1 ∨ d = 2 ∨ d = 3 ∨ d = 4 ∨ d = 5) with rfl | rfl | rfl | rfl | rfl | rfl <;> decide
theorem od_or6 {d v : Int} (h : 0 ≤ d ∧ d < 6) (hv : 0 ≤ v ∧ v ≤ 9) : od_or (od_shl 1 d) (od_shl v 6) = od_shl 1 d + 64 * v := by
  rcases (by omega : d = 0 ∨ d = 1 ∨ d = 2 ∨ d = 3 ∨ d = 4 ∨ d = 5) with rfl | rfl | rfl | rfl | rfl | rfl <;> rcases (by omega : v = 0 ∨ v = 1 ∨ v = 2 ∨ v = 3 ∨ v = 4 ∨ v = 5 ∨ v = 6 ∨ v = 7 ∨ v = 8 ∨ v = 9) with rfl | rfl | rfl | rfl | rfl | rfl | rfl | rfl | rfl | rfl <;> decide
theorem cCl_b (g : od_G) (k t : Int) (sn : Nat) (ws b : Int) {d : Int} (h : 0 ≤ d ∧ d < 6) : 0 ≤ cCl g k t sn ws d b ∧ cCl g k t sn ws d b ≤ 700 := by
  unfold cCl
  have h1 := od_sh6 h
  have h2 := cSound_b g k t d b sn
  by_cases c : cHasPin g k d b
  · rw [od_ite_t c]
    by_cases c2 : ws = 1
    · rw [od_ite_t c2]; omega
    · rw [od_ite_f c2]; omega
  · rw [od_ite_f c]; omega
theorem cCl_e {g g' : od_G} {k t : Int} (h : StEq g g' k) (ht : t ≠ -1 → TxEq g g' t) (sn : Nat) (ws d b : Int) : cCl g' k t sn ws d b = cCl g k t sn ws d b := by
  unfold cCl
  rw [propext (cHasPin_e h d b), cSound_e h ht]
set_option maxRecDepth 10000 in
theorem lp_X4_clear {E : od_E} {g : od_G} {a n : Int} {N : Nat} (ha : E.2.1 a = (20, N)) (hn : 0 ≤ n ∧ n ≤ N) (hN : N < 1000000) : ∀ (m : Nat) (i : Int) (gw : od_G), (0 ≤ i ∧ i ≤ n ∧ gw = cClr g a i) → ((n - i).toNat) < m → od_R 1 mX4_clear od_Z0 E (none, E, cClr g a n) 2 [some (2, a), some (0, n), some (0, i)] [] E gw := by
  intro m
  induction m with
  | zero => intro i gw hi hM; exact absurd hM (Nat.not_lt_zero _)
  | succ m ih =>
    intro i gw hi hM
    obtain ⟨hi0, hi6, rfl⟩ := hi
    refine r_iload_n dX4_clear_2 rfl ?_
    refine r_iload_n dX4_clear_3 rfl ?_
    refine r_icmp_ge (tgt := 23) dX4_clear_4 rfl (fun c4 => ?_) (fun c4 => ?_)
    · exact r_vret dX4_clear_23 rfl (by rw [show i = n by omega])
    · refine r_iload_n dX4_clear_7 rfl ?_
      refine r_aload_n dX4_clear_8 rfl ?_
      first | refine r_len_i dX4_clear_9 (by assumption) (by first | decide | omega) ?_ | refine r_len_b dX4_clear_9 (by assumption) (by first | decide | omega) ?_ | refine r_len_z dX4_clear_9 (by assumption) (by first | decide | omega) ?_ | refine r_len_l dX4_clear_9 (by assumption) (by first | decide | omega) ?_
      refine r_icmp_ge (tgt := 23) dX4_clear_10 rfl (fun c10 => ?_) (fun c10 => ?_)
      · exact r_vret dX4_clear_23 rfl (by rw [show i = n by omega])
      · refine r_aload_n dX4_clear_13 rfl ?_
        refine r_iload_n dX4_clear_14 rfl ?_
        refine r_iconst dX4_clear_15 li_0 ?_
        refine r_iast dX4_clear_16 (by assumption) (by omega) ?_
        refine r_iincE dX4_clear_17 rfl (by decide) (by first | exact od_w0 (by omega) (by omega) | exact od_wI (by omega) (by omega) | rfl) rfl ?_
        refine r_goto (tgt := 2) dX4_clear_20 rfl ?_
        refine ih (i + 1) _ ⟨by omega, by omega, cClr_s g hi0⟩ (by omega)
set_option maxRecDepth 10000 in
theorem c_X4_clear {E : od_E} {g : od_G} {a n : Int} {N : Nat} (ha : E.2.1 a = (20, N)) (hn : 0 ≤ n ∧ n ≤ N) (hN : N < 1000000) : od_Ct 1 mX4_clear [(2, a), (0, n)] E g (none, E, cClr g a n) := by
  refine od_ctI pnX4 rfl (Nat.le_of_ble_eq_true rfl) od_le.rf ?_
  show od_R _ _ _ _ _ 0 [some (2, a), some (0, n), none] [] E g
  refine r_iconst dX4_clear_0 li_0 ?_
  refine r_istore_n dX4_clear_1 (by decide) rfl ?_
  exact lp_X4_clear ha hn hN _ _ _ ⟨by omega, by omega, (cClr_0 g a).symm⟩ (Nat.lt_succ_self _)
set_option maxRecDepth 10000 in
theorem lp_X4_ld {E : od_E} {g : od_G} {s : Int} {q : Int} (hq : RoAt E q s) {k : Int} (hs : StAt E k) (o1 : k + 9 ≤ s) (o2 : s + 4 ≤ q) (d : Int) (hd : 0 ≤ d ∧ d < 6) {a n : Int} (ha : E.2.1 a = (20, 990)) (hn : 0 ≤ n ∧ n ≤ 990) (haq : a = q + 1 ∨ a = q + 2) (hl : 1 ≤ g (k + 1) d ∧ g (k + 1) d ≤ 12) (h3 : 0 ≤ g (k + 3) d ∧ g (k + 3) d < g (k + 1) d) (hc : ∀ b : Int, 0 ≤ b → b < 12 → 0 ≤ g (q + 3) b ∧ g (q + 3) b ≤ 1000) (hg : ∀ y : Int, 0 ≤ y → y < n → 0 ≤ g a y ∧ g a y ≤ 10000) : ∀ (m : Nat) (h b : Int) (gw : od_G), (0 ≤ h ∧ h ≤ n ∧ b = (g (k + 3) d + h).tmod (g (k + 1) d) ∧ gw = cDrm g q k d a h) → ((n - h).toNat) < m → od_R 1 mX4_layDrum od_Z0 E (none, E, cDrm g q k d a n) 11 [some (2, q), some (2, k), some (0, d), some (2, a), some (0, n), some (0, b), some (0, h)] [] E gw := by
  have hq0 := hq
  obtain ⟨hkq, qa, qb, qc, qd, qe, qf, qg, l1, l2, l3, l4, l5, l6⟩ := hq
  have hs0 := hs
  obtain ⟨hk, r0, r1, r2, r3, r4, r5, r6, r7, a1, a2, a3, a4, a5, a6, a7, a8⟩ := hs
  intro m
  induction m with
  | zero => intro h b gw hi hM; exact absurd hM (Nat.not_lt_zero _)
  | succ m ih =>
    intro h b gw hi hM
    obtain ⟨hi0, hi6, hb, rfl⟩ := hi
    have ht := od_tms (x := g (k + 3) d + h) (L := g (k + 1) d) (by omega) (by omega)
    have hb2 := od_tmb (x := g (k + 3) d + h) (L := g (k + 1) d) (by omega) (by omega)
    rw [← hb] at ht hb2
    have e1 : cDrm g q k d a h a h = g a h := cDrm_o g (Or.inr (by omega))
    have e2 : cDrm g q k d a h (q + 3) b = g (q + 3) b := cDrm_o g (Or.inl (by omega))
    have e3 : cDrm g q k d a h (k + 1) d = g (k + 1) d := cDrm_o g (Or.inl (by omega))
    have hc1 := hc b (by omega) (by omega)
    have hcv : h < n → 0 ≤ g a h ∧ g a h ≤ 10000 := fun z => hg h hi0 z
    refine r_iload dX4_layDrum_11 rfl ?_
    refine r_iload dX4_layDrum_13 rfl ?_
    refine r_icmp_ge (tgt := 81) dX4_layDrum_15 rfl (fun c15 => ?_) (fun c15 => ?_)
    · exact r_vret dX4_layDrum_81 rfl (by rw [show h = n by omega])
    · refine r_iload dX4_layDrum_18 rfl ?_
      refine r_aload_n dX4_layDrum_20 rfl ?_
      first | refine r_len_i dX4_layDrum_21 (by assumption) (by first | decide | omega) ?_ | refine r_len_b dX4_layDrum_21 (by assumption) (by first | decide | omega) ?_ | refine r_len_z dX4_layDrum_21 (by assumption) (by first | decide | omega) ?_ | refine r_len_l dX4_layDrum_21 (by assumption) (by first | decide | omega) ?_
      refine r_icmp_ge (tgt := 81) dX4_layDrum_22 rfl (fun c22 => ?_) (fun c22 => ?_)
      · exact r_vret dX4_layDrum_81 rfl (by rw [show h = n by omega])
      · refine r_iload dX4_layDrum_25 rfl ?_
        refine r_if_lt (tgt := 37) dX4_layDrum_27 rfl (fun c27 => ?_) (fun c27 => ?_)
        · exfalso; omega
        · refine r_iload dX4_layDrum_30 rfl ?_
          refine r_bipush dX4_layDrum_32 lb_12 ?_
          refine r_icmp_lt (tgt := 38) dX4_layDrum_34 rfl (fun c34 => ?_) (fun c34 => ?_)
          · refine r_aload_n dX4_layDrum_38 rfl ?_
            refine r_iload dX4_layDrum_39 rfl ?_
            refine r_dup2 dX4_layDrum_41 (by first | exact od_ne2 | exact od_ne0) (by first | exact od_ne2 | exact od_ne0) ?_
            refine r_iald dX4_layDrum_42 (by assumption) (by omega) (by first | exact e1 | exact e2 | exact e3 | exact e4 | rfl) ?_
            refine r_aload_n dX4_layDrum_43 rfl ?_
            refine r_getR dX4_layDrum_44 fkX4_18 gf4_3 (by assumption) (by assumption) ?_
            refine r_iload dX4_layDrum_47 rfl ?_
            refine r_iald dX4_layDrum_49 (by assumption) (by omega) (by first | exact e1 | exact e2 | exact e3 | exact e4 | rfl) ?_
            refine r_iaddE dX4_layDrum_50 (by first | exact od_wI (by omega) (by omega) | (have := hcv (by omega); exact od_wI (by omega) (by omega))) ?_
            refine r_iast dX4_layDrum_51 (by assumption) (by omega) ?_
            have e4 : od_up (cDrm g q k d a h) a h (g a h + g (q + 3) b) (k + 1) d = g (k + 1) d := by
              unfold od_up
              rw [if_neg (by omega)]
              exact e3
            refine r_iload dX4_layDrum_52 rfl ?_
            refine r_iconst dX4_layDrum_54 li_1 ?_
            refine r_iaddE dX4_layDrum_55 (by first | exact od_wI (by omega) (by omega) | (have := hcv (by omega); exact od_wI (by omega) (by omega))) ?_
            refine r_aload_n dX4_layDrum_56 rfl ?_
            refine r_getR dX4_layDrum_57 fkX4_92 gf6_0 (by assumption) (by assumption) ?_
            refine r_iload_n dX4_layDrum_60 rfl ?_
            refine r_iald dX4_layDrum_61 (by assumption) (by omega) (by first | exact e1 | exact e2 | exact e3 | exact e4 | rfl) ?_
            refine r_icmp_ge (tgt := 72) dX4_layDrum_62 rfl (fun c62 => ?_) (fun c62 => ?_)
            · refine r_iconst dX4_layDrum_72 li_0 ?_
              refine r_istore dX4_layDrum_73 (by decide) rfl ?_
              refine r_iincE dX4_layDrum_75 rfl (by decide) (by first | exact od_wI (by omega) (by omega) | (have := hcv (by omega); exact od_wI (by omega) (by omega))) rfl ?_
              refine r_goto (tgt := 11) dX4_layDrum_78 rfl ?_
              refine ih _ _ _ ⟨by omega, by omega, ?_, cDrm_s g hi0 (by rw [hb])⟩ (by omega)
              rw [show g (k + 3) d + (h + 1) = g (k + 3) d + h + 1 by omega, ht]
              first | rw [if_pos (by omega)] | rw [if_neg (by omega)]
            · refine r_iload dX4_layDrum_65 rfl ?_
              refine r_iconst dX4_layDrum_67 li_1 ?_
              refine r_iaddE dX4_layDrum_68 (by first | exact od_wI (by omega) (by omega) | (have := hcv (by omega); exact od_wI (by omega) (by omega))) ?_
              refine r_goto (tgt := 73) dX4_layDrum_69 rfl ?_
              refine r_istore dX4_layDrum_73 (by decide) rfl ?_
              refine r_iincE dX4_layDrum_75 rfl (by decide) (by first | exact od_wI (by omega) (by omega) | (have := hcv (by omega); exact od_wI (by omega) (by omega))) rfl ?_
              refine r_goto (tgt := 11) dX4_layDrum_78 rfl ?_
              refine ih _ _ _ ⟨by omega, by omega, ?_, cDrm_s g hi0 (by rw [hb])⟩ (by omega)
              rw [show g (k + 3) d + (h + 1) = g (k + 3) d + h + 1 by omega, ht]
              first | rw [if_pos (by omega)] | rw [if_neg (by omega)]
          · exfalso; omega
set_option maxRecDepth 10000 in
theorem c_X4_layDrum {E : od_E} {g : od_G} {s : Int} {q : Int} (hq : RoAt E q s) {k : Int} (hs : StAt E k) (o1 : k + 9 ≤ s) (o2 : s + 4 ≤ q) (d : Int) (hd : 0 ≤ d ∧ d < 6) {a n : Int} (ha : E.2.1 a = (20, 990)) (hn : 0 ≤ n ∧ n ≤ 990) (haq : a = q + 1 ∨ a = q + 2) (hl : 1 ≤ g (k + 1) d ∧ g (k + 1) d ≤ 12) (h3 : 0 ≤ g (k + 3) d ∧ g (k + 3) d < g (k + 1) d) (hc : ∀ b : Int, 0 ≤ b → b < 12 → 0 ≤ g (q + 3) b ∧ g (q + 3) b ≤ 1000) (hg : ∀ y : Int, 0 ≤ y → y < n → 0 ≤ g a y ∧ g a y ≤ 10000) : od_Ct 1 mX4_layDrum [(2, q), (2, k), (0, d), (2, a), (0, n)] E g (none, E, cDrm g q k d a n) := by
  have hq0 := hq
  obtain ⟨hkq, qa, qb, qc, qd, qe, qf, qg, l1, l2, l3, l4, l5, l6⟩ := hq
  have hs0 := hs
  obtain ⟨hk, r0, r1, r2, r3, r4, r5, r6, r7, a1, a2, a3, a4, a5, a6, a7, a8⟩ := hs
  refine od_ctI pnX4 rfl (Nat.le_of_ble_eq_true rfl) od_le.rf ?_
  show od_R _ _ _ _ _ 0 [some (2, q), some (2, k), some (0, d), some (2, a), some (0, n), none, none] [] E g
  refine r_aload_n dX4_layDrum_0 rfl ?_
  refine r_getR dX4_layDrum_1 fkX4_89 gf6_2 (by assumption) (by assumption) ?_
  refine r_iload_n dX4_layDrum_4 rfl ?_
  refine r_iald dX4_layDrum_5 (by assumption) (by omega) (by (repeat (first | rewrite [od_upn (by omega)] | rewrite [od_up_at, if_pos (by omega)] | rewrite [od_up_at, if_neg (by omega)])); rfl) ?_
  refine r_istore dX4_layDrum_6 (by decide) rfl ?_
  refine r_iconst dX4_layDrum_8 li_0 ?_
  refine r_istore dX4_layDrum_9 (by decide) rfl ?_
  exact lp_X4_ld hq0 hs0 o1 o2 d hd ha hn haq hl h3 hc hg _ _ _ _ ⟨by omega, by omega, by rw [Int.add_zero, od_tm_lt h3.1 h3.2], (cDrm_0 g q k d a).symm⟩ (Nat.lt_succ_self _)
set_option maxRecDepth 10000 in
theorem lp_X4_sc {E : od_E} {g : od_G} {s : Int} (ha : AsAt E s) {q : Int} (hq : RoAt E q s) {k : Int} (hs : StAt E k) (o1 : k + 9 ≤ s) (o2 : s + 4 ≤ q) {t : Int} {cn sn : Nat} (hlaw : LawOk E g s t cn sn) (hqt : t ≠ -1 → t + 7 ≤ q ∨ q + 7 ≤ t) (ws : Int) (hws : ws = 0 ∨ ws = 1) (d : Int) (hd : 0 ≤ d ∧ d < 6) : ∀ (m : Nat) (b : Int) (gw : od_G), (0 ≤ b ∧ b ≤ 12 ∧ od_fr (fun x _ => x = s + 2 ∨ x = s + 3 ∨ x = q + 3) g gw ∧ ∀ j : Int, 0 ≤ j → j < b → gw (q + 3) j = cCl g k t sn ws d j) → ((12 - b).toNat) < m → od_Rq 5 mX4_setCells od_Z0 E (E, fun v g' => v = none ∧ od_fr (fun x _ => x = s + 2 ∨ x = s + 3 ∨ x = q + 3) g g' ∧ ∀ b : Int, 0 ≤ b → b < 12 → g' (q + 3) b = cCl g k t sn ws d b) 3 [some (2, q), some (2, k), some (0, d), some (2, t), some (0, ws), some (0, b)] [] E gw := by
  have ha0 := ha
  obtain ⟨hka, w0, w1, hu, w3⟩ := ha
  have hu7 := hu.1
  have hq0 := hq
  obtain ⟨hkq, qa, qb, qc, qd, qe, qf, qg, l1, l2, l3, l4, l5, l6⟩ := hq
  have hs0 := hs
  obtain ⟨hk, r0, r1, r2, r3, r4, r5, r6, r7, a1, a2, a3, a4, a5, a6, a7, a8⟩ := hs
  intro m
  induction m with
  | zero => intro b gw hi hM; exact absurd hM (Nat.not_lt_zero _)
  | succ m ih =>
    intro b gw hi hM
    obtain ⟨hi0, hi6, hfr, hw⟩ := hi
    have h6 := od_sh6 hd
    have eS : StEq g gw k := StEq.of hfr (fun x y z => by omega)
    have eT : t ≠ -1 → TxEq g gw t := fun z => TxEq.of hfr (fun x y w => by have := hqt z; have := (hlaw.resolve_left z).2.2; omega)
    refine r_iload dX4_setCells_3 rfl ?_
    refine r_bipush dX4_setCells_5 lb_12 ?_
    refine r_icmp_ge (tgt := 80) dX4_setCells_7 rfl (fun c7 => ?_) (fun c7 => ?_)
    · exact r_vretq dX4_setCells_80 rfl rfl ⟨rfl, hfr, fun j j0 j1 => hw j j0 (by omega)⟩
    · refine r_aload_n dX4_setCells_10 rfl ?_
      refine r_getR dX4_setCells_11 fkX4_18 gf4_3 (by assumption) (by assumption) ?_
      refine r_iload dX4_setCells_14 rfl ?_
      refine r_aload_n dX4_setCells_16 rfl ?_
      refine r_iload_n dX4_setCells_17 rfl ?_
      refine r_iload dX4_setCells_18 rfl ?_
      refine r_callV2b dX4_setCells_20 cvX4_79 (by assumption) (c_X6_hasPin (by assumption) _ _) (by decide) (Nat.le_of_ble_eq_true rfl) od_le.rf (fun q20 => ?_) (fun q20 => ?_)
      · refine r_if_eq (tgt := 32) dX4_setCells_23 rfl (fun h => absurd h (by decide)) (fun _ => ?_)
        refine r_iconst dX4_setCells_26 li_1 ?_
        refine r_iload_n dX4_setCells_27 rfl ?_
        refine r_ishl dX4_setCells_28 ?_
        refine r_goto (tgt := 33) dX4_setCells_29 rfl ?_
        refine r_iast dX4_setCells_33 (by assumption) (by omega) ?_
        refine r_iload dX4_setCells_34 rfl ?_
        refine r_if_eq (tgt := 74) dX4_setCells_36 rfl (fun c36 => ?_) (fun c36 => ?_)
        · refine r_iincE dX4_setCells_74 rfl (by decide) (by first | exact od_w0 (by omega) (by omega) | exact od_wI (by omega) (by omega) | rfl) rfl ?_
          refine r_goto (tgt := 3) dX4_setCells_77 rfl ?_
          first
          | (exfalso; omega)
          | (refine ih _ _ ⟨by omega, by omega, by first | exact f66x.up (by omega) | exact hfr.up (by omega), ?_⟩ (by omega)
             intro j j0 j1
             unfold od_up
             by_cases cj : j = b
             · rw [if_pos ⟨rfl, cj⟩, cj]
               unfold cCl
               first
               | rw [od_ite_t ((cHasPin_e eS d b).mp q20), od_ite_t (by omega), od_or6 hd (cSound_b _ _ _ _ _ _)]
               | (rw [od_ite_t ((cHasPin_e eS d b).mp q20), od_ite_f (by omega)]; omega)
               | rw [od_ite_f (fun z => q20 ((cHasPin_e eS d b).mpr z))]
             · rw [if_neg (by omega)]
               first
               | (rw [f66 _ _ (by omega)]; unfold od_up; rw [if_neg (by omega)]; exact hw j j0 (by omega))
               | exact hw j j0 (by omega))
        · refine r_aload_n dX4_setCells_39 rfl ?_
          refine r_getR dX4_setCells_40 fkX4_18 gf4_3 (by assumption) (by assumption) ?_
          refine r_iload dX4_setCells_43 rfl ?_
          refine r_iald dX4_setCells_45 (by assumption) (by omega) (by (repeat (first | rewrite [od_upn (by omega)] | rewrite [od_up_at, if_pos (by omega)] | rewrite [od_up_at, if_neg (by omega)])); rfl) ?_
          refine r_if_eq (tgt := 74) dX4_setCells_46 rfl (fun c46 => ?_) (fun c46 => ?_)
          · refine r_iincE dX4_setCells_74 rfl (by decide) (by first | exact od_w0 (by omega) (by omega) | exact od_wI (by omega) (by omega) | rfl) rfl ?_
            refine r_goto (tgt := 3) dX4_setCells_77 rfl ?_
            first
            | (exfalso; omega)
            | (refine ih _ _ ⟨by omega, by omega, by first | exact f66x.up (by omega) | exact hfr.up (by omega), ?_⟩ (by omega)
               intro j j0 j1
               unfold od_up
               by_cases cj : j = b
               · rw [if_pos ⟨rfl, cj⟩, cj]
                 unfold cCl
                 first
                 | rw [od_ite_t ((cHasPin_e eS d b).mp q20), od_ite_t (by omega), od_or6 hd (cSound_b _ _ _ _ _ _)]
                 | (rw [od_ite_t ((cHasPin_e eS d b).mp q20), od_ite_f (by omega)]; omega)
                 | rw [od_ite_f (fun z => q20 ((cHasPin_e eS d b).mpr z))]
               · rw [if_neg (by omega)]
                 first
                 | (rw [f66 _ _ (by omega)]; unfold od_up; rw [if_neg (by omega)]; exact hw j j0 (by omega))
                 | exact hw j j0 (by omega))
          · first
            | (exfalso; omega)
            | (have f49 : od_fr (fun x _ => x = s + 2 ∨ x = s + 3 ∨ x = q + 3) g (od_up gw (q + 3) b (od_shl 1 d)) := hfr.up (by omega)
               have eS2 : StEq g (od_up gw (q + 3) b (od_shl 1 d)) k := StEq.of f49 (fun x y z => by omega)
               have eT2 : t ≠ -1 → TxEq g (od_up gw (q + 3) b (od_shl 1 d)) t := fun z => TxEq.of f49 (fun x y w => by have := hqt z; have := (hlaw.resolve_left z).2.2; omega)
               refine r_aload_n dX4_setCells_49 rfl ?_
               refine r_getR dX4_setCells_50 fkX4_18 gf4_3 (by assumption) (by assumption) ?_
               refine r_iload dX4_setCells_53 rfl ?_
               refine r_dup2 dX4_setCells_55 (by first | exact od_ne2 | exact od_ne0) (by first | exact od_ne2 | exact od_ne0) ?_
               refine r_iald dX4_setCells_56 (by assumption) (by omega) (by (repeat (first | rewrite [od_upn (by omega)] | rewrite [od_up_at, if_pos (by omega)] | rewrite [od_up_at, if_neg (by omega)])); rfl) ?_
               refine r_aload_n dX4_setCells_57 rfl ?_
               refine r_getR dX4_setCells_58 fkX4_41 gf4_0 (by assumption) (by assumption) ?_
               refine r_aload_n dX4_setCells_61 rfl ?_
               refine r_aload_n dX4_setCells_62 rfl ?_
               refine r_iload_n dX4_setCells_63 rfl ?_
               refine r_iload dX4_setCells_64 rfl ?_
               refine r_callV4f dX4_setCells_66 cvX4_83 (by assumption) (c_X0_sound (cn := cn) (sn := sn) ha0 hs0 (Or.inl o1) (hlaw.e eT2) _ _) (by decide) (Nat.le_of_ble_eq_true rfl) od_le.rf (fun g66 f66 => ?_)
               rw [cSound_e eS2 eT2]
               have f66x : od_fr (fun x _ => x = s + 2 ∨ x = s + 3 ∨ x = q + 3) g g66 := f49.tr (f66.mo (fun x y z => by omega))
               refine r_bipush dX4_setCells_69 lb_6 ?_
               refine r_ishl dX4_setCells_71 ?_
               refine r_ior dX4_setCells_72 ?_
               refine r_iast dX4_setCells_73 (by assumption) (by omega) ?_
               refine r_iincE dX4_setCells_74 rfl (by decide) (by first | exact od_w0 (by omega) (by omega) | exact od_wI (by omega) (by omega) | rfl) rfl ?_
               refine r_goto (tgt := 3) dX4_setCells_77 rfl ?_
               first
               | (exfalso; omega)
               | (refine ih _ _ ⟨by omega, by omega, by first | exact f66x.up (by omega) | exact hfr.up (by omega), ?_⟩ (by omega)
                  intro j j0 j1
                  unfold od_up
                  by_cases cj : j = b
                  · rw [if_pos ⟨rfl, cj⟩, cj]
                    unfold cCl
                    first
                    | rw [od_ite_t ((cHasPin_e eS d b).mp q20), od_ite_t (by omega), od_or6 hd (cSound_b _ _ _ _ _ _)]
                    | (rw [od_ite_t ((cHasPin_e eS d b).mp q20), od_ite_f (by omega)]; omega)
                    | rw [od_ite_f (fun z => q20 ((cHasPin_e eS d b).mpr z))]
                  · rw [if_neg (by omega)]
                    first
                    | (rw [f66 _ _ (by omega)]; unfold od_up; rw [if_neg (by omega)]; exact hw j j0 (by omega))
                    | exact hw j j0 (by omega)))
      · refine r_if_eq (tgt := 32) dX4_setCells_23 rfl (fun _ => ?_) (fun h => absurd h (by decide))
        refine r_iconst dX4_setCells_32 li_0 ?_
        refine r_iast dX4_setCells_33 (by assumption) (by omega) ?_
        refine r_iload dX4_setCells_34 rfl ?_
        refine r_if_eq (tgt := 74) dX4_setCells_36 rfl (fun c36 => ?_) (fun c36 => ?_)
        · refine r_iincE dX4_setCells_74 rfl (by decide) (by first | exact od_w0 (by omega) (by omega) | exact od_wI (by omega) (by omega) | rfl) rfl ?_
          refine r_goto (tgt := 3) dX4_setCells_77 rfl ?_
          first
          | (exfalso; omega)
          | (refine ih _ _ ⟨by omega, by omega, by first | exact f66x.up (by omega) | exact hfr.up (by omega), ?_⟩ (by omega)
             intro j j0 j1
             unfold od_up
             by_cases cj : j = b
             · rw [if_pos ⟨rfl, cj⟩, cj]
               unfold cCl
               first
               | rw [od_ite_t ((cHasPin_e eS d b).mp q20), od_ite_t (by omega), od_or6 hd (cSound_b _ _ _ _ _ _)]
               | (rw [od_ite_t ((cHasPin_e eS d b).mp q20), od_ite_f (by omega)]; omega)
               | rw [od_ite_f (fun z => q20 ((cHasPin_e eS d b).mpr z))]
             · rw [if_neg (by omega)]
               first
               | (rw [f66 _ _ (by omega)]; unfold od_up; rw [if_neg (by omega)]; exact hw j j0 (by omega))
               | exact hw j j0 (by omega))
        · refine r_aload_n dX4_setCells_39 rfl ?_
          refine r_getR dX4_setCells_40 fkX4_18 gf4_3 (by assumption) (by assumption) ?_
          refine r_iload dX4_setCells_43 rfl ?_
          refine r_iald dX4_setCells_45 (by assumption) (by omega) (by (repeat (first | rewrite [od_upn (by omega)] | rewrite [od_up_at, if_pos (by omega)] | rewrite [od_up_at, if_neg (by omega)])); rfl) ?_
          refine r_if_eq (tgt := 74) dX4_setCells_46 rfl (fun c46 => ?_) (fun c46 => ?_)
          · refine r_iincE dX4_setCells_74 rfl (by decide) (by first | exact od_w0 (by omega) (by omega) | exact od_wI (by omega) (by omega) | rfl) rfl ?_
            refine r_goto (tgt := 3) dX4_setCells_77 rfl ?_
            first
            | (exfalso; omega)
            | (refine ih _ _ ⟨by omega, by omega, by first | exact f66x.up (by omega) | exact hfr.up (by omega), ?_⟩ (by omega)
               intro j j0 j1
               unfold od_up
               by_cases cj : j = b
               · rw [if_pos ⟨rfl, cj⟩, cj]
                 unfold cCl
                 first
                 | rw [od_ite_t ((cHasPin_e eS d b).mp q20), od_ite_t (by omega), od_or6 hd (cSound_b _ _ _ _ _ _)]
                 | (rw [od_ite_t ((cHasPin_e eS d b).mp q20), od_ite_f (by omega)]; omega)
                 | rw [od_ite_f (fun z => q20 ((cHasPin_e eS d b).mpr z))]
               · rw [if_neg (by omega)]
                 first
                 | (rw [f66 _ _ (by omega)]; unfold od_up; rw [if_neg (by omega)]; exact hw j j0 (by omega))
                 | exact hw j j0 (by omega))
          · first
            | (exfalso; omega)
            | (have f49 : od_fr (fun x _ => x = s + 2 ∨ x = s + 3 ∨ x = q + 3) g (od_up gw (q + 3) b (od_shl 1 d)) := hfr.up (by omega)
               have eS2 : StEq g (od_up gw (q + 3) b (od_shl 1 d)) k := StEq.of f49 (fun x y z => by omega)
               have eT2 : t ≠ -1 → TxEq g (od_up gw (q + 3) b (od_shl 1 d)) t := fun z => TxEq.of f49 (fun x y w => by have := hqt z; have := (hlaw.resolve_left z).2.2; omega)
               refine r_aload_n dX4_setCells_49 rfl ?_
               refine r_getR dX4_setCells_50 fkX4_18 gf4_3 (by assumption) (by assumption) ?_
               refine r_iload dX4_setCells_53 rfl ?_
               refine r_dup2 dX4_setCells_55 (by first | exact od_ne2 | exact od_ne0) (by first | exact od_ne2 | exact od_ne0) ?_
               refine r_iald dX4_setCells_56 (by assumption) (by omega) (by (repeat (first | rewrite [od_upn (by omega)] | rewrite [od_up_at, if_pos (by omega)] | rewrite [od_up_at, if_neg (by omega)])); rfl) ?_
               refine r_aload_n dX4_setCells_57 rfl ?_
               refine r_getR dX4_setCells_58 fkX4_41 gf4_0 (by assumption) (by assumption) ?_
               refine r_aload_n dX4_setCells_61 rfl ?_
               refine r_aload_n dX4_setCells_62 rfl ?_
               refine r_iload_n dX4_setCells_63 rfl ?_
               refine r_iload dX4_setCells_64 rfl ?_
               refine r_callV4f dX4_setCells_66 cvX4_83 (by assumption) (c_X0_sound (cn := cn) (sn := sn) ha0 hs0 (Or.inl o1) (hlaw.e eT2) _ _) (by decide) (Nat.le_of_ble_eq_true rfl) od_le.rf (fun g66 f66 => ?_)
               rw [cSound_e eS2 eT2]
               have f66x : od_fr (fun x _ => x = s + 2 ∨ x = s + 3 ∨ x = q + 3) g g66 := f49.tr (f66.mo (fun x y z => by omega))
               refine r_bipush dX4_setCells_69 lb_6 ?_
               refine r_ishl dX4_setCells_71 ?_
               refine r_ior dX4_setCells_72 ?_
               refine r_iast dX4_setCells_73 (by assumption) (by omega) ?_
               refine r_iincE dX4_setCells_74 rfl (by decide) (by first | exact od_w0 (by omega) (by omega) | exact od_wI (by omega) (by omega) | rfl) rfl ?_
               refine r_goto (tgt := 3) dX4_setCells_77 rfl ?_
               first
               | (exfalso; omega)
               | (refine ih _ _ ⟨by omega, by omega, by first | exact f66x.up (by omega) | exact hfr.up (by omega), ?_⟩ (by omega)
                  intro j j0 j1
                  unfold od_up
                  by_cases cj : j = b
                  · rw [if_pos ⟨rfl, cj⟩, cj]
                    unfold cCl
                    first
                    | rw [od_ite_t ((cHasPin_e eS d b).mp q20), od_ite_t (by omega), od_or6 hd (cSound_b _ _ _ _ _ _)]
                    | (rw [od_ite_t ((cHasPin_e eS d b).mp q20), od_ite_f (by omega)]; omega)
                    | rw [od_ite_f (fun z => q20 ((cHasPin_e eS d b).mpr z))]
                  · rw [if_neg (by omega)]
                    first
                    | (rw [f66 _ _ (by omega)]; unfold od_up; rw [if_neg (by omega)]; exact hw j j0 (by omega))
                    | exact hw j j0 (by omega)))
set_option maxRecDepth 10000 in
theorem c_X4_setCells {E : od_E} {g : od_G} {s : Int} (ha : AsAt E s) {q : Int} (hq : RoAt E q s) {k : Int} (hs : StAt E k) (o1 : k + 9 ≤ s) (o2 : s + 4 ≤ q) {t : Int} {cn sn : Nat} (hlaw : LawOk E g s t cn sn) (hqt : t ≠ -1 → t + 7 ≤ q ∨ q + 7 ≤ t) (ws : Int) (hws : ws = 0 ∨ ws = 1) (d : Int) (hd : 0 ≤ d ∧ d < 6) : od_Cq 5 mX4_setCells [(2, q), (2, k), (0, d), (2, t), (0, ws)] E g (E, fun v g' => v = none ∧ od_fr (fun x _ => x = s + 2 ∨ x = s + 3 ∨ x = q + 3) g g' ∧ ∀ b : Int, 0 ≤ b → b < 12 → g' (q + 3) b = cCl g k t sn ws d b) := by
  have ha0 := ha
  obtain ⟨hka, w0, w1, hu, w3⟩ := ha
  have hu7 := hu.1
  have hq0 := hq
  obtain ⟨hkq, qa, qb, qc, qd, qe, qf, qg, l1, l2, l3, l4, l5, l6⟩ := hq
  have hs0 := hs
  obtain ⟨hk, r0, r1, r2, r3, r4, r5, r6, r7, a1, a2, a3, a4, a5, a6, a7, a8⟩ := hs
  refine od_cqI pnX4 rfl (Nat.le_of_ble_eq_true rfl) od_le.rf ?_
  show od_Rq 5 mX4_setCells od_Z0 E (E, fun v g' => v = none ∧ od_fr (fun x _ => x = s + 2 ∨ x = s + 3 ∨ x = q + 3) g g' ∧ ∀ b : Int, 0 ≤ b → b < 12 → g' (q + 3) b = cCl g k t sn ws d b) 0 [some (2, q), some (2, k), some (0, d), some (2, t), some (0, ws), none] [] E g
  refine r_iconst dX4_setCells_0 li_0 ?_
  refine r_istore dX4_setCells_1 (by decide) rfl ?_
  exact lp_X4_sc ha0 hq0 hs0 o1 o2 hlaw hqt ws hws d hd _ _ _ ⟨by omega, by omega, od_fr.rf, fun j j0 j1 => by omega⟩ (Nat.lt_succ_self _)
