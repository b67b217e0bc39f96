/-! Round: add -/
/-- drum e is of the set and a pin is barred at its beat j -/
def cBar (g : od_G) (k t : Int) (sn : Nat) (st e j : Int) : Prop := od_bit st e ∧ cHasBeat g k e j ∧ cHolds g k t e j sn 2
def cBdx (g gw : od_G) (q k t : Int) (sn : Nat) (st d b : Int) : Prop := (∀ e j : Int, 0 ≤ e → e < 6 → 0 ≤ j → j < 12 → (e < d ∨ (e = d ∧ j < b)) → (od_bit (gw (q + 5) e) j ↔ cBar g k t sn st e j)) ∧ ∀ j : Int, b ≤ j → j < 12 → d < 6 → ¬ od_bit (gw (q + 5) d) j
theorem cBdx_n {g gw g' : od_G} {q k t : Int} {sn : Nat} {st d b : Int} (hd : 0 ≤ d ∧ d < 6) (hb : 0 ≤ b ∧ b < 12) (h : cBdx g gw q k t sn st d b) (e5 : g' (q + 5) = gw (q + 5)) (hn : ¬ cBar g k t sn st d b) : cBdx g g' q k t sn st d (b + 1) := by
  refine ⟨fun e j e0 e1 j0 j1 hej => ?_, fun j j0 j1 d6 => ?_⟩
  · rw [e5]
    by_cases c : e = d ∧ j = b
    · rw [c.1, c.2]
      exact ⟨fun z => absurd z (h.2 b (by omega) (by omega) (by omega)), fun z => absurd z hn⟩
    · exact h.1 e j e0 e1 j0 j1 (by omega)
  · rw [e5]
    exact h.2 j (by omega) j1 d6
theorem cBdx_y {g gw g' : od_G} {q k t : Int} {sn : Nat} {st d b : Int} (hd : 0 ≤ d ∧ d < 6) (hb : 0 ≤ b ∧ b < 12) (h : cBdx g gw q k t sn st d b) (e5 : g' (q + 5) = gw (q + 5)) (hn : cBar g k t sn st d b) : cBdx g (od_up g' (q + 5) d (od_or (g' (q + 5) d) (od_shl 1 b))) q k t sn st d (b + 1) := by
  have e0 : ∀ y : Int, od_up g' (q + 5) d (od_or (g' (q + 5) d) (od_shl 1 b)) (q + 5) y = if y = d then od_or (gw (q + 5) d) (od_shl 1 b) else gw (q + 5) y := fun y => by
    unfold od_up
    by_cases c : y = d
    · rw [if_pos ⟨rfl, c⟩, if_pos c, e5]
    · rw [if_neg (fun z => c z.2), if_neg c, e5]
  refine ⟨fun e j e0' e1 j0 j1 hej => ?_, fun j j0 j1 d6 => ?_⟩
  · rw [e0]
    by_cases c : e = d
    · rw [if_pos c, od_bit_or (by omega), od_bit_s (by omega) (by omega)]
      by_cases cj : j = b
      · rw [c, cj]
        exact ⟨fun _ => hn, fun _ => Or.inr rfl⟩
      · rw [← c, h.1 e j e0' e1 j0 j1 (by omega)]
        exact ⟨fun z => z.elim id (fun w => absurd w cj), Or.inl⟩
    · rw [if_neg c]
      exact h.1 e j e0' e1 j0 j1 (by omega)
  · rw [e0, if_pos rfl, od_bit_or (by omega), od_bit_s (by omega) (by omega)]
    intro z
    rcases z with z | z
    · exact h.2 j (by omega) j1 d6 z
    · omega
set_option maxRecDepth 10000 in
theorem lp_X4_sb2 {E : od_E} {g : od_G} {s : Int} (ha : AsAt E s) {q : Int} (hq : RoAt E q s) {k : Int} (hs : StAt E k) (o1 : k + 9 ≤ s) (o2 : s + 4 ≤ q) {t : Int} {cn sn : Nat} (hlaw : LawOk E g s t cn sn) (hqt : t ≠ -1 → q + 7 ≤ t) (st : Int) (d : Int) (hd : 0 ≤ d ∧ d < 6) (hx : ∀ gw, od_fr (fun x _ => x = s + 2 ∨ x = s + 3 ∨ x = q + 5) g gw → cBdx g gw q k t sn st d 12 → od_Rq 5 mX4_setBarred od_Z0 E (E, fun v g' => v = none ∧ od_fr (fun x _ => x = s + 2 ∨ x = s + 3 ∨ x = q + 5) g g' ∧ ∀ e j : Int, 0 ≤ e → e < 6 → 0 ≤ j → j < 12 → (od_bit (g' (q + 5) e) j ↔ cBar g k t sn st e j)) 94 [some (2, q), some (2, k), some (0, st), some (2, t), some (0, d), some (0, 12)] [] E gw) : ∀ (m : Nat) (b : Int) (gw : od_G), (0 ≤ b ∧ b ≤ 12 ∧ od_fr (fun x _ => x = s + 2 ∨ x = s + 3 ∨ x = q + 5) g gw ∧ cBdx g gw q k t sn st d b) → ((12 - b).toNat) < m → od_Rq 5 mX4_setBarred od_Z0 E (E, fun v g' => v = none ∧ od_fr (fun x _ => x = s + 2 ∨ x = s + 3 ∨ x = q + 5) g g' ∧ ∀ e j : Int, 0 ≤ e → e < 6 → 0 ≤ j → j < 12 → (od_bit (g' (q + 5) e) j ↔ cBar g k t sn st e j)) 30 [some (2, q), some (2, k), some (0, st), some (2, t), some (0, d), some (0, b)] [] E gw := by
  have ha0 := ha
  obtain ⟨hka, w0, w1, hu, w3⟩ := ha
  have hu7 := hu.1
  have hq0 := hq
  obtain ⟨hkq, qa, qb, qc, qd, qe, qf, qg, l1, l2, l3, l4, l5, l6⟩ := hq
  have hs0 := hs
  obtain ⟨hk, r0, r1, r2, r3, r4, r5, r6, r7, a1, a2, a3, a4, a5, a6, a7, a8⟩ := hs
  intro m
  induction m with
  | zero => intro b gw hi hM; exact absurd hM (Nat.not_lt_zero _)
  | succ m ih =>
    intro b gw hi hM
    obtain ⟨hi0, hi1, hfr, hw⟩ := hi
    have eS : StEq g gw k := StEq.of hfr (fun x y z => by omega)
    have eT : t ≠ -1 → TxEq g gw t := fun z => TxEq.of hfr (fun x y w => by have := hqt z; omega)
    refine r_iload dX4_setBarred_30 rfl ?_
    refine r_bipush dX4_setBarred_32 lb_12 ?_
    refine r_icmp_ge (tgt := 94) dX4_setBarred_34 rfl (fun c34 => ?_) (fun c34 => ?_)
    · rw [show b = 12 by omega] at hw ⊢
      exact hx gw hfr hw
    · refine r_iload_n dX4_setBarred_37 rfl ?_
      refine r_iload dX4_setBarred_38 rfl ?_
      refine r_ishr dX4_setBarred_40 ?_
      refine r_iconst dX4_setBarred_41 li_1 ?_
      refine r_iand dX4_setBarred_42 ?_
      refine r_if_eq (tgt := 88) dX4_setBarred_43 rfl (fun c43 => ?_) (fun c43 => ?_)
      · refine r_iincE dX4_setBarred_88 rfl (by decide) (by first | exact od_w0 (by omega) (by omega) | exact od_wI (by omega) (by omega) | rfl) rfl ?_
        refine r_goto (tgt := 30) dX4_setBarred_91 rfl ?_
        first
        | exact ih _ _ ⟨by omega, by omega, f68x.up (by omega), cBdx_y hd ⟨hi0, by omega⟩ hw e5 ⟨by assumption, q51x, q68x⟩⟩ (by omega)
        | exact ih _ _ ⟨by omega, by omega, f68x, cBdx_n hd ⟨hi0, by omega⟩ hw e5 (fun z => q68x z.2.2)⟩ (by omega)
        | exact ih _ _ ⟨by omega, by omega, hfr, cBdx_n hd ⟨hi0, by omega⟩ hw rfl (fun z => q51 ((cHasBeat_e eS d b).mpr z.2.1))⟩ (by omega)
        | exact ih _ _ ⟨by omega, by omega, hfr, cBdx_n hd ⟨hi0, by omega⟩ hw rfl (fun z => z.1 (by assumption))⟩ (by omega)
      · refine r_aload_n dX4_setBarred_46 rfl ?_
        refine r_iload dX4_setBarred_47 rfl ?_
        refine r_iload dX4_setBarred_49 rfl ?_
        refine r_callV2b dX4_setBarred_51 cvX4_135 (by assumption) (c_X6_hasBeat (by assumption) _ _) (by decide) (Nat.le_of_ble_eq_true rfl) od_le.rf (fun q51 => ?_) (fun q51 => ?_)
        · refine r_if_eq (tgt := 88) dX4_setBarred_54 rfl (fun h => absurd h (by decide)) (fun _ => ?_)
          refine r_aload_n dX4_setBarred_57 rfl ?_
          refine r_getR dX4_setBarred_58 fkX4_41 gf4_0 (by assumption) (by assumption) ?_
          refine r_aload_n dX4_setBarred_61 rfl ?_
          refine r_aload_n dX4_setBarred_62 rfl ?_
          refine r_iconst dX4_setBarred_63 li_2 ?_
          refine r_iload dX4_setBarred_64 rfl ?_
          refine r_iload dX4_setBarred_66 rfl ?_
          refine r_callV5g dX4_setBarred_68 cvX4_138 (by assumption) (c_X0_holds (cn := cn) (sn := sn) ha0 hs0 (Or.inl o1) (hlaw.e eT) _ _ _) (by decide) (Nat.le_of_ble_eq_true rfl) od_le.rf (fun q68 g68 f68 => ?_) (fun q68 g68 f68 => ?_)
          · have f68x : od_fr (fun x _ => x = s + 2 ∨ x = s + 3 ∨ x = q + 5) g g68 := hfr.tr (f68.mo (fun x y z => by omega))
            have e5 : g68 (q + 5) = gw (q + 5) := f68.row (fun y z => by omega)
            have q68x := q68
            rw [cHolds_e eS eT] at q68x
            have q51x := q51
            rw [cHasBeat_e eS] at q51x
            refine r_if_eq (tgt := 88) dX4_setBarred_71 rfl (fun h => absurd h (by decide)) (fun _ => ?_)
            refine r_aload_n dX4_setBarred_74 rfl ?_
            refine r_getR dX4_setBarred_75 fkX4_24 gf4_5 (by assumption) (by assumption) ?_
            refine r_iload dX4_setBarred_78 rfl ?_
            refine r_dup2 dX4_setBarred_80 (by first | exact od_ne2 | exact od_ne0) (by first | exact od_ne2 | exact od_ne0) ?_
            refine r_iald dX4_setBarred_81 (by assumption) (by omega) (by (repeat (first | rewrite [od_upn (by omega)] | rewrite [od_up_at, if_pos (by omega)] | rewrite [od_up_at, if_neg (by omega)])); rfl) ?_
            refine r_iconst dX4_setBarred_82 li_1 ?_
            refine r_iload dX4_setBarred_83 rfl ?_
            refine r_ishl dX4_setBarred_85 ?_
            refine r_ior dX4_setBarred_86 ?_
            refine r_iast dX4_setBarred_87 (by assumption) (by omega) ?_
            refine r_iincE dX4_setBarred_88 rfl (by decide) (by first | exact od_w0 (by omega) (by omega) | exact od_wI (by omega) (by omega) | rfl) rfl ?_
            refine r_goto (tgt := 30) dX4_setBarred_91 rfl ?_
            first
            | exact ih _ _ ⟨by omega, by omega, f68x.up (by omega), cBdx_y hd ⟨hi0, by omega⟩ hw e5 ⟨by assumption, q51x, q68x⟩⟩ (by omega)
            | exact ih _ _ ⟨by omega, by omega, f68x, cBdx_n hd ⟨hi0, by omega⟩ hw e5 (fun z => q68x z.2.2)⟩ (by omega)
            | exact ih _ _ ⟨by omega, by omega, hfr, cBdx_n hd ⟨hi0, by omega⟩ hw rfl (fun z => q51 ((cHasBeat_e eS d b).mpr z.2.1))⟩ (by omega)
            | exact ih _ _ ⟨by omega, by omega, hfr, cBdx_n hd ⟨hi0, by omega⟩ hw rfl (fun z => z.1 (by assumption))⟩ (by omega)
          · have f68x : od_fr (fun x _ => x = s + 2 ∨ x = s + 3 ∨ x = q + 5) g g68 := hfr.tr (f68.mo (fun x y z => by omega))
            have e5 : g68 (q + 5) = gw (q + 5) := f68.row (fun y z => by omega)
            have q68x := q68
            rw [cHolds_e eS eT] at q68x
            have q51x := q51
            rw [cHasBeat_e eS] at q51x
            refine r_if_eq (tgt := 88) dX4_setBarred_71 rfl (fun _ => ?_) (fun h => absurd h (by decide))
            refine r_iincE dX4_setBarred_88 rfl (by decide) (by first | exact od_w0 (by omega) (by omega) | exact od_wI (by omega) (by omega) | rfl) rfl ?_
            refine r_goto (tgt := 30) dX4_setBarred_91 rfl ?_
            first
            | exact ih _ _ ⟨by omega, by omega, f68x.up (by omega), cBdx_y hd ⟨hi0, by omega⟩ hw e5 ⟨by assumption, q51x, q68x⟩⟩ (by omega)
            | exact ih _ _ ⟨by omega, by omega, f68x, cBdx_n hd ⟨hi0, by omega⟩ hw e5 (fun z => q68x z.2.2)⟩ (by omega)
            | exact ih _ _ ⟨by omega, by omega, hfr, cBdx_n hd ⟨hi0, by omega⟩ hw rfl (fun z => q51 ((cHasBeat_e eS d b).mpr z.2.1))⟩ (by omega)
            | exact ih _ _ ⟨by omega, by omega, hfr, cBdx_n hd ⟨hi0, by omega⟩ hw rfl (fun z => z.1 (by assumption))⟩ (by omega)
        · refine r_if_eq (tgt := 88) dX4_setBarred_54 rfl (fun _ => ?_) (fun h => absurd h (by decide))
          refine r_iincE dX4_setBarred_88 rfl (by decide) (by first | exact od_w0 (by omega) (by omega) | exact od_wI (by omega) (by omega) | rfl) rfl ?_
          refine r_goto (tgt := 30) dX4_setBarred_91 rfl ?_
          first
          | exact ih _ _ ⟨by omega, by omega, f68x.up (by omega), cBdx_y hd ⟨hi0, by omega⟩ hw e5 ⟨by assumption, q51x, q68x⟩⟩ (by omega)
          | exact ih _ _ ⟨by omega, by omega, f68x, cBdx_n hd ⟨hi0, by omega⟩ hw e5 (fun z => q68x z.2.2)⟩ (by omega)
          | exact ih _ _ ⟨by omega, by omega, hfr, cBdx_n hd ⟨hi0, by omega⟩ hw rfl (fun z => q51 ((cHasBeat_e eS d b).mpr z.2.1))⟩ (by omega)
          | exact ih _ _ ⟨by omega, by omega, hfr, cBdx_n hd ⟨hi0, by omega⟩ hw rfl (fun z => z.1 (by assumption))⟩ (by omega)
set_option maxRecDepth 10000 in
theorem lp_X4_sb1 {E : od_E} {g : od_G} {s : Int} (ha : AsAt E s) {q : Int} (hq : RoAt E q s) {k : Int} (hs : StAt E k) (o1 : k + 9 ≤ s) (o2 : s + 4 ≤ q) {t : Int} {cn sn : Nat} (hlaw : LawOk E g s t cn sn) (hqt : t ≠ -1 → q + 7 ≤ t) (st : Int) : ∀ (m : Nat) (d : Int) (gw : od_G) (L5 : Option od_V), (0 ≤ d ∧ d ≤ 6 ∧ od_fr (fun x _ => x = s + 2 ∨ x = s + 3 ∨ x = q + 5) g gw ∧ ∀ e j : Int, 0 ≤ e → e < d → 0 ≤ j → j < 12 → (od_bit (gw (q + 5) e) j ↔ cBar g k t sn st e j)) → ((6 - d).toNat) < m → od_Rq 5 mX4_setBarred od_Z0 E (E, fun v g' => v = none ∧ od_fr (fun x _ => x = s + 2 ∨ x = s + 3 ∨ x = q + 5) g g' ∧ ∀ e j : Int, 0 ≤ e → e < 6 → 0 ≤ j → j < 12 → (od_bit (g' (q + 5) e) j ↔ cBar g k t sn st e j)) 12 [some (2, q), some (2, k), some (0, st), some (2, t), some (0, d), L5] [] E gw := by
  have ha0 := ha
  obtain ⟨hka, w0, w1, hu, w3⟩ := ha
  have hu7 := hu.1
  have hq0 := hq
  obtain ⟨hkq, qa, qb, qc, qd, qe, qf, qg, l1, l2, l3, l4, l5, l6⟩ := hq
  have hs0 := hs
  obtain ⟨hk, r0, r1, r2, r3, r4, r5, r6, r7, a1, a2, a3, a4, a5, a6, a7, a8⟩ := hs
  intro m
  induction m with
  | zero => intro d gw L5 hi hM; exact absurd hM (Nat.not_lt_zero _)
  | succ m ih =>
    intro d gw L5 hi hM
    obtain ⟨hi0, hi1, hfr, hw⟩ := hi
    refine r_iload dX4_setBarred_12 rfl ?_
    refine r_bipush dX4_setBarred_14 lb_6 ?_
    refine r_icmp_ge (tgt := 100) dX4_setBarred_16 rfl (fun c16 => ?_) (fun c16 => ?_)
    · exact r_vretq dX4_setBarred_100 rfl rfl ⟨rfl, hfr, fun e j e0 e1 j0 j1 => hw e j e0 (by omega) j0 j1⟩
    · refine r_aload_n dX4_setBarred_19 rfl ?_
      refine r_getR dX4_setBarred_20 fkX4_24 gf4_5 (by assumption) (by assumption) ?_
      refine r_iload dX4_setBarred_23 rfl ?_
      refine r_iconst dX4_setBarred_25 li_0 ?_
      refine r_iast dX4_setBarred_26 (by assumption) (by omega) ?_
      refine r_iconst dX4_setBarred_27 li_0 ?_
      refine r_istore dX4_setBarred_28 (by decide) rfl ?_
      refine lp_X4_sb2 ha0 hq0 hs0 o1 o2 hlaw hqt st d ⟨hi0, by omega⟩ (fun gx fx hx => ?_) _ _ _ ⟨by omega, by omega, hfr.up (by omega), ⟨fun e j e0 e1 j0 j1 hej => ?_, fun j j0 j1 d6 => ?_⟩⟩ (Nat.lt_succ_self _)
      · refine r_iincE dX4_setBarred_94 rfl (by decide) (by first | exact od_w0 (by omega) (by omega) | exact od_wI (by omega) (by omega) | rfl) rfl ?_
        refine r_goto (tgt := 12) dX4_setBarred_97 rfl ?_
        exact ih _ _ _ ⟨by omega, by omega, fx, fun e j e0 e1 j0 j1 => hx.1 e j e0 (by omega) j0 j1 (by omega)⟩ (by omega)
      · unfold od_up
        rw [if_neg (by omega)]
        exact hw e j e0 (by omega) j0 j1
      · unfold od_up
        rw [if_pos ⟨rfl, rfl⟩]
        exact od_bit_0 (by omega)
set_option maxRecDepth 10000 in
theorem c_X4_setBarred {E : od_E} {g : od_G} {s : Int} (ha : AsAt E s) {q : Int} (hq : RoAt E q s) {k : Int} (hs : StAt E k) (o1 : k + 9 ≤ s) (o2 : s + 4 ≤ q) {cn sn : Nat} (hlaw : LawOk E g s (cLawOf g k (g k 11)) cn sn) (hqt : (cLawOf g k (g k 11)) ≠ -1 → q + 7 ≤ (cLawOf g k (g k 11))) (st : Int) : od_Cq 5 mX4_setBarred [(2, q), (2, k), (0, st)] E g (E, fun v g' => v = none ∧ od_fr (fun x _ => x = s + 2 ∨ x = s + 3 ∨ x = q + 5) g g' ∧ ∀ e j : Int, 0 ≤ e → e < 6 → 0 ≤ j → j < 12 → (od_bit (g' (q + 5) e) j ↔ cBar g k (cLawOf g k (g k 11)) sn st e j)) := by
  have ha0 := ha
  obtain ⟨hka, w0, w1, hu, w3⟩ := ha
  have hu7 := hu.1
  have hq0 := hq
  obtain ⟨hkq, qa, qb, qc, qd, qe, qf, qg, l1, l2, l3, l4, l5, l6⟩ := hq
  have hs0 := hs
  obtain ⟨hk, r0, r1, r2, r3, r4, r5, r6, r7, a1, a2, a3, a4, a5, a6, a7, a8⟩ := hs
  refine od_cqI pnX4 rfl (Nat.le_of_ble_eq_true rfl) od_le.rf ?_
  show od_Rq 5 mX4_setBarred od_Z0 E (E, fun v g' => v = none ∧ od_fr (fun x _ => x = s + 2 ∨ x = s + 3 ∨ x = q + 5) g g' ∧ ∀ e j : Int, 0 ≤ e → e < 6 → 0 ≤ j → j < 12 → (od_bit (g' (q + 5) e) j ↔ cBar g k (cLawOf g k (g k 11)) sn st e j)) 0 [some (2, q), some (2, k), some (0, st), none, none, none] [] E g
  refine r_aload_n dX4_setBarred_0 rfl ?_
  refine r_aload_n dX4_setBarred_1 rfl ?_
  refine r_getIj (j := 11) rfl dX4_setBarred_2 fkX4_128 gf6_11 (by assumption) (by (repeat (first | rewrite [od_upn (by omega)] | rewrite [od_up_at, if_pos (by omega)] | rewrite [od_up_at, if_neg (by omega)])); rfl) ?_
  refine r_callV1i dX4_setBarred_5 cvX4_131 (by assumption) (c_X6_lawOf (by assumption) _) (by decide) (Nat.le_of_ble_eq_true rfl) od_le.rf ?_
  refine r_astore_n dX4_setBarred_8 (by decide) rfl ?_
  refine r_iconst dX4_setBarred_9 li_0 ?_
  refine r_istore dX4_setBarred_10 (by decide) rfl ?_
  exact lp_X4_sb1 ha0 hq0 hs0 o1 o2 hlaw hqt st _ _ _ _ ⟨by omega, by omega, od_fr.rf, fun e j e0 e1 => by omega⟩ (Nat.lt_succ_self _)
def cCan (g : od_G) (q k ms h : Int) : Prop := ∀ d : Int, 0 ≤ d → d < 6 → od_bit ms d → ¬ od_bit (g (q + 5) d) (cBeatIn g k d h)
set_option maxRecDepth 10000 in
theorem lp_X4_can {E : od_E} {g : od_G} {s : Int} {q : Int} (hq : RoAt E q s) {k : Int} (hs : StAt E k) (ms h : Int) : ∀ (m : Nat) (d : Int), (0 ≤ d ∧ d ≤ 6 ∧ ∀ e : Int, 0 ≤ e → e < d → od_bit ms e → ¬ od_bit (g (q + 5) e) (cBeatIn g k e h)) → ((6 - d).toNat) < m → od_R 3 mX4_canAdd od_Z0 E (some (0, od_b (cCan g q k ms h)), E, g) 3 [some (2, q), some (2, k), some (0, ms), some (0, h), some (0, d)] [] E g := by
  have hq0 := hq
  obtain ⟨hkq, qa, qb, qc, qd, qe, qf, qg, l1, l2, l3, l4, l5, l6⟩ := hq
  have hs0 := hs
  obtain ⟨hk, r0, r1, r2, r3, r4, r5, r6, r7, a1, a2, a3, a4, a5, a6, a7, a8⟩ := hs
  intro m
  induction m with
  | zero => intro d hi hM; exact absurd hM (Nat.not_lt_zero _)
  | succ m ih =>
    intro d hi hM
    obtain ⟨hi0, hi1, hno⟩ := hi
    refine r_iload dX4_canAdd_3 rfl ?_
    refine r_bipush dX4_canAdd_5 lb_6 ?_
    refine r_icmp_ge (tgt := 47) dX4_canAdd_7 rfl (fun c7 => ?_) (fun c7 => ?_)
    · refine r_iconst dX4_canAdd_47 li_1 ?_
      exact r_zret (v := 1) dX4_canAdd_48 rfl od_nz1 (od_lt1 (fun e e0 e1 z1 z2 => hno e e0 (by omega) z1 z2))
    · refine r_iload_n dX4_canAdd_10 rfl ?_
      refine r_iload dX4_canAdd_11 rfl ?_
      refine r_ishr dX4_canAdd_13 ?_
      refine r_iconst dX4_canAdd_14 li_1 ?_
      refine r_iand dX4_canAdd_15 ?_
      refine r_if_eq (tgt := 41) dX4_canAdd_16 rfl (fun c16 => ?_) (fun c16 => ?_)
      · refine r_iincE dX4_canAdd_41 rfl (by decide) (by first | exact od_w0 (by omega) (by omega) | exact od_wI (by omega) (by omega) | rfl) rfl ?_
        refine r_goto (tgt := 3) dX4_canAdd_44 rfl ?_
        exact ih _ ⟨by omega, by omega, fun e e0 e1 z1 z2 => by
          by_cases ce : e = d
          · rw [ce] at z1 z2
            first | exact absurd z2 (by unfold od_bit; omega) | exact absurd z1 (by unfold od_bit; omega)
          · exact hno e e0 (by omega) z1 z2⟩ (by omega)
      · refine r_aload_n dX4_canAdd_19 rfl ?_
        refine r_getR dX4_canAdd_20 fkX4_24 gf4_5 (by assumption) (by assumption) ?_
        refine r_iload dX4_canAdd_23 rfl ?_
        refine r_iald dX4_canAdd_25 (by assumption) (by omega) (by (repeat (first | rewrite [od_upn (by omega)] | rewrite [od_up_at, if_pos (by omega)] | rewrite [od_up_at, if_neg (by omega)])); rfl) ?_
        refine r_aload_n dX4_canAdd_26 rfl ?_
        refine r_iload dX4_canAdd_27 rfl ?_
        refine r_iload_n dX4_canAdd_29 rfl ?_
        refine r_callV2i dX4_canAdd_30 cvX4_142 (by assumption) (c_X6_beatIn (by assumption) _ _) (by decide) (Nat.le_of_ble_eq_true rfl) od_le.rf ?_
        refine r_ishr dX4_canAdd_33 ?_
        refine r_iconst dX4_canAdd_34 li_1 ?_
        refine r_iand dX4_canAdd_35 ?_
        refine r_if_eq (tgt := 41) dX4_canAdd_36 rfl (fun c36 => ?_) (fun c36 => ?_)
        · refine r_iincE dX4_canAdd_41 rfl (by decide) (by first | exact od_w0 (by omega) (by omega) | exact od_wI (by omega) (by omega) | rfl) rfl ?_
          refine r_goto (tgt := 3) dX4_canAdd_44 rfl ?_
          exact ih _ ⟨by omega, by omega, fun e e0 e1 z1 z2 => by
            by_cases ce : e = d
            · rw [ce] at z1 z2
              first | exact absurd z2 (by unfold od_bit; omega) | exact absurd z1 (by unfold od_bit; omega)
            · exact hno e e0 (by omega) z1 z2⟩ (by omega)
        · refine r_iconst dX4_canAdd_39 li_0 ?_
          exact r_zret (v := 0) dX4_canAdd_40 rfl od_nz0 (od_lt0 (fun z => z d hi0 (by omega) (by assumption) (by assumption)))
set_option maxRecDepth 10000 in
theorem c_X4_canAdd {E : od_E} {g : od_G} {s : Int} {q : Int} (hq : RoAt E q s) {k : Int} (hs : StAt E k) (ms h : Int) : od_Ct 3 mX4_canAdd [(2, q), (2, k), (0, ms), (0, h)] E g (some (0, od_b (cCan g q k ms h)), E, g) := by
  have hq0 := hq
  obtain ⟨hkq, qa, qb, qc, qd, qe, qf, qg, l1, l2, l3, l4, l5, l6⟩ := hq
  have hs0 := hs
  obtain ⟨hk, r0, r1, r2, r3, r4, r5, r6, r7, a1, a2, a3, a4, a5, a6, a7, a8⟩ := hs
  refine od_ctI pnX4 rfl (Nat.le_of_ble_eq_true rfl) od_le.rf ?_
  show od_R _ _ _ _ _ 0 [some (2, q), some (2, k), some (0, ms), some (0, h), none] [] E g
  refine r_iconst dX4_canAdd_0 li_0 ?_
  refine r_istore dX4_canAdd_1 (by decide) rfl ?_
  exact lp_X4_can hq0 hs0 ms h _ _ ⟨by omega, by omega, fun e e0 e1 => by omega⟩ (Nat.lt_succ_self _)
def cMs (C : Int → Int) (st h : Int) : Int := od_and st (od_xor (cBt C h) (-1))
/-- no missing pin of an hour is barred -/
def cOk (g : od_G) (k t : Int) (sn : Nat) (C : Int → Int) (st h : Int) : Prop := ∀ d : Int, 0 ≤ d → d < 6 → od_bit (cMs C st h) d → ¬ cBar g k t sn st d (cBeatIn g k d h)
noncomputable def cFn (P : Int → Prop) (N : Int → Int) : Nat → Int × Int
  | 0 => (7, -1)
  | n + 1 => @ite (Int × Int) (0 < (cFn P N n).1 ∧ N n < (cFn P N n).1 ∧ P n) (Classical.propDecidable _) (N n, (n : Int)) (cFn P N n)
theorem cFn_z {P : Int → Prop} {N : Int → Int} {n : Nat} (h : (cFn P N n).1 ≤ 0) : ∀ m : Nat, n ≤ m → cFn P N m = cFn P N n := by
  intro m hm
  obtain ⟨j, rfl⟩ := Nat.exists_eq_add_of_le hm
  clear hm
  induction j with
  | zero => rfl
  | succ j ih =>
    rw [← Nat.add_assoc]
    simp only [cFn]
    rw [if_neg (by rw [ih]; omega), ih]
def cFA (x : Int × Int) (w : Int) : Int := if x.2 = -1 then -1 else if w = 0 then x.1 else x.2
theorem cBeatIn_b {g : od_G} {k d h : Int} (hI : CI g k) (h0 : 0 ≤ h ∧ h ≤ 100000) : 0 ≤ cBeatIn g k d h ∧ cBeatIn g k d h < 12 := by
  by_cases c : cHas g k d
  · have q := hI.has c
    by_cases cs : cStop g k d
    · unfold cBeatIn
      rw [od_ite_t ⟨c, by omega⟩, od_ite_t cs]
      omega
    · rw [cBeatIn_u hI c cs h0]
      have := od_tmb (x := g (k + 3) d + h) (L := g (k + 1) d) (by omega) (by omega)
      omega
  · unfold cBeatIn
    rw [od_ite_f (fun z => c z.1)]
    omega
set_option maxRecDepth 10000 in
theorem lp_X4_fp {E : od_E} {g gw : od_G} {s : Int} (ha : AsAt E s) {q : Int} (hq : RoAt E q s) {H : Int} {C : Int → Int} (hC : RdC g q H C) {k : Int} (hs : StAt E k) (o1 : k + 9 ≤ s) (o2 : s + 4 ≤ q) (hI : CI g k) {cn sn : Nat} (hlaw : LawOk E g s (cLawOf g k (g k 11)) cn sn) (hqt : (cLawOf g k (g k 11)) ≠ -1 → q + 7 ≤ (cLawOf g k (g k 11))) (st w : Int) (hfr : od_fr (fun x _ => x = s + 2 ∨ x = s + 3 ∨ x = q + 5) g gw) (hw : ∀ e j : Int, 0 ≤ e → e < 6 → 0 ≤ j → j < 12 → (od_bit (gw (q + 5) e) j ↔ cBar g k (cLawOf g k (g k 11)) sn st e j)) : ∀ (m : Nat) (h fw fi : Int) (L7 : Option od_V), (0 ≤ h ∧ h ≤ H ∧ (fw, fi) = cFn (cOk g k (cLawOf g k (g k 11)) sn C st) (fun h => od_bc (cMs C st h)) h.toNat) → ((H - h).toNat) < m → od_Rq 6 mX4_fewestPins od_Z0 E (E, fun v g' => v = some (0, cFA (cFn (cOk g k (cLawOf g k (g k 11)) sn C st) (fun h => od_bc (cMs C st h)) H.toNat) w) ∧ od_fr (fun x _ => x = s + 2 ∨ x = s + 3 ∨ x = q + 5) g g') 16 [some (2, q), some (2, k), some (0, st), some (0, w), some (0, fw), some (0, fi), some (0, h), L7] [] E gw := by
  have ha0 := ha
  obtain ⟨hka, w0, w1, hu, w3⟩ := ha
  have hu7 := hu.1
  have hq0 := hq
  obtain ⟨hkq, qa, qb, qc, qd, qe, qf, qg, l1, l2, l3, l4, l5, l6⟩ := hq
  have hC0 := hC
  obtain ⟨r9, rH, r7, r8, rc, rb⟩ := hC
  have hs0 := hs
  obtain ⟨hk, r0, r1, r2, r3, r4, r5, r6, r7, a1, a2, a3, a4, a5, a6, a7, a8⟩ := hs
  intro m
  induction m with
  | zero => intro h fw fi L7 hi hM; exact absurd hM (Nat.not_lt_zero _)
  | succ m ih =>
    intro h fw fi L7 hi hM
    obtain ⟨hi0, hi1, hf⟩ := hi
    have hCw : RdC gw q H C := hC0.e (hfr.row (fun y z => by omega)) (hfr.row (fun y z => by omega)) (hfr.row (fun y z => by omega))
    have e9 : gw q 9 = H := hCw.1
    have eS : StEq g gw k := StEq.of hfr (fun x y z => by omega)
    have hs1 : cFn (cOk g k (cLawOf g k (g k 11)) sn C st) (fun h => od_bc (cMs C st h)) (h + 1).toNat = @ite (Int × Int) (0 < fw ∧ od_bc (cMs C st h) < fw ∧ (cOk g k (cLawOf g k (g k 11)) sn C st) h) (Classical.propDecidable _) (od_bc (cMs C st h), h) (fw, fi) := by
      rw [show (h + 1).toNat = h.toNat + 1 by omega]
      simp only [cFn]
      rw [← hf, show ((h.toNat : Nat) : Int) = h by omega]
    have hcan : h ≤ 100000 → (cCan gw q k (cMs C st h) h ↔ (cOk g k (cLawOf g k (g k 11)) sn C st) h) := fun hh => by
      unfold cCan cOk
      constructor
      · intro z d d0 d1 b1 b2
        have bb := cBeatIn_b (d := d) hI ⟨hi0, hh⟩
        refine z d d0 d1 b1 ?_
        rw [cBeatIn_e eS, hw d _ d0 d1 (by omega) (by omega)]
        exact b2
      · intro z d d0 d1 b1 b2
        have bb := cBeatIn_b (d := d) hI ⟨hi0, hh⟩
        rw [cBeatIn_e eS, hw d _ d0 d1 (by omega) (by omega)] at b2
        exact z d d0 d1 b1 b2
    refine r_iload dX4_fewestPins_16 rfl ?_
    refine r_aload_n dX4_fewestPins_18 rfl ?_
    refine r_getIj (j := 9) rfl dX4_fewestPins_19 fkX4_38 gf4_9 (by assumption) (by (repeat (first | rewrite [od_upn (by omega)] | rewrite [od_up_at, if_pos (by omega)] | rewrite [od_up_at, if_neg (by omega)])); rfl) ?_
    rw [e9]
    refine r_icmp_ge (tgt := 81) dX4_fewestPins_22 rfl (fun c22 => ?_) (fun c22 => ?_)
    · have hE : cFn (cOk g k (cLawOf g k (g k 11)) sn C st) (fun h => od_bc (cMs C st h)) H.toNat = (fw, fi) := by
        first
        | rw [show H = h by omega, ← hf]
        | (rw [cFn_z (n := h.toNat) (by rw [← hf]; simp only []; omega) H.toNat (by omega), ← hf])
      rw [hE]
      refine r_iload dX4_fewestPins_81 rfl ?_
      refine r_iconst dX4_fewestPins_83 li_m1 ?_
      refine r_icmp_ne (tgt := 89) dX4_fewestPins_84 rfl (fun c84 => ?_) (fun c84 => ?_)
      · refine r_iload_n dX4_fewestPins_89 rfl ?_
        refine r_if_ne (tgt := 98) dX4_fewestPins_90 rfl (fun c90 => ?_) (fun c90 => ?_)
        · refine r_iload dX4_fewestPins_98 rfl ?_
          refine r_iretq dX4_fewestPins_100 rfl rfl ⟨?_, hfr⟩
          unfold cFA
          first | rw [if_pos (by assumption)] | rw [if_neg (by assumption), if_pos (by assumption)] | rw [if_neg (by assumption), if_neg (by assumption)]
        · refine r_iload dX4_fewestPins_93 rfl ?_
          refine r_goto (tgt := 100) dX4_fewestPins_95 rfl ?_
          refine r_iretq dX4_fewestPins_100 rfl rfl ⟨?_, hfr⟩
          unfold cFA
          first | rw [if_pos (by assumption)] | rw [if_neg (by assumption), if_pos (by assumption)] | rw [if_neg (by assumption), if_neg (by assumption)]
      · refine r_iconst dX4_fewestPins_87 li_m1 ?_
        refine r_iretq dX4_fewestPins_88 rfl rfl ⟨?_, hfr⟩
        unfold cFA
        first | rw [if_pos (by assumption)] | rw [if_neg (by assumption), if_pos (by assumption)] | rw [if_neg (by assumption), if_neg (by assumption)]
    · refine r_iload dX4_fewestPins_25 rfl ?_
      refine r_if_le (tgt := 81) dX4_fewestPins_27 rfl (fun c27 => ?_) (fun c27 => ?_)
      · have hE : cFn (cOk g k (cLawOf g k (g k 11)) sn C st) (fun h => od_bc (cMs C st h)) H.toNat = (fw, fi) := by
          first
          | rw [show H = h by omega, ← hf]
          | (rw [cFn_z (n := h.toNat) (by rw [← hf]; simp only []; omega) H.toNat (by omega), ← hf])
        rw [hE]
        refine r_iload dX4_fewestPins_81 rfl ?_
        refine r_iconst dX4_fewestPins_83 li_m1 ?_
        refine r_icmp_ne (tgt := 89) dX4_fewestPins_84 rfl (fun c84 => ?_) (fun c84 => ?_)
        · refine r_iload_n dX4_fewestPins_89 rfl ?_
          refine r_if_ne (tgt := 98) dX4_fewestPins_90 rfl (fun c90 => ?_) (fun c90 => ?_)
          · refine r_iload dX4_fewestPins_98 rfl ?_
            refine r_iretq dX4_fewestPins_100 rfl rfl ⟨?_, hfr⟩
            unfold cFA
            first | rw [if_pos (by assumption)] | rw [if_neg (by assumption), if_pos (by assumption)] | rw [if_neg (by assumption), if_neg (by assumption)]
          · refine r_iload dX4_fewestPins_93 rfl ?_
            refine r_goto (tgt := 100) dX4_fewestPins_95 rfl ?_
            refine r_iretq dX4_fewestPins_100 rfl rfl ⟨?_, hfr⟩
            unfold cFA
            first | rw [if_pos (by assumption)] | rw [if_neg (by assumption), if_pos (by assumption)] | rw [if_neg (by assumption), if_neg (by assumption)]
        · refine r_iconst dX4_fewestPins_87 li_m1 ?_
          refine r_iretq dX4_fewestPins_88 rfl rfl ⟨?_, hfr⟩
          unfold cFA
          first | rw [if_pos (by assumption)] | rw [if_neg (by assumption), if_pos (by assumption)] | rw [if_neg (by assumption), if_neg (by assumption)]
      · refine r_iload_n dX4_fewestPins_30 rfl ?_
        refine r_aload_n dX4_fewestPins_31 rfl ?_
        refine r_iload dX4_fewestPins_32 rfl ?_
        refine r_callV1i dX4_fewestPins_34 cvX4_99 (by assumption) (c_X4_strikersIn hq0 hCw _ (by omega)) (by decide) (Nat.le_of_ble_eq_true rfl) od_le.rf ?_
        refine r_iconst dX4_fewestPins_37 li_m1 ?_
        refine r_ixor dX4_fewestPins_38 ?_
        refine r_iand dX4_fewestPins_39 ?_
        show od_Rq _ _ _ _ _ _ _ ((0, cMs C st h) :: _) _ _
        refine r_istore dX4_fewestPins_40 (by decide) rfl ?_
        refine r_iload dX4_fewestPins_42 rfl ?_
        refine r_callS1i dX4_fewestPins_44 csX4_112 (c_J6_bitCount_0f7a4 _) (by decide) (Nat.le_of_ble_eq_true rfl) od_le.rf ?_
        refine r_iload dX4_fewestPins_47 rfl ?_
        refine r_icmp_ge (tgt := 75) dX4_fewestPins_49 rfl (fun c49 => ?_) (fun c49 => ?_)
        · refine r_iincE dX4_fewestPins_75 rfl (by decide) (by first | exact od_w0 (by omega) (by omega) | exact od_wI (by omega) (by omega) | rfl) rfl ?_
          refine r_goto (tgt := 16) dX4_fewestPins_78 rfl ?_
          refine ih _ _ _ _ ⟨by omega, by omega, ?_⟩ (by omega)
          rw [hs1]
          first
          | rw [if_neg (fun z => by have z1 := z.1; have z2 := z.2.1; omega)]
          | exact (if_pos ⟨by omega, by omega, (hcan (by omega)).mp q58⟩).symm
          | exact (if_neg (fun z => q58 ((hcan (by omega)).mpr z.2.2))).symm
        · refine r_aload_n dX4_fewestPins_52 rfl ?_
          refine r_aload_n dX4_fewestPins_53 rfl ?_
          refine r_iload dX4_fewestPins_54 rfl ?_
          refine r_iload dX4_fewestPins_56 rfl ?_
          refine r_callV3b dX4_fewestPins_58 cvX4_124 (by assumption) (c_X4_canAdd hq0 hs0 _ _) (by decide) (Nat.le_of_ble_eq_true rfl) od_le.rf (fun q58 => ?_) (fun q58 => ?_)
          · refine r_if_eq (tgt := 75) dX4_fewestPins_61 rfl (fun h => absurd h (by decide)) (fun _ => ?_)
            refine r_iload dX4_fewestPins_64 rfl ?_
            refine r_callS1i dX4_fewestPins_66 csX4_112 (c_J6_bitCount_0f7a4 _) (by decide) (Nat.le_of_ble_eq_true rfl) od_le.rf ?_
            refine r_istore dX4_fewestPins_69 (by decide) rfl ?_
            refine r_iload dX4_fewestPins_71 rfl ?_
            refine r_istore dX4_fewestPins_73 (by decide) rfl ?_
            refine r_iincE dX4_fewestPins_75 rfl (by decide) (by first | exact od_w0 (by omega) (by omega) | exact od_wI (by omega) (by omega) | rfl) rfl ?_
            refine r_goto (tgt := 16) dX4_fewestPins_78 rfl ?_
            refine ih _ _ _ _ ⟨by omega, by omega, ?_⟩ (by omega)
            rw [hs1]
            first
            | rw [if_neg (fun z => by have z1 := z.1; have z2 := z.2.1; omega)]
            | exact (if_pos ⟨by omega, by omega, (hcan (by omega)).mp q58⟩).symm
            | exact (if_neg (fun z => q58 ((hcan (by omega)).mpr z.2.2))).symm
          · refine r_if_eq (tgt := 75) dX4_fewestPins_61 rfl (fun _ => ?_) (fun h => absurd h (by decide))
            refine r_iincE dX4_fewestPins_75 rfl (by decide) (by first | exact od_w0 (by omega) (by omega) | exact od_wI (by omega) (by omega) | rfl) rfl ?_
            refine r_goto (tgt := 16) dX4_fewestPins_78 rfl ?_
            refine ih _ _ _ _ ⟨by omega, by omega, ?_⟩ (by omega)
            rw [hs1]
            first
            | rw [if_neg (fun z => by have z1 := z.1; have z2 := z.2.1; omega)]
            | exact (if_pos ⟨by omega, by omega, (hcan (by omega)).mp q58⟩).symm
            | exact (if_neg (fun z => q58 ((hcan (by omega)).mpr z.2.2))).symm
set_option maxRecDepth 10000 in
theorem c_X4_fewestPins {E : od_E} {g : od_G} {s : Int} (ha : AsAt E s) {q : Int} (hq : RoAt E q s) {H : Int} {C : Int → Int} (hC : RdC g q H C) {k : Int} (hs : StAt E k) (o1 : k + 9 ≤ s) (o2 : s + 4 ≤ q) (hI : CI g k) {cn sn : Nat} (hlaw : LawOk E g s (cLawOf g k (g k 11)) cn sn) (hqt : (cLawOf g k (g k 11)) ≠ -1 → q + 7 ≤ (cLawOf g k (g k 11))) (st w : Int) : od_Cq 6 mX4_fewestPins [(2, q), (2, k), (0, st), (0, w)] E g (E, fun v g' => v = some (0, cFA (cFn (cOk g k (cLawOf g k (g k 11)) sn C st) (fun h => od_bc (cMs C st h)) H.toNat) w) ∧ od_fr (fun x _ => x = s + 2 ∨ x = s + 3 ∨ x = q + 5) g g') := by
  have ha0 := ha
  obtain ⟨hka, w0, w1, hu, w3⟩ := ha
  have hu7 := hu.1
  have hq0 := hq
  obtain ⟨hkq, qa, qb, qc, qd, qe, qf, qg, l1, l2, l3, l4, l5, l6⟩ := hq
  have hC0 := hC
  obtain ⟨r9, rH, r7, r8, rc, rb⟩ := hC
  have hs0 := hs
  obtain ⟨hk, r0, r1, r2, r3, r4, r5, r6, r7, a1, a2, a3, a4, a5, a6, a7, a8⟩ := hs
  refine od_cqI pnX4 rfl (Nat.le_of_ble_eq_true rfl) od_le.rf ?_
  show od_Rq 6 mX4_fewestPins od_Z0 E (E, fun v g' => v = some (0, cFA (cFn (cOk g k (cLawOf g k (g k 11)) sn C st) (fun h => od_bc (cMs C st h)) H.toNat) w) ∧ od_fr (fun x _ => x = s + 2 ∨ x = s + 3 ∨ x = q + 5) g g') 0 [some (2, q), some (2, k), some (0, st), some (0, w), none, none, none, none] [] E g
  refine r_aload_n dX4_fewestPins_0 rfl ?_
  refine r_aload_n dX4_fewestPins_1 rfl ?_
  refine r_iload_n dX4_fewestPins_2 rfl ?_
  refine r_callV2p dX4_fewestPins_3 cvX4_120 (by assumption) (c_X4_setBarred (cn := cn) (sn := sn) ha0 hq0 hs0 o1 o2 hlaw hqt _) (by decide) (Nat.le_of_ble_eq_true rfl) od_le.rf (fun r3 g3 h3 => ?_)
  obtain ⟨rfl, f3, w3x⟩ := h3
  show od_Rq _ _ _ _ _ _ _ [] _ _
  refine r_bipush dX4_fewestPins_6 lb_7 ?_
  refine r_istore dX4_fewestPins_8 (by decide) rfl ?_
  refine r_iconst dX4_fewestPins_10 li_m1 ?_
  refine r_istore dX4_fewestPins_11 (by decide) rfl ?_
  refine r_iconst dX4_fewestPins_13 li_0 ?_
  refine r_istore dX4_fewestPins_14 (by decide) rfl ?_
  exact lp_X4_fp ha0 hq0 hC0 hs0 o1 o2 hI hlaw hqt st w f3 w3x _ _ _ _ _ ⟨by omega, by omega, rfl⟩ (Nat.lt_succ_self _)
set_option maxRecDepth 10000 in
theorem c_X4_layStrikes {E : od_E} {g : od_G} {s : Int} (ha : AsAt E s) {q : Int} (hq : RoAt E q s) {k : Int} (hs : StAt E k) (o1 : k + 9 ≤ s) (o2 : s + 4 ≤ q) (hI : CI g k) : od_Cq 7 mX4_layStrikes [(2, q), (2, k)] E g (E, fun v g' => v = none ∧ od_fr (fun x _ => x = s + 2 ∨ x = s + 3 ∨ (q ≤ x ∧ x ≤ q + 3)) g g' ∧ RdQ g g' q k (-1) 0 0) := by
  have ha0 := ha
  obtain ⟨hka, w0, w1, hu, w3⟩ := ha
  have hu7 := hu.1
  have hq0 := hq
  obtain ⟨hkq, qa, qb, qc, qd, qe, qf, qg, l1, l2, l3, l4, l5, l6⟩ := hq
  have hs0 := hs
  obtain ⟨hk, r0, r1, r2, r3, r4, r5, r6, r7, a1, a2, a3, a4, a5, a6, a7, a8⟩ := hs
  refine od_cqI pnX4 rfl (Nat.le_of_ble_eq_true rfl) od_le.rf ?_
  show od_Rq 7 mX4_layStrikes od_Z0 E (E, fun v g' => v = none ∧ od_fr (fun x _ => x = s + 2 ∨ x = s + 3 ∨ (q ≤ x ∧ x ≤ q + 3)) g g' ∧ RdQ g g' q k (-1) 0 0) 0 [some (2, q), some (2, k)] [] E g
  refine r_aload_n dX4_layStrikes_0 rfl ?_
  refine r_aload_n dX4_layStrikes_1 rfl ?_
  refine r_null dX4_layStrikes_2 ?_
  refine r_iconst dX4_layStrikes_3 li_0 ?_
  refine r_callV3p dX4_layStrikes_4 cvX4_45 (by assumption) (c_X4_lay (cn := 0) (sn := 0) ha0 hq0 hs0 o1 o2 (Or.inl rfl) (fun z => absurd rfl z) 0 (Or.inl rfl) hI) (by decide) (Nat.le_of_ble_eq_true rfl) od_le.rf (fun r4 g4 h4 => ?_)
  obtain ⟨rfl, f4, w4⟩ := h4
  show od_Rq _ _ _ _ _ _ _ [] _ _
  exact r_vretq dX4_layStrikes_7 rfl rfl ⟨rfl, f4, w4⟩
set_option maxRecDepth 10000 in
theorem c_X4_laySounds {E : od_E} {g : od_G} {s : Int} (ha : AsAt E s) {q : Int} (hq : RoAt E q s) {k : Int} (hs : StAt E k) (o1 : k + 9 ≤ s) (o2 : s + 4 ≤ q) (hI : CI g k) {t : Int} {cn sn : Nat} (hlaw : LawOk E g s t cn sn) (hqt : t ≠ -1 → q + 7 ≤ t) : od_Cq 7 mX4_laySounds [(2, q), (2, k), (2, t)] E g (E, fun v g' => v = none ∧ od_fr (fun x _ => x = s + 2 ∨ x = s + 3 ∨ (q ≤ x ∧ x ≤ q + 3)) g g' ∧ RdQ g g' q k t sn 1) := by
  have ha0 := ha
  obtain ⟨hka, w0, w1, hu, w3⟩ := ha
  have hu7 := hu.1
  have hq0 := hq
  obtain ⟨hkq, qa, qb, qc, qd, qe, qf, qg, l1, l2, l3, l4, l5, l6⟩ := hq
  have hs0 := hs
  obtain ⟨hk, r0, r1, r2, r3, r4, r5, r6, r7, a1, a2, a3, a4, a5, a6, a7, a8⟩ := hs
  refine od_cqI pnX4 rfl (Nat.le_of_ble_eq_true rfl) od_le.rf ?_
  show od_Rq 7 mX4_laySounds od_Z0 E (E, fun v g' => v = none ∧ od_fr (fun x _ => x = s + 2 ∨ x = s + 3 ∨ (q ≤ x ∧ x ≤ q + 3)) g g' ∧ RdQ g g' q k t sn 1) 0 [some (2, q), some (2, k), some (2, t)] [] E g
  refine r_aload_n dX4_laySounds_0 rfl ?_
  refine r_aload_n dX4_laySounds_1 rfl ?_
  refine r_aload_n dX4_laySounds_2 rfl ?_
  refine r_iconst dX4_laySounds_3 li_1 ?_
  refine r_callV3p dX4_laySounds_4 cvX4_45 (by assumption) (c_X4_lay (cn := cn) (sn := sn) ha0 hq0 hs0 o1 o2 hlaw hqt 1 (Or.inr rfl) hI) (by decide) (Nat.le_of_ble_eq_true rfl) od_le.rf (fun r4 g4 h4 => ?_)
  obtain ⟨rfl, f4, w4⟩ := h4
  show od_Rq _ _ _ _ _ _ _ [] _ _
  exact r_vretq dX4_laySounds_7 rfl rfl ⟨rfl, f4, w4⟩
