/-! Round: never, add, tune -/
def cIsT (g : od_G) (q st : Int) : Prop := ∃ x : Int, 0 ≤ x ∧ x < 64 ∧ g (q + 6) x ≠ 0 ∧ od_and x st = st
/-- some hour's drums are all of a set -/
def cTg (C : Int → Int) (H st : Int) : Prop := ∃ h : Int, 0 ≤ h ∧ h < H ∧ od_and (cBt C h) st = st
/-- of the sets up to n the fewest drums for which T isn't, the lowest; 0: none -/
noncomputable def cNv (T : Int → Prop) : Nat → Int
  | 0 => 0
  | n + 1 => od_ite ((cNv T n = 0 ∨ od_bc ((n : Int) + 1) < od_bc (cNv T n)) ∧ ¬ T ((n : Int) + 1)) ((n : Int) + 1) (cNv T n)
theorem cNv_c {T S : Int → Prop} (n : Nat) (h : ∀ i : Int, 0 < i → i ≤ n → (T i ↔ S i)) : cNv T n = cNv S n := by
  induction n with
  | zero => rfl
  | succ n ih =>
    simp only [cNv]
    rw [ih (fun i i0 i1 => h i i0 (by omega)), propext (h ((n : Int) + 1) (by omega) (by omega))]
set_option maxRecDepth 10000 in
theorem lp_X4_it {E : od_E} {g : od_G} {q s : Int} (hq : RoAt E q s) (st : Int) : ∀ (m : Nat) (x : Int), (0 ≤ x ∧ x ≤ 64 ∧ ∀ j : Int, 0 ≤ j → j < x → ¬ (g (q + 6) j ≠ 0 ∧ od_and j st = st)) → ((64 - x).toNat) < m → od_R 1 mX4_isTogether od_Z0 E (some (0, od_b (cIsT g q st)), E, g) 2 [some (2, q), some (0, st), some (0, x)] [] E g := by
  have hq0 := hq
  obtain ⟨hkq, qa, qb, qc, qd, qe, qf, qg, l1, l2, l3, l4, l5, l6⟩ := hq
  intro m
  induction m with
  | zero => intro x hi hM; exact absurd hM (Nat.not_lt_zero _)
  | succ m ih =>
    intro x hi hM
    obtain ⟨hi0, hi1, hno⟩ := hi
    refine r_iload_n dX4_isTogether_2 rfl ?_
    refine r_bipush dX4_isTogether_3 lb_64 ?_
    refine r_icmp_ge (tgt := 32) dX4_isTogether_5 rfl (fun c5 => ?_) (fun c5 => ?_)
    · refine r_iconst dX4_isTogether_32 li_0 ?_
      exact r_zret (v := 0) dX4_isTogether_33 rfl od_nz0 (od_lt0 (by rintro ⟨j, j0, j1, j2, j3⟩; exact hno j j0 (by omega) ⟨j2, j3⟩))
    · refine r_aload_n dX4_isTogether_8 rfl ?_
      refine r_getR dX4_isTogether_9 fkX4_27 gf4_6 (by assumption) (by assumption) ?_
      refine r_iload_n dX4_isTogether_12 rfl ?_
      refine r_zald dX4_isTogether_13 (by assumption) (by omega) (by (repeat (first | rewrite [od_upn (by omega)] | rewrite [od_up_at, if_pos (by omega)] | rewrite [od_up_at, if_neg (by omega)])); rfl) ?_
      refine r_if_eq (tgt := 26) dX4_isTogether_14 rfl (fun c14 => ?_) (fun c14 => ?_)
      · refine r_iincE dX4_isTogether_26 rfl (by decide) (by first | exact od_w0 (by omega) (by omega) | exact od_wI (by omega) (by omega) | rfl) rfl ?_
        refine r_goto (tgt := 2) dX4_isTogether_29 rfl ?_
        exact ih _ ⟨by omega, by omega, fun j j0 j1 z => by
          by_cases cj : j = x
          · rw [cj] at z
            first | exact absurd z.2 (by assumption) | exact absurd (by assumption) z.1
          · exact hno j j0 (by omega) z⟩ (by omega)
      · refine r_iload_n dX4_isTogether_17 rfl ?_
        refine r_iload_n dX4_isTogether_18 rfl ?_
        refine r_iand dX4_isTogether_19 ?_
        refine r_iload_n dX4_isTogether_20 rfl ?_
        refine r_icmp_ne (tgt := 26) dX4_isTogether_21 rfl (fun c21 => ?_) (fun c21 => ?_)
        · refine r_iincE dX4_isTogether_26 rfl (by decide) (by first | exact od_w0 (by omega) (by omega) | exact od_wI (by omega) (by omega) | rfl) rfl ?_
          refine r_goto (tgt := 2) dX4_isTogether_29 rfl ?_
          exact ih _ ⟨by omega, by omega, fun j j0 j1 z => by
            by_cases cj : j = x
            · rw [cj] at z
              first | exact absurd z.2 (by assumption) | exact absurd (by assumption) z.1
            · exact hno j j0 (by omega) z⟩ (by omega)
        · refine r_iconst dX4_isTogether_24 li_1 ?_
          exact r_zret (v := 1) dX4_isTogether_25 rfl od_nz1 (od_lt1 ⟨x, hi0, by omega, by assumption, by assumption⟩)
set_option maxRecDepth 10000 in
theorem c_X4_isTogether {E : od_E} {g : od_G} {q s : Int} (hq : RoAt E q s) (st : Int) : od_Ct 1 mX4_isTogether [(2, q), (0, st)] E g (some (0, od_b (cIsT g q st)), E, g) := by
  have hq0 := hq
  obtain ⟨hkq, qa, qb, qc, qd, qe, qf, qg, l1, l2, l3, l4, l5, l6⟩ := hq
  refine od_ctI pnX4 rfl (Nat.le_of_ble_eq_true rfl) od_le.rf ?_
  show od_R _ _ _ _ _ 0 [some (2, q), some (0, st), none] [] E g
  refine r_iconst dX4_isTogether_0 li_0 ?_
  refine r_istore_n dX4_isTogether_1 (by decide) rfl ?_
  exact lp_X4_it hq0 st _ _ ⟨by omega, by omega, fun j j0 j1 => by omega⟩ (Nat.lt_succ_self _)
theorem od_sh7 {n : Int} (h : 0 ≤ n ∧ n ≤ 6) : 1 ≤ od_shl 1 n ∧ od_shl 1 n ≤ 64 := by
  rcases (by omega : n = 0 ∨ n = 1 ∨ n = 2 ∨ n = 3 ∨ n = 4 ∨ n = 5 ∨ n = 6) with rfl | rfl | rfl | rfl | rfl | rfl | rfl <;> decide
theorem cBt_b (C : Int → Int) (h : Int) : 0 ≤ cBt C h ∧ cBt C h ≤ 63 := od_and_le _ 63 (by omega)
set_option maxRecDepth 10000 in
theorem lp_X4_n3 {E : od_E} {g gw : od_G} {q s : Int} (hq : RoAt E q s) {H : Int} {C : Int → Int} (hC : RdC g q H C) (n : Int) (hn : 0 ≤ n ∧ n ≤ 6) (hfr : od_fr (fun x _ => x = q + 6) g gw) (ht : ∀ x : Int, 0 ≤ x → x < 64 → (gw (q + 6) x ≠ 0 ↔ ∃ h : Int, 0 ≤ h ∧ h < H ∧ cBt C h = x)) : ∀ (m : Nat) (st b : Int), (1 ≤ st ∧ st ≤ od_shl 1 n ∧ b = cNv (cTg C H) (st - 1).toNat) → ((od_shl 1 n - st).toNat) < m → od_Rq 3 mX4_neverTogether od_Z0 E (E, fun v g' => v = some (0, cNv (cTg C H) (od_shl 1 n - 1).toNat) ∧ od_fr (fun x _ => x = q + 6) g g') 52 [some (2, q), some (0, n), some (0, b), some (0, st)] [] E gw := by
  have hq0 := hq
  obtain ⟨hkq, qa, qb, qc, qd, qe, qf, qg, l1, l2, l3, l4, l5, l6⟩ := hq
  have hC0 := hC
  obtain ⟨r9, rH, r7, r8, rc, rb⟩ := hC
  intro m
  induction m with
  | zero => intro st b hi hM; exact absurd hM (Nat.not_lt_zero _)
  | succ m ih =>
    intro st b hi hM
    obtain ⟨hi0, hi1, hb⟩ := hi
    have s7 := od_sh7 hn
    have hs1 : cNv (cTg C H) (st + 1 - 1).toNat = od_ite ((b = 0 ∨ od_bc st < od_bc b) ∧ ¬ cTg C H st) st b := by
      rw [show (st + 1 - 1).toNat = (st - 1).toNat + 1 by omega]
      simp only [cNv]
      rw [← hb, show (((st - 1).toNat : Nat) : Int) + 1 = st by omega]
    have hT : cIsT gw q st ↔ cTg C H st := by
      constructor
      · rintro ⟨x, x0, x1, x2, x3⟩
        obtain ⟨h, h0, h1, h2⟩ := (ht x x0 x1).mp x2
        exact ⟨h, h0, h1, by rw [h2]; exact x3⟩
      · rintro ⟨h, h0, h1, h2⟩
        have := cBt_b C h
        exact ⟨cBt C h, by omega, by omega, (ht _ (by omega) (by omega)).mpr ⟨h, h0, h1, rfl⟩, h2⟩
    refine r_iload_n dX4_neverTogether_52 rfl ?_
    refine r_iconst dX4_neverTogether_53 li_1 ?_
    refine r_iload_n dX4_neverTogether_54 rfl ?_
    refine r_ishl dX4_neverTogether_55 ?_
    refine r_icmp_ge (tgt := 96) dX4_neverTogether_56 rfl (fun c56 => ?_) (fun c56 => ?_)
    · refine r_iload_n dX4_neverTogether_96 rfl ?_
      refine r_iretq dX4_neverTogether_97 rfl rfl ⟨?_, hfr⟩
      rw [hb, show od_shl 1 n = st by omega]
    · refine r_iload_n dX4_neverTogether_59 rfl ?_
      refine r_bipush dX4_neverTogether_60 lb_64 ?_
      refine r_icmp_ge (tgt := 96) dX4_neverTogether_62 rfl (fun c62 => ?_) (fun c62 => ?_)
      · refine r_iload_n dX4_neverTogether_96 rfl ?_
        refine r_iretq dX4_neverTogether_97 rfl rfl ⟨?_, hfr⟩
        rw [hb, show od_shl 1 n = st by omega]
      · refine r_iload_n dX4_neverTogether_65 rfl ?_
        refine r_if_eq (tgt := 80) dX4_neverTogether_66 rfl (fun c66 => ?_) (fun c66 => ?_)
        · refine r_aload_n dX4_neverTogether_80 rfl ?_
          refine r_iload_n dX4_neverTogether_81 rfl ?_
          refine r_callV1b dX4_neverTogether_82 cvX4_117 (by assumption) (c_X4_isTogether hq0 _) (by decide) (Nat.le_of_ble_eq_true rfl) od_le.rf (fun q82 => ?_) (fun q82 => ?_)
          · refine r_if_ne (tgt := 90) dX4_neverTogether_85 rfl (fun _ => ?_) (fun h => absurd h (by decide))
            refine r_iincE dX4_neverTogether_90 rfl (by decide) (by first | exact od_w0 (by omega) (by omega) | exact od_wI (by omega) (by omega) | rfl) rfl ?_
            refine r_goto (tgt := 52) dX4_neverTogether_93 rfl ?_
            refine ih _ _ ⟨by omega, by omega, ?_⟩ (by omega)
            rw [hs1]
            first
            | (rw [od_ite_t]; exact ⟨by first | exact Or.inl (by assumption) | exact Or.inr (by assumption), fun z => q82 (hT.mpr z)⟩)
            | (rw [od_ite_f (fun z => by have z1 := z.1; omega)])
            | (rw [od_ite_f (fun z => z.2 (hT.mp q82))])
          · refine r_if_ne (tgt := 90) dX4_neverTogether_85 rfl (fun h => absurd h (by decide)) (fun _ => ?_)
            refine r_iload_n dX4_neverTogether_88 rfl ?_
            refine r_istore_n dX4_neverTogether_89 (by decide) rfl ?_
            refine r_iincE dX4_neverTogether_90 rfl (by decide) (by first | exact od_w0 (by omega) (by omega) | exact od_wI (by omega) (by omega) | rfl) rfl ?_
            refine r_goto (tgt := 52) dX4_neverTogether_93 rfl ?_
            refine ih _ _ ⟨by omega, by omega, ?_⟩ (by omega)
            rw [hs1]
            first
            | (rw [od_ite_t]; exact ⟨by first | exact Or.inl (by assumption) | exact Or.inr (by assumption), fun z => q82 (hT.mpr z)⟩)
            | (rw [od_ite_f (fun z => by have z1 := z.1; omega)])
            | (rw [od_ite_f (fun z => z.2 (hT.mp q82))])
        · refine r_iload_n dX4_neverTogether_69 rfl ?_
          refine r_callS1i dX4_neverTogether_70 csX4_112 (c_J6_bitCount_0f7a4 _) (by decide) (Nat.le_of_ble_eq_true rfl) od_le.rf ?_
          refine r_iload_n dX4_neverTogether_73 rfl ?_
          refine r_callS1i dX4_neverTogether_74 csX4_112 (c_J6_bitCount_0f7a4 _) (by decide) (Nat.le_of_ble_eq_true rfl) od_le.rf ?_
          refine r_icmp_ge (tgt := 90) dX4_neverTogether_77 rfl (fun c77 => ?_) (fun c77 => ?_)
          · refine r_iincE dX4_neverTogether_90 rfl (by decide) (by first | exact od_w0 (by omega) (by omega) | exact od_wI (by omega) (by omega) | rfl) rfl ?_
            refine r_goto (tgt := 52) dX4_neverTogether_93 rfl ?_
            refine ih _ _ ⟨by omega, by omega, ?_⟩ (by omega)
            rw [hs1]
            first
            | (rw [od_ite_t]; exact ⟨by first | exact Or.inl (by assumption) | exact Or.inr (by assumption), fun z => q82 (hT.mpr z)⟩)
            | (rw [od_ite_f (fun z => by have z1 := z.1; omega)])
            | (rw [od_ite_f (fun z => z.2 (hT.mp q82))])
          · refine r_aload_n dX4_neverTogether_80 rfl ?_
            refine r_iload_n dX4_neverTogether_81 rfl ?_
            refine r_callV1b dX4_neverTogether_82 cvX4_117 (by assumption) (c_X4_isTogether hq0 _) (by decide) (Nat.le_of_ble_eq_true rfl) od_le.rf (fun q82 => ?_) (fun q82 => ?_)
            · refine r_if_ne (tgt := 90) dX4_neverTogether_85 rfl (fun _ => ?_) (fun h => absurd h (by decide))
              refine r_iincE dX4_neverTogether_90 rfl (by decide) (by first | exact od_w0 (by omega) (by omega) | exact od_wI (by omega) (by omega) | rfl) rfl ?_
              refine r_goto (tgt := 52) dX4_neverTogether_93 rfl ?_
              refine ih _ _ ⟨by omega, by omega, ?_⟩ (by omega)
              rw [hs1]
              first
              | (rw [od_ite_t]; exact ⟨by first | exact Or.inl (by assumption) | exact Or.inr (by assumption), fun z => q82 (hT.mpr z)⟩)
              | (rw [od_ite_f (fun z => by have z1 := z.1; omega)])
              | (rw [od_ite_f (fun z => z.2 (hT.mp q82))])
            · refine r_if_ne (tgt := 90) dX4_neverTogether_85 rfl (fun h => absurd h (by decide)) (fun _ => ?_)
              refine r_iload_n dX4_neverTogether_88 rfl ?_
              refine r_istore_n dX4_neverTogether_89 (by decide) rfl ?_
              refine r_iincE dX4_neverTogether_90 rfl (by decide) (by first | exact od_w0 (by omega) (by omega) | exact od_wI (by omega) (by omega) | rfl) rfl ?_
              refine r_goto (tgt := 52) dX4_neverTogether_93 rfl ?_
              refine ih _ _ ⟨by omega, by omega, ?_⟩ (by omega)
              rw [hs1]
              first
              | (rw [od_ite_t]; exact ⟨by first | exact Or.inl (by assumption) | exact Or.inr (by assumption), fun z => q82 (hT.mpr z)⟩)
              | (rw [od_ite_f (fun z => by have z1 := z.1; omega)])
              | (rw [od_ite_f (fun z => z.2 (hT.mp q82))])
set_option maxRecDepth 10000 in
theorem lp_X4_n2 {E : od_E} {g : od_G} {q s : Int} (hq : RoAt E q s) {H : Int} {C : Int → Int} (hC : RdC g q H C) (n : Int) (hn : 0 ≤ n ∧ n ≤ 6) : ∀ (m : Nat) (h : Int) (gw : od_G), (0 ≤ h ∧ h ≤ H ∧ od_fr (fun x _ => x = q + 6) g gw ∧ ∀ x : Int, 0 ≤ x → x < 64 → (gw (q + 6) x ≠ 0 ↔ ∃ j : Int, 0 ≤ j ∧ j < h ∧ cBt C j = x)) → ((H - h).toNat) < m → od_Rq 3 mX4_neverTogether od_Z0 E (E, fun v g' => v = some (0, cNv (cTg C H) (od_shl 1 n - 1).toNat) ∧ od_fr (fun x _ => x = q + 6) g g') 23 [some (2, q), some (0, n), some (0, h), none] [] E gw := by
  have hq0 := hq
  obtain ⟨hkq, qa, qb, qc, qd, qe, qf, qg, l1, l2, l3, l4, l5, l6⟩ := hq
  have hC0 := hC
  obtain ⟨r9, rH, r7, r8, rc, rb⟩ := hC
  intro m
  induction m with
  | zero => intro h gw hi hM; exact absurd hM (Nat.not_lt_zero _)
  | succ m ih =>
    intro h gw hi hM
    obtain ⟨hi0, hi1, hfr, ht⟩ := hi
    have hCw : RdC gw q H C := hC0.e (hfr.row (fun y z => by omega)) (hfr.row (fun y z => by omega)) (hfr.row (fun y z => by omega))
    have e9 : gw q 9 = H := hCw.1
    have bb := cBt_b C h
    refine r_iload_n dX4_neverTogether_23 rfl ?_
    refine r_aload_n dX4_neverTogether_24 rfl ?_
    refine r_getIj (j := 9) rfl dX4_neverTogether_25 fkX4_38 gf4_9 (by assumption) (by (repeat (first | rewrite [od_upn (by omega)] | rewrite [od_up_at, if_pos (by omega)] | rewrite [od_up_at, if_neg (by omega)])); rfl) ?_
    rw [e9]
    refine r_icmp_ge (tgt := 48) dX4_neverTogether_28 rfl (fun c28 => ?_) (fun c28 => ?_)
    · refine r_iconst dX4_neverTogether_48 li_0 ?_
      refine r_istore_n dX4_neverTogether_49 (by decide) rfl ?_
      refine r_iconst dX4_neverTogether_50 li_1 ?_
      refine r_istore_n dX4_neverTogether_51 (by decide) rfl ?_
      rw [show h = H by omega] at ht
      exact lp_X4_n3 hq0 hC0 n hn hfr ht _ _ _ ⟨by omega, by have := od_sh7 hn; omega, rfl⟩ (Nat.lt_succ_self _)
    · refine r_aload_n dX4_neverTogether_31 rfl ?_
      refine r_getR dX4_neverTogether_32 fkX4_27 gf4_6 (by assumption) (by assumption) ?_
      refine r_aload_n dX4_neverTogether_35 rfl ?_
      refine r_iload_n dX4_neverTogether_36 rfl ?_
      refine r_callV1i dX4_neverTogether_37 cvX4_99 (by assumption) (c_X4_strikersIn hq0 hCw _ (by omega)) (by decide) (Nat.le_of_ble_eq_true rfl) od_le.rf ?_
      refine r_iconst dX4_neverTogether_40 li_1 ?_
      refine r_zast dX4_neverTogether_41 (by first | exact Or.inl rfl | exact Or.inr rfl | omega | assumption) (by assumption) (by omega) ?_
      refine r_iincE dX4_neverTogether_42 rfl (by decide) (by first | exact od_w0 (by omega) (by omega) | exact od_wI (by omega) (by omega) | rfl) rfl ?_
      refine r_goto (tgt := 23) dX4_neverTogether_45 rfl ?_
      refine ih _ _ ⟨by omega, by omega, hfr.up rfl, fun x x0 x1 => ?_⟩ (by omega)
      unfold od_up
      by_cases cx : x = cBt C h
      · rw [if_pos ⟨rfl, cx⟩]
        exact ⟨fun _ => ⟨h, hi0, by omega, cx.symm⟩, fun _ => by omega⟩
      · rw [if_neg (fun z => cx z.2), ht x x0 x1]
        constructor
        · rintro ⟨j, j0, j1, j2⟩
          exact ⟨j, j0, by omega, j2⟩
        · rintro ⟨j, j0, j1, j2⟩
          by_cases cj : j = h
          · rw [cj] at j2
            exact absurd j2.symm cx
          · exact ⟨j, j0, by omega, j2⟩
set_option maxRecDepth 10000 in
theorem lp_X4_n1 {E : od_E} {g : od_G} {q s : Int} (hq : RoAt E q s) {H : Int} {C : Int → Int} (hC : RdC g q H C) (n : Int) (hn : 0 ≤ n ∧ n ≤ 6) : ∀ (m : Nat) (i : Int) (gw : od_G), (0 ≤ i ∧ i ≤ 64 ∧ od_fr (fun x _ => x = q + 6) g gw ∧ ∀ x : Int, 0 ≤ x → x < i → gw (q + 6) x = 0) → ((64 - i).toNat) < m → od_Rq 3 mX4_neverTogether od_Z0 E (E, fun v g' => v = some (0, cNv (cTg C H) (od_shl 1 n - 1).toNat) ∧ od_fr (fun x _ => x = q + 6) g g') 2 [some (2, q), some (0, n), some (0, i), none] [] E gw := by
  have hq0 := hq
  obtain ⟨hkq, qa, qb, qc, qd, qe, qf, qg, l1, l2, l3, l4, l5, l6⟩ := hq
  have hC0 := hC
  obtain ⟨r9, rH, r7, r8, rc, rb⟩ := hC
  intro m
  induction m with
  | zero => intro i gw hi hM; exact absurd hM (Nat.not_lt_zero _)
  | succ m ih =>
    intro i gw hi hM
    obtain ⟨hi0, hi1, hfr, ht⟩ := hi
    refine r_iload_n dX4_neverTogether_2 rfl ?_
    refine r_bipush dX4_neverTogether_3 lb_64 ?_
    refine r_icmp_ge (tgt := 21) dX4_neverTogether_5 rfl (fun c5 => ?_) (fun c5 => ?_)
    · refine r_iconst dX4_neverTogether_21 li_0 ?_
      refine r_istore_n dX4_neverTogether_22 (by decide) rfl ?_
      refine lp_X4_n2 hq0 hC0 n hn _ _ _ ⟨by omega, by omega, hfr, fun x x0 x1 => ?_⟩ (Nat.lt_succ_self _)
      rw [ht x x0 (by omega)]
      exact ⟨fun z => absurd rfl z, fun ⟨j, j0, j1, _⟩ => by omega⟩
    · refine r_aload_n dX4_neverTogether_8 rfl ?_
      refine r_getR dX4_neverTogether_9 fkX4_27 gf4_6 (by assumption) (by assumption) ?_
      refine r_iload_n dX4_neverTogether_12 rfl ?_
      refine r_iconst dX4_neverTogether_13 li_0 ?_
      refine r_zast dX4_neverTogether_14 (by first | exact Or.inl rfl | exact Or.inr rfl | omega | assumption) (by assumption) (by omega) ?_
      refine r_iincE dX4_neverTogether_15 rfl (by decide) (by first | exact od_w0 (by omega) (by omega) | exact od_wI (by omega) (by omega) | rfl) rfl ?_
      refine r_goto (tgt := 2) dX4_neverTogether_18 rfl ?_
      refine ih _ _ ⟨by omega, by omega, hfr.up rfl, fun x x0 x1 => ?_⟩ (by omega)
      unfold od_up
      by_cases cx : x = i
      · rw [if_pos ⟨rfl, cx⟩]
      · rw [if_neg (fun z => cx z.2), ht x x0 (by omega)]
set_option maxRecDepth 10000 in
theorem c_X4_neverTogether {E : od_E} {g : od_G} {q s : Int} (hq : RoAt E q s) {H : Int} {C : Int → Int} (hC : RdC g q H C) (n : Int) (hn : 0 ≤ n ∧ n ≤ 6) : od_Cq 3 mX4_neverTogether [(2, q), (0, n)] E g (E, fun v g' => v = some (0, cNv (cTg C H) (od_shl 1 n - 1).toNat) ∧ od_fr (fun x _ => x = q + 6) g g') := by
  have hq0 := hq
  obtain ⟨hkq, qa, qb, qc, qd, qe, qf, qg, l1, l2, l3, l4, l5, l6⟩ := hq
  have hC0 := hC
  obtain ⟨r9, rH, r7, r8, rc, rb⟩ := hC
  refine od_cqI pnX4 rfl (Nat.le_of_ble_eq_true rfl) od_le.rf ?_
  show od_Rq 3 mX4_neverTogether od_Z0 E (E, fun v g' => v = some (0, cNv (cTg C H) (od_shl 1 n - 1).toNat) ∧ od_fr (fun x _ => x = q + 6) g g') 0 [some (2, q), some (0, n), none, none] [] E g
  refine r_iconst dX4_neverTogether_0 li_0 ?_
  refine r_istore_n dX4_neverTogether_1 (by decide) rfl ?_
  exact lp_X4_n1 hq0 hC0 n hn _ _ _ ⟨by omega, by omega, od_fr.rf, fun x x0 x1 => by omega⟩ (Nat.lt_succ_self _)
/-- a tune is so many times a shorter one -/
def cCA (C : Int → Int) (tn ti : Int) : Prop := tn.tmod ti = 0 ∧ ∀ h : Int, 0 ≤ h → h < tn → cLn C h = cLn C (h + tn.tdiv ti)
noncomputable def cT1 (C : Int → Int) (ti : Int) : Nat → Int → Int
  | 0, tn => tn
  | f + 1, tn => @ite Int (cCA C tn ti) (Classical.propDecidable _) (cT1 C ti f (tn.tdiv ti)) tn
def cPr (i : Int) : Int := (od_pr i.toNat).toInt
noncomputable def cT2 (C : Int → Int) : Nat → Int → Int → Int
  | 0, _, tn => tn
  | f + 1, i, tn => cT2 C f (i + 1) (cT1 C (cPr i) 12 tn)
theorem cPr_b {i : Int} (h : 0 ≤ i ∧ i < 5) : 2 ≤ cPr i ∧ cPr i ≤ 11 := by
  rcases (by omega : i = 0 ∨ i = 1 ∨ i = 2 ∨ i = 3 ∨ i = 4) with rfl | rfl | rfl | rfl | rfl <;> decide
theorem od_td {a b : Int} (ha : 1 ≤ a) (hb : 1 ≤ b) : 0 ≤ a.tdiv b ∧ a.tdiv b ≤ a := by
  rw [Int.tdiv_eq_ediv_of_nonneg (by omega)]
  exact ⟨Int.ediv_nonneg (by omega) (by omega), Int.ediv_le_self b (by omega)⟩
theorem od_td1 {a b : Int} (ha : 1 ≤ a) (hb : 1 ≤ b) (h : a.tmod b = 0) : 1 ≤ a.tdiv b := by
  have q := od_td ha hb
  have e := Int.mul_tdiv_add_tmod a b
  rw [h] at e
  rcases (by omega : a.tdiv b = 0 ∨ 1 ≤ a.tdiv b) with z | z
  · rw [z] at e; omega
  · exact z
set_option maxRecDepth 10000 in
theorem lp_X4_ca {E : od_E} {g : od_G} {q s : Int} (hq : RoAt E q s) {H : Int} {C : Int → Int} (hC : RdC g q H C) (tn ti : Int) (h1 : 1 ≤ tn ∧ tn ≤ H) (h2 : 1 ≤ ti) (hm : tn.tmod ti = 0) : ∀ (m : Nat) (h : Int), (0 ≤ h ∧ h ≤ tn ∧ ∀ j : Int, 0 ≤ j → j < h → cLn C j = cLn C (j + tn.tdiv ti)) → ((tn - h).toNat) < m → od_R 3 mX4_comesAgain od_Z0 E (some (0, od_b (cCA C tn ti)), E, g) 15 [some (2, q), some (0, tn), some (0, ti), some (0, h)] [] E g := by
  have hq0 := hq
  obtain ⟨hkq, qa, qb, qc, qd, qe, qf, qg, l1, l2, l3, l4, l5, l6⟩ := hq
  have hC0 := hC
  obtain ⟨r9, rH, r7, r8, rc, rb⟩ := hC
  intro m
  induction m with
  | zero => intro h hi hM; exact absurd hM (Nat.not_lt_zero _)
  | succ m ih =>
    intro h hi hM
    obtain ⟨hi0, hi1, hno⟩ := hi
    have td := od_td h1.1 h2
    have tw : od_w (tn.tdiv ti) = tn.tdiv ti := od_wI (by omega) (by omega)
    refine r_iload_n dX4_comesAgain_15 rfl ?_
    refine r_iload_n dX4_comesAgain_16 rfl ?_
    refine r_icmp_ge (tgt := 45) dX4_comesAgain_17 rfl (fun c17 => ?_) (fun c17 => ?_)
    · refine r_iconst dX4_comesAgain_45 li_1 ?_
      exact r_zret (v := 1) dX4_comesAgain_46 rfl od_nz1 (od_lt1 ⟨hm, fun j j0 j1 => hno j j0 (by omega)⟩)
    · refine r_aload_n dX4_comesAgain_20 rfl ?_
      refine r_iload_n dX4_comesAgain_21 rfl ?_
      refine r_callV1i dX4_comesAgain_22 cvX4_102 (by assumption) (c_X4_loudnessIn hq0 hC0 _ (by omega)) (by decide) (Nat.le_of_ble_eq_true rfl) od_le.rf ?_
      refine r_aload_n dX4_comesAgain_25 rfl ?_
      refine r_iload_n dX4_comesAgain_26 rfl ?_
      refine r_iload_n dX4_comesAgain_27 rfl ?_
      refine r_iload_n dX4_comesAgain_28 rfl ?_
      refine r_idiv dX4_comesAgain_29 (by first | decide | omega) ?_
      rw [tw]
      refine r_iaddE dX4_comesAgain_30 (by first | exact od_w0 (by omega) (by omega) | exact od_wI (by omega) (by omega) | rfl) ?_
      refine r_callV1i dX4_comesAgain_31 cvX4_102 (by assumption) (c_X4_loudnessIn hq0 hC0 _ (by omega)) (by decide) (Nat.le_of_ble_eq_true rfl) od_le.rf ?_
      refine r_icmp_eq (tgt := 39) dX4_comesAgain_34 rfl (fun c34 => ?_) (fun c34 => ?_)
      · refine r_iincE dX4_comesAgain_39 rfl (by decide) (by first | exact od_w0 (by omega) (by omega) | exact od_wI (by omega) (by omega) | rfl) rfl ?_
        refine r_goto (tgt := 15) dX4_comesAgain_42 rfl ?_
        exact ih _ ⟨by omega, by omega, fun j j0 j1 => by
          by_cases cj : j = h
          · rw [cj]; assumption
          · exact hno j j0 (by omega)⟩ (by omega)
      · refine r_iconst dX4_comesAgain_37 li_0 ?_
        exact r_zret (v := 0) dX4_comesAgain_38 rfl od_nz0 (od_lt0 (fun z => by have := z.2 h hi0 (by omega); omega))
set_option maxRecDepth 10000 in
theorem c_X4_comesAgain {E : od_E} {g : od_G} {q s : Int} (hq : RoAt E q s) {H : Int} {C : Int → Int} (hC : RdC g q H C) (tn ti : Int) (h1 : 1 ≤ tn ∧ tn ≤ H) (h2 : 1 ≤ ti) : od_Ct 3 mX4_comesAgain [(2, q), (0, tn), (0, ti)] E g (some (0, od_b (cCA C tn ti)), E, g) := by
  have hq0 := hq
  obtain ⟨hkq, qa, qb, qc, qd, qe, qf, qg, l1, l2, l3, l4, l5, l6⟩ := hq
  have hC0 := hC
  obtain ⟨r9, rH, r7, r8, rc, rb⟩ := hC
  refine od_ctI pnX4 rfl (Nat.le_of_ble_eq_true rfl) od_le.rf ?_
  show od_R _ _ _ _ _ 0 [some (2, q), some (0, tn), some (0, ti), none] [] E g
  refine r_iload_n dX4_comesAgain_0 rfl ?_
  refine r_iconst dX4_comesAgain_1 li_1 ?_
  refine r_icmp_lt (tgt := 11) dX4_comesAgain_2 rfl (fun c2 => ?_) (fun c2 => ?_)
  · refine r_iconst dX4_comesAgain_11 li_0 ?_
    exact r_zret (v := 0) dX4_comesAgain_12 rfl od_nz0 (od_lt0 (fun z => by have := z.1; omega))
  · refine r_iload_n dX4_comesAgain_5 rfl ?_
    refine r_iload_n dX4_comesAgain_6 rfl ?_
    refine r_irem dX4_comesAgain_7 (by first | decide | omega) ?_
    refine r_if_eq (tgt := 13) dX4_comesAgain_8 rfl (fun c8 => ?_) (fun c8 => ?_)
    · refine r_iconst dX4_comesAgain_13 li_0 ?_
      refine r_istore_n dX4_comesAgain_14 (by decide) rfl ?_
      exact lp_X4_ca hq0 hC0 tn ti h1 h2 (by omega) _ _ ⟨by omega, by omega, fun j j0 j1 => by omega⟩ (Nat.lt_succ_self _)
    · refine r_iconst dX4_comesAgain_11 li_0 ?_
      exact r_zret (v := 0) dX4_comesAgain_12 rfl od_nz0 (od_lt0 (fun z => by have := z.1; omega))
theorem cT1_b {C : Int → Int} {ti : Int} (h2 : 1 ≤ ti) : ∀ (f : Nat) (tn : Int), 1 ≤ tn → 1 ≤ cT1 C ti f tn ∧ cT1 C ti f tn ≤ tn := by
  intro f
  induction f with
  | zero => intro tn h; exact ⟨h, Int.le_refl _⟩
  | succ f ih =>
    intro tn h
    simp only [cT1]
    split
    · rename_i c
      have a := od_td h h2
      have b := ih _ (od_td1 h h2 c.1)
      omega
    · omega
set_option maxRecDepth 10000 in
theorem lp_X4_t1 {E : od_E} {g : od_G} {q s : Int} (hq : RoAt E q s) {H : Int} {C : Int → Int} (hC : RdC g q H C) (i v T : Int) (h5 : 0 ≤ i ∧ i < 5) (hx : ∀ n : Int, od_R 4 mX4_tuneHours od_Z0 E (some (0, v), E, g) 50 [some (2, q), some (0, T), some (0, i), some (0, n)] [] E g) : ∀ (m : Nat) (n tn : Int), (0 ≤ n ∧ n ≤ 12 ∧ (1 ≤ tn ∧ tn ≤ H) ∧ cT1 C (cPr i) (12 - n).toNat tn = T) → ((12 - n).toNat) < m → od_R 4 mX4_tuneHours od_Z0 E (some (0, v), E, g) 17 [some (2, q), some (0, tn), some (0, i), some (0, n)] [] E g := by
  have hq0 := hq
  obtain ⟨hkq, qa, qb, qc, qd, qe, qf, qg, l1, l2, l3, l4, l5, l6⟩ := hq
  have hC0 := hC
  obtain ⟨r9, rH, r7, r8, rc, rb⟩ := hC
  intro m
  induction m with
  | zero => intro n tn hi hM; exact absurd hM (Nat.not_lt_zero _)
  | succ m ih =>
    intro n tn hi hM
    obtain ⟨hi0, hi1, hi2, hi3⟩ := hi
    have pb := cPr_b h5
    have hs1 : n < 12 → cT1 C (cPr i) (12 - n).toNat tn = @ite Int (cCA C tn (cPr i)) (Classical.propDecidable _) (cT1 C (cPr i) (12 - (n + 1)).toNat (tn.tdiv (cPr i))) tn := fun z => by
      rw [show (12 - n).toNat = (12 - (n + 1)).toNat + 1 by omega]; rfl
    have td := od_td hi2.1 (show 1 ≤ cPr i by omega)
    refine r_iload_n dX4_tuneHours_17 rfl ?_
    refine r_bipush dX4_tuneHours_18 lb_12 ?_
    refine r_icmp_ge (tgt := 50) dX4_tuneHours_20 rfl (fun c20 => ?_) (fun c20 => ?_)
    · have e : tn = T := by
        rw [← hi3]
        first
        | (rw [show (12 - n).toNat = 0 by omega]; rfl)
        | (rw [hs1 (by omega), if_neg (by assumption)])
      rw [e]
      exact hx n
    · refine r_aload_n dX4_tuneHours_23 rfl ?_
      refine r_iload_n dX4_tuneHours_24 rfl ?_
      refine r_gs_pr rfl dX4_tuneHours_25 ?_
      refine r_iload_n dX4_tuneHours_28 rfl ?_
      refine r_il_pr dX4_tuneHours_29 (by omega) rfl ?_
      show od_R _ _ _ _ _ _ _ ((0, cPr i) :: _) _ _
      refine r_callV2b dX4_tuneHours_30 cvX4_148 (by assumption) (c_X4_comesAgain hq0 hC0 _ _ (by omega) (by omega)) (by decide) (Nat.le_of_ble_eq_true rfl) od_le.rf (fun q30 => ?_) (fun q30 => ?_)
      · refine r_if_eq (tgt := 50) dX4_tuneHours_33 rfl (fun h => absurd h (by decide)) (fun _ => ?_)
        refine r_iload_n dX4_tuneHours_36 rfl ?_
        refine r_gs_pr rfl dX4_tuneHours_37 ?_
        refine r_iload_n dX4_tuneHours_40 rfl ?_
        refine r_il_pr dX4_tuneHours_41 (by omega) rfl ?_
        show od_R _ _ _ _ _ _ _ ((0, cPr i) :: _) _ _
        refine r_idiv dX4_tuneHours_42 (by first | decide | omega) ?_
        rw [od_wI (by omega) (by omega)]
        refine r_istore_n dX4_tuneHours_43 (by decide) rfl ?_
        refine r_iincE dX4_tuneHours_44 rfl (by decide) (by first | exact od_w0 (by omega) (by omega) | exact od_wI (by omega) (by omega) | rfl) rfl ?_
        refine r_goto (tgt := 17) dX4_tuneHours_47 rfl ?_
        refine ih _ _ ⟨by omega, by omega, ⟨od_td1 hi2.1 (by omega) q30.1, by omega⟩, ?_⟩ (by omega)
        rw [← hi3, hs1 (by omega), if_pos q30]
      · refine r_if_eq (tgt := 50) dX4_tuneHours_33 rfl (fun _ => ?_) (fun h => absurd h (by decide))
        have e : tn = T := by
          rw [← hi3]
          first
          | (rw [show (12 - n).toNat = 0 by omega]; rfl)
          | (rw [hs1 (by omega), if_neg (by assumption)])
        rw [e]
        exact hx n
set_option maxRecDepth 10000 in
theorem lp_X4_t2 {E : od_E} {g : od_G} {q s : Int} (hq : RoAt E q s) {H : Int} {C : Int → Int} (hC : RdC g q H C) (v : Int) : ∀ (m : Nat) (i tn : Int) (L3 : Option od_V), (0 ≤ i ∧ i ≤ 5 ∧ (1 ≤ tn ∧ tn ≤ H) ∧ v = cT2 C (5 - i).toNat i tn) → ((5 - i).toNat) < m → od_R 4 mX4_tuneHours od_Z0 E (some (0, v), E, g) 7 [some (2, q), some (0, tn), some (0, i), L3] [] E g := by
  have hq0 := hq
  obtain ⟨hkq, qa, qb, qc, qd, qe, qf, qg, l1, l2, l3, l4, l5, l6⟩ := hq
  have hC0 := hC
  obtain ⟨r9, rH, r7, r8, rc, rb⟩ := hC
  intro m
  induction m with
  | zero => intro i tn L3 hi hM; exact absurd hM (Nat.not_lt_zero _)
  | succ m ih =>
    intro i tn L3 hi hM
    obtain ⟨hi0, hi1, hi2, hi3⟩ := hi
    have hs1 : i < 5 → cT2 C (5 - i).toNat i tn = cT2 C (5 - (i + 1)).toNat (i + 1) (cT1 C (cPr i) 12 tn) := fun z => by
      rw [show (5 - i).toNat = (5 - (i + 1)).toNat + 1 by omega]; rfl
    refine r_iload_n dX4_tuneHours_7 rfl ?_
    refine r_gs_pr rfl dX4_tuneHours_8 ?_
    refine r_ln_pr dX4_tuneHours_11 ?_
    refine r_icmp_ge (tgt := 56) dX4_tuneHours_12 rfl (fun c12 => ?_) (fun c12 => ?_)
    · refine r_iload_n dX4_tuneHours_56 rfl ?_
      exact r_iret dX4_tuneHours_57 rfl (by rw [hi3, show (5 - i).toNat = 0 by omega]; rfl)
    · refine r_iconst dX4_tuneHours_15 li_0 ?_
      refine r_istore_n dX4_tuneHours_16 (by decide) rfl ?_
      refine lp_X4_t1 hq0 hC0 i v (cT1 C (cPr i) 12 tn) ⟨hi0, by omega⟩ (fun n => ?_) _ _ _ ⟨by omega, by omega, hi2, rfl⟩ (Nat.lt_succ_self _)
      refine r_iincE dX4_tuneHours_50 rfl (by decide) (by first | exact od_w0 (by omega) (by omega) | exact od_wI (by omega) (by omega) | rfl) rfl ?_
      refine r_goto (tgt := 7) dX4_tuneHours_53 rfl ?_
      have tb := cT1_b (C := C) (ti := cPr i) (by have := cPr_b (i := i) (by omega); omega) 12 tn hi2.1
      exact ih _ _ _ ⟨by omega, by omega, by omega, by rw [hi3, hs1 (by omega)]⟩ (by omega)
set_option maxRecDepth 10000 in
theorem c_X4_tuneHours {E : od_E} {g : od_G} {q s : Int} (hq : RoAt E q s) {H : Int} {C : Int → Int} (hC : RdC g q H C) : od_Ct 4 mX4_tuneHours [(2, q)] E g (some (0, cT2 C 5 0 H), E, g) := by
  have hq0 := hq
  obtain ⟨hkq, qa, qb, qc, qd, qe, qf, qg, l1, l2, l3, l4, l5, l6⟩ := hq
  have hC0 := hC
  obtain ⟨r9, rH, r7, r8, rc, rb⟩ := hC
  refine od_ctI pnX4 rfl (Nat.le_of_ble_eq_true rfl) od_le.rf ?_
  show od_R _ _ _ _ _ 0 [some (2, q), none, none, none] [] E g
  refine r_aload_n dX4_tuneHours_0 rfl ?_
  refine r_getIj (j := 9) rfl dX4_tuneHours_1 fkX4_38 gf4_9 (by assumption) r9 ?_
  refine r_istore_n dX4_tuneHours_4 (by decide) rfl ?_
  refine r_iconst dX4_tuneHours_5 li_0 ?_
  refine r_istore_n dX4_tuneHours_6 (by decide) rfl ?_
  exact lp_X4_t2 hq0 hC0 _ _ _ _ _ ⟨by omega, by omega, by omega, rfl⟩ (Nat.lt_succ_self _)
