/-- the same world, written otherwise -/
theorem od_gc {d : Nat} {M : od_M} {Z : od_Zt} {E0 : od_E} {res : od_Rs} {pc : Nat} {L : od_L} {st : List od_V} {E : od_E} {g g1 : od_G} (h : g1 = g) (k : od_R d M Z E0 res pc L st E g1) : od_R d M Z E0 res pc L st E g := h ▸ k
theorem od_b_nz {P : Prop} (h : od_b P ≠ 0) : P := Classical.byContradiction fun q => h (od_b_f q)
theorem od_b_z {P : Prop} (h : od_b P = 0) : ¬ P := fun q => by rw [od_b_t q] at h; omega
set_option maxRecDepth 10000 in
theorem lp_X6_fit {E : od_E} {g : od_G} {v : Int} {k : Int} (hs : StAt E k) (t d : Int) (hx : od_R 4 mX6_suspects od_Z0 E (some (0, v), E, g) 71 [some (2, k), some (0, t), some (0, d), some (0, od_b (cFit g k d (g k 12))), some (0, g k 12)] [] E g) : ∀ (m : Nat) (i : Int), (0 ≤ i ∧ i ≤ g k 12 ∧ g k 12 ≤ 6) → ((g k 12 - i).toNat) < m → od_R 4 mX6_suspects od_Z0 E (some (0, v), E, g) 17 [some (2, k), some (0, t), some (0, d), some (0, od_b (cFit g k d i)), some (0, i)] [] E g := by
  have hs0 := hs
  obtain ⟨hk, r0, r1, r2, r3, r4, r5, r6, r7, a1, a2, a3, a4, a5, a6, a7, a8⟩ := hs
  intro m
  induction m with
  | zero => intro i hi hM; exact absurd hM (Nat.not_lt_zero _)
  | succ m ih =>
    intro i hi hM
    have e1 : cFit g k d (i + 1) ↔ cFit g k d i ∧ od_b (cStrikes g k d (g (k + 7) i)) = g (k + 8) i := by
      unfold cFit
      constructor
      · exact fun h => ⟨fun j h0 h1 => h j h0 (by omega), h i hi.1 (by omega)⟩
      · rintro ⟨h, h2⟩ j h0 h1
        rcases Int.lt_or_le j i with q | q
        · exact h j h0 q
        · rw [show j = i by omega]; exact h2
    refine r_iload dX6_suspects_17 rfl ?_
    refine r_aload_n dX6_suspects_19 rfl ?_
    refine r_getIj (j := 12) rfl dX6_suspects_20 fkX6_53 gf6_12 (by assumption) (by (repeat (first | rewrite [od_upn (by omega)] | rewrite [od_up_at, if_pos (by omega)] | rewrite [od_up_at, if_neg (by omega)])); rfl) ?_
    refine r_icmp_ge (tgt := 71) dX6_suspects_23 rfl (fun c23 => ?_) (fun c23 => ?_)
    · rw [show i = g k 12 by omega]
      exact hx
    · refine r_iload dX6_suspects_26 rfl ?_
      refine r_bipush dX6_suspects_28 lb_6 ?_
      refine r_icmp_ge (tgt := 71) dX6_suspects_30 rfl (fun c30 => ?_) (fun c30 => ?_)
      · rw [show i = g k 12 by omega]
        exact hx
      · refine r_iload_n dX6_suspects_33 rfl ?_
        refine r_if_eq (tgt := 63) dX6_suspects_34 rfl (fun c34 => ?_) (fun c34 => ?_)
        · refine r_iconst dX6_suspects_63 li_0 ?_
          refine r_istore_n dX6_suspects_64 (by decide) rfl ?_
          refine r_iincE dX6_suspects_65 rfl (by decide) (by first | exact od_w0 (by omega) (by omega) | exact od_wI (by omega) (by omega) | rfl) rfl ?_
          refine r_goto (tgt := 17) dX6_suspects_68 rfl ?_
          first
          | (have e2 : od_b (cFit g k d (i + 1)) = 0 := od_b_f (fun z => by have z2 := e1.mp z; first | exact absurd z2.1 (od_b_z c34) | (rw [od_b_t q46] at z2; omega) | (rw [od_b_f q46] at z2; omega))
             have h := ih (i + 1) ⟨by omega, by omega, by omega⟩ (by omega)
             rw [e2] at h
             exact h)
          | (have e2 : od_b (cFit g k d (i + 1)) = 1 := od_b_t (e1.mpr ⟨od_b_nz c34, by first | (rw [od_b_t q46]; omega) | (rw [od_b_f q46]; omega)⟩)
             have h := ih (i + 1) ⟨by omega, by omega, by omega⟩ (by omega)
             rw [e2] at h
             exact h)
        · refine r_aload_n dX6_suspects_37 rfl ?_
          refine r_iload_n dX6_suspects_38 rfl ?_
          refine r_aload_n dX6_suspects_39 rfl ?_
          refine r_getR dX6_suspects_40 fkX6_33 gf6_6 (by assumption) (by assumption) ?_
          refine r_iload dX6_suspects_43 rfl ?_
          refine r_iald dX6_suspects_45 (by assumption) (by omega) (by (repeat (first | rewrite [od_upn (by omega)] | rewrite [od_up_at, if_pos (by omega)] | rewrite [od_up_at, if_neg (by omega)])); rfl) ?_
          refine r_callV2b dX6_suspects_46 cvX6_71 (by assumption) (c_X6_strikesIn (by assumption) _ _) (by decide) (Nat.le_of_ble_eq_true rfl) od_le.rf (fun q46 => ?_) (fun q46 => ?_)
          · refine r_aload_n dX6_suspects_49 rfl ?_
            refine r_getR dX6_suspects_50 fkX6_36 gf6_7 (by assumption) (by assumption) ?_
            refine r_iload dX6_suspects_53 rfl ?_
            refine r_zald dX6_suspects_55 (by assumption) (by omega) (by (repeat (first | rewrite [od_upn (by omega)] | rewrite [od_up_at, if_pos (by omega)] | rewrite [od_up_at, if_neg (by omega)])); rfl) ?_
            refine r_icmp_ne (tgt := 63) dX6_suspects_56 rfl (fun c56 => ?_) (fun c56 => ?_)
            · refine r_iconst dX6_suspects_63 li_0 ?_
              refine r_istore_n dX6_suspects_64 (by decide) rfl ?_
              refine r_iincE dX6_suspects_65 rfl (by decide) (by first | exact od_w0 (by omega) (by omega) | exact od_wI (by omega) (by omega) | rfl) rfl ?_
              refine r_goto (tgt := 17) dX6_suspects_68 rfl ?_
              first
              | (have e2 : od_b (cFit g k d (i + 1)) = 0 := od_b_f (fun z => by have z2 := e1.mp z; first | exact absurd z2.1 (od_b_z c34) | (rw [od_b_t q46] at z2; omega) | (rw [od_b_f q46] at z2; omega))
                 have h := ih (i + 1) ⟨by omega, by omega, by omega⟩ (by omega)
                 rw [e2] at h
                 exact h)
              | (have e2 : od_b (cFit g k d (i + 1)) = 1 := od_b_t (e1.mpr ⟨od_b_nz c34, by first | (rw [od_b_t q46]; omega) | (rw [od_b_f q46]; omega)⟩)
                 have h := ih (i + 1) ⟨by omega, by omega, by omega⟩ (by omega)
                 rw [e2] at h
                 exact h)
            · refine r_iconst dX6_suspects_59 li_1 ?_
              refine r_goto (tgt := 64) dX6_suspects_60 rfl ?_
              refine r_istore_n dX6_suspects_64 (by decide) rfl ?_
              refine r_iincE dX6_suspects_65 rfl (by decide) (by first | exact od_w0 (by omega) (by omega) | exact od_wI (by omega) (by omega) | rfl) rfl ?_
              refine r_goto (tgt := 17) dX6_suspects_68 rfl ?_
              first
              | (have e2 : od_b (cFit g k d (i + 1)) = 0 := od_b_f (fun z => by have z2 := e1.mp z; first | exact absurd z2.1 (od_b_z c34) | (rw [od_b_t q46] at z2; omega) | (rw [od_b_f q46] at z2; omega))
                 have h := ih (i + 1) ⟨by omega, by omega, by omega⟩ (by omega)
                 rw [e2] at h
                 exact h)
              | (have e2 : od_b (cFit g k d (i + 1)) = 1 := od_b_t (e1.mpr ⟨od_b_nz c34, by first | (rw [od_b_t q46]; omega) | (rw [od_b_f q46]; omega)⟩)
                 have h := ih (i + 1) ⟨by omega, by omega, by omega⟩ (by omega)
                 rw [e2] at h
                 exact h)
          · refine r_aload_n dX6_suspects_49 rfl ?_
            refine r_getR dX6_suspects_50 fkX6_36 gf6_7 (by assumption) (by assumption) ?_
            refine r_iload dX6_suspects_53 rfl ?_
            refine r_zald dX6_suspects_55 (by assumption) (by omega) (by (repeat (first | rewrite [od_upn (by omega)] | rewrite [od_up_at, if_pos (by omega)] | rewrite [od_up_at, if_neg (by omega)])); rfl) ?_
            refine r_icmp_ne (tgt := 63) dX6_suspects_56 rfl (fun c56 => ?_) (fun c56 => ?_)
            · refine r_iconst dX6_suspects_63 li_0 ?_
              refine r_istore_n dX6_suspects_64 (by decide) rfl ?_
              refine r_iincE dX6_suspects_65 rfl (by decide) (by first | exact od_w0 (by omega) (by omega) | exact od_wI (by omega) (by omega) | rfl) rfl ?_
              refine r_goto (tgt := 17) dX6_suspects_68 rfl ?_
              first
              | (have e2 : od_b (cFit g k d (i + 1)) = 0 := od_b_f (fun z => by have z2 := e1.mp z; first | exact absurd z2.1 (od_b_z c34) | (rw [od_b_t q46] at z2; omega) | (rw [od_b_f q46] at z2; omega))
                 have h := ih (i + 1) ⟨by omega, by omega, by omega⟩ (by omega)
                 rw [e2] at h
                 exact h)
              | (have e2 : od_b (cFit g k d (i + 1)) = 1 := od_b_t (e1.mpr ⟨od_b_nz c34, by first | (rw [od_b_t q46]; omega) | (rw [od_b_f q46]; omega)⟩)
                 have h := ih (i + 1) ⟨by omega, by omega, by omega⟩ (by omega)
                 rw [e2] at h
                 exact h)
            · refine r_iconst dX6_suspects_59 li_1 ?_
              refine r_goto (tgt := 64) dX6_suspects_60 rfl ?_
              refine r_istore_n dX6_suspects_64 (by decide) rfl ?_
              refine r_iincE dX6_suspects_65 rfl (by decide) (by first | exact od_w0 (by omega) (by omega) | exact od_wI (by omega) (by omega) | rfl) rfl ?_
              refine r_goto (tgt := 17) dX6_suspects_68 rfl ?_
              first
              | (have e2 : od_b (cFit g k d (i + 1)) = 0 := od_b_f (fun z => by have z2 := e1.mp z; first | exact absurd z2.1 (od_b_z c34) | (rw [od_b_t q46] at z2; omega) | (rw [od_b_f q46] at z2; omega))
                 have h := ih (i + 1) ⟨by omega, by omega, by omega⟩ (by omega)
                 rw [e2] at h
                 exact h)
              | (have e2 : od_b (cFit g k d (i + 1)) = 1 := od_b_t (e1.mpr ⟨od_b_nz c34, by first | (rw [od_b_t q46]; omega) | (rw [od_b_f q46]; omega)⟩)
                 have h := ih (i + 1) ⟨by omega, by omega, by omega⟩ (by omega)
                 rw [e2] at h
                 exact h)
set_option maxRecDepth 10000 in
theorem lp_X6_sus {E : od_E} {g : od_G} {k : Int} (hs : StAt E k) (hc : 0 ≤ g k 12 ∧ g k 12 ≤ 6) : ∀ (m : Nat) (d t : Int) (L3 L4 : Option od_V), (0 ≤ d ∧ d ≤ g k 8 ∧ g k 8 ≤ 6 ∧ t = cSus g k d.toNat) → ((g k 8 - d).toNat) < m → od_R 4 mX6_suspects od_Z0 E (some (0, cSus g k (g k 8).toNat), E, g) 4 [some (2, k), some (0, t), some (0, d), L3, L4] [] E g := by
  have hs0 := hs
  obtain ⟨hk, r0, r1, r2, r3, r4, r5, r6, r7, a1, a2, a3, a4, a5, a6, a7, a8⟩ := hs
  intro m
  induction m with
  | zero => intro d t L3 L4 hi hM; exact absurd hM (Nat.not_lt_zero _)
  | succ m ih =>
    intro d t L3 L4 hi hM
    have e1 : cSus g k (d + 1).toNat = od_ite (cFit g k d (g k 12)) (od_or (cSus g k d.toNat) (od_shl 1 d)) (cSus g k d.toNat) := by
      rw [show (d + 1).toNat = d.toNat + 1 by omega]
      show od_ite (cFit g k (d.toNat : Nat) (g k 12)) (od_or (cSus g k d.toNat) (od_shl 1 (d.toNat : Nat))) (cSus g k d.toNat) = _
      rw [show ((d.toNat : Nat) : Int) = d by omega]
    have e0 : od_b (cFit g k d 0) = 1 := od_b_t (fun j h0 h1 => by omega)
    refine r_iload_n dX6_suspects_4 rfl ?_
    refine r_aload_n dX6_suspects_5 rfl ?_
    refine r_getIj (j := 8) rfl dX6_suspects_6 fkX6_40 gf6_8 (by assumption) (by (repeat (first | rewrite [od_upn (by omega)] | rewrite [od_up_at, if_pos (by omega)] | rewrite [od_up_at, if_neg (by omega)])); rfl) ?_
    refine r_icmp_ge (tgt := 87) dX6_suspects_9 rfl (fun c9 => ?_) (fun c9 => ?_)
    · refine r_iload_n dX6_suspects_87 rfl ?_
      exact r_iret dX6_suspects_88 rfl (by rw [hi.2.2.2, show d = g k 8 by omega])
    · refine r_iconst dX6_suspects_12 li_1 ?_
      refine r_istore_n dX6_suspects_13 (by decide) rfl ?_
      refine r_iconst dX6_suspects_14 li_0 ?_
      refine r_istore dX6_suspects_15 (by decide) rfl ?_
      rw [← e0]
      refine lp_X6_fit hs0 _ _ ?_ _ _ ⟨by omega, by omega, by omega⟩ (Nat.lt_succ_self _)
      refine r_iload_n dX6_suspects_71 rfl ?_
      refine r_if_eq (tgt := 81) dX6_suspects_72 rfl (fun c72 => ?_) (fun c72 => ?_)
      · refine r_iincE dX6_suspects_81 rfl (by decide) (by first | exact od_w0 (by omega) (by omega) | exact od_wI (by omega) (by omega) | rfl) rfl ?_
        refine r_goto (tgt := 4) dX6_suspects_84 rfl ?_
        exact ih _ _ _ _ ⟨by omega, by omega, by omega, by rw [e1, ← hi.2.2.2]; first | rw [od_ite_t (od_b_nz c72)] | rw [od_ite_f (od_b_z c72)]⟩ (by omega)
      · refine r_iload_n dX6_suspects_75 rfl ?_
        refine r_iconst dX6_suspects_76 li_1 ?_
        refine r_iload_n dX6_suspects_77 rfl ?_
        refine r_ishl dX6_suspects_78 ?_
        refine r_ior dX6_suspects_79 ?_
        refine r_istore_n dX6_suspects_80 (by decide) rfl ?_
        refine r_iincE dX6_suspects_81 rfl (by decide) (by first | exact od_w0 (by omega) (by omega) | exact od_wI (by omega) (by omega) | rfl) rfl ?_
        refine r_goto (tgt := 4) dX6_suspects_84 rfl ?_
        exact ih _ _ _ _ ⟨by omega, by omega, by omega, by rw [e1, ← hi.2.2.2]; first | rw [od_ite_t (od_b_nz c72)] | rw [od_ite_f (od_b_z c72)]⟩ (by omega)
set_option maxRecDepth 10000 in
theorem c_X6_suspects {E : od_E} {g : od_G} {k : Int} (hs : StAt E k) (h0 : 0 ≤ g k 8 ∧ g k 8 ≤ 6) (hc : 0 ≤ g k 12 ∧ g k 12 ≤ 6) : od_Ct 4 mX6_suspects [(2, k)] E g (some (0, cSus g k (g k 8).toNat), E, g) := by
  have hs0 := hs
  obtain ⟨hk, r0, r1, r2, r3, r4, r5, r6, r7, a1, a2, a3, a4, a5, a6, a7, a8⟩ := hs
  refine od_ctI pnX6 rfl (Nat.le_of_ble_eq_true rfl) od_le.rf ?_
  show od_R _ _ _ _ _ 0 [some (2, k), none, none, none, none] [] E g
  refine r_iconst dX6_suspects_0 li_0 ?_
  refine r_istore_n dX6_suspects_1 (by decide) rfl ?_
  refine r_iconst dX6_suspects_2 li_0 ?_
  refine r_istore_n dX6_suspects_3 (by decide) rfl ?_
  exact lp_X6_sus hs0 hc _ _ _ _ _ ⟨by omega, by omega, by omega, rfl⟩ (Nat.lt_succ_self _)
/-- rows of another street, up to a place -/
def od_cp (g : od_G) (a b n : Int) : od_G := fun x y => if x = a ∧ 0 ≤ y ∧ y < n then g b y else g x y
theorem od_cp_0 (g : od_G) (a b : Int) : od_cp g a b 0 = g := by
  funext x y
  unfold od_cp
  rw [if_neg (by omega)]
theorem od_cp_ne {g : od_G} {a b n x y : Int} (h : x ≠ a) : od_cp g a b n x y = g x y := by
  unfold od_cp
  rw [if_neg (fun q => h q.1)]
theorem od_cp_s {g : od_G} {a b i : Int} (h0 : 0 ≤ i) : od_up (od_cp g a b i) a i (g b i) = od_cp g a b (i + 1) := by
  funext x y
  unfold od_up od_cp
  by_cases h : x = a
  · by_cases h2 : y = i
    · rw [if_pos ⟨h, h2⟩, if_pos ⟨h, by omega, by omega⟩, h2]
    · rw [if_neg (fun q => h2 q.2)]
      by_cases h3 : 0 ≤ y ∧ y < i
      · rw [if_pos ⟨h, h3⟩, if_pos ⟨h, by omega, by omega⟩]
      · rw [if_neg (fun q => h3 q.2), if_neg (fun q => by omega)]
  · rw [if_neg (fun q => h q.1), if_neg (fun q => h q.1), if_neg (fun q => h q.1)]
def cBe1 (g : od_G) (k j i : Int) : od_G := od_cp (od_cp (od_cp (od_cp g (k + 1) (j + 1) i) (k + 2) (j + 2) i) (k + 3) (j + 3) i) (k + 4) (j + 4) i
def cBe2 (g : od_G) (k j i : Int) : od_G := od_cp g (k + 5) (j + 5) i
def cBe3 (g : od_G) (k j i : Int) : od_G := od_cp g (k + 6) (j + 6) i
def cBe4 (g : od_G) (k j i : Int) : od_G := od_cp (od_cp g (k + 7) (j + 7) i) (k + 8) (j + 8) i
def cBecome (g : od_G) (k j : Int) : od_G := fun x y => if (x = k ∧ 8 ≤ y ∧ y ≤ 12) ∨ (k + 1 ≤ x ∧ x ≤ k + 4 ∧ 0 ≤ y ∧ y < 6) ∨ (x = k + 5 ∧ 0 ≤ y ∧ y < 3) ∨ (k + 6 ≤ x ∧ x ≤ k + 8 ∧ 0 ≤ y ∧ y < 6) then g (x - k + j) y else g x y
theorem cBe1_0 (g : od_G) (k j : Int) : cBe1 g k j 0 = g := by simp [cBe1, od_cp_0]
theorem cBe2_0 (g : od_G) (k j : Int) : cBe2 g k j 0 = g := by simp [cBe2, od_cp_0]
theorem cBe3_0 (g : od_G) (k j : Int) : cBe3 g k j 0 = g := by simp [cBe3, od_cp_0]
theorem cBe4_0 (g : od_G) (k j : Int) : cBe4 g k j 0 = g := by simp [cBe4, od_cp_0]
theorem cBe1_6 {g : od_G} {k j : Int} (hne : k + 9 ≤ j ∨ j + 9 ≤ k) : cBe1 g k j 6 = fun x y => if k + 1 ≤ x ∧ x ≤ k + 4 ∧ 0 ≤ y ∧ y < 6 then g (x - k + j) y else g x y := by
  funext x y
  simp only [cBe1, od_cp]
  by_cases h : k + 1 ≤ x ∧ x ≤ k + 4 ∧ 0 ≤ y ∧ y < 6
  · rw [if_pos h]
    rcases (by omega : x = k + 1 ∨ x = k + 2 ∨ x = k + 3 ∨ x = k + 4) with rfl | rfl | rfl | rfl
    · rw [show k + 1 - k + j = j + 1 by omega]; grind (splits := 40)
    · rw [show k + 2 - k + j = j + 2 by omega]; grind (splits := 40)
    · rw [show k + 3 - k + j = j + 3 by omega]; grind (splits := 40)
    · rw [show k + 4 - k + j = j + 4 by omega]; grind (splits := 40)
  · rw [if_neg h]; grind (splits := 40)
theorem cBe4_6 {g : od_G} {k j : Int} (hne : k + 9 ≤ j ∨ j + 9 ≤ k) : cBe4 g k j 6 = fun x y => if k + 7 ≤ x ∧ x ≤ k + 8 ∧ 0 ≤ y ∧ y < 6 then g (x - k + j) y else g x y := by
  funext x y
  simp only [cBe4, od_cp]
  by_cases h : k + 7 ≤ x ∧ x ≤ k + 8 ∧ 0 ≤ y ∧ y < 6
  · rw [if_pos h]
    rcases (by omega : x = k + 7 ∨ x = k + 8) with rfl | rfl
    · rw [show k + 7 - k + j = j + 7 by omega]; grind (splits := 40)
    · rw [show k + 8 - k + j = j + 8 by omega]; grind (splits := 40)
  · rw [if_neg h]; grind (splits := 40)
theorem cBe_all {g : od_G} {k j : Int} (hne : k + 9 ≤ j ∨ j + 9 ≤ k) : cBe4 (cBe3 (cBe2 (cBe1 g k j 6) k j 3) k j 6) k j 6 = fun x y => if (k + 1 ≤ x ∧ x ≤ k + 4 ∧ 0 ≤ y ∧ y < 6) ∨ (x = k + 5 ∧ 0 ≤ y ∧ y < 3) ∨ (k + 6 ≤ x ∧ x ≤ k + 8 ∧ 0 ≤ y ∧ y < 6) then g (x - k + j) y else g x y := by
  rw [cBe4_6 hne, cBe1_6 hne]
  funext x y
  simp only [cBe2, cBe3, od_cp]
  by_cases h1 : k + 7 ≤ x ∧ x ≤ k + 8 ∧ 0 ≤ y ∧ y < 6
  · rw [if_pos h1, if_neg (by omega), if_neg (by omega), if_neg (by omega), if_pos (by omega)]
  · rw [if_neg h1]
    by_cases h2 : x = k + 6 ∧ 0 ≤ y ∧ y < 6
    · rw [if_pos h2, if_neg (by omega), if_neg (by omega), if_pos (by omega), show x - k + j = j + 6 by omega]
    · rw [if_neg h2]
      by_cases h3 : x = k + 5 ∧ 0 ≤ y ∧ y < 3
      · rw [if_pos h3, if_neg (by omega), if_pos (by omega), show x - k + j = j + 5 by omega]
      · rw [if_neg h3]
        by_cases h4 : k + 1 ≤ x ∧ x ≤ k + 4 ∧ 0 ≤ y ∧ y < 6
        · rw [if_pos h4, if_pos (by omega)]
        · rw [if_neg h4, if_neg (by omega)]
set_option maxRecDepth 10000 in
theorem lp_X6_be1 {E : od_E} {g g2 : od_G} {k : Int} (hs : StAt E k) {j : Int} (hj : StAt E j) (hne : k + 9 ≤ j ∨ j + 9 ≤ k) (hx : od_R 1 mX6_become od_Z0 E (none, E, g2) 62 [some (2, k), some (2, j), some (0, 6)] [] E (cBe1 g k j 6)) : ∀ (m : Nat) (i : Int), (0 ≤ i ∧ i ≤ 6) → ((6 - i).toNat) < m → od_R 1 mX6_become od_Z0 E (none, E, g2) 2 [some (2, k), some (2, j), some (0, i)] [] E (cBe1 g k j i) := by
  have hs0 := hs
  obtain ⟨hk, r0, r1, r2, r3, r4, r5, r6, r7, a1, a2, a3, a4, a5, a6, a7, a8⟩ := hs
  have hj0 := hj
  obtain ⟨hkj, q0, q1, q2, q3, q4, q5, q6, q7, b1, b2, b3, b4, b5, b6, b7, b8⟩ := hj
  intro m
  induction m with
  | zero => intro i hi hM; exact absurd hM (Nat.not_lt_zero _)
  | succ m ih =>
    intro i hi hM
    refine r_iload_n dX6_become_2 rfl ?_
    refine r_bipush dX6_become_3 lb_6 ?_
    refine r_icmp_ge (tgt := 62) dX6_become_5 rfl (fun c5 => ?_) (fun c5 => ?_)
    · rw [show i = 6 by omega]
      exact hx
    · refine r_aload_n dX6_become_8 rfl ?_
      refine r_getR dX6_become_9 fkX6_9 gf6_0 (by assumption) (by assumption) ?_
      refine r_iload_n dX6_become_12 rfl ?_
      refine r_aload_n dX6_become_13 rfl ?_
      refine r_getR dX6_become_14 fkX6_9 gf6_0 (by assumption) (by assumption) ?_
      refine r_iload_n dX6_become_17 rfl ?_
      refine r_iald dX6_become_18 (by assumption) (by omega) (by (repeat (first | rewrite [od_upn (by omega)] | rewrite [od_up_at, if_pos (by omega)] | rewrite [od_up_at, if_neg (by omega)])); rfl) ?_
      refine r_iast dX6_become_19 (by assumption) (by omega) ?_
      refine r_aload_n dX6_become_20 rfl ?_
      refine r_getR dX6_become_21 fkX6_15 gf6_1 (by assumption) (by assumption) ?_
      refine r_iload_n dX6_become_24 rfl ?_
      refine r_aload_n dX6_become_25 rfl ?_
      refine r_getR dX6_become_26 fkX6_15 gf6_1 (by assumption) (by assumption) ?_
      refine r_iload_n dX6_become_29 rfl ?_
      refine r_iald dX6_become_30 (by assumption) (by omega) (by (repeat (first | rewrite [od_upn (by omega)] | rewrite [od_up_at, if_pos (by omega)] | rewrite [od_up_at, if_neg (by omega)])); rfl) ?_
      refine r_iast dX6_become_31 (by assumption) (by omega) ?_
      refine r_aload_n dX6_become_32 rfl ?_
      refine r_getR dX6_become_33 fkX6_18 gf6_2 (by assumption) (by assumption) ?_
      refine r_iload_n dX6_become_36 rfl ?_
      refine r_aload_n dX6_become_37 rfl ?_
      refine r_getR dX6_become_38 fkX6_18 gf6_2 (by assumption) (by assumption) ?_
      refine r_iload_n dX6_become_41 rfl ?_
      refine r_iald dX6_become_42 (by assumption) (by omega) (by (repeat (first | rewrite [od_upn (by omega)] | rewrite [od_up_at, if_pos (by omega)] | rewrite [od_up_at, if_neg (by omega)])); rfl) ?_
      refine r_iast dX6_become_43 (by assumption) (by omega) ?_
      refine r_aload_n dX6_become_44 rfl ?_
      refine r_getR dX6_become_45 fkX6_21 gf6_3 (by assumption) (by assumption) ?_
      refine r_iload_n dX6_become_48 rfl ?_
      refine r_aload_n dX6_become_49 rfl ?_
      refine r_getR dX6_become_50 fkX6_21 gf6_3 (by assumption) (by assumption) ?_
      refine r_iload_n dX6_become_53 rfl ?_
      refine r_iald dX6_become_54 (by assumption) (by omega) (by (repeat (first | rewrite [od_upn (by omega)] | rewrite [od_up_at, if_pos (by omega)] | rewrite [od_up_at, if_neg (by omega)])); rfl) ?_
      refine r_iast dX6_become_55 (by assumption) (by omega) ?_
      refine r_iincE dX6_become_56 rfl (by decide) (by first | exact od_w0 (by omega) (by omega) | exact od_wI (by omega) (by omega) | rfl) rfl ?_
      refine r_goto (tgt := 2) dX6_become_59 rfl ?_
      have h := ih (i + 1) ⟨by omega, by omega⟩ (by omega)
      refine cast (congrArg _ ?_) h
      clear h ih hx hs0 hk r0 r1 r2 r3 r4 r5 r6 r7 a1 a2 a3 a4 a5 a6 a7 a8 hj0 hkj q0 q1 q2 q3 q4 q5 q6 q7 b1 b2 b3 b4 b5 b6 b7 b8
      funext x y
      simp only [cBe1, od_cp, od_up]
      grind (splits := 40)
set_option maxRecDepth 10000 in
theorem lp_X6_be2 {E : od_E} {g g2 : od_G} {k : Int} (hs : StAt E k) {j : Int} (hj : StAt E j) (hne : k + 9 ≤ j ∨ j + 9 ≤ k) (hx : od_R 1 mX6_become od_Z0 E (none, E, g2) 91 [some (2, k), some (2, j), some (0, 3)] [] E (cBe2 g k j 3)) : ∀ (m : Nat) (i : Int), (0 ≤ i ∧ i ≤ 3) → ((3 - i).toNat) < m → od_R 1 mX6_become od_Z0 E (none, E, g2) 64 [some (2, k), some (2, j), some (0, i)] [] E (cBe2 g k j i) := by
  have hs0 := hs
  obtain ⟨hk, r0, r1, r2, r3, r4, r5, r6, r7, a1, a2, a3, a4, a5, a6, a7, a8⟩ := hs
  have hj0 := hj
  obtain ⟨hkj, q0, q1, q2, q3, q4, q5, q6, q7, b1, b2, b3, b4, b5, b6, b7, b8⟩ := hj
  intro m
  induction m with
  | zero => intro i hi hM; exact absurd hM (Nat.not_lt_zero _)
  | succ m ih =>
    intro i hi hM
    refine r_iload_n dX6_become_64 rfl ?_
    refine r_aload_n dX6_become_65 rfl ?_
    refine r_getR dX6_become_66 fkX6_24 gf6_4 (by assumption) (by assumption) ?_
    first | refine r_len_i dX6_become_69 (by assumption) (by first | decide | omega) ?_ | refine r_len_b dX6_become_69 (by assumption) (by first | decide | omega) ?_ | refine r_len_z dX6_become_69 (by assumption) (by first | decide | omega) ?_ | refine r_len_l dX6_become_69 (by assumption) (by first | decide | omega) ?_
    refine r_icmp_ge (tgt := 91) dX6_become_70 rfl (fun c70 => ?_) (fun c70 => ?_)
    · rw [show i = 3 by omega]
      exact hx
    · refine r_aload_n dX6_become_73 rfl ?_
      refine r_getR dX6_become_74 fkX6_24 gf6_4 (by assumption) (by assumption) ?_
      refine r_iload_n dX6_become_77 rfl ?_
      refine r_aload_n dX6_become_78 rfl ?_
      refine r_getR dX6_become_79 fkX6_24 gf6_4 (by assumption) (by assumption) ?_
      refine r_iload_n dX6_become_82 rfl ?_
      refine r_iald dX6_become_83 (by assumption) (by omega) (by (repeat (first | rewrite [od_upn (by omega)] | rewrite [od_up_at, if_pos (by omega)] | rewrite [od_up_at, if_neg (by omega)])); rfl) ?_
      refine r_iast dX6_become_84 (by assumption) (by omega) ?_
      refine r_iincE dX6_become_85 rfl (by decide) (by first | exact od_w0 (by omega) (by omega) | exact od_wI (by omega) (by omega) | rfl) rfl ?_
      refine r_goto (tgt := 64) dX6_become_88 rfl ?_
      have h := ih (i + 1) ⟨by omega, by omega⟩ (by omega)
      refine cast (congrArg _ ?_) h
      clear h ih hx hs0 hk r0 r1 r2 r3 r4 r5 r6 r7 a1 a2 a3 a4 a5 a6 a7 a8 hj0 hkj q0 q1 q2 q3 q4 q5 q6 q7 b1 b2 b3 b4 b5 b6 b7 b8
      funext x y
      simp only [cBe2, od_cp, od_up]
      grind (splits := 40)
set_option maxRecDepth 10000 in
theorem lp_X6_be3 {E : od_E} {g g2 : od_G} {k : Int} (hs : StAt E k) {j : Int} (hj : StAt E j) (hne : k + 9 ≤ j ∨ j + 9 ≤ k) (hl : ∀ y : Int, 0 ≤ y → y < 6 → g (j + 6) y = -1 ∨ (E.2.1 (g (j + 6) y)).1 = 9) (hx : od_R 1 mX6_become od_Z0 E (none, E, g2) 117 [some (2, k), some (2, j), some (0, 6)] [] E (cBe3 g k j 6)) : ∀ (m : Nat) (i : Int), (0 ≤ i ∧ i ≤ 6) → ((6 - i).toNat) < m → od_R 1 mX6_become od_Z0 E (none, E, g2) 93 [some (2, k), some (2, j), some (0, i)] [] E (cBe3 g k j i) := by
  have hs0 := hs
  obtain ⟨hk, r0, r1, r2, r3, r4, r5, r6, r7, a1, a2, a3, a4, a5, a6, a7, a8⟩ := hs
  have hj0 := hj
  obtain ⟨hkj, q0, q1, q2, q3, q4, q5, q6, q7, b1, b2, b3, b4, b5, b6, b7, b8⟩ := hj
  intro m
  induction m with
  | zero => intro i hi hM; exact absurd hM (Nat.not_lt_zero _)
  | succ m ih =>
    intro i hi hM
    refine r_iload_n dX6_become_93 rfl ?_
    refine r_bipush dX6_become_94 lb_6 ?_
    refine r_icmp_ge (tgt := 117) dX6_become_96 rfl (fun c96 => ?_) (fun c96 => ?_)
    · rw [show i = 6 by omega]
      exact hx
    · refine r_aload_n dX6_become_99 rfl ?_
      refine r_getR dX6_become_100 fkX6_29 gf6_5 (by assumption) (by assumption) ?_
      refine r_iload_n dX6_become_103 rfl ?_
      refine r_aload_n dX6_become_104 rfl ?_
      refine r_getR dX6_become_105 fkX6_29 gf6_5 (by assumption) (by assumption) ?_
      refine r_iload_n dX6_become_108 rfl ?_
      first | refine r_aald24 dX6_become_109 (by assumption) (by omega) (show cBe3 g k j i (j + 6) i = g (j + 6) i from od_cp_ne (by omega)) ?_ | refine r_aald25 dX6_become_109 (by assumption) (by omega) (show cBe3 g k j i (j + 6) i = g (j + 6) i from od_cp_ne (by omega)) ?_
      have hl1 := hl i hi.1 (by omega)
      first | refine r_aast24 dX6_become_110 (by assumption) (by omega) (by first | assumption | grind) ?_ | refine r_aast25 dX6_become_110 (by assumption) (by omega) (by first | assumption | grind) ?_
      refine r_iincE dX6_become_111 rfl (by decide) (by first | exact od_w0 (by omega) (by omega) | exact od_wI (by omega) (by omega) | rfl) rfl ?_
      refine r_goto (tgt := 93) dX6_become_114 rfl ?_
      have h := ih (i + 1) ⟨by omega, by omega⟩ (by omega)
      refine cast (congrArg _ ?_) h
      clear h ih hx hs0 hk r0 r1 r2 r3 r4 r5 r6 r7 a1 a2 a3 a4 a5 a6 a7 a8 hj0 hkj q0 q1 q2 q3 q4 q5 q6 q7 b1 b2 b3 b4 b5 b6 b7 b8
      funext x y
      simp only [cBe3, od_cp, od_up]
      grind (splits := 40)
set_option maxRecDepth 10000 in
theorem lp_X6_be4 {E : od_E} {g g2 : od_G} {k : Int} (hs : StAt E k) {j : Int} (hj : StAt E j) (hne : k + 9 ≤ j ∨ j + 9 ≤ k) (hz : ∀ y : Int, 0 ≤ y → y < 6 → g (j + 8) y = 0 ∨ g (j + 8) y = 1) (hx : od_R 1 mX6_become od_Z0 E (none, E, g2) 155 [some (2, k), some (2, j), some (0, 6)] [] E (cBe4 g k j 6)) : ∀ (m : Nat) (i : Int), (0 ≤ i ∧ i ≤ 6) → ((6 - i).toNat) < m → od_R 1 mX6_become od_Z0 E (none, E, g2) 119 [some (2, k), some (2, j), some (0, i)] [] E (cBe4 g k j i) := by
  have hs0 := hs
  obtain ⟨hk, r0, r1, r2, r3, r4, r5, r6, r7, a1, a2, a3, a4, a5, a6, a7, a8⟩ := hs
  have hj0 := hj
  obtain ⟨hkj, q0, q1, q2, q3, q4, q5, q6, q7, b1, b2, b3, b4, b5, b6, b7, b8⟩ := hj
  intro m
  induction m with
  | zero => intro i hi hM; exact absurd hM (Nat.not_lt_zero _)
  | succ m ih =>
    intro i hi hM
    refine r_iload_n dX6_become_119 rfl ?_
    refine r_bipush dX6_become_120 lb_6 ?_
    refine r_icmp_ge (tgt := 155) dX6_become_122 rfl (fun c122 => ?_) (fun c122 => ?_)
    · rw [show i = 6 by omega]
      exact hx
    · refine r_aload_n dX6_become_125 rfl ?_
      refine r_getR dX6_become_126 fkX6_33 gf6_6 (by assumption) (by assumption) ?_
      refine r_iload_n dX6_become_129 rfl ?_
      refine r_aload_n dX6_become_130 rfl ?_
      refine r_getR dX6_become_131 fkX6_33 gf6_6 (by assumption) (by assumption) ?_
      refine r_iload_n dX6_become_134 rfl ?_
      refine r_iald dX6_become_135 (by assumption) (by omega) (by (repeat (first | rewrite [od_upn (by omega)] | rewrite [od_up_at, if_pos (by omega)] | rewrite [od_up_at, if_neg (by omega)])); rfl) ?_
      refine r_iast dX6_become_136 (by assumption) (by omega) ?_
      refine r_aload_n dX6_become_137 rfl ?_
      refine r_getR dX6_become_138 fkX6_36 gf6_7 (by assumption) (by assumption) ?_
      refine r_iload_n dX6_become_141 rfl ?_
      refine r_aload_n dX6_become_142 rfl ?_
      refine r_getR dX6_become_143 fkX6_36 gf6_7 (by assumption) (by assumption) ?_
      refine r_iload_n dX6_become_146 rfl ?_
      refine r_zald dX6_become_147 (by assumption) (by omega) (by (repeat (first | rewrite [od_upn (by omega)] | rewrite [od_up_at, if_pos (by omega)] | rewrite [od_up_at, if_neg (by omega)])); rfl) ?_
      refine r_zast dX6_become_148 (by have hzi := hz i hi.1 (by omega); simp only [cBe4, od_cp, od_up]; clear ih hx hs0 hk r0 r1 r2 r3 r4 r5 r6 r7 a1 a2 a3 a4 a5 a6 a7 a8 hj0 hkj q0 q1 q2 q3 q4 q5 q6 q7 b1 b2 b3 b4 b5 b6 b7 b8; grind (splits := 40)) (by assumption) (by omega) ?_
      refine r_iincE dX6_become_149 rfl (by decide) (by first | exact od_w0 (by omega) (by omega) | exact od_wI (by omega) (by omega) | rfl) rfl ?_
      refine r_goto (tgt := 119) dX6_become_152 rfl ?_
      have h := ih (i + 1) ⟨by omega, by omega⟩ (by omega)
      refine cast (congrArg _ ?_) h
      clear h ih hx hs0 hk r0 r1 r2 r3 r4 r5 r6 r7 a1 a2 a3 a4 a5 a6 a7 a8 hj0 hkj q0 q1 q2 q3 q4 q5 q6 q7 b1 b2 b3 b4 b5 b6 b7 b8
      funext x y
      simp only [cBe4, od_cp, od_up]
      grind (splits := 40)
set_option maxRecDepth 10000 in
theorem c_X6_become {E : od_E} {g : od_G} {k : Int} (hs : StAt E k) {j : Int} (hj : StAt E j) (hne : k + 9 ≤ j ∨ j + 9 ≤ k) (hl : ∀ y : Int, 0 ≤ y → y < 6 → g (j + 6) y = -1 ∨ (E.2.1 (g (j + 6) y)).1 = 9) (hz : ∀ y : Int, 0 ≤ y → y < 6 → g (j + 8) y = 0 ∨ g (j + 8) y = 1) : od_Ct 1 mX6_become [(2, k), (2, j)] E g (none, E, cBecome g k j) := by
  have hs0 := hs
  obtain ⟨hk, r0, r1, r2, r3, r4, r5, r6, r7, a1, a2, a3, a4, a5, a6, a7, a8⟩ := hs
  have hj0 := hj
  obtain ⟨hkj, q0, q1, q2, q3, q4, q5, q6, q7, b1, b2, b3, b4, b5, b6, b7, b8⟩ := hj
  refine od_ctI pnX6 rfl (Nat.le_of_ble_eq_true rfl) od_le.rf ?_
  show od_R _ _ _ _ _ 0 [some (2, k), some (2, j), none] [] E g
  refine r_iconst dX6_become_0 li_0 ?_
  refine r_istore_n dX6_become_1 (by decide) rfl ?_
  refine od_gc (cBe1_0 g k j) ?_
  refine lp_X6_be1 hs0 hj0 hne ?_ _ _ ⟨by omega, by omega⟩ (Nat.lt_succ_self _)
  refine r_iconst dX6_become_62 li_0 ?_
  refine r_istore_n dX6_become_63 (by decide) rfl ?_
  refine od_gc (cBe2_0 (cBe1 g k j 6) k j) ?_
  refine lp_X6_be2 hs0 hj0 hne ?_ _ _ ⟨by omega, by omega⟩ (Nat.lt_succ_self _)
  refine r_iconst dX6_become_91 li_0 ?_
  refine r_istore_n dX6_become_92 (by decide) rfl ?_
  refine od_gc (cBe3_0 (cBe2 (cBe1 g k j 6) k j 3) k j) ?_
  refine lp_X6_be3 hs0 hj0 hne (fun y h0 h6 => by rw [show cBe2 (cBe1 g k j 6) k j 3 (j + 6) y = g (j + 6) y by simp only [cBe2, cBe1, od_cp]; grind (splits := 40)]; exact hl y h0 h6) ?_ _ _ ⟨by omega, by omega⟩ (Nat.lt_succ_self _)
  refine r_iconst dX6_become_117 li_0 ?_
  refine r_istore_n dX6_become_118 (by decide) rfl ?_
  refine od_gc (cBe4_0 (cBe3 (cBe2 (cBe1 g k j 6) k j 3) k j 6) k j) ?_
  refine lp_X6_be4 hs0 hj0 hne (fun y h0 h6 => by rw [show cBe3 (cBe2 (cBe1 g k j 6) k j 3) k j 6 (j + 8) y = g (j + 8) y by simp only [cBe3, cBe2, cBe1, od_cp]; grind (splits := 40)]; exact hz y h0 h6) ?_ _ _ ⟨by omega, by omega⟩ (Nat.lt_succ_self _)
  refine od_gc (cBe_all hne).symm ?_
  refine r_aload_n dX6_become_155 rfl ?_
  refine r_aload_n dX6_become_156 rfl ?_
  refine r_getIj (j := 8) rfl dX6_become_157 fkX6_40 gf6_8 (by assumption) (by (repeat (first | rewrite [od_upn (by omega)] | rewrite [od_up_at, if_pos (by omega)] | rewrite [od_up_at, if_neg (by omega)])); rfl) ?_
  refine r_putIj (j := 8) rfl dX6_become_160 fkX6_40 gf6_8 pf6_8 (by assumption) ?_
  refine r_aload_n dX6_become_163 rfl ?_
  refine r_aload_n dX6_become_164 rfl ?_
  refine r_getIj (j := 9) rfl dX6_become_165 fkX6_44 gf6_9 (by assumption) (by (repeat (first | rewrite [od_upn (by omega)] | rewrite [od_up_at, if_pos (by omega)] | rewrite [od_up_at, if_neg (by omega)])); rfl) ?_
  refine r_putIj (j := 9) rfl dX6_become_168 fkX6_44 gf6_9 pf6_9 (by assumption) ?_
  refine r_aload_n dX6_become_171 rfl ?_
  refine r_aload_n dX6_become_172 rfl ?_
  refine r_getIj (j := 10) rfl dX6_become_173 fkX6_47 gf6_10 (by assumption) (by (repeat (first | rewrite [od_upn (by omega)] | rewrite [od_up_at, if_pos (by omega)] | rewrite [od_up_at, if_neg (by omega)])); rfl) ?_
  refine r_putIj (j := 10) rfl dX6_become_176 fkX6_47 gf6_10 pf6_10 (by assumption) ?_
  refine r_aload_n dX6_become_179 rfl ?_
  refine r_aload_n dX6_become_180 rfl ?_
  refine r_getIj (j := 11) rfl dX6_become_181 fkX6_50 gf6_11 (by assumption) (by (repeat (first | rewrite [od_upn (by omega)] | rewrite [od_up_at, if_pos (by omega)] | rewrite [od_up_at, if_neg (by omega)])); rfl) ?_
  refine r_putIj (j := 11) rfl dX6_become_184 fkX6_50 gf6_11 pf6_11 (by assumption) ?_
  refine r_aload_n dX6_become_187 rfl ?_
  refine r_aload_n dX6_become_188 rfl ?_
  refine r_getIj (j := 12) rfl dX6_become_189 fkX6_53 gf6_12 (by assumption) (by (repeat (first | rewrite [od_upn (by omega)] | rewrite [od_up_at, if_pos (by omega)] | rewrite [od_up_at, if_neg (by omega)])); rfl) ?_
  refine r_putIj (j := 12) rfl dX6_become_192 fkX6_53 gf6_12 pf6_12 (by assumption) ?_
  exact r_vret dX6_become_195 rfl (by refine Prod.ext rfl (Prod.ext rfl ?_); clear hs0 hk r0 r1 r2 r3 r4 r5 r6 r7 a1 a2 a3 a4 a5 a6 a7 a8 hj0 hkj q0 q1 q2 q3 q4 q5 q6 q7 b1 b2 b3 b4 b5 b6 b7 b8 hl hz; funext x y; simp only [cBecome, od_up]; grind (splits := 60))
