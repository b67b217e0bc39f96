/-! the reference: few -/
theorem r_ldivE {d : Nat} {M : od_M} {Z : od_Zt} {E0 : od_E} {res : od_Q} {pc : Nat} {L : od_L} {st : List od_V} {E : od_E} {g : od_G} {a b y : Int} (hd : decode M.2.2.1 pc = .ok (.ldiv, 1)) (hb : b ≠ 0) (hy : od_wl (a.tdiv b) = y) (k : od_Rq d M Z E0 res (pc + 1) L ((1, y) :: st) E g) : od_Rq d M Z E0 res pc L ((1, b) :: (1, a) :: st) E g := r_ldiv hd hb (by rw [hy]; exact k)
theorem od_up_j {g : od_G} {a j x i : Int} (h : i ≠ j) : od_up g a j x a i = g a i := by rw [od_up_at, if_neg h]
/-- how likely i have slipped of n -/
def od_few (s : Int) : Nat → Int → Int
  | 0, i => if i = 0 then 1000000000000 else 0
  | j + 1, i => (od_few s j i * (10 - s)).tdiv 10 + (if 0 < i then (od_few s j (i - 1) * s).tdiv 10 else 0)
theorem od_td10 {x m : Int} (h0 : 0 ≤ x) (h1 : x ≤ 10 * m) : 0 ≤ x.tdiv 10 ∧ x.tdiv 10 ≤ m ∧ 10 * (x.tdiv 10) ≤ x := by
  rw [Int.tdiv_eq_ediv_of_nonneg h0]
  omega
theorem od_shr_b {a s m : Int} (ha : 0 ≤ a ∧ a ≤ m) (hs : 0 ≤ s ∧ s ≤ 10) : 0 ≤ a * s ∧ a * s ≤ m * s := ⟨Int.mul_nonneg ha.1 hs.1, Int.mul_le_mul_of_nonneg_right ha.2 hs.1⟩
theorem od_few_b {s : Int} (hs : 0 ≤ s ∧ s ≤ 10) : ∀ (j : Nat) (i : Int), 0 ≤ od_few s j i ∧ od_few s j i ≤ 1000000000000 := by
  intro j
  induction j with
  | zero => intro i; unfold od_few; split <;> omega
  | succ j ih =>
    intro i
    have a := od_shr_b (s := 10 - s) (ih i) (by omega)
    have b := od_shr_b (ih (i - 1)) hs
    have a1 := od_td10 (x := od_few s j i * (10 - s)) (m := 1000000000000) a.1 (by omega)
    have b1 := od_td10 (x := od_few s j (i - 1) * s) (m := 1000000000000) b.1 (by omega)
    show 0 ≤ (od_few s j i * (10 - s)).tdiv 10 + (if 0 < i then (od_few s j (i - 1) * s).tdiv 10 else 0) ∧ (od_few s j i * (10 - s)).tdiv 10 + (if 0 < i then (od_few s j (i - 1) * s).tdiv 10 else 0) ≤ 1000000000000
    split <;> omega
theorem od_few_0 (s i : Int) : od_few s 0 i = if i = 0 then 1000000000000 else 0 := rfl
theorem od_few_s (s : Int) (j : Nat) (i : Int) : od_few s (j + 1) i = (od_few s j i * (10 - s)).tdiv 10 + (if 0 < i then (od_few s j (i - 1) * s).tdiv 10 else 0) := rfl
def od_fsm (s : Int) (n : Nat) : Nat → Int
  | 0 => 0
  | i + 1 => od_fsm s n i + od_few s n i
theorem od_fsm_s (s : Int) (n : Nat) {i : Int} (hi : 0 ≤ i) : od_fsm s n (i + 1).toNat = od_fsm s n i.toNat + od_few s n i := by
  rw [show (i + 1).toNat = i.toNat + 1 by omega]
  show od_fsm s n i.toNat + od_few s n (i.toNat : Nat) = _
  rw [show ((i.toNat : Nat) : Int) = i by omega]
theorem od_fsm_b {s : Int} (hs : 0 ≤ s ∧ s ≤ 10) (n : Nat) : ∀ i : Nat, 0 ≤ od_fsm s n i ∧ od_fsm s n i ≤ 1000000000000 * i := by
  intro i
  induction i with
  | zero => exact ⟨Int.le_refl _, Int.le_refl _⟩
  | succ i ih =>
    have b := od_few_b hs n i
    show 0 ≤ od_fsm s n i + od_few s n i ∧ od_fsm s n i + od_few s n i ≤ _
    omega
def FX (M : Int) : Int → Int → Prop := fun x _ => x = M + 21
def mFew (s k n : Int) : Int := od_fsm s n.toNat k.toNat
set_option maxRecDepth 10000 in
theorem lp_X11_fewA {E : od_E} {g : od_G} {Q : Option od_V → od_G → Prop} {M : Int} (hm : MoAt E M) (s k n : Int) (hx : ∀ gw : od_G, od_fr (FX M) g gw → (∀ x : Int, 0 ≤ x → x < 21 → gw (M + 21) x = od_few s 0 x) → od_Rq 2 mX11_few od_Z0 E (E, Q) 55 [some (2, M), some (0, k), some (0, n), some (0, 21), none, none] [] E gw) : ∀ (m : Nat) (i : Int) (gw : od_G), (0 ≤ i ∧ i ≤ 21 ∧ od_fr (FX M) g gw ∧ (∀ x : Int, 0 ≤ x → x < i → gw (M + 21) x = od_few s 0 x)) → ((21 - i).toNat) < m → od_Rq 2 mX11_few od_Z0 E (E, Q) 26 [some (2, M), some (0, k), some (0, n), some (0, i), none, none] [] E gw := by
  intro m
  induction m with
  | zero => intro i gw hi hM; exact absurd hM (Nat.not_lt_zero _)
  | succ m ih =>
    intro i gw hi hM
    obtain ⟨hi0, hi1, hfr, hr⟩ := hi
    refine r_iload_n dX11_few_26 rfl ?_
    refine r_bipush dX11_few_27 lb_20 ?_
    refine r_icmp_gt (tgt := 55) dX11_few_29 rfl (fun c29 => ?_) (fun c29 => ?_)
    · have hi9 : i = 21 := by omega
      subst hi9
      exact hx gw hfr hr
    · refine r_aload_n dX11_few_32 rfl ?_
      refine r_getR dX11_few_33 fkX11_90 gf11_40 (mo_o hm) (mo_r40 hm) ?_
      refine r_iload_n dX11_few_36 rfl ?_
      refine r_iload_n dX11_few_37 rfl ?_
      refine r_if_ne (tgt := 47) dX11_few_38 rfl (fun c38 => ?_) (fun c38 => ?_)
      · refine r_lconst dX11_few_47 ll_0 ?_
        refine r_last dX11_few_48 (mo_k40 hm) (by omega) ?_
        refine r_iincE dX11_few_49 rfl (by decide) (by first | exact od_w0 (by omega) (by omega) | exact od_wI (by omega) (by omega) | rfl) rfl ?_
        refine r_goto (tgt := 26) dX11_few_52 rfl ?_
        refine ih _ _ ⟨by omega, by omega, hfr.up rfl, fun x h0 h1 => ?_⟩ (by omega)
        rw [od_up_at]
        by_cases cx : x = i
        · rw [if_pos cx, cx, od_few_0]
          first | rw [if_pos (by omega)] | rw [if_neg (by omega)]
        · rw [if_neg cx]
          exact hr x h0 (by omega)
      · refine r_ldc2 dX11_few_41 kcX11_424 lk_X11_424 ?_
        refine r_goto (tgt := 48) dX11_few_44 rfl ?_
        refine r_last dX11_few_48 (mo_k40 hm) (by omega) ?_
        refine r_iincE dX11_few_49 rfl (by decide) (by first | exact od_w0 (by omega) (by omega) | exact od_wI (by omega) (by omega) | rfl) rfl ?_
        refine r_goto (tgt := 26) dX11_few_52 rfl ?_
        refine ih _ _ ⟨by omega, by omega, hfr.up rfl, fun x h0 h1 => ?_⟩ (by omega)
        rw [od_up_at]
        by_cases cx : x = i
        · rw [if_pos cx, cx, od_few_0]
          first | rw [if_pos (by omega)] | rw [if_neg (by omega)]
        · rw [if_neg cx]
          exact hr x h0 (by omega)
set_option maxRecDepth 10000 in
theorem lp_X11_fewC {E : od_E} {g : od_G} {Q : Option od_V → od_G → Prop} {M : Int} (hm : MoAt E M) (s k n j : Int) (hs : 0 ≤ s ∧ s ≤ 10) (h43 : g (M + 2) 43 = s) (hk : 1 ≤ k ∧ k ≤ 20) (hj : 0 ≤ j ∧ j < 99) (hx : ∀ gw : od_G, od_fr (FX M) g gw → (∀ x : Int, 0 ≤ x → x < k → gw (M + 21) x = od_few s (j.toNat + 1) x) → 0 ≤ gw (M + 21) k → gw (M + 21) k ≤ (j + 1) * 1000000000000 → od_Rq 2 mX11_few od_Z0 E (E, Q) 140 [some (2, M), some (0, k), some (0, n), some (0, j), some (0, -1), none] [] E gw) : ∀ (m : Nat) (i : Int) (gw : od_G), (-1 ≤ i ∧ i < k ∧ od_fr (FX M) g gw ∧ (∀ x : Int, 0 ≤ x → x < i + 1 → gw (M + 21) x = od_few s j.toNat x) ∧ (i + 1 < k → gw (M + 21) (i + 1) = (od_few s j.toNat (i + 1) * (10 - s)).tdiv 10) ∧ (∀ x : Int, i + 1 < x → x < k → gw (M + 21) x = od_few s (j.toNat + 1) x) ∧ 0 ≤ gw (M + 21) k ∧ gw (M + 21) k ≤ (j + 1) * 1000000000000 ∧ (i = k - 1 → gw (M + 21) k ≤ j * 1000000000000)) → ((i + 1).toNat) < m → od_Rq 2 mX11_few od_Z0 E (E, Q) 67 [some (2, M), some (0, k), some (0, n), some (0, j), some (0, i), none] [] E gw := by
  intro m
  induction m with
  | zero => intro i gw hi hM; exact absurd hM (Nat.not_lt_zero _)
  | succ m ih =>
    intro i gw hi hM
    obtain ⟨hi0, hi1, hfr, hr, hr1, hr2, hb0, hb1, hb2⟩ := hi
    have e43 : gw (M + 2) 43 = s := by rw [hfr _ _ (by unfold FX; omega)]; exact h43
    have bi := od_few_b hs j.toNat i
    have pa := od_shr_b (s := 10 - s) bi (by omega)
    have pb := od_shr_b bi hs
    have ta := od_td10 (x := od_few s j.toNat i * (10 - s)) (m := 1000000000000) pa.1 (by omega)
    have tb := od_td10 (x := od_few s j.toNat i * s) (m := 1000000000000) pb.1 (by omega)
    have hFi : 0 ≤ i → gw (M + 21) i = od_few s j.toNat i := fun z => hr i z (by omega)
    have hv : 0 ≤ gw (M + 21) (i + 1) ∧ gw (M + 21) (i + 1) ≤ (j + 1) * 1000000000000 ∧ (i + 1 < k → gw (M + 21) (i + 1) + (od_few s j.toNat i * s).tdiv 10 = od_few s (j.toNat + 1) (i + 1) ∨ i < 0) := by
      by_cases ck : i + 1 = k
      · rw [ck]; exact ⟨hb0, hb1, fun z => by omega⟩
      · have z1 := hr1 (by omega)
        have b2 := od_few_b hs j.toNat (i + 1)
        have pc := od_shr_b (s := 10 - s) b2 (by omega)
        have tc := od_td10 (x := od_few s j.toNat (i + 1) * (10 - s)) (m := 1000000000000) pc.1 (by omega)
        refine ⟨by omega, by omega, fun _ => ?_⟩
        by_cases ci : i < 0
        · exact Or.inr ci
        · left
          rw [z1, od_few_s, if_pos (by omega), show i + 1 - 1 = i by omega]
    refine r_iload dX11_few_67 rfl ?_
    refine r_if_lt (tgt := 140) dX11_few_69 rfl (fun c69 => ?_) (fun c69 => ?_)
    · have hi9 : i = -1 := by omega
      subst hi9
      refine hx gw hfr (fun x h0 h1 => ?_) hb0 hb1
      by_cases cx : x = 0
      · have z := hr1 (by omega)
        rw [show (-1 : Int) + 1 = 0 by omega] at z
        rw [cx, z, od_few_s, if_neg (by omega), Int.add_zero]
      · exact hr2 x (by omega) h1
    · refine r_aload_n dX11_few_72 rfl ?_
      refine r_getR dX11_few_73 fkX11_90 gf11_40 (mo_o hm) (mo_r40 hm) ?_
      refine r_iload dX11_few_76 rfl ?_
      refine r_iconst dX11_few_78 li_1 ?_
      refine r_iaddE dX11_few_79 (by first | exact od_w0 (by omega) (by omega) | exact od_wI (by omega) (by omega) | rfl) ?_
      refine r_dup2 dX11_few_80 (by first | exact od_ne2 | exact od_ne0) (by first | exact od_ne2 | exact od_ne0) ?_
      refine r_lald dX11_few_81 (mo_k40 hm) (by omega) (by first | exact e43 | exact hFi (by omega) | exact (od_upn (by omega)).trans e43 | exact (od_up_j (by omega)).trans (hFi (by omega)) | rfl) ?_
      refine r_aload_n dX11_few_82 rfl ?_
      refine r_getR dX11_few_83 fkX11_90 gf11_40 (mo_o hm) (mo_r40 hm) ?_
      refine r_iload dX11_few_86 rfl ?_
      refine r_lald dX11_few_88 (mo_k40 hm) (by omega) (by first | exact e43 | exact hFi (by omega) | exact (od_upn (by omega)).trans e43 | exact (od_up_j (by omega)).trans (hFi (by omega)) | rfl) ?_
      refine r_aload_n dX11_few_89 rfl ?_
      refine r_getR dX11_few_90 fkX11_28 gf11_2 (mo_o hm) (mo_r2 hm) ?_
      refine r_bipush dX11_few_93 lb_43 ?_
      refine r_iald dX11_few_95 (mo_k2 hm) (by omega) (by first | exact e43 | exact hFi (by omega) | exact (od_upn (by omega)).trans e43 | exact (od_up_j (by omega)).trans (hFi (by omega)) | rfl) ?_
      refine r_i2l dX11_few_96 ?_
      refine r_lmulE dX11_few_97 (by first | exact od_wlI (by omega) (by omega) | rfl) ?_
      refine r_ldc2 dX11_few_98 kcX11_426 lk_X11_426 ?_
      refine r_ldivE dX11_few_101 (by decide) (by first | exact od_wlI (by omega) (by omega) | rfl) ?_
      refine r_laddE dX11_few_102 (by first | exact od_wlI (by omega) (by omega) | rfl) ?_
      refine r_last dX11_few_103 (mo_k40 hm) (by omega) ?_
      refine r_aload_n dX11_few_104 rfl ?_
      refine r_getR dX11_few_105 fkX11_90 gf11_40 (mo_o hm) (mo_r40 hm) ?_
      refine r_iload dX11_few_108 rfl ?_
      refine r_aload_n dX11_few_110 rfl ?_
      refine r_getR dX11_few_111 fkX11_90 gf11_40 (mo_o hm) (mo_r40 hm) ?_
      refine r_iload dX11_few_114 rfl ?_
      refine r_lald dX11_few_116 (mo_k40 hm) (by omega) (by first | exact e43 | exact hFi (by omega) | exact (od_upn (by omega)).trans e43 | exact (od_up_j (by omega)).trans (hFi (by omega)) | rfl) ?_
      refine r_bipush dX11_few_117 lb_10 ?_
      refine r_aload_n dX11_few_119 rfl ?_
      refine r_getR dX11_few_120 fkX11_28 gf11_2 (mo_o hm) (mo_r2 hm) ?_
      refine r_bipush dX11_few_123 lb_43 ?_
      refine r_iald dX11_few_125 (mo_k2 hm) (by omega) (by first | exact e43 | exact hFi (by omega) | exact (od_upn (by omega)).trans e43 | exact (od_up_j (by omega)).trans (hFi (by omega)) | rfl) ?_
      refine r_isubE dX11_few_126 (by first | exact od_w0 (by omega) (by omega) | exact od_wI (by omega) (by omega) | rfl) ?_
      refine r_i2l dX11_few_127 ?_
      refine r_lmulE dX11_few_128 (by first | exact od_wlI (by omega) (by omega) | rfl) ?_
      refine r_ldc2 dX11_few_129 kcX11_426 lk_X11_426 ?_
      refine r_ldivE dX11_few_132 (by decide) (by first | exact od_wlI (by omega) (by omega) | rfl) ?_
      refine r_last dX11_few_133 (mo_k40 hm) (by omega) ?_
      refine r_iincE dX11_few_134 rfl (by decide) (by first | exact od_w0 (by omega) (by omega) | exact od_wI (by omega) (by omega) | rfl) rfl ?_
      refine r_goto (tgt := 67) dX11_few_137 rfl ?_
      refine ih _ _ ⟨by omega, by omega, (hfr.up rfl).up rfl, fun x h0 h1 => ?_, fun h1 => ?_, fun x h0 h1 => ?_, ?_, ?_, fun h1 => by omega⟩ (by omega)
      · rw [od_up_at, if_neg (by omega), od_up_at, if_neg (by omega)]
        exact hr x h0 (by omega)
      · rw [od_up_at, if_pos (by omega), show i + -1 + 1 = i by omega]
      · rw [od_up_at, if_neg (by omega), od_up_at]
        by_cases cx : x = i + 1
        · rw [if_pos cx, cx]
          rcases hv.2.2 (by omega) with z | z
          · exact z
          · omega
        · rw [if_neg cx]
          exact hr2 x (by omega) h1
      · rw [od_up_at, if_neg (by omega), od_up_at]
        split <;> omega
      · rw [od_up_at, if_neg (by omega), od_up_at]
        split
        · have z := hb2 (by omega)
          have e : i + 1 = k := by omega
          rw [e]
          omega
        · omega
set_option maxRecDepth 10000 in
theorem lp_X11_fewB {E : od_E} {g : od_G} {Q : Option od_V → od_G → Prop} {M : Int} (hm : MoAt E M) (s k n : Int) (hs : 0 ≤ s ∧ s ≤ 10) (h43 : g (M + 2) 43 = s) (hk : 1 ≤ k ∧ k ≤ 20) (hn : 0 ≤ n ∧ n ≤ 99) (hx : ∀ (gw : od_G) (x : Option od_V), od_fr (FX M) g gw → (∀ x : Int, 0 ≤ x → x < k → gw (M + 21) x = od_few s n.toNat x) → od_Rq 2 mX11_few od_Z0 E (E, Q) 146 [some (2, M), some (0, k), some (0, n), some (0, n), x, none] [] E gw) : ∀ (m : Nat) (j : Int) (x : Option od_V) (gw : od_G), (0 ≤ j ∧ j ≤ n ∧ od_fr (FX M) g gw ∧ (∀ x : Int, 0 ≤ x → x < k → gw (M + 21) x = od_few s j.toNat x) ∧ 0 ≤ gw (M + 21) k ∧ gw (M + 21) k ≤ j * 1000000000000) → ((n - j).toNat) < m → od_Rq 2 mX11_few od_Z0 E (E, Q) 57 [some (2, M), some (0, k), some (0, n), some (0, j), x, none] [] E gw := by
  intro m
  induction m with
  | zero => intro j x gw hi hM; exact absurd hM (Nat.not_lt_zero _)
  | succ m ih =>
    intro j x gw hi hM
    obtain ⟨hi0, hi1, hfr, hr, hb0, hb1⟩ := hi
    refine r_iload_n dX11_few_57 rfl ?_
    refine r_iload_n dX11_few_58 rfl ?_
    refine r_icmp_ge (tgt := 146) dX11_few_59 rfl (fun c59 => ?_) (fun c59 => ?_)
    · have hj9 : j = n := by omega
      subst hj9
      exact hx gw x hfr hr
    · refine r_iload_n dX11_few_62 rfl ?_
      refine r_iconst dX11_few_63 li_1 ?_
      refine r_isubE dX11_few_64 (by first | exact od_w0 (by omega) (by omega) | exact od_wI (by omega) (by omega) | rfl) ?_
      refine r_istore dX11_few_65 (by decide) rfl ?_
      refine lp_X11_fewC (g := g) hm s k n j hs h43 hk (by omega) (fun gx hgx hrx hx0 hx1 => ?_) _ _ _ ⟨by omega, by omega, hfr, fun x h0 h1 => hr x h0 (by omega), fun h1 => by omega, fun x h0 h1 => by omega, hb0, by omega, fun _ => hb1⟩ (Nat.lt_succ_self _)
      refine r_iincE dX11_few_140 rfl (by decide) (by first | exact od_w0 (by omega) (by omega) | exact od_wI (by omega) (by omega) | rfl) rfl ?_
      refine r_goto (tgt := 57) dX11_few_143 rfl ?_
      exact ih _ _ _ ⟨by omega, by omega, hgx, fun x h0 h1 => by rw [show (j + 1).toNat = j.toNat + 1 by omega]; exact hrx x h0 h1, hx0, hx1⟩ (by omega)
set_option maxRecDepth 10000 in
theorem lp_X11_fewD {E : od_E} {g : od_G} {Q : Option od_V → od_G → Prop} {M : Int} (hm : MoAt E M) (s k n : Int) (hs : 0 ≤ s ∧ s ≤ 10) (hk : 1 ≤ k ∧ k ≤ 20) (hr : ∀ x : Int, 0 ≤ x → x < k → g (M + 21) x = od_few s n.toNat x) (hq : Q (some (1, mFew s k n)) g) : ∀ (m : Nat) (i t : Int), (0 ≤ i ∧ i ≤ k ∧ t = od_fsm s n.toNat i.toNat) → ((k - i).toNat) < m → od_Rq 2 mX11_few od_Z0 E (E, Q) 151 [some (2, M), some (0, k), some (0, n), some (1, t), none, some (0, i)] [] E g := by
  intro m
  induction m with
  | zero => intro i t hi hM; exact absurd hM (Nat.not_lt_zero _)
  | succ m ih =>
    intro i t hi hM
    obtain ⟨hi0, hi1, ht⟩ := hi
    have bt := od_fsm_b hs n.toNat i.toNat
    have bi := od_few_b hs n.toNat i
    have st := od_fsm_s s n.toNat hi0
    refine r_iload dX11_few_151 rfl ?_
    refine r_iload_n dX11_few_153 rfl ?_
    refine r_icmp_ge (tgt := 173) dX11_few_154 rfl (fun c154 => ?_) (fun c154 => ?_)
    · refine r_lload_n dX11_few_173 rfl ?_
      have hi9 : i = k := by omega
      subst hi9
      exact r_lretq dX11_few_174 rfl rfl (by rw [ht]; exact hq)
    · refine r_lload_n dX11_few_157 rfl ?_
      refine r_aload_n dX11_few_158 rfl ?_
      refine r_getR dX11_few_159 fkX11_90 gf11_40 (mo_o hm) (mo_r40 hm) ?_
      refine r_iload dX11_few_162 rfl ?_
      refine r_lald dX11_few_164 (mo_k40 hm) (by omega) (by exact hr i hi0 (by omega)) ?_
      refine r_laddE dX11_few_165 (by first | exact od_wlI (by omega) (by omega) | rfl) ?_
      refine r_lstore_n dX11_few_166 (by decide) rfl ?_
      refine r_iincE dX11_few_167 rfl (by decide) (by first | exact od_w0 (by omega) (by omega) | exact od_wI (by omega) (by omega) | rfl) rfl ?_
      refine r_goto (tgt := 151) dX11_few_170 rfl ?_
      exact ih _ _ ⟨by omega, by omega, by rw [st, ht]⟩ (by omega)
set_option maxRecDepth 10000 in
theorem c_X11_few {E : od_E} {g : od_G} {M : Int} (hm : MoAt E M) (h43 : 0 ≤ g (M + 2) 43 ∧ g (M + 2) 43 ≤ 10) (k n : Int) : od_Cf 2 mX11_few [(2, M), (0, k), (0, n)] E g (some (1, od_ite (mLies k 1 20 ∧ mLies n 0 99) (mFew (g (M + 2) 43) k n) (-1))) (FX M) := by
  refine od_cqI pnX11 rfl (Nat.le_of_ble_eq_true rfl) od_le.rf ?_
  show od_Rf 2 mX11_few od_Z0 E (some (1, od_ite (mLies k 1 20 ∧ mLies n 0 99) (mFew (g (M + 2) 43) k n) (-1))) (FX M) g 0 [some (2, M), some (0, k), some (0, n), none, none, none] [] E g
  refine r_iload_n dX11_few_0 rfl ?_
  refine r_iconst dX11_few_1 li_1 ?_
  refine r_bipush dX11_few_2 lb_20 ?_
  refine r_callS3b dX11_few_4 csX11_18 (c_X11_lies _ _ _) (by decide) (Nat.le_of_ble_eq_true rfl) od_le.rf (fun q4 => ?_) (fun q4 => ?_)
  · refine r_if_eq (tgt := 20) dX11_few_7 rfl (fun h => absurd h (by decide)) (fun _ => ?_)
    refine r_iload_n dX11_few_10 rfl ?_
    refine r_iconst dX11_few_11 li_0 ?_
    refine r_bipush dX11_few_12 lb_99 ?_
    refine r_callS3b dX11_few_14 csX11_18 (c_X11_lies _ _ _) (by decide) (Nat.le_of_ble_eq_true rfl) od_le.rf (fun q14 => ?_) (fun q14 => ?_)
    · refine r_if_ne (tgt := 24) dX11_few_17 rfl (fun _ => ?_) (fun h => absurd h (by decide))
      refine r_iconst dX11_few_24 li_0 ?_
      refine r_istore_n dX11_few_25 (by decide) rfl ?_
      have u4 := q4
      have u14 := q14
      unfold mLies at u4 u14
      refine lp_X11_fewA (g := g) hm (g (M + 2) 43) k n (fun gx hgx hrx => ?_) _ _ _ ⟨by omega, by omega, od_fr.rf, fun x h0 h1 => by omega⟩ (Nat.lt_succ_self _)
      refine r_iconst dX11_few_55 li_0 ?_
      refine r_istore_n dX11_few_56 (by decide) rfl ?_
      refine lp_X11_fewB (g := g) hm (g (M + 2) 43) k n h43 rfl u4 u14 (fun gy x hgy hry => ?_) _ _ _ _ ⟨by omega, by omega, hgx, fun x h0 h1 => hrx x h0 (by omega), by rw [hrx k (by omega) (by omega), od_few_0, if_neg (by omega)]; omega, by rw [hrx k (by omega) (by omega), od_few_0, if_neg (by omega)]; omega⟩ (Nat.lt_succ_self _)
      refine r_lconst dX11_few_146 ll_0 ?_
      refine r_lstore_n dX11_few_147 (by decide) rfl ?_
      refine r_iconst dX11_few_148 li_0 ?_
      refine r_istore dX11_few_149 (by decide) rfl ?_
      exact lp_X11_fewD hm (g (M + 2) 43) k n h43 u4 hry ⟨by rw [od_ite_t ⟨q4, q14⟩], hgy⟩ _ _ _ ⟨by omega, by omega, rfl⟩ (Nat.lt_succ_self _)
    · refine r_if_ne (tgt := 24) dX11_few_17 rfl (fun h => absurd h (by decide)) (fun _ => ?_)
      refine r_ldc2 dX11_few_20 kcX11_422 lk_X11_422 ?_
      first
      | exact r_lretq dX11_few_23 rfl rfl ⟨by rw [od_ite_f (fun z => absurd z.2 (by assumption))], od_fr.rf⟩
      | exact r_lretq dX11_few_23 rfl rfl ⟨by rw [od_ite_f (fun z => absurd z.1 (by assumption))], od_fr.rf⟩
  · refine r_if_eq (tgt := 20) dX11_few_7 rfl (fun _ => ?_) (fun h => absurd h (by decide))
    refine r_ldc2 dX11_few_20 kcX11_422 lk_X11_422 ?_
    first
    | exact r_lretq dX11_few_23 rfl rfl ⟨by rw [od_ite_f (fun z => absurd z.2 (by assumption))], od_fr.rf⟩
    | exact r_lretq dX11_few_23 rfl rfl ⟨by rw [od_ite_f (fun z => absurd z.1 (by assumption))], od_fr.rf⟩
