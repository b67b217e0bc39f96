/-! words and tokens of the reference -/
def od_mwl : List Int := [115, 111, 117, 110, 100, 115, 32, 100, 114, 111, 112, 115, 32, 98, 97, 114, 115, 32, 105, 102, 32, 111, 114, 32, 97, 110, 100, 32, 110, 111, 116, 32, 100, 114, 117, 109, 32, 108, 111, 110, 103, 32, 107, 105, 110, 100, 32, 98, 101, 97, 116, 32, 109, 111, 111, 100, 32, 112, 105, 110, 115, 32, 104, 111, 117, 114, 32, 100, 111, 110, 101, 32, 108, 97, 116, 101, 115, 116, 32, 108, 111, 117, 100, 32, 97, 108, 108, 32, 97, 116, 32, 112, 105, 110, 32, 115, 104, 105, 102, 116, 32, 98, 121, 32, 115, 116, 111, 112, 32, 112, 97, 115, 115, 32, 116, 105, 109, 101, 115, 32]
def od_mw (j : Int) : Int := od_mwl.getD j.toNat 0
def od_ksl : List Int := [0, 7, 13, 18, 21, 24, 28, 32, 37, 42, 47, 52, 57, 62, 67, 72, 79, 84, 88, 91, 95, 101, 104, 109, 114, 120]
def od_ks (w : Int) : Int := od_ksl.getD w.toNat 0
theorem od_mwf : ∀ w : Nat, w < 25 → (0 ≤ od_ks (w : Int) ∧ od_ks (w : Int) + ((od_wds.getD w []).length : Int) < 120) ∧ od_ks ((w : Int) + 1) = od_ks (w : Int) + ((od_wds.getD w []).length : Int) + 1 ∧ (od_wds.getD w []).length ≤ 6 ∧ od_mw (od_ks (w : Int) + ((od_wds.getD w []).length : Int)) = 32 ∧ ∀ i : Nat, i < (od_wds.getD w []).length → od_mw (od_ks (w : Int) + (i : Int)) = (od_wds.getD w []).getD i 0 ∧ (od_wds.getD w []).getD i 0 ≠ 32 := by decide +kernel
theorem od_ks25 : ∀ w : Nat, w < 26 → (120 ≤ od_ks (w : Int) ↔ w = 25) := by decide +kernel
theorem tW_no {B : Int → Int} {s e : Int} (h : ∀ w : Nat, w < 25 → ¬ tSp B s e (od_wds.getD w [])) : tW B s e = 0 := by
  rcases tWf_s (B := B) (s := s) (e := e) od_wds 1 with ⟨h1, _⟩ | ⟨i, h1, h2, h3⟩
  · exact h1
  · exact absurd h3 (h i h1)
theorem tSp_c {B T : Int → Int} {s e : Int} {w : List Int} (h : ∀ j : Int, s ≤ j → j < e → T j = B j) : tSp T s e w ↔ tSp B s e w := by
  unfold tSp
  constructor
  · rintro ⟨a, b⟩
    exact ⟨a, fun i hi => by rw [← h (s + i) (by omega) (by omega)]; exact b i hi⟩
  · rintro ⟨a, b⟩
    exact ⟨a, fun i hi => by rw [h (s + i) (by omega) (by omega)]; exact b i hi⟩
theorem tW_c {B T : Int → Int} {s e : Int} (h : ∀ j : Int, s ≤ j → j < e → T j = B j) : tW T s e = tW B s e := by
  have hb := tW_b B s e
  have ht := tW_b T s e
  by_cases h0 : tW B s e = 0
  · rw [h0]
    by_cases h1 : tW T s e = 0
    · exact h1
    · have q := (tW_iff (B := T) (s := s) (e := e) (k := tW T s e) (by omega)).mp rfl
      rw [tSp_c h, ← tW_iff (by omega)] at q
      omega
  · have q := (tW_iff (B := B) (s := s) (e := e) (k := tW B s e) (by omega)).mp rfl
    rw [← tSp_c h, ← tW_iff (by omega)] at q
    exact q
set_option maxRecDepth 10000 in
theorem lp_X11_wo3 {E : od_E} {g : od_G} {M : Int} (hm : MoAt E M) (hw : ∀ j : Int, 0 ≤ j → j < 120 → g (M + 6) j = od_mw j) (fr to : Int) (h1 : 0 ≤ fr ∧ fr ≤ to ∧ to ≤ 400) (w : Nat) (hw25 : w < 25) (hx : ¬ tSp (g (M + 7)) fr to (od_wds.getD w []) → ∀ (a b : Option od_V), od_R 1 mX11_wordOf od_Z0 E (some (0, tW (g (M + 7)) fr to), E, g) 111 [some (2, M), some (0, fr), some (0, to), some (0, (w : Int) + 1), some (0, od_ks (w : Int)), some (0, ((od_wds.getD w []).length : Int)), a, b] [] E g) : ∀ (m : Nat) (i sm : Int), (0 ≤ i ∧ i ≤ ((od_wds.getD w []).length : Int) ∧ ((sm = 1 ∧ ((od_wds.getD w []).length : Int) = to - fr ∧ ∀ q : Int, 0 ≤ q → q < i → od_mw (od_ks (w : Int) + q) = g (M + 7) (fr + q)) ∨ (sm = 0 ∧ ¬ tSp (g (M + 7)) fr to (od_wds.getD w [])))) → ((((od_wds.getD w []).length : Int) - i).toNat) < m → od_R 1 mX11_wordOf od_Z0 E (some (0, tW (g (M + 7)) fr to), E, g) 57 [some (2, M), some (0, fr), some (0, to), some (0, (w : Int) + 1), some (0, od_ks (w : Int)), some (0, ((od_wds.getD w []).length : Int)), some (0, sm), some (0, i)] [] E g := by
  have wf := od_mwf w hw25
  intro m
  induction m with
  | zero => intro i sm hi hM; exact absurd hM (Nat.not_lt_zero _)
  | succ m ih =>
    intro i sm hi hM
    obtain ⟨hi0, hi1, hsm⟩ := hi
    refine r_iload dX11_wordOf_57 rfl ?_
    refine r_iload dX11_wordOf_59 rfl ?_
    refine r_icmp_ge (tgt := 104) dX11_wordOf_61 rfl (fun c61 => ?_) (fun c61 => ?_)
    · refine r_iload dX11_wordOf_104 rfl ?_
      refine r_if_eq (tgt := 111) dX11_wordOf_106 rfl (fun c106 => ?_) (fun c106 => ?_)
      · rcases hsm with ⟨rfl, a1, a2⟩ | ⟨rfl, a1⟩
        · exfalso; omega
        · exact hx a1 _ _
      · refine r_iload_n dX11_wordOf_109 rfl ?_
        refine r_iret dX11_wordOf_110 rfl ?_
        rcases hsm with ⟨rfl, a1, a2⟩ | ⟨rfl, a1⟩
        · have ht : tSp (g (M + 7)) fr to (od_wds.getD w []) := ⟨by omega, fun q hq => by rw [← (wf.2.2.2.2 q hq).1, a2 q (by omega) (by omega)]⟩
          have e : tW (g (M + 7)) fr to = (w : Int) + 1 := (tW_iff (by omega)).mpr (by
            unfold od_wd
            rw [show ((w : Int) + 1 - 1).toNat = w by omega]
            exact ht)
          rw [e]
        · exfalso; omega
    · refine r_iload dX11_wordOf_64 rfl ?_
      refine r_if_eq (tgt := 104) dX11_wordOf_66 rfl (fun c66 => ?_) (fun c66 => ?_)
      · refine r_iload dX11_wordOf_104 rfl ?_
        refine r_if_eq (tgt := 111) dX11_wordOf_106 rfl (fun _ => ?_) (fun h => absurd h (by omega))
        rcases hsm with ⟨rfl, a1, a2⟩ | ⟨rfl, a1⟩
        · exfalso; omega
        · exact hx a1 _ _
      · have hs1 : sm = 1 ∧ ((od_wds.getD w []).length : Int) = to - fr ∧ ∀ q : Int, 0 ≤ q → q < i → od_mw (od_ks (w : Int) + q) = g (M + 7) (fr + q) := by
          rcases hsm with h | h
          · exact h
          · exact absurd h.1 (by assumption)
        refine r_aload_n dX11_wordOf_69 rfl ?_
        refine r_getR dX11_wordOf_70 fkX11_41 gf11_7 (mo_o hm) (mo_r7 hm) ?_
        refine r_iload dX11_wordOf_73 rfl ?_
        refine r_iload dX11_wordOf_75 rfl ?_
        refine r_iaddE dX11_wordOf_77 (by first | exact od_w0 (by omega) (by omega) | exact od_wI (by omega) (by omega) | rfl) ?_
        refine r_bald dX11_wordOf_78 (mo_k7 hm) (by omega) (by (repeat (first | rewrite [od_upn (by omega)] | rewrite [od_up_at, if_pos (by omega)] | rewrite [od_up_at, if_neg (by omega)])); rfl) ?_
        rw [hw _ (by omega) (by omega)]
        refine r_aload_n dX11_wordOf_79 rfl ?_
        refine r_getR dX11_wordOf_80 fkX11_45 gf11_11 (mo_o hm) (mo_r11 hm) ?_
        refine r_iload_n dX11_wordOf_83 rfl ?_
        refine r_iload dX11_wordOf_84 rfl ?_
        refine r_iaddE dX11_wordOf_86 (by first | exact od_w0 (by omega) (by omega) | exact od_wI (by omega) (by omega) | rfl) ?_
        refine r_bald dX11_wordOf_87 (mo_k11 hm) (by omega) (by (repeat (first | rewrite [od_upn (by omega)] | rewrite [od_up_at, if_pos (by omega)] | rewrite [od_up_at, if_neg (by omega)])); rfl) ?_
        refine r_icmp_ne (tgt := 95) dX11_wordOf_88 rfl (fun c88 => ?_) (fun c88 => ?_)
        · refine r_iconst dX11_wordOf_95 li_0 ?_
          refine r_istore dX11_wordOf_96 (by decide) rfl ?_
          refine r_iincE dX11_wordOf_98 rfl (by decide) (by first | exact od_w0 (by omega) (by omega) | exact od_wI (by omega) (by omega) | rfl) rfl ?_
          refine r_goto (tgt := 57) dX11_wordOf_101 rfl ?_
          first
          | exact ih _ _ ⟨by omega, by omega, Or.inl ⟨rfl, hs1.2.1, fun q q0 q1 => by
              by_cases cq : q = i
              · rw [cq]; assumption
              · exact hs1.2.2 q q0 (by omega)⟩⟩ (by omega)
          | refine ih _ _ ⟨by omega, by omega, Or.inr ⟨rfl, fun z => ?_⟩⟩ (by omega)
            have z2 := z.2 i.toNat (by omega)
            have z3 := (wf.2.2.2.2 i.toNat (by omega)).1
            rw [show ((i.toNat : Nat) : Int) = i by omega] at z2 z3
            omega
        · refine r_iconst dX11_wordOf_91 li_1 ?_
          refine r_goto (tgt := 96) dX11_wordOf_92 rfl ?_
          refine r_istore dX11_wordOf_96 (by decide) rfl ?_
          refine r_iincE dX11_wordOf_98 rfl (by decide) (by first | exact od_w0 (by omega) (by omega) | exact od_wI (by omega) (by omega) | rfl) rfl ?_
          refine r_goto (tgt := 57) dX11_wordOf_101 rfl ?_
          first
          | exact ih _ _ ⟨by omega, by omega, Or.inl ⟨rfl, hs1.2.1, fun q q0 q1 => by
              by_cases cq : q = i
              · rw [cq]; assumption
              · exact hs1.2.2 q q0 (by omega)⟩⟩ (by omega)
          | refine ih _ _ ⟨by omega, by omega, Or.inr ⟨rfl, fun z => ?_⟩⟩ (by omega)
            have z2 := z.2 i.toNat (by omega)
            have z3 := (wf.2.2.2.2 i.toNat (by omega)).1
            rw [show ((i.toNat : Nat) : Int) = i by omega] at z2 z3
            omega
set_option maxRecDepth 10000 in
theorem lp_X11_wo2 {E : od_E} {g : od_G} {M : Int} (hm : MoAt E M) (hw : ∀ j : Int, 0 ≤ j → j < 120 → g (M + 6) j = od_mw j) (fr to : Int) (h1 : 0 ≤ fr ∧ fr ≤ to ∧ to ≤ 400) (w : Nat) (hw25 : w < 25) (a b : Option od_V) (hx : ¬ tSp (g (M + 7)) fr to (od_wds.getD w []) → ∀ (a b : Option od_V), od_R 1 mX11_wordOf od_Z0 E (some (0, tW (g (M + 7)) fr to), E, g) 111 [some (2, M), some (0, fr), some (0, to), some (0, (w : Int) + 1), some (0, od_ks (w : Int)), some (0, ((od_wds.getD w []).length : Int)), a, b] [] E g) : ∀ (m : Nat) (j : Int), (0 ≤ j ∧ j ≤ ((od_wds.getD w []).length : Int)) → ((((od_wds.getD w []).length : Int) - j).toNat) < m → od_R 1 mX11_wordOf od_Z0 E (some (0, tW (g (M + 7)) fr to), E, g) 18 [some (2, M), some (0, fr), some (0, to), some (0, (w : Int) + 1), some (0, od_ks (w : Int)), some (0, j), a, b] [] E g := by
  have wf := od_mwf w hw25
  intro m
  induction m with
  | zero => intro j hi hM; exact absurd hM (Nat.not_lt_zero _)
  | succ m ih =>
    intro j hi hM
    refine r_aload_n dX11_wordOf_18 rfl ?_
    refine r_getR dX11_wordOf_19 fkX11_41 gf11_7 (mo_o hm) (mo_r7 hm) ?_
    refine r_iload dX11_wordOf_22 rfl ?_
    refine r_iload dX11_wordOf_24 rfl ?_
    refine r_iaddE dX11_wordOf_26 (by first | exact od_w0 (by omega) (by omega) | exact od_wI (by omega) (by omega) | rfl) ?_
    refine r_bald dX11_wordOf_27 (mo_k7 hm) (by omega) (by (repeat (first | rewrite [od_upn (by omega)] | rewrite [od_up_at, if_pos (by omega)] | rewrite [od_up_at, if_neg (by omega)])); rfl) ?_
    rw [hw _ (by omega) (by omega)]
    refine r_bipush dX11_wordOf_28 lb_32 ?_
    refine r_icmp_eq (tgt := 39) dX11_wordOf_30 rfl (fun c30 => ?_) (fun c30 => ?_)
    · have ej : j = ((od_wds.getD w []).length : Int) := by
        by_cases c : j < ((od_wds.getD w []).length : Int)
        · have z := wf.2.2.2.2 j.toNat (by omega)
          rw [show ((j.toNat : Nat) : Int) = j by omega] at z
          omega
        · omega
      subst ej
      refine r_iload dX11_wordOf_39 rfl ?_
      refine r_iload_n dX11_wordOf_41 rfl ?_
      refine r_iload_n dX11_wordOf_42 rfl ?_
      refine r_isubE dX11_wordOf_43 (by first | exact od_w0 (by omega) (by omega) | exact od_wI (by omega) (by omega) | rfl) ?_
      refine r_icmp_ne (tgt := 51) dX11_wordOf_44 rfl (fun c44 => ?_) (fun c44 => ?_)
      · refine r_iconst dX11_wordOf_51 li_0 ?_
        refine r_istore dX11_wordOf_52 (by decide) rfl ?_
        refine r_iconst dX11_wordOf_54 li_0 ?_
        refine r_istore dX11_wordOf_55 (by decide) rfl ?_
        first
        | exact lp_X11_wo3 hm hw fr to h1 w hw25 hx _ _ _ ⟨by omega, by omega, Or.inl ⟨rfl, by omega, fun q q0 q1 => by omega⟩⟩ (Nat.lt_succ_self _)
        | exact lp_X11_wo3 hm hw fr to h1 w hw25 hx _ _ _ ⟨by omega, by omega, Or.inr ⟨rfl, fun z => by have := z.1; omega⟩⟩ (Nat.lt_succ_self _)
      · refine r_iconst dX11_wordOf_47 li_1 ?_
        refine r_goto (tgt := 52) dX11_wordOf_48 rfl ?_
        refine r_istore dX11_wordOf_52 (by decide) rfl ?_
        refine r_iconst dX11_wordOf_54 li_0 ?_
        refine r_istore dX11_wordOf_55 (by decide) rfl ?_
        first
        | exact lp_X11_wo3 hm hw fr to h1 w hw25 hx _ _ _ ⟨by omega, by omega, Or.inl ⟨rfl, by omega, fun q q0 q1 => by omega⟩⟩ (Nat.lt_succ_self _)
        | exact lp_X11_wo3 hm hw fr to h1 w hw25 hx _ _ _ ⟨by omega, by omega, Or.inr ⟨rfl, fun z => by have := z.1; omega⟩⟩ (Nat.lt_succ_self _)
    · refine r_iincE dX11_wordOf_33 rfl (by decide) (by first | exact od_w0 (by omega) (by omega) | exact od_wI (by omega) (by omega) | rfl) rfl ?_
      refine r_goto (tgt := 18) dX11_wordOf_36 rfl ?_
      have jl : j < ((od_wds.getD w []).length : Int) := by
        by_cases c : j < ((od_wds.getD w []).length : Int)
        · exact c
        · have : j = ((od_wds.getD w []).length : Int) := by omega
          rw [this] at c30
          exact absurd wf.2.2.2.1 c30
      exact ih _ ⟨by omega, by omega⟩ (by omega)
set_option maxRecDepth 10000 in
theorem lp_X11_wo1 {E : od_E} {g : od_G} {M : Int} (hm : MoAt E M) (hw : ∀ j : Int, 0 ≤ j → j < 120 → g (M + 6) j = od_mw j) (fr to : Int) (h1 : 0 ≤ fr ∧ fr ≤ to ∧ to ≤ 400) : ∀ (m : Nat) (w : Nat) (a b d : Option od_V), (w ≤ 25 ∧ ∀ x : Nat, x < w → ¬ tSp (g (M + 7)) fr to (od_wds.getD x [])) → (25 - w) < m → od_R 1 mX11_wordOf od_Z0 E (some (0, tW (g (M + 7)) fr to), E, g) 5 [some (2, M), some (0, fr), some (0, to), some (0, (w : Int) + 1), some (0, od_ks (w : Int)), a, b, d] [] E g := by
  intro m
  induction m with
  | zero => intro w a b d hi hM; exact absurd hM (Nat.not_lt_zero _)
  | succ m ih =>
    intro w a b d hi hM
    obtain ⟨hi0, hno⟩ := hi
    have k25 := od_ks25 w (by omega)
    refine r_iload dX11_wordOf_5 rfl ?_
    refine r_aload_n dX11_wordOf_7 rfl ?_
    refine r_getR dX11_wordOf_8 fkX11_41 gf11_7 (mo_o hm) (mo_r7 hm) ?_
    refine r_len_b dX11_wordOf_11 (mo_k7 hm) (by decide) ?_
    refine r_icmp_ge (tgt := 126) dX11_wordOf_12 rfl (fun c12 => ?_) (fun c12 => ?_)
    · refine r_iconst dX11_wordOf_126 li_0 ?_
      exact r_iret dX11_wordOf_127 rfl (by rw [tW_no (fun x hx => hno x (by have := k25.mp (by omega); omega))])
    · have hw25 : w < 25 := by
        by_cases c : w = 25
        · have := k25.mpr c; omega
        · omega
      have wf := od_mwf w hw25
      refine r_iconst dX11_wordOf_15 li_0 ?_
      refine r_istore dX11_wordOf_16 (by decide) rfl ?_
      refine lp_X11_wo2 hm hw fr to h1 w hw25 _ _ (fun hn a b => ?_) _ _ ⟨by omega, by omega⟩ (Nat.lt_succ_self _)
      refine r_iload dX11_wordOf_111 rfl ?_
      refine r_iload dX11_wordOf_113 rfl ?_
      refine r_iconst dX11_wordOf_115 li_1 ?_
      refine r_iaddE dX11_wordOf_116 (by exact od_wI (by omega) (by omega)) ?_
      refine r_iaddE dX11_wordOf_117 (by exact od_wI (by omega) (by omega)) ?_
      refine r_istore dX11_wordOf_118 (by decide) rfl ?_
      refine r_iincE dX11_wordOf_120 rfl (by decide) (by exact od_wI (by omega) (by omega)) rfl ?_
      refine r_goto (tgt := 5) dX11_wordOf_123 rfl ?_
      rw [show od_ks (w : Int) + (((od_wds.getD w []).length : Int) + 1) = od_ks (((w + 1 : Nat)) : Int) by rw [show (((w + 1 : Nat)) : Int) = (w : Int) + 1 by omega, wf.2.1]; omega, show (w : Int) + 1 + 1 = (((w + 1 : Nat)) : Int) + 1 by omega]
      exact ih (w + 1) _ _ _ ⟨by omega, fun x hx => by
        by_cases cx : x = w
        · rw [cx]; exact hn
        · exact hno x (by omega)⟩ (by omega)
set_option maxRecDepth 10000 in
theorem c_X11_wordOf {E : od_E} {g : od_G} {M : Int} (hm : MoAt E M) (hw : ∀ j : Int, 0 ≤ j → j < 120 → g (M + 6) j = od_mw j) (fr to : Int) (h1 : 0 ≤ fr ∧ fr ≤ to ∧ to ≤ 400) : od_Ct 1 mX11_wordOf [(2, M), (0, fr), (0, to)] E g (some (0, tW (g (M + 7)) fr to), E, g) := by
  refine od_ctI pnX11 rfl (Nat.le_of_ble_eq_true rfl) od_le.rf ?_
  show od_R _ _ _ _ _ 0 [some (2, M), some (0, fr), some (0, to), none, none, none, none, none] [] E g
  refine r_iconst dX11_wordOf_0 li_1 ?_
  refine r_istore_n dX11_wordOf_1 (by decide) rfl ?_
  refine r_iconst dX11_wordOf_2 li_0 ?_
  refine r_istore dX11_wordOf_3 (by decide) rfl ?_
  exact lp_X11_wo1 hm hw fr to h1 _ 0 _ _ _ ⟨by omega, fun x hx => by omega⟩ (Nat.lt_succ_self _)
