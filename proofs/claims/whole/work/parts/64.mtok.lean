/-! the reference's tokens -/
def TB (t b : Int) : Prop := (0 ≤ b ∧ b ≤ 255) ∧ ((b ≤ 127 ∧ t = b) ∨ (128 ≤ b ∧ t = b - 256)) ∧ od_and t 255 = b
theorem TB.small {t b : Int} (h : TB t b) : (97 ≤ t ∧ t ≤ 122) ↔ tSo b = 1 := by
  obtain ⟨h1, h2, _⟩ := h
  unfold tSo
  constructor
  · intro z; rw [if_neg (by omega), if_pos (by omega)]
  · intro z; revert z; repeat' split
    all_goals omega
theorem TB.dig {t b : Int} (h : TB t b) : (48 ≤ t ∧ t ≤ 57) ↔ tSo b = 2 := by
  obtain ⟨h1, h2, _⟩ := h
  unfold tSo
  constructor
  · intro z; rw [if_neg (by omega), if_neg (by omega), if_pos (by omega)]
  · intro z; revert z; repeat' split
    all_goals omega
theorem tB_at {B : Int → Int} {n j : Int} (h0 : 0 ≤ j) (h1 : j < n) : tB B n j = B j := by unfold tB; rw [if_pos ⟨h0, h1⟩]
theorem tB_n {B : Int → Int} {n j : Int} (h1 : n ≤ j) : tB B n j = -1 := by unfold tB; rw [if_neg (by omega)]
theorem tSk_u {B : Int → Int} {n s : Int} (hs : tB B n s ≠ 32) : ∀ (f : Nat) (p : Int), p ≤ s → s - p ≤ f → (∀ j : Int, p ≤ j → j < s → tB B n j = 32) → tSk B n f p = s := by
  intro f
  induction f with
  | zero => intro p h1 h2 _; show p = s; omega
  | succ f ih =>
    intro p h1 h2 h3
    rw [tSk_S]
    by_cases c : p = s
    · rw [c, if_neg hs]
    · rw [if_pos (h3 p (by omega) (by omega))]
      exact ih (p + 1) (by omega) (by omega) (fun j j0 j1 => h3 j (by omega) j1)
theorem tRn_u {B : Int → Int} {n e k : Int} (hs : tSo (tB B n e) ≠ k) : ∀ (f : Nat) (p : Int), p ≤ e → e - p ≤ f → (∀ j : Int, p ≤ j → j < e → tSo (tB B n j) = k) → tRn B n k f p = e := by
  intro f
  induction f with
  | zero => intro p h1 h2 _; show p = e; omega
  | succ f ih =>
    intro p h1 h2 h3
    rw [tRn_S]
    by_cases c : p = e
    · rw [c, if_neg hs]
    · rw [if_pos (h3 p (by omega) (by omega))]
      exact ih (p + 1) (by omega) (by omega) (fun j j0 j1 => h3 j (by omega) j1)
def XS (M : Int) : Int → Int → Prop := fun x y => (x = M ∧ y = 18) ∨ (M + 9 ≤ x ∧ x ≤ M + 11)
def XI (M i : Int) : Int → Int → Prop := fun x y => (x = M ∧ y = 18) ∨ ((M + 9 ≤ x ∧ x ≤ M + 11) ∧ y = i)
def SpR (gw : od_G) (M : Int) (B : Int → Int) (n i : Int) : Prop := ∀ q : Int, 0 ≤ q → q < i → (gw (M + 9) q = tC B n q ∧ gw (M + 10) q = tV B n q ∧ gw (M + 11) q = tpl B n q) ∧ tQ B n (tpl B n q) ≠ 0
def SpI (g gw : od_G) (M : Int) (B : Int → Int) (n k i : Int) : Prop := (0 ≤ i ∧ i ≤ k ∧ k ≤ n) ∧ od_fr (XS M) g gw ∧ gw M 18 = i ∧ (0 ≤ tP B n i.toNat ∧ tP B n i.toNat ≤ k ∧ ∀ j : Int, tP B n i.toNat ≤ j → j < k → tB B n j = 32) ∧ SpR gw M B n i
theorem SpI.pl {g gw : od_G} {M : Int} {B : Int → Int} {n k i : Int} (h : SpI g gw M B n k i) (hn : n ≤ 400) (hb : tB B n k ≠ 32) : tpl B n i = k := by
  obtain ⟨h1, h2, h3, h4, h5⟩ := h
  unfold tpl tS
  exact tSk_u hb 400 _ h4.2.1 (by omega) h4.2.2
theorem SpI.nx {g gw g1 : od_G} {M : Int} {B : Int → Int} {n k i to : Int} (h : SpI g gw M B n k i) (hn : n ≤ 400) (hq : tQ B n k ≠ 0) (hp : tpl B n i = k) (ht : tE B n k = to) (f : od_fr (XI M i) gw g1) (e : g1 M 18 = i + 1) (e9 : g1 (M + 9) i = tC B n i) (e10 : g1 (M + 10) i = tV B n i) (e11 : g1 (M + 11) i = k) : SpI g g1 M B n to (i + 1) := by
  obtain ⟨h1, h2, h3, h4, h5⟩ := h
  have hb := tE_b hq
  have hP : tP B n (i + 1).toNat = to := by
    rw [show (i + 1).toNat = i.toNat + 1 by omega]
    have : tP B n (i.toNat + 1) = tE B n (tpl B n i) := rfl
    rw [this, hp, ht]
  refine ⟨⟨by omega, by omega, by omega⟩, h2.tr (f.mo (fun x y z => by unfold XI at z; unfold XS; omega)), e, ⟨by rw [hP]; omega, by rw [hP]; omega, fun j j0 j1 => by rw [hP] at j0; omega⟩, fun q q0 q1 => ?_⟩
  by_cases c : q = i
  · rw [c, e9, e10, e11, hp]
    exact ⟨⟨rfl, rfl, rfl⟩, hq⟩
  · rw [f (M + 9) q (fun z => by unfold XI at z; omega), f (M + 10) q (fun z => by unfold XI at z; omega), f (M + 11) q (fun z => by unfold XI at z; omega)]
    exact h5 q q0 (by omega)
theorem tpl_end {B : Int → Int} {n i : Int} (h0 : 0 ≤ i) (h : tQ B n (tpl B n i) = 0) : ∀ m : Nat, tpl B n (i + m) = tpl B n i := by
  intro m
  induction m with
  | zero => rw [show i + ((0 : Nat) : Int) = i by omega]
  | succ m ih =>
    rw [show i + ((m + 1 : Nat) : Int) = i + (m : Int) + 1 by omega, tpl_s B n (by omega), ih, tE_0 h]
    have hb : tB B n (tpl B n i) ≠ 32 := fun z => by
      unfold tQ at h
      rw [z] at h
      exact absurd h (by decide)
    unfold tS
    exact tSk_u hb 400 _ (Int.le_refl _) (by omega) (fun j j0 j1 => by omega)
theorem tC_end {B : Int → Int} {n i : Int} (h : tQ B n (tpl B n i) = 0) : tC B n i = 0 ∧ tV B n i = 0 := by
  unfold tC tV
  rw [if_pos h, if_neg (by omega)]
  exact ⟨rfl, rfl⟩
theorem c_X11_isSmallT {E : od_E} {g : od_G} {b : Int} (h : 97 ≤ b ∧ b ≤ 122) : od_Ct 1 mX11_isSmall [(0, b)] E g (some (0, 1), E, g) := by
  have q := c_X11_isSmall (E := E) (g := g) b
  rw [show od_b (97 ≤ b ∧ b ≤ 122) = 1 from od_b_t h] at q
  exact q
theorem c_X11_isSmallF {E : od_E} {g : od_G} {b : Int} (h : ¬ (97 ≤ b ∧ b ≤ 122)) : od_Ct 1 mX11_isSmall [(0, b)] E g (some (0, 0), E, g) := by
  have q := c_X11_isSmall (E := E) (g := g) b
  rw [show od_b (97 ≤ b ∧ b ≤ 122) = 0 from od_b_f h] at q
  exact q
theorem c_X11_isDigitT {E : od_E} {g : od_G} {b : Int} (h : 48 ≤ b ∧ b ≤ 57) : od_Ct 1 mX11_isDigit [(0, b)] E g (some (0, 1), E, g) := by
  have q := c_X11_isDigit (E := E) (g := g) b
  rw [show od_b (48 ≤ b ∧ b ≤ 57) = 1 from od_b_t h] at q
  exact q
theorem c_X11_isDigitF {E : od_E} {g : od_G} {b : Int} (h : ¬ (48 ≤ b ∧ b ≤ 57)) : od_Ct 1 mX11_isDigit [(0, b)] E g (some (0, 0), E, g) := by
  have q := c_X11_isDigit (E := E) (g := g) b
  rw [show od_b (48 ≤ b ∧ b ≤ 57) = 0 from od_b_f h] at q
  exact q
set_option maxRecDepth 10000 in
theorem lp_X11_sp1 {E : od_E} {g gw : od_G} {M : Int} (hm : MoAt E M) (hw : ∀ j : Int, 0 ≤ j → j < 120 → g (M + 6) j = od_mw j) {B : Int → Int} {n : Int} (hn : 0 ≤ n ∧ n ≤ 400) (hT : ∀ j : Int, 0 ≤ j → j < n → TB (g (M + 7) j) (B j)) (e7 : gw (M + 7) = g (M + 7)) (k b : Int) (h0 : 0 ≤ k) (L5 : Option od_V) (hx : ∀ to : Int, k + 1 ≤ to → to ≤ n → (∀ j : Int, k ≤ j → j < to → tSo (tB B n j) = 1) → tSo (tB B n to) ≠ 1 → od_Rq 2 mX11_splits od_Z0 E (E, fun v g' => v = none ∧ od_fr (XS M) g g' ∧ ∃ N : Int, (∀ i : Int, 0 ≤ i → (i < N ↔ tQ B n (tpl B n i) ≠ 0)) ∧ TkOk g' M (tC B n) (tV B n) (tpl B n) N) 68 [some (2, M), some (0, n), some (0, k), some (0, b), some (0, to), L5] [] E gw) : ∀ (m : Nat) (to : Int), (k + 1 ≤ to ∧ to ≤ n ∧ (∀ j : Int, k ≤ j → j < to → tSo (tB B n j) = 1)) → ((n - to).toNat) < m → od_Rq 2 mX11_splits od_Z0 E (E, fun v g' => v = none ∧ od_fr (XS M) g g' ∧ ∃ N : Int, (∀ i : Int, 0 ≤ i → (i < N ↔ tQ B n (tpl B n i) ≠ 0)) ∧ TkOk g' M (tC B n) (tV B n) (tpl B n) N) 43 [some (2, M), some (0, n), some (0, k), some (0, b), some (0, to), L5] [] E gw := by
  intro m
  induction m with
  | zero => intro to hi hM; exact absurd hM (Nat.not_lt_zero _)
  | succ m ih =>
    intro to hi hM
    obtain ⟨hi0, hi1, hr⟩ := hi
    refine r_iload dX11_splits_43 rfl ?_
    refine r_iload_n dX11_splits_45 rfl ?_
    refine r_icmp_ge (tgt := 68) dX11_splits_46 rfl (fun c46 => ?_) (fun c46 => ?_)
    · refine hx to hi0 hi1 hr ?_
      first
      | (rw [tB_n (by omega)]; decide)
      | (rw [e]; exact fun z => q56 (hb.small.mpr z))
    · refine r_aload_n dX11_splits_49 rfl ?_
      refine r_getR dX11_splits_50 fkX11_45 gf11_11 (mo_o hm) (mo_r11 hm) ?_
      refine r_iload dX11_splits_53 rfl ?_
      refine r_bald dX11_splits_55 (mo_k11 hm) (by omega) (by (repeat (first | rewrite [od_upn (by omega)] | rewrite [od_up_at, if_pos (by omega)] | rewrite [od_up_at, if_neg (by omega)])); rfl) ?_
      rw [e7]
      have hb := hT to (by omega) (by omega)
      have e := tB_at (B := B) (n := n) (j := to) (by omega) (by omega)
      refine r_callS1b dX11_splits_56 csX11_160 (c_X11_isSmall _) (by decide) (Nat.le_of_ble_eq_true rfl) od_le.rf (fun q56 => ?_) (fun q56 => ?_)
      · refine r_if_eq (tgt := 68) dX11_splits_59 rfl (fun h => absurd h (by decide)) (fun _ => ?_)
        refine r_iincE dX11_splits_62 rfl (by decide) (by first | exact od_w0 (by omega) (by omega) | exact od_wI (by omega) (by omega) | rfl) rfl ?_
        refine r_goto (tgt := 43) dX11_splits_65 rfl ?_
        refine ih _ ⟨by omega, by omega, fun j j0 j1 => ?_⟩ (by omega)
        by_cases cj : j = to
        · rw [cj, e]; exact hb.small.mp q56
        · exact hr j j0 (by omega)
      · refine r_if_eq (tgt := 68) dX11_splits_59 rfl (fun _ => ?_) (fun h => absurd h (by decide))
        refine hx to hi0 hi1 hr ?_
        first
        | (rw [tB_n (by omega)]; decide)
        | (rw [e]; exact fun z => q56 (hb.small.mpr z))
set_option maxRecDepth 10000 in
theorem lp_X11_sp2 {E : od_E} {g gw : od_G} {M : Int} (hm : MoAt E M) (hw : ∀ j : Int, 0 ≤ j → j < 120 → g (M + 6) j = od_mw j) {B : Int → Int} {n : Int} (hn : 0 ≤ n ∧ n ≤ 400) (hT : ∀ j : Int, 0 ≤ j → j < n → TB (g (M + 7) j) (B j)) (e7 : gw (M + 7) = g (M + 7)) (k b : Int) (h0 : 0 ≤ k) (L5 : Option od_V) (hx : ∀ to : Int, k + 1 ≤ to → to ≤ n → (∀ j : Int, k ≤ j → j < to → tSo (tB B n j) = 2) → tSo (tB B n to) ≠ 2 → od_Rq 2 mX11_splits od_Z0 E (E, fun v g' => v = none ∧ od_fr (XS M) g g' ∧ ∃ N : Int, (∀ i : Int, 0 ≤ i → (i < N ↔ tQ B n (tpl B n i) ≠ 0)) ∧ TkOk g' M (tC B n) (tV B n) (tpl B n) N) 100 [some (2, M), some (0, n), some (0, k), some (0, b), some (0, to), L5] [] E gw) : ∀ (m : Nat) (to : Int), (k + 1 ≤ to ∧ to ≤ n ∧ (∀ j : Int, k ≤ j → j < to → tSo (tB B n j) = 2)) → ((n - to).toNat) < m → od_Rq 2 mX11_splits od_Z0 E (E, fun v g' => v = none ∧ od_fr (XS M) g g' ∧ ∃ N : Int, (∀ i : Int, 0 ≤ i → (i < N ↔ tQ B n (tpl B n i) ≠ 0)) ∧ TkOk g' M (tC B n) (tV B n) (tpl B n) N) 75 [some (2, M), some (0, n), some (0, k), some (0, b), some (0, to), L5] [] E gw := by
  intro m
  induction m with
  | zero => intro to hi hM; exact absurd hM (Nat.not_lt_zero _)
  | succ m ih =>
    intro to hi hM
    obtain ⟨hi0, hi1, hr⟩ := hi
    refine r_iload dX11_splits_75 rfl ?_
    refine r_iload_n dX11_splits_77 rfl ?_
    refine r_icmp_ge (tgt := 100) dX11_splits_78 rfl (fun c78 => ?_) (fun c78 => ?_)
    · refine hx to hi0 hi1 hr ?_
      first
      | (rw [tB_n (by omega)]; decide)
      | (rw [e]; exact fun z => q88 (hb.dig.mpr z))
    · refine r_aload_n dX11_splits_81 rfl ?_
      refine r_getR dX11_splits_82 fkX11_45 gf11_11 (mo_o hm) (mo_r11 hm) ?_
      refine r_iload dX11_splits_85 rfl ?_
      refine r_bald dX11_splits_87 (mo_k11 hm) (by omega) (by (repeat (first | rewrite [od_upn (by omega)] | rewrite [od_up_at, if_pos (by omega)] | rewrite [od_up_at, if_neg (by omega)])); rfl) ?_
      rw [e7]
      have hb := hT to (by omega) (by omega)
      have e := tB_at (B := B) (n := n) (j := to) (by omega) (by omega)
      refine r_callS1b dX11_splits_88 csX11_163 (c_X11_isDigit _) (by decide) (Nat.le_of_ble_eq_true rfl) od_le.rf (fun q88 => ?_) (fun q88 => ?_)
      · refine r_if_eq (tgt := 100) dX11_splits_91 rfl (fun h => absurd h (by decide)) (fun _ => ?_)
        refine r_iincE dX11_splits_94 rfl (by decide) (by first | exact od_w0 (by omega) (by omega) | exact od_wI (by omega) (by omega) | rfl) rfl ?_
        refine r_goto (tgt := 75) dX11_splits_97 rfl ?_
        refine ih _ ⟨by omega, by omega, fun j j0 j1 => ?_⟩ (by omega)
        by_cases cj : j = to
        · rw [cj, e]; exact hb.dig.mp q88
        · exact hr j j0 (by omega)
      · refine r_if_eq (tgt := 100) dX11_splits_91 rfl (fun _ => ?_) (fun h => absurd h (by decide))
        refine hx to hi0 hi1 hr ?_
        first
        | (rw [tB_n (by omega)]; decide)
        | (rw [e]; exact fun z => q88 (hb.dig.mpr z))
set_option maxRecDepth 10000 in
theorem lp_X11_sp3 {E : od_E} {g g1 : od_G} {M : Int} (hm : MoAt E M) (hw : ∀ j : Int, 0 ≤ j → j < 120 → g (M + 6) j = od_mw j) {B : Int → Int} {n : Int} (hn : 0 ≤ n ∧ n ≤ 400) (hT : ∀ j : Int, 0 ≤ j → j < n → TB (g (M + 7) j) (B j)) (e7 : g1 (M + 7) = g (M + 7)) (k b to i V : Int) (h0 : 0 ≤ k ∧ to ≤ n) (hb : 48 ≤ b ∧ b ≤ 57) (hd : ∀ j : Int, k ≤ j → j < to → tSo (tB B n j) = 2) (e18 : g1 M 18 = i) (hi4 : 0 ≤ i ∧ i ≤ 400) (hx : ∀ gz : od_G, od_fr (fun x y => x = M + 10 ∧ y = i) g1 gz → gz (M + 10) i = V → od_Rq 2 mX11_splits od_Z0 E (E, fun v g' => v = none ∧ od_fr (XS M) g g' ∧ ∃ N : Int, (∀ i : Int, 0 ≤ i → (i < N ↔ tQ B n (tpl B n i) ≠ 0)) ∧ TkOk g' M (tC B n) (tV B n) (tpl B n) N) 247 [some (2, M), some (0, n), some (0, k), some (0, b), some (0, to), some (0, to)] [] E gz) : ∀ (m : Nat) (p u : Int) (gz : od_G), (k ≤ p ∧ p ≤ to ∧ od_fr (fun x y => x = M + 10 ∧ y = i) g1 gz ∧ gz (M + 10) i = u ∧ (0 ≤ u ∧ u ≤ 10000009) ∧ tVl B (to - p).toNat p u = V) → ((to - p).toNat) < m → od_Rq 2 mX11_splits od_Z0 E (E, fun v g' => v = none ∧ od_fr (XS M) g g' ∧ ∃ N : Int, (∀ i : Int, 0 ≤ i → (i < N ↔ tQ B n (tpl B n i) ≠ 0)) ∧ TkOk g' M (tC B n) (tV B n) (tpl B n) N) 169 [some (2, M), some (0, n), some (0, k), some (0, b), some (0, to), some (0, p)] [] E gz := by
  intro m
  induction m with
  | zero => intro p u gz hi hM; exact absurd hM (Nat.not_lt_zero _)
  | succ m ih =>
    intro p u gz hi hM
    obtain ⟨hi0, hi1, hfz, hu, hub, hv⟩ := hi
    have z18 : gz M 18 = i := (hfz M 18 (by omega)).trans e18
    have z7 : gz (M + 7) = g (M + 7) := (hfz.row (fun y z => by omega)).trans e7
    refine r_iload dX11_splits_169 rfl ?_
    refine r_iload dX11_splits_171 rfl ?_
    refine r_icmp_ge (tgt := 247) dX11_splits_173 rfl (fun c173 => ?_) (fun c173 => ?_)
    · have ep : p = to := by omega
      subst ep
      refine hx gz hfz ?_
      rw [hu, ← hv, show (p - p).toNat = 0 by omega]
      rfl
    · refine r_iload_n dX11_splits_176 rfl ?_
      refine r_callS1i dX11_splits_177 csX11_163 (c_X11_isDigitT hb) (by decide) (Nat.le_of_ble_eq_true rfl) od_le.rf ?_
      refine r_if_eq (tgt := 247) dX11_splits_180 rfl (fun c180 => ?_) (fun c180 => ?_)
      · have ep : p = to := by omega
        subst ep
        refine hx gz hfz ?_
        rw [hu, ← hv, show (p - p).toNat = 0 by omega]
        rfl
      · have hbp := hT p (by omega) (by omega)
        have hdp : 48 ≤ g (M + 7) p ∧ g (M + 7) p ≤ 57 ∧ B p = g (M + 7) p := by
          have z := hd p (by omega) (by omega)
          rw [tB_at (by omega) (by omega)] at z
          have z2 := hbp.dig.mpr z
          have z3 := hbp.2.1
          have z4 := hbp.1
          omega
        have hs1 : tVl B (to - p).toNat p u = tVl B (to - (p + 1)).toNat (p + 1) (if 1000000 < u then u else 10 * u + B p - 48) := by
          rw [show (to - p).toNat = (to - (p + 1)).toNat + 1 by omega]
          rfl
        refine r_aload_n dX11_splits_183 rfl ?_
        refine r_getR dX11_splits_184 fkX11_57 gf11_16 (mo_o hm) (mo_r16 hm) ?_
        refine r_aload_n dX11_splits_187 rfl ?_
        refine r_getIj (j := 18) rfl dX11_splits_188 fkX11_157 gf11_18 (mo_o hm) (by first | exact z18 | exact hu | rfl) ?_
        refine r_aload_n dX11_splits_191 rfl ?_
        refine r_getR dX11_splits_192 fkX11_57 gf11_16 (mo_o hm) (mo_r16 hm) ?_
        refine r_aload_n dX11_splits_195 rfl ?_
        refine r_getIj (j := 18) rfl dX11_splits_196 fkX11_157 gf11_18 (mo_o hm) (by first | exact z18 | exact hu | rfl) ?_
        refine r_iald dX11_splits_199 (mo_k16 hm) (by omega) (by first | exact z18 | exact hu | rfl) ?_
        refine r_ldc dX11_splits_200 kcX11_169 lk_X11_169 ?_
        refine r_icmp_le (tgt := 217) dX11_splits_202 rfl (fun c202 => ?_) (fun c202 => ?_)
        · refine r_bipush dX11_splits_217 lb_10 ?_
          refine r_aload_n dX11_splits_219 rfl ?_
          refine r_getR dX11_splits_220 fkX11_57 gf11_16 (mo_o hm) (mo_r16 hm) ?_
          refine r_aload_n dX11_splits_223 rfl ?_
          refine r_getIj (j := 18) rfl dX11_splits_224 fkX11_157 gf11_18 (mo_o hm) (by first | exact z18 | exact hu | rfl) ?_
          refine r_iald dX11_splits_227 (mo_k16 hm) (by omega) (by first | exact z18 | exact hu | rfl) ?_
          refine r_imulE dX11_splits_228 (by first | exact od_w0 (by omega) (by omega) | exact od_wI (by omega) (by omega) | rfl) ?_
          refine r_aload_n dX11_splits_229 rfl ?_
          refine r_getR dX11_splits_230 fkX11_45 gf11_11 (mo_o hm) (mo_r11 hm) ?_
          refine r_iload dX11_splits_233 rfl ?_
          refine r_bald dX11_splits_235 (mo_k11 hm) (by omega) (by first | exact z18 | exact hu | rfl) ?_
          rw [z7]
          refine r_iaddE dX11_splits_236 (by first | exact od_w0 (by omega) (by omega) | exact od_wI (by omega) (by omega) | rfl) ?_
          refine r_bipush dX11_splits_237 lb_48 ?_
          refine r_isubE dX11_splits_239 (by first | exact od_w0 (by omega) (by omega) | exact od_wI (by omega) (by omega) | rfl) ?_
          refine r_iast dX11_splits_240 (mo_k16 hm) (by omega) ?_
          refine r_iincE dX11_splits_241 rfl (by decide) (by first | exact od_w0 (by omega) (by omega) | exact od_wI (by omega) (by omega) | rfl) rfl ?_
          refine r_goto (tgt := 169) dX11_splits_244 rfl ?_
          rw [hs1] at hv
          first
          | (rw [if_pos (by assumption)] at hv
             exact ih _ _ _ ⟨by omega, by omega, hfz.up ⟨rfl, rfl⟩, by rw [od_up_at, if_pos rfl], by omega, hv⟩ (by omega))
          | (rw [if_neg (by omega), hdp.2.2] at hv
             exact ih _ _ _ ⟨by omega, by omega, hfz.up ⟨rfl, rfl⟩, by rw [od_up_at, if_pos rfl], by omega, hv⟩ (by omega))
        · refine r_aload_n dX11_splits_205 rfl ?_
          refine r_getR dX11_splits_206 fkX11_57 gf11_16 (mo_o hm) (mo_r16 hm) ?_
          refine r_aload_n dX11_splits_209 rfl ?_
          refine r_getIj (j := 18) rfl dX11_splits_210 fkX11_157 gf11_18 (mo_o hm) (by first | exact z18 | exact hu | rfl) ?_
          refine r_iald dX11_splits_213 (mo_k16 hm) (by omega) (by first | exact z18 | exact hu | rfl) ?_
          refine r_goto (tgt := 240) dX11_splits_214 rfl ?_
          refine r_iast dX11_splits_240 (mo_k16 hm) (by omega) ?_
          refine r_iincE dX11_splits_241 rfl (by decide) (by first | exact od_w0 (by omega) (by omega) | exact od_wI (by omega) (by omega) | rfl) rfl ?_
          refine r_goto (tgt := 169) dX11_splits_244 rfl ?_
          rw [hs1] at hv
          first
          | (rw [if_pos (by assumption)] at hv
             exact ih _ _ _ ⟨by omega, by omega, hfz.up ⟨rfl, rfl⟩, by rw [od_up_at, if_pos rfl], by omega, hv⟩ (by omega))
          | (rw [if_neg (by omega), hdp.2.2] at hv
             exact ih _ _ _ ⟨by omega, by omega, hfz.up ⟨rfl, rfl⟩, by rw [od_up_at, if_pos rfl], by omega, hv⟩ (by omega))
set_option maxRecDepth 10000 in
theorem lp_X11_sp {E : od_E} {g : od_G} {M : Int} (hm : MoAt E M) (hw : ∀ j : Int, 0 ≤ j → j < 120 → g (M + 6) j = od_mw j) {B : Int → Int} {n : Int} (hn : 0 ≤ n ∧ n ≤ 400) (hT : ∀ j : Int, 0 ≤ j → j < n → TB (g (M + 7) j) (B j)) : ∀ (m : Nat) (k i : Int) (gw : od_G) (L3 L4 L5 : Option od_V), SpI g gw M B n k i → ((n - k).toNat) < m → od_Rq 2 mX11_splits od_Z0 E (E, fun v g' => v = none ∧ od_fr (XS M) g g' ∧ ∃ N : Int, (∀ i : Int, 0 ≤ i → (i < N ↔ tQ B n (tpl B n i) ≠ 0)) ∧ TkOk g' M (tC B n) (tV B n) (tpl B n) N) 7 [some (2, M), some (0, n), some (0, k), L3, L4, L5] [] E gw := by
  intro m
  induction m with
  | zero => intro k i gw L3 L4 L5 hi hM; exact absurd hM (Nat.not_lt_zero _)
  | succ m ih =>
    intro k i gw L3 L4 L5 hi hM
    obtain ⟨hik, hfr, z18, hPk, hrows⟩ := id hi
    have z7 : gw (M + 7) = g (M + 7) := hfr.row (fun y z => by unfold XS at z; omega)
    refine r_iload_n dX11_splits_7 rfl ?_
    refine r_iload_n dX11_splits_8 rfl ?_
    refine r_icmp_ge (tgt := 263) dX11_splits_9 rfl (fun c9 => ?_) (fun c9 => ?_)
    · refine r_aload_n dX11_splits_263 rfl ?_
      refine r_getR dX11_splits_264 fkX11_60 gf11_17 (mo_o hm) (mo_r17 hm) ?_
      refine r_aload_n dX11_splits_267 rfl ?_
      refine r_getIj (j := 18) rfl dX11_splits_268 fkX11_157 gf11_18 (mo_o hm) (by (repeat (first | rewrite [od_upn (by omega)] | rewrite [od_up_at, if_pos (by omega)] | rewrite [od_up_at, if_neg (by omega)])); first | exact z18 | rfl) ?_
      refine r_iload_n dX11_splits_271 rfl ?_
      refine r_iast dX11_splits_272 (mo_k17 hm) (by omega) ?_
      refine r_aload_n dX11_splits_273 rfl ?_
      refine r_getR dX11_splits_274 fkX11_54 gf11_15 (mo_o hm) (mo_r15 hm) ?_
      refine r_aload_n dX11_splits_277 rfl ?_
      refine r_getIj (j := 18) rfl dX11_splits_278 fkX11_157 gf11_18 (mo_o hm) (by (repeat (first | rewrite [od_upn (by omega)] | rewrite [od_up_at, if_pos (by omega)] | rewrite [od_up_at, if_neg (by omega)])); first | exact z18 | rfl) ?_
      refine r_iconst dX11_splits_281 li_0 ?_
      refine r_iast dX11_splits_282 (mo_k15 hm) (by omega) ?_
      refine r_aload_n dX11_splits_283 rfl ?_
      refine r_getR dX11_splits_284 fkX11_57 gf11_16 (mo_o hm) (mo_r16 hm) ?_
      refine r_aload_n dX11_splits_287 rfl ?_
      refine r_getIj (j := 18) rfl dX11_splits_288 fkX11_157 gf11_18 (mo_o hm) (by (repeat (first | rewrite [od_upn (by omega)] | rewrite [od_up_at, if_pos (by omega)] | rewrite [od_up_at, if_neg (by omega)])); first | exact z18 | rfl) ?_
      refine r_iconst dX11_splits_291 li_0 ?_
      refine r_iast dX11_splits_292 (mo_k16 hm) (by omega) ?_
      have ek : k = n := by omega
      have hpl : tpl B n i = n := (hi.pl hn.2 (by rw [tB_n (by omega)]; decide)).trans ek
      have hq0 : tQ B n (tpl B n i) = 0 := by rw [hpl]; unfold tQ; rw [tB_n (by omega)]; rfl
      have hend : ∀ q : Int, i ≤ q → tQ B n (tpl B n q) = 0 := fun q hq => by
        have z := tpl_end hik.1 hq0 (q - i).toNat
        rw [show i + (((q - i).toNat : Nat) : Int) = q by omega] at z
        rw [z]; exact hq0
      refine r_vretq dX11_splits_293 rfl rfl ⟨rfl, ((hfr.up (by unfold XS; omega)).up (by unfold XS; omega)).up (by unfold XS; omega), i, fun q q0 => ⟨fun z => (hrows q q0 z).2, fun z => ?_⟩, ?_, ⟨by omega, by omega⟩, fun q q0 q1 => ?_, fun q hq => (tC_end (hend q hq)).1, fun q => (tpl_b hn.1 q).1⟩
      · by_cases c : q < i
        · exact c
        · exact absurd (hend q (by omega)) z
      · rw [od_upn (by omega), od_upn (by omega), od_upn (by omega)]; exact z18
      · by_cases c : q = i
        · rw [c, (tC_end hq0).1, (tC_end hq0).2, hpl]
          refine ⟨?_, ?_, ?_⟩
          · rw [od_upn (by omega), od_up_at, if_pos rfl]
          · rw [od_up_at, if_pos rfl]
          · rw [od_upn (by omega), od_upn (by omega), od_up_at, if_pos rfl]
        · obtain ⟨r1, r2, r3⟩ := (hrows q q0 (by omega)).1
          refine ⟨?_, ?_, ?_⟩
          · rw [od_upn (by omega), od_up_at, if_neg c, od_upn (by omega)]; exact r1
          · rw [od_up_at, if_neg c, od_upn (by omega), od_upn (by omega)]; exact r2
          · rw [od_upn (by omega), od_upn (by omega), od_up_at, if_neg c]; exact r3
    · refine r_aload_n dX11_splits_12 rfl ?_
      refine r_getR dX11_splits_13 fkX11_45 gf11_11 (mo_o hm) (mo_r11 hm) ?_
      refine r_iload_n dX11_splits_16 rfl ?_
      refine r_bald dX11_splits_17 (mo_k11 hm) (by omega) (by (repeat (first | rewrite [od_upn (by omega)] | rewrite [od_up_at, if_pos (by omega)] | rewrite [od_up_at, if_neg (by omega)])); first | exact z18 | rfl) ?_
      rw [z7]
      have hk0 : 0 ≤ k := by omega
      have hkn : k < n := by omega
      refine r_istore_n dX11_splits_18 (by decide) rfl ?_
      refine r_iload_n dX11_splits_19 rfl ?_
      refine r_bipush dX11_splits_20 lb_32 ?_
      refine r_icmp_ne (tgt := 31) dX11_splits_22 rfl (fun c22 => ?_) (fun c22 => ?_)
      · have hbk := hT k hk0 hkn
        have eB := tB_at (B := B) (n := n) (j := k) hk0 hkn
        have hpl : tpl B n i = k := hi.pl hn.2 (by rw [eB]; have := hbk.2.1; omega)
        have hqk : tQ B n k ≠ 0 := by
          unfold tQ tSo
          rw [eB]
          have := hbk.1
          rw [if_neg (by omega)]
          repeat' split
          all_goals omega
        have hs4 : tSo (tB B n k) = 1 ∨ tSo (tB B n k) = 2 ∨ tSo (tB B n k) = 3 := by
          have := tSo_b (tB B n k)
          unfold tQ at hqk
          omega
        have hsx := hbk.small
        have hdx := hbk.dig
        rw [← eB] at hsx hdx
        rcases hs4 with hs1 | hs1 | hs1
        · have hsm := hsx.mpr hs1
          have hdg := (show ¬ (48 ≤ g (M + 7) k ∧ g (M + 7) k ≤ 57) from fun z => by have := hdx.mp z; omega)
          have hsq : tQ B n k = 1 := hs1
          refine r_iload_n dX11_splits_31 rfl ?_
          refine r_iconst dX11_splits_32 li_1 ?_
          refine r_iaddE dX11_splits_33 (by first | exact od_w0 (by omega) (by omega) | exact od_wI (by omega) (by omega) | rfl) ?_
          refine r_istore dX11_splits_34 (by decide) rfl ?_
          refine r_iload_n dX11_splits_36 rfl ?_
          refine r_callS1i dX11_splits_37 csX11_160 (c_X11_isSmallT hsm) (by decide) (Nat.le_of_ble_eq_true rfl) od_le.rf ?_
          refine r_if_eq (tgt := 68) dX11_splits_40 rfl (fun h => absurd h (by decide)) (fun _ => ?_)
          refine lp_X11_sp1 hm hw hn hT z7 k _ hk0 _ (fun to t0 t1 hr hns => ?_) _ _ ⟨by omega, by omega, fun j j0 j1 => by rw [show j = k by omega]; exact hs1⟩ (Nat.lt_succ_self _)
          have hto : tE B n k = to := by
            unfold tE
            rw [if_neg (by omega), if_pos (Or.inl hsq)]
            rw [hsq]
            exact tRn_u hns 400 k (by omega) (by omega) hr
          refine r_iload_n dX11_splits_68 rfl ?_
          refine r_callS1i dX11_splits_69 csX11_163 (c_X11_isDigitF hdg) (by decide) (Nat.le_of_ble_eq_true rfl) od_le.rf ?_
          refine r_if_eq (tgt := 100) dX11_splits_72 rfl (fun _ => ?_) (fun h => absurd h (by decide))
          refine r_aload_n dX11_splits_100 rfl ?_
          refine r_getR dX11_splits_101 fkX11_60 gf11_17 (mo_o hm) (mo_r17 hm) ?_
          refine r_aload_n dX11_splits_104 rfl ?_
          refine r_getIj (j := 18) rfl dX11_splits_105 fkX11_157 gf11_18 (mo_o hm) (by (repeat (first | rewrite [od_upn (by omega)] | rewrite [od_up_at, if_pos (by omega)] | rewrite [od_up_at, if_neg (by omega)])); first | exact z18 | rfl) ?_
          refine r_iload_n dX11_splits_108 rfl ?_
          refine r_iast dX11_splits_109 (mo_k17 hm) (by omega) ?_
          refine r_aload_n dX11_splits_110 rfl ?_
          refine r_getR dX11_splits_111 fkX11_57 gf11_16 (mo_o hm) (mo_r16 hm) ?_
          refine r_aload_n dX11_splits_114 rfl ?_
          refine r_getIj (j := 18) rfl dX11_splits_115 fkX11_157 gf11_18 (mo_o hm) (by (repeat (first | rewrite [od_upn (by omega)] | rewrite [od_up_at, if_pos (by omega)] | rewrite [od_up_at, if_neg (by omega)])); first | exact z18 | rfl) ?_
          refine r_iconst dX11_splits_118 li_0 ?_
          refine r_iast dX11_splits_119 (mo_k16 hm) (by omega) ?_
          refine r_aload_n dX11_splits_120 rfl ?_
          refine r_getR dX11_splits_121 fkX11_54 gf11_15 (mo_o hm) (mo_r15 hm) ?_
          refine r_aload_n dX11_splits_124 rfl ?_
          refine r_getIj (j := 18) rfl dX11_splits_125 fkX11_157 gf11_18 (mo_o hm) (by (repeat (first | rewrite [od_upn (by omega)] | rewrite [od_up_at, if_pos (by omega)] | rewrite [od_up_at, if_neg (by omega)])); first | exact z18 | rfl) ?_
          refine r_iload_n dX11_splits_128 rfl ?_
          refine r_callS1i dX11_splits_129 csX11_160 (c_X11_isSmallT hsm) (by decide) (Nat.le_of_ble_eq_true rfl) od_le.rf ?_
          refine r_if_eq (tgt := 145) dX11_splits_132 rfl (fun h => absurd h (by decide)) (fun _ => ?_)
          refine r_aload_n dX11_splits_135 rfl ?_
          refine r_iload_n dX11_splits_136 rfl ?_
          refine r_iload dX11_splits_137 rfl ?_
          refine r_callV2i dX11_splits_139 cvX11_166 (mo_o hm) (c_X11_wordOf hm (fun j j0 j1 => by rw [od_upn (by omega), od_upn (by omega), hfr (M + 6) j (fun z => by unfold XS at z; omega)]; exact hw j j0 j1) _ _ (by omega)) (by decide) (Nat.le_of_ble_eq_true rfl) od_le.rf ?_
          refine r_goto (tgt := 165) dX11_splits_142 rfl ?_
          rw [show (od_up (od_up gw (M + 11) i k) (M + 10) i 0) (M + 7) = g (M + 7) by rw [od_up_ne (by omega), od_up_ne (by omega)]; exact z7]
          refine r_iast dX11_splits_165 (mo_k15 hm) (by omega) ?_
          refine r_iload_n dX11_splits_166 rfl ?_
          refine r_istore dX11_splits_167 (by decide) rfl ?_
          refine r_iload dX11_splits_169 rfl ?_
          refine r_iload dX11_splits_171 rfl ?_
          refine r_icmp_ge (tgt := 247) dX11_splits_173 rfl (fun c173 => ?_) (fun c173 => ?_)
          · refine r_aload_n dX11_splits_247 rfl ?_
            refine r_dup dX11_splits_248 (by first | exact od_ne2 | exact od_ne0) ?_
            refine r_getIj (j := 18) rfl dX11_splits_249 fkX11_157 gf11_18 (mo_o hm) (by (repeat (first | rewrite [od_upn (by omega)] | rewrite [od_up_at, if_pos (by omega)] | rewrite [od_up_at, if_neg (by omega)])); first | exact z18 | rfl) ?_
            refine r_iconst dX11_splits_252 li_1 ?_
            refine r_iaddE dX11_splits_253 (by first | exact od_w0 (by omega) (by omega) | exact od_wI (by omega) (by omega) | rfl) ?_
            refine r_putIj (j := 18) rfl dX11_splits_254 fkX11_157 gf11_18 pf11_18 (mo_o hm) ?_
            refine r_iload dX11_splits_257 rfl ?_
            refine r_istore_n dX11_splits_259 (by decide) rfl ?_
            refine r_goto (tgt := 7) dX11_splits_260 rfl ?_
            refine ih to (i + 1) _ _ _ _ (hi.nx hn.2 hqk hpl hto ?_ ?_ ?_ ?_ ?_) (by have := tE_b hqk; omega)
            · exact (((od_fr.rf.up (by unfold XI; omega)).up (by unfold XI; omega)).up (by unfold XI; omega)).up (by unfold XI; omega)
            · rw [od_up_at, if_pos rfl]
            · rw [od_upn (by omega), od_up_at, if_pos rfl]
              unfold tC
              rw [hpl, if_neg hqk, if_pos hsq]
              rw [hto]
              exact tW_c (fun j j0 j1 => by
                have z := hT j (by omega) (by omega)
                have z2 := hr j j0 j1
                rw [tB_at (by omega) (by omega)] at z2
                have z3 := z.small.mpr z2
                have z4 := z.2.1
                have z5 := z.1
                omega)
            · rw [od_upn (by omega), od_upn (by omega), od_up_at, if_pos rfl]
              unfold tV
              rw [hpl, if_neg (by omega)]
            · rw [od_upn (by omega), od_upn (by omega), od_upn (by omega), od_up_at, if_pos rfl]
          · refine r_iload_n dX11_splits_176 rfl ?_
            refine r_callS1i dX11_splits_177 csX11_163 (c_X11_isDigitF hdg) (by decide) (Nat.le_of_ble_eq_true rfl) od_le.rf ?_
            refine r_if_eq (tgt := 247) dX11_splits_180 rfl (fun _ => ?_) (fun h => absurd h (by decide))
            refine r_aload_n dX11_splits_247 rfl ?_
            refine r_dup dX11_splits_248 (by first | exact od_ne2 | exact od_ne0) ?_
            refine r_getIj (j := 18) rfl dX11_splits_249 fkX11_157 gf11_18 (mo_o hm) (by (repeat (first | rewrite [od_upn (by omega)] | rewrite [od_up_at, if_pos (by omega)] | rewrite [od_up_at, if_neg (by omega)])); first | exact z18 | rfl) ?_
            refine r_iconst dX11_splits_252 li_1 ?_
            refine r_iaddE dX11_splits_253 (by first | exact od_w0 (by omega) (by omega) | exact od_wI (by omega) (by omega) | rfl) ?_
            refine r_putIj (j := 18) rfl dX11_splits_254 fkX11_157 gf11_18 pf11_18 (mo_o hm) ?_
            refine r_iload dX11_splits_257 rfl ?_
            refine r_istore_n dX11_splits_259 (by decide) rfl ?_
            refine r_goto (tgt := 7) dX11_splits_260 rfl ?_
            refine ih to (i + 1) _ _ _ _ (hi.nx hn.2 hqk hpl hto ?_ ?_ ?_ ?_ ?_) (by have := tE_b hqk; omega)
            · exact (((od_fr.rf.up (by unfold XI; omega)).up (by unfold XI; omega)).up (by unfold XI; omega)).up (by unfold XI; omega)
            · rw [od_up_at, if_pos rfl]
            · rw [od_upn (by omega), od_up_at, if_pos rfl]
              unfold tC
              rw [hpl, if_neg hqk, if_pos hsq]
              rw [hto]
              exact tW_c (fun j j0 j1 => by
                have z := hT j (by omega) (by omega)
                have z2 := hr j j0 j1
                rw [tB_at (by omega) (by omega)] at z2
                have z3 := z.small.mpr z2
                have z4 := z.2.1
                have z5 := z.1
                omega)
            · rw [od_upn (by omega), od_upn (by omega), od_up_at, if_pos rfl]
              unfold tV
              rw [hpl, if_neg (by omega)]
            · rw [od_upn (by omega), od_upn (by omega), od_upn (by omega), od_up_at, if_pos rfl]
        · have hsm := (show ¬ (97 ≤ g (M + 7) k ∧ g (M + 7) k ≤ 122) from fun z => by have := hsx.mp z; omega)
          have hdg := hdx.mpr hs1
          have hsq : tQ B n k = 2 := hs1
          refine r_iload_n dX11_splits_31 rfl ?_
          refine r_iconst dX11_splits_32 li_1 ?_
          refine r_iaddE dX11_splits_33 (by first | exact od_w0 (by omega) (by omega) | exact od_wI (by omega) (by omega) | rfl) ?_
          refine r_istore dX11_splits_34 (by decide) rfl ?_
          refine r_iload_n dX11_splits_36 rfl ?_
          refine r_callS1i dX11_splits_37 csX11_160 (c_X11_isSmallF hsm) (by decide) (Nat.le_of_ble_eq_true rfl) od_le.rf ?_
          refine r_if_eq (tgt := 68) dX11_splits_40 rfl (fun _ => ?_) (fun h => absurd h (by decide))
          refine r_iload_n dX11_splits_68 rfl ?_
          refine r_callS1i dX11_splits_69 csX11_163 (c_X11_isDigitT hdg) (by decide) (Nat.le_of_ble_eq_true rfl) od_le.rf ?_
          refine r_if_eq (tgt := 100) dX11_splits_72 rfl (fun h => absurd h (by decide)) (fun _ => ?_)
          refine lp_X11_sp2 hm hw hn hT z7 k _ hk0 _ (fun to t0 t1 hr hns => ?_) _ _ ⟨by omega, by omega, fun j j0 j1 => by rw [show j = k by omega]; exact hs1⟩ (Nat.lt_succ_self _)
          have hto : tE B n k = to := by
            unfold tE
            rw [if_neg (by omega), if_pos (Or.inr hsq)]
            rw [hsq]
            exact tRn_u hns 400 k (by omega) (by omega) hr
          refine r_aload_n dX11_splits_100 rfl ?_
          refine r_getR dX11_splits_101 fkX11_60 gf11_17 (mo_o hm) (mo_r17 hm) ?_
          refine r_aload_n dX11_splits_104 rfl ?_
          refine r_getIj (j := 18) rfl dX11_splits_105 fkX11_157 gf11_18 (mo_o hm) (by (repeat (first | rewrite [od_upn (by omega)] | rewrite [od_up_at, if_pos (by omega)] | rewrite [od_up_at, if_neg (by omega)])); first | exact z18 | rfl) ?_
          refine r_iload_n dX11_splits_108 rfl ?_
          refine r_iast dX11_splits_109 (mo_k17 hm) (by omega) ?_
          refine r_aload_n dX11_splits_110 rfl ?_
          refine r_getR dX11_splits_111 fkX11_57 gf11_16 (mo_o hm) (mo_r16 hm) ?_
          refine r_aload_n dX11_splits_114 rfl ?_
          refine r_getIj (j := 18) rfl dX11_splits_115 fkX11_157 gf11_18 (mo_o hm) (by (repeat (first | rewrite [od_upn (by omega)] | rewrite [od_up_at, if_pos (by omega)] | rewrite [od_up_at, if_neg (by omega)])); first | exact z18 | rfl) ?_
          refine r_iconst dX11_splits_118 li_0 ?_
          refine r_iast dX11_splits_119 (mo_k16 hm) (by omega) ?_
          refine r_aload_n dX11_splits_120 rfl ?_
          refine r_getR dX11_splits_121 fkX11_54 gf11_15 (mo_o hm) (mo_r15 hm) ?_
          refine r_aload_n dX11_splits_124 rfl ?_
          refine r_getIj (j := 18) rfl dX11_splits_125 fkX11_157 gf11_18 (mo_o hm) (by (repeat (first | rewrite [od_upn (by omega)] | rewrite [od_up_at, if_pos (by omega)] | rewrite [od_up_at, if_neg (by omega)])); first | exact z18 | rfl) ?_
          refine r_iload_n dX11_splits_128 rfl ?_
          refine r_callS1i dX11_splits_129 csX11_160 (c_X11_isSmallF hsm) (by decide) (Nat.le_of_ble_eq_true rfl) od_le.rf ?_
          refine r_if_eq (tgt := 145) dX11_splits_132 rfl (fun _ => ?_) (fun h => absurd h (by decide))
          refine r_iload_n dX11_splits_145 rfl ?_
          refine r_callS1i dX11_splits_146 csX11_163 (c_X11_isDigitT hdg) (by decide) (Nat.le_of_ble_eq_true rfl) od_le.rf ?_
          refine r_if_eq (tgt := 157) dX11_splits_149 rfl (fun h => absurd h (by decide)) (fun _ => ?_)
          refine r_bipush dX11_splits_152 lb_50 ?_
          refine r_goto (tgt := 165) dX11_splits_154 rfl ?_
          refine r_iast dX11_splits_165 (mo_k15 hm) (by omega) ?_
          refine r_iload_n dX11_splits_166 rfl ?_
          refine r_istore dX11_splits_167 (by decide) rfl ?_
          refine lp_X11_sp3 hm hw hn hT (g1 := (od_up (od_up (od_up gw (M + 11) i k) (M + 10) i 0) (M + 9) i 50)) (by rw [od_up_ne (by omega), od_up_ne (by omega), od_up_ne (by omega)]; exact z7) k _ to i (tV B n i) ⟨hk0, t1⟩ hdg hr (by rw [od_upn (by omega), od_upn (by omega), od_upn (by omega)]; exact z18) (by omega) (fun gz fz vz => ?_) _ _ 0 _ ⟨by omega, by omega, od_fr.rf, by rw [od_upn (by omega), od_up_at, if_pos rfl], by omega, ?_⟩ (Nat.lt_succ_self _)
          · have y18 : gz M 18 = i := (fz M 18 (by omega)).trans (by rw [od_upn (by omega), od_upn (by omega), od_upn (by omega)]; exact z18)
            refine r_aload_n dX11_splits_247 rfl ?_
            refine r_dup dX11_splits_248 (by first | exact od_ne2 | exact od_ne0) ?_
            refine r_getIj (j := 18) rfl dX11_splits_249 fkX11_157 gf11_18 (mo_o hm) (by first | exact y18 | rfl) ?_
            refine r_iconst dX11_splits_252 li_1 ?_
            refine r_iaddE dX11_splits_253 (by first | exact od_w0 (by omega) (by omega) | exact od_wI (by omega) (by omega) | rfl) ?_
            refine r_putIj (j := 18) rfl dX11_splits_254 fkX11_157 gf11_18 pf11_18 (mo_o hm) ?_
            refine r_iload dX11_splits_257 rfl ?_
            refine r_istore_n dX11_splits_259 (by decide) rfl ?_
            refine r_goto (tgt := 7) dX11_splits_260 rfl ?_
            refine ih to (i + 1) _ _ _ _ (hi.nx hn.2 hqk hpl hto ?_ ?_ ?_ ?_ ?_) (by have := tE_b hqk; omega)
            · exact (((((od_fr.rf.up (by unfold XI; omega)).up (by unfold XI; omega)).up (by unfold XI; omega)).tr (fz.mo (fun x y z => by unfold XI; omega)))).up (by unfold XI; omega)
            · rw [od_up_at, if_pos rfl]
            · rw [od_upn (by omega), fz (M + 9) i (by omega), od_up_at, if_pos rfl]
              unfold tC
              rw [hpl, if_neg hqk, if_neg (by omega), if_pos hsq]
            · rw [od_upn (by omega)]; exact vz
            · rw [od_upn (by omega), fz (M + 11) i (by omega), od_upn (by omega), od_upn (by omega), od_up_at, if_pos rfl]
          · unfold tV
            rw [hpl, if_pos hsq, hto]
        · have hsm := (show ¬ (97 ≤ g (M + 7) k ∧ g (M + 7) k ≤ 122) from fun z => by have := hsx.mp z; omega)
          have hdg := (show ¬ (48 ≤ g (M + 7) k ∧ g (M + 7) k ≤ 57) from fun z => by have := hdx.mp z; omega)
          have hsq : tQ B n k = 3 := hs1
          refine r_iload_n dX11_splits_31 rfl ?_
          refine r_iconst dX11_splits_32 li_1 ?_
          refine r_iaddE dX11_splits_33 (by first | exact od_w0 (by omega) (by omega) | exact od_wI (by omega) (by omega) | rfl) ?_
          refine r_istore dX11_splits_34 (by decide) rfl ?_
          refine r_iload_n dX11_splits_36 rfl ?_
          refine r_callS1i dX11_splits_37 csX11_160 (c_X11_isSmallF hsm) (by decide) (Nat.le_of_ble_eq_true rfl) od_le.rf ?_
          refine r_if_eq (tgt := 68) dX11_splits_40 rfl (fun _ => ?_) (fun h => absurd h (by decide))
          refine r_iload_n dX11_splits_68 rfl ?_
          refine r_callS1i dX11_splits_69 csX11_163 (c_X11_isDigitF hdg) (by decide) (Nat.le_of_ble_eq_true rfl) od_le.rf ?_
          refine r_if_eq (tgt := 100) dX11_splits_72 rfl (fun _ => ?_) (fun h => absurd h (by decide))
          have hto : tE B n k = k + 1 := by
            unfold tE
            rw [if_pos hsq]
          generalize hgt : k + 1 = to at hto ⊢
          refine r_aload_n dX11_splits_100 rfl ?_
          refine r_getR dX11_splits_101 fkX11_60 gf11_17 (mo_o hm) (mo_r17 hm) ?_
          refine r_aload_n dX11_splits_104 rfl ?_
          refine r_getIj (j := 18) rfl dX11_splits_105 fkX11_157 gf11_18 (mo_o hm) (by (repeat (first | rewrite [od_upn (by omega)] | rewrite [od_up_at, if_pos (by omega)] | rewrite [od_up_at, if_neg (by omega)])); first | exact z18 | rfl) ?_
          refine r_iload_n dX11_splits_108 rfl ?_
          refine r_iast dX11_splits_109 (mo_k17 hm) (by omega) ?_
          refine r_aload_n dX11_splits_110 rfl ?_
          refine r_getR dX11_splits_111 fkX11_57 gf11_16 (mo_o hm) (mo_r16 hm) ?_
          refine r_aload_n dX11_splits_114 rfl ?_
          refine r_getIj (j := 18) rfl dX11_splits_115 fkX11_157 gf11_18 (mo_o hm) (by (repeat (first | rewrite [od_upn (by omega)] | rewrite [od_up_at, if_pos (by omega)] | rewrite [od_up_at, if_neg (by omega)])); first | exact z18 | rfl) ?_
          refine r_iconst dX11_splits_118 li_0 ?_
          refine r_iast dX11_splits_119 (mo_k16 hm) (by omega) ?_
          refine r_aload_n dX11_splits_120 rfl ?_
          refine r_getR dX11_splits_121 fkX11_54 gf11_15 (mo_o hm) (mo_r15 hm) ?_
          refine r_aload_n dX11_splits_124 rfl ?_
          refine r_getIj (j := 18) rfl dX11_splits_125 fkX11_157 gf11_18 (mo_o hm) (by (repeat (first | rewrite [od_upn (by omega)] | rewrite [od_up_at, if_pos (by omega)] | rewrite [od_up_at, if_neg (by omega)])); first | exact z18 | rfl) ?_
          refine r_iload_n dX11_splits_128 rfl ?_
          refine r_callS1i dX11_splits_129 csX11_160 (c_X11_isSmallF hsm) (by decide) (Nat.le_of_ble_eq_true rfl) od_le.rf ?_
          refine r_if_eq (tgt := 145) dX11_splits_132 rfl (fun _ => ?_) (fun h => absurd h (by decide))
          refine r_iload_n dX11_splits_145 rfl ?_
          refine r_callS1i dX11_splits_146 csX11_163 (c_X11_isDigitF hdg) (by decide) (Nat.le_of_ble_eq_true rfl) od_le.rf ?_
          refine r_if_eq (tgt := 157) dX11_splits_149 rfl (fun _ => ?_) (fun h => absurd h (by decide))
          refine r_bipush dX11_splits_157 lb_100 ?_
          refine r_iload_n dX11_splits_159 rfl ?_
          refine r_sipush dX11_splits_160 ls_255 ?_
          refine r_iand dX11_splits_163 ?_
          rw [hbk.2.2]
          have hb1 := hbk.1
          refine r_iaddE dX11_splits_164 (by first | exact od_w0 (by omega) (by omega) | exact od_wI (by omega) (by omega) | rfl) ?_
          refine r_iast dX11_splits_165 (mo_k15 hm) (by omega) ?_
          refine r_iload_n dX11_splits_166 rfl ?_
          refine r_istore dX11_splits_167 (by decide) rfl ?_
          refine r_iload dX11_splits_169 rfl ?_
          refine r_iload dX11_splits_171 rfl ?_
          refine r_icmp_ge (tgt := 247) dX11_splits_173 rfl (fun c173 => ?_) (fun c173 => ?_)
          · refine r_aload_n dX11_splits_247 rfl ?_
            refine r_dup dX11_splits_248 (by first | exact od_ne2 | exact od_ne0) ?_
            refine r_getIj (j := 18) rfl dX11_splits_249 fkX11_157 gf11_18 (mo_o hm) (by (repeat (first | rewrite [od_upn (by omega)] | rewrite [od_up_at, if_pos (by omega)] | rewrite [od_up_at, if_neg (by omega)])); first | exact z18 | rfl) ?_
            refine r_iconst dX11_splits_252 li_1 ?_
            refine r_iaddE dX11_splits_253 (by first | exact od_w0 (by omega) (by omega) | exact od_wI (by omega) (by omega) | rfl) ?_
            refine r_putIj (j := 18) rfl dX11_splits_254 fkX11_157 gf11_18 pf11_18 (mo_o hm) ?_
            refine r_iload dX11_splits_257 rfl ?_
            refine r_istore_n dX11_splits_259 (by decide) rfl ?_
            refine r_goto (tgt := 7) dX11_splits_260 rfl ?_
            refine ih to (i + 1) _ _ _ _ (hi.nx hn.2 hqk hpl hto ?_ ?_ ?_ ?_ ?_) (by have := tE_b hqk; omega)
            · exact (((od_fr.rf.up (by unfold XI; omega)).up (by unfold XI; omega)).up (by unfold XI; omega)).up (by unfold XI; omega)
            · rw [od_up_at, if_pos rfl]
            · rw [od_upn (by omega), od_up_at, if_pos rfl]
              unfold tC
              rw [hpl, if_neg hqk, if_neg (by omega), if_neg (by omega)]
              rw [tB_at hk0 hkn]
            · rw [od_upn (by omega), od_upn (by omega), od_up_at, if_pos rfl]
              unfold tV
              rw [hpl, if_neg (by omega)]
            · rw [od_upn (by omega), od_upn (by omega), od_upn (by omega), od_up_at, if_pos rfl]
          · refine r_iload_n dX11_splits_176 rfl ?_
            refine r_callS1i dX11_splits_177 csX11_163 (c_X11_isDigitF hdg) (by decide) (Nat.le_of_ble_eq_true rfl) od_le.rf ?_
            refine r_if_eq (tgt := 247) dX11_splits_180 rfl (fun _ => ?_) (fun h => absurd h (by decide))
            refine r_aload_n dX11_splits_247 rfl ?_
            refine r_dup dX11_splits_248 (by first | exact od_ne2 | exact od_ne0) ?_
            refine r_getIj (j := 18) rfl dX11_splits_249 fkX11_157 gf11_18 (mo_o hm) (by (repeat (first | rewrite [od_upn (by omega)] | rewrite [od_up_at, if_pos (by omega)] | rewrite [od_up_at, if_neg (by omega)])); first | exact z18 | rfl) ?_
            refine r_iconst dX11_splits_252 li_1 ?_
            refine r_iaddE dX11_splits_253 (by first | exact od_w0 (by omega) (by omega) | exact od_wI (by omega) (by omega) | rfl) ?_
            refine r_putIj (j := 18) rfl dX11_splits_254 fkX11_157 gf11_18 pf11_18 (mo_o hm) ?_
            refine r_iload dX11_splits_257 rfl ?_
            refine r_istore_n dX11_splits_259 (by decide) rfl ?_
            refine r_goto (tgt := 7) dX11_splits_260 rfl ?_
            refine ih to (i + 1) _ _ _ _ (hi.nx hn.2 hqk hpl hto ?_ ?_ ?_ ?_ ?_) (by have := tE_b hqk; omega)
            · exact (((od_fr.rf.up (by unfold XI; omega)).up (by unfold XI; omega)).up (by unfold XI; omega)).up (by unfold XI; omega)
            · rw [od_up_at, if_pos rfl]
            · rw [od_upn (by omega), od_up_at, if_pos rfl]
              unfold tC
              rw [hpl, if_neg hqk, if_neg (by omega), if_neg (by omega)]
              rw [tB_at hk0 hkn]
            · rw [od_upn (by omega), od_upn (by omega), od_up_at, if_pos rfl]
              unfold tV
              rw [hpl, if_neg (by omega)]
            · rw [od_upn (by omega), od_upn (by omega), od_upn (by omega), od_up_at, if_pos rfl]
      · refine r_iincE dX11_splits_25 rfl (by decide) (by first | exact od_w0 (by omega) (by omega) | exact od_wI (by omega) (by omega) | rfl) rfl ?_
        refine r_goto (tgt := 7) dX11_splits_28 rfl ?_
        have hbk := hT k hk0 hkn
        have eB := tB_at (B := B) (n := n) (j := k) hk0 hkn
        refine ih _ i gw _ _ _ ⟨by omega, hfr, z18, ⟨hPk.1, by omega, fun j j0 j1 => ?_⟩, hrows⟩ (by omega)
        by_cases cj : j = k
        · rw [cj, eB]; have := hbk.2.1; have := hbk.1; omega
        · exact hPk.2.2 j j0 (by omega)
set_option maxRecDepth 10000 in
theorem c_X11_splits {E : od_E} {g : od_G} {M : Int} (hm : MoAt E M) (hw : ∀ j : Int, 0 ≤ j → j < 120 → g (M + 6) j = od_mw j) {B : Int → Int} {n : Int} (hn : 0 ≤ n ∧ n ≤ 400) (hT : ∀ j : Int, 0 ≤ j → j < n → TB (g (M + 7) j) (B j)) : od_Cq (2) mX11_splits [(2, M), (0, n)] E g (E, fun v g' => v = none ∧ od_fr (XS M) g g' ∧ ∃ N : Int, (∀ i : Int, 0 ≤ i → (i < N ↔ tQ B n (tpl B n i) ≠ 0)) ∧ TkOk g' M (tC B n) (tV B n) (tpl B n) N) := by
  refine od_cqI pnX11 rfl (Nat.le_of_ble_eq_true rfl) od_le.rf ?_
  show od_Rq (2) mX11_splits od_Z0 E (E, fun v g' => v = none ∧ od_fr (XS M) g g' ∧ ∃ N : Int, (∀ i : Int, 0 ≤ i → (i < N ↔ tQ B n (tpl B n i) ≠ 0)) ∧ TkOk g' M (tC B n) (tV B n) (tpl B n) N) 0 [some (2, M), some (0, n), none, none, none, none] [] E g
  refine r_aload_n dX11_splits_0 rfl ?_
  refine r_iconst dX11_splits_1 li_0 ?_
  refine r_putIj (j := 18) rfl dX11_splits_2 fkX11_157 gf11_18 pf11_18 (mo_o hm) ?_
  refine r_iconst dX11_splits_5 li_0 ?_
  refine r_istore_n dX11_splits_6 (by decide) rfl ?_
  exact lp_X11_sp hm hw hn hT _ _ 0 _ _ _ _ ⟨⟨by omega, by omega, hn.1⟩, od_fr.rf.up (by unfold XS; omega), by rw [od_up_at, if_pos rfl], ⟨by show (0 : Int) ≤ 0; omega, by show (0 : Int) ≤ 0; omega, fun j j0 j1 => by have : tP B n (0 : Int).toNat = 0 := rfl; omega⟩, fun q q0 q1 => by omega⟩ (Nat.lt_succ_self _)
