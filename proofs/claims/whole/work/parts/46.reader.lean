/-- the tape's bytes and how many -/
def TpOk (g : od_G) (tp : Int) (B : Int → Int) (n : Int) : Prop := g (tp + 1) = B ∧ g tp 1 = n ∧ (0 ≤ n ∧ n ≤ 400) ∧ ∀ p : Int, 0 ≤ p → p < n → 0 ≤ B p ∧ B p ≤ 255
theorem TpOk.fr {X : Int → Int → Prop} {g g' : od_G} {tp : Int} {B : Int → Int} {n : Int} (h : TpOk g tp B n) (f : od_fr X g g') (h1 : ∀ y, ¬ X (tp + 1) y) (h2 : ¬ X tp 1) : TpOk g' tp B n := ⟨(f.row h1).trans h.1, (f tp 1 h2).trans h.2.1, h.2.2⟩
/-- the reader at a state of the text -/
def RSt (g : od_G) (rd : Int) (B : Int → Int) (n : Int) (s : pS) : Prop := (s.2.2 = -1 ∧ (0 ≤ s.1 ∧ s.1 ≤ tpl B n s.1 ∧ 0 ≤ s.2.1) ∧ g rd 8 = -1 ∧ g rd 7 = s.2.1 ∧ g rd 4 = tpl B n s.1 ∧ g rd 5 = tE B n (tpl B n s.1) ∧ g rd 6 = tN B n (tpl B n s.1) ∧ g rd 3 = tQ B n (tpl B n s.1)) ∨ (s.2.2 ≠ -1 ∧ g rd 8 = s.2.2 ∧ g rd 3 = 4)
theorem RSt.e {g g' : od_G} {rd : Int} {B : Int → Int} {n : Int} {s : pS} (h : RSt g rd B n s) (e : ∀ y : Int, 3 ≤ y → y ≤ 8 → g' rd y = g rd y) : RSt g' rd B n s := by
  unfold RSt
  rw [e 8 (by omega) (by omega), e 7 (by omega) (by omega), e 4 (by omega) (by omega), e 5 (by omega) (by omega), e 6 (by omega) (by omega), e 3 (by omega) (by omega)]
  exact h
theorem RSt.fine {g : od_G} {rd : Int} {B : Int → Int} {n : Int} {s : pS} (h : RSt g rd B n s) (hb : s.2.2 = -1) : (0 ≤ s.1 ∧ s.1 ≤ tpl B n s.1 ∧ 0 ≤ s.2.1) ∧ g rd 8 = -1 ∧ g rd 7 = s.2.1 ∧ g rd 4 = tpl B n s.1 ∧ g rd 5 = tE B n (tpl B n s.1) ∧ g rd 6 = tN B n (tpl B n s.1) ∧ g rd 3 = tQ B n (tpl B n s.1) := by
  rcases h with h | h
  · exact h.2
  · exact absurd hb h.1
theorem RSt.bad {g : od_G} {rd : Int} {B : Int → Int} {n : Int} {s : pS} (h : RSt g rd B n s) (hb : s.2.2 ≠ -1) : g rd 8 = s.2.2 ∧ g rd 3 = 4 := by
  rcases h with h | h
  · exact absurd h.1 hb
  · exact h.2
theorem RSt.sign {g : od_G} {rd : Int} {B : Int → Int} {n : Int} {s : pS} (h : RSt g rd B n s) {k : Int} (hk : 0 ≤ k) : (g rd 3 = 3 ∧ tB B n (g rd 4) = k) ↔ (s.2.2 = -1 ∧ tC B n s.1 = 100 + k) := by
  rw [tC_sign hk]
  by_cases hb : s.2.2 = -1
  · obtain ⟨_, _, _, h4, _, _, h3⟩ := h.fine hb
    rw [h3, h4]
    exact ⟨fun z => ⟨hb, z⟩, fun z => z.2⟩
  · have q := h.bad hb
    constructor
    · intro z; omega
    · intro z; exact absurd z.1 hb
theorem cSF_st {g : od_G} {rd : Int} {B : Int → Int} {n : Int} {s : pS} (hn : 0 ≤ n) (h : RSt g rd B n s) : RSt (cSF g rd) rd B n (pF (tpl B n) s) := by
  unfold cSF pF
  by_cases hb : s.2.2 = -1
  · have q := h.fine hb
    have p := tpl_b (B := B) hn s.1
    rw [if_pos q.2.1, if_pos hb]
    right
    refine ⟨by show tpl B n s.1 ≠ -1; omega, ?_, ?_⟩
    · show _ = tpl B n s.1
      rw [od_up_at, if_neg (by omega), od_up_at, if_pos rfl]
      exact q.2.2.2.1
    · rw [od_up_at, if_pos rfl]
  · have q := h.bad hb
    rw [if_neg (by omega), if_neg hb]
    exact h
theorem cSF_fr (g : od_G) (rd : Int) : od_fr (fun x y => x = rd ∧ 3 ≤ y ∧ y ≤ 8) g (cSF g rd) := by
  unfold cSF
  split
  · exact (od_fr.rf.up (by omega)).up (by omega)
  · exact od_fr.rf
theorem RSt.go {g g' : od_G} {rd : Int} {B : Int → Int} {n : Int} {s : pS} (h : RSt g rd B n s) (hb : s.2.2 = -1) (hq : tC B n s.1 ≠ 0) (f : od_fr (fun x y => x = rd ∧ 3 ≤ y ∧ y ≤ 6) g g') (w4 : g' rd 4 = tS B n (g rd 5)) (w5 : g' rd 5 = tE B n (tS B n (g rd 5))) (w6 : g' rd 6 = tN B n (tS B n (g rd 5))) (w3 : g' rd 3 = tQ B n (tS B n (g rd 5))) : RSt g' rd B n (pNx s) := by
  obtain ⟨h0, h8, h7, h4, h5, h6, h3⟩ := h.fine hb
  have u := tpl_up (B := B) (n := n) h0.1 (tC_nz hq)
  have e : tpl B n (pNx s).1 = tS B n (g rd 5) := by
    rw [h5]
    exact tpl_s B n h0.1
  refine Or.inl ⟨hb, ⟨by show 0 ≤ s.1 + 1; omega, by show s.1 + 1 ≤ tpl B n (s.1 + 1); omega, h0.2.2⟩, ?_, ?_, ?_, ?_, ?_, ?_⟩
  · rw [f rd 8 (by omega)]; exact h8
  · rw [f rd 7 (by omega)]; exact h7
  · rw [e]; exact w4
  · rw [e]; exact w5
  · rw [e]; exact w6
  · rw [e]; exact w3
theorem RSt.g5 {g : od_G} {rd : Int} {B : Int → Int} {n : Int} {s : pS} (h : RSt g rd B n s) (hn : 0 ≤ n) (hb : s.2.2 = -1) : 0 ≤ g rd 5 ∧ g rd 5 ≤ n := by
  obtain ⟨h0, h8, h7, h4, h5, h6, h3⟩ := h.fine hb
  have p := tpl_b (B := B) hn s.1
  rw [h5]
  by_cases c : tQ B n (tpl B n s.1) = 0
  · rw [tE_0 c]; exact p
  · have := tE_b c; omega
/-- a piece of a constant -/
def od_sl (j : Nat) (a b : Int) : List Int := (List.range (b - a).toNat).map fun i : Nat => od_chr j (a + (i : Int))
theorem od_sl_len (j : Nat) (a b : Int) : (od_sl j a b).length = (b - a).toNat := by simp [od_sl]
theorem od_sl_at {j : Nat} {a b : Int} {i : Nat} (h : i < (b - a).toNat) : (od_sl j a b).getD i 0 = od_chr j (a + (i : Int)) := by
  simp [od_sl, List.getD, List.getElem?_map, List.getElem?_range h]
def od_bq (j : Nat) : Nat → Int
  | 0 => 0
  | i + 1 => if od_chr j (i : Int) = 32 then od_bq j i + 1 else od_bq j i
def od_bf (j : Nat) : Nat → Int
  | 0 => 0
  | i + 1 => if od_chr j (i : Int) = 32 then (i : Int) + 1 else od_bf j i
def od_cds : List (List Int) := [[1, 2, 3], [20, 21, 23, 24], [8, 9, 10, 11, 13, 14, 12], [14, 15, 16, 17, 18, 19, 13], [19], [22], [25], [4], [7], [6], [5]]
def od_bds : List (List Nat) := [[6, 12, 17], [3, 9, 14, 19], [4, 9, 14, 19, 24, 29, 34], [4, 9, 16, 21, 25, 28, 33], [2], [2], [5], [2], [3], [3], [2]]
def od_cd (j : Nat) : List Int := od_cds.getD j []
def tWI : List Int → Int → Int → Int
  | [], _, _ => -1
  | x :: r, k, i => if k = x then i else tWI r k (i + 1)
theorem tWI_no : ∀ (l : List Int) (k i : Int), (∀ x ∈ l, k ≠ x) → tWI l k i = -1 := by
  intro l
  induction l with
  | nil => intro k i _; rfl
  | cons x r ih =>
    intro k i h
    simp only [tWI]
    rw [if_neg (h x (by simp))]
    exact ih k (i + 1) (fun y hy => h y (by simp [hy]))
theorem od_bd1 : ∀ j : Nat, j < 11 → ∀ i : Nat, i < od_len.getD j 0 + 1 → (i = od_len.getD j 0 ∨ od_chr j (i : Int) = 32) → od_sl j (od_bf j i) (i : Int) = od_wd ((od_cd j).getD (od_bq j i).toNat 0) ∧ tWI (od_cd j) ((od_cd j).getD (od_bq j i).toNat 0) 0 = od_bq j i ∧ 1 ≤ (od_cd j).getD (od_bq j i).toNat 0 ∧ (od_cd j).getD (od_bq j i).toNat 0 ≤ 25 := by decide +kernel
theorem od_bd2 : ∀ j : Nat, j < 11 → ∀ q : Nat, q < (od_cd j).length → (od_bds.getD j []).getD q 0 < od_len.getD j 0 + 1 ∧ ((od_bds.getD j []).getD q 0 = od_len.getD j 0 ∨ od_chr j (((od_bds.getD j []).getD q 0 : Nat) : Int) = 32) ∧ (od_cd j).getD (od_bq j ((od_bds.getD j []).getD q 0)).toNat 0 = (od_cd j).getD q 0 := by decide +kernel
theorem od_bd3 : ∀ j : Nat, j < 11 → ∀ i : Nat, i < od_len.getD j 0 + 1 → (0 ≤ od_bf j i ∧ od_bf j i ≤ i) ∧ 0 ≤ od_bq j i ∧ od_bq j i ≤ 6 := by decide +kernel
theorem od_bd4 : ∀ j : Nat, j < 11 → ∀ x ∈ od_cd j, 1 ≤ x ∧ x ≤ 25 := by decide +kernel
/-- which of a constant's words the token is -/
noncomputable def tA (B : Int → Int) (n : Int) (j : Nat) (s : pS) : Int := if s.2.2 = -1 then tWI (od_cd j) (tC B n s.1) 0 else -1
theorem wi_hit {g : od_G} {rd : Int} {B : Int → Int} {n : Int} {s : pS} {j : Nat} (hj : j < 11) (hv : ∀ p : Int, 0 ≤ p → p < n → 0 ≤ B p ∧ B p ≤ 255) (hR : RSt g rd B n s) {i : Int} (hi : 0 ≤ i ∧ i ≤ od_ln j) (hb : i = od_ln j ∨ od_chr j i = 32) (h3 : g rd 3 = 1) (hs : tSp B (g rd 4) (g rd 5) (od_sl j (od_bf j i.toNat) i)) : tA B n j s = od_bq j i.toNat := by
  have ei : ((i.toNat : Nat) : Int) = i := by omega
  have h := od_bd1 j hj i.toNat (by unfold od_ln at hi; omega) (by unfold od_ln at hb; rw [ei]; omega)
  rw [ei] at h
  rcases hR with hR | hR
  · obtain ⟨hbad, h0, h8, h7, h4, h5, h6, h3'⟩ := hR
    unfold tA
    rw [if_pos hbad]
    rw [h4, h5, h.1] at hs
    have hc := (tC_word (B := B) (n := n) (fun p a b => (hv p a b).1) (i := s.1) h.2.2).mpr ⟨by omega, hs⟩
    rw [hc]
    exact h.2.1
  · omega
theorem wi_miss {g : od_G} {rd : Int} {B : Int → Int} {n : Int} {s : pS} {j : Nat} (hj : j < 11) (hv : ∀ p : Int, 0 ≤ p → p < n → 0 ≤ B p ∧ B p ≤ 255) (hR : RSt g rd B n s) (hno : ∀ i : Int, 0 ≤ i → i ≤ od_ln j → (i = od_ln j ∨ od_chr j i = 32) → ¬ (g rd 3 = 1 ∧ tSp B (g rd 4) (g rd 5) (od_sl j (od_bf j i.toNat) i))) : tA B n j s = -1 := by
  rcases hR with hR | hR
  · obtain ⟨hbad, h0, h8, h7, h4, h5, h6, h3'⟩ := hR
    unfold tA
    rw [if_pos hbad]
    refine tWI_no _ _ _ (fun x hx he => ?_)
    have b4 := od_bd4 j hj x hx
    have hc := (tC_word (B := B) (n := n) (fun p a b => (hv p a b).1) (i := s.1) b4).mp he
    obtain ⟨q, hq, hqe⟩ := List.getElem_of_mem hx
    have b2 := od_bd2 j hj q hq
    have b1 := od_bd1 j hj _ b2.1 b2.2.1
    have ex : (od_cd j).getD q 0 = x := by simp [List.getD, hq, hqe]
    rw [b2.2.2, ex] at b1
    refine hno (((od_bds.getD j []).getD q 0 : Nat) : Int) (by omega) (by unfold od_ln; omega) (by unfold od_ln; omega) ⟨by omega, ?_⟩
    rw [Int.toNat_natCast, b1.1, h4, h5]
    exact hc.2
  · unfold tA
    rw [if_neg hR.1]
theorem tA_w {B : Int → Int} {n : Int} {s : pS} {j : Nat} {k : Int} (hj : od_cd j = [k]) : tA B n j s ≠ -1 ↔ (s.2.2 = -1 ∧ tC B n s.1 = k) := by
  unfold tA
  rw [hj]
  simp only [tWI]
  by_cases h1 : s.2.2 = -1
  · rw [if_pos h1]
    by_cases h2 : tC B n s.1 = k
    · rw [if_pos h2]; exact ⟨fun _ => ⟨h1, h2⟩, fun _ => by omega⟩
    · rw [if_neg h2]; exact ⟨fun z => absurd rfl z, fun z => absurd z.2 h2⟩
  · rw [if_neg h1]; exact ⟨fun z => absurd rfl z, fun z => absurd z.1 h1⟩
set_option maxRecDepth 10000 in
theorem lp_X3_sp {E : od_E} {g : od_G} {rd tp t : Int} (hr : ReAt E rd tp t) {B : Int → Int} {n : Int} (hT : TpOk g tp B n) {j : Nat} (hj : j < 11) (fr to : Int) (h1 : 0 ≤ fr ∧ fr ≤ to ∧ to ≤ od_ln j) (h2 : 0 ≤ g rd 4 ∧ g rd 4 ≤ g rd 5 ∧ g rd 5 ≤ 400) : ∀ (m : Nat) (i sm : Int), (0 ≤ i ∧ i ≤ g rd 5 - g rd 4 ∧ ((sm = 1 ∧ g rd 5 - g rd 4 = to - fr ∧ ∀ q : Int, 0 ≤ q → q < i → B (g rd 4 + q) = od_chr j (fr + q)) ∨ (sm = 0 ∧ ¬ (tSp B (g rd 4) (g rd 5) (od_sl j fr to))))) → ((g rd 5 - g rd 4 - i).toNat) < m → od_R 5 mX3_spells od_Z0 E (some (0, od_b (tSp B (g rd 4) (g rd 5) (od_sl j fr to))), E, g) 42 [some (2, rd), some (2, -10 - (j : Int)), some (0, fr), some (0, to), some (0, sm), some (0, i)] [] E g := by
  have hr0 := hr
  obtain ⟨hkr, e0, e1, hta, htx, hor⟩ := hr
  have hta0 := hta
  obtain ⟨hkt, t0, t1⟩ := hta
  have hT0 := hT
  obtain ⟨hB, hn, h4, hv⟩ := hT
  intro m
  induction m with
  | zero => intro i sm hi hM; exact absurd hM (Nat.not_lt_zero _)
  | succ m ih =>
    intro i sm hi hM
    obtain ⟨hi0, hi1, hs⟩ := hi
    have l34 := od_ln34 hj
    refine r_iload dX3_spells_42 rfl ?_
    refine r_aload_n dX3_spells_44 rfl ?_
    refine r_getIj (j := 5) rfl dX3_spells_45 fkX3_31 gf3_5 (by assumption) (by (repeat (first | rewrite [od_upn (by omega)] | rewrite [od_up_at, if_pos (by omega)] | rewrite [od_up_at, if_neg (by omega)])); rfl) ?_
    refine r_aload_n dX3_spells_48 rfl ?_
    refine r_getIj (j := 4) rfl dX3_spells_49 fkX3_28 gf3_4 (by assumption) (by (repeat (first | rewrite [od_upn (by omega)] | rewrite [od_up_at, if_pos (by omega)] | rewrite [od_up_at, if_neg (by omega)])); rfl) ?_
    refine r_isubE dX3_spells_52 (by first | exact od_w0 (by omega) (by omega) | exact od_wI (by omega) (by omega) | rfl) ?_
    refine r_icmp_ge (tgt := 100) dX3_spells_53 rfl (fun c53 => ?_) (fun c53 => ?_)
    · refine r_iload dX3_spells_100 rfl ?_
      rcases hs with ⟨rfl, z1, z2⟩ | ⟨rfl, z1⟩
      · refine r_zret (v := 1) dX3_spells_102 rfl od_nz1 (od_lt1 ⟨by rw [od_sl_len]; omega, fun q q1 => ?_⟩)
        rw [od_sl_len] at q1
        rw [od_sl_at q1]
        exact z2 q (by omega) (by omega)
      · exact r_zret (v := 0) dX3_spells_102 rfl od_nz0 (od_lt0 z1)
    · refine r_iload dX3_spells_56 rfl ?_
      refine r_if_eq (tgt := 100) dX3_spells_58 rfl (fun c58 => ?_) (fun c58 => ?_)
      · refine r_iload dX3_spells_100 rfl ?_
        rcases hs with ⟨rfl, z1, z2⟩ | ⟨rfl, z1⟩
        · refine r_zret (v := 1) dX3_spells_102 rfl od_nz1 (od_lt1 ⟨by rw [od_sl_len]; omega, fun q q1 => ?_⟩)
          rw [od_sl_len] at q1
          rw [od_sl_at q1]
          exact z2 q (by omega) (by omega)
        · exact r_zret (v := 0) dX3_spells_102 rfl od_nz0 (od_lt0 z1)
      · have hsm : sm = 1 ∧ g rd 5 - g rd 4 = to - fr ∧ ∀ q : Int, 0 ≤ q → q < i → B (g rd 4 + q) = od_chr j (fr + q) := by
          rcases hs with z | z
          · exact z
          · exact absurd z.1 (by assumption)
        have hb1 := od_chr_b (i := j) (k := fr + i) hj (by omega)
        refine r_aload_n dX3_spells_61 rfl ?_
        refine r_getR dX3_spells_62 fkX3_43 gf3_1 (by assumption) (by assumption) ?_
        refine r_getR dX3_spells_65 fkX3_168 gf8_0 (by assumption) (by assumption) ?_
        refine r_aload_n dX3_spells_68 rfl ?_
        refine r_getIj (j := 4) rfl dX3_spells_69 fkX3_28 gf3_4 (by assumption) (by (repeat (first | rewrite [od_upn (by omega)] | rewrite [od_up_at, if_pos (by omega)] | rewrite [od_up_at, if_neg (by omega)])); rfl) ?_
        refine r_iload dX3_spells_72 rfl ?_
        refine r_iaddE dX3_spells_74 (by first | exact od_w0 (by omega) (by omega) | exact od_wI (by omega) (by omega) | rfl) ?_
        refine r_iald dX3_spells_75 (by assumption) (by omega) (by (repeat (first | rewrite [od_upn (by omega)] | rewrite [od_up_at, if_pos (by omega)] | rewrite [od_up_at, if_neg (by omega)])); rfl) ?_
        refine r_aload_n dX3_spells_76 rfl ?_
        refine r_iload_n dX3_spells_77 rfl ?_
        refine r_iload dX3_spells_78 rfl ?_
        refine r_iaddE dX3_spells_80 (by first | exact od_w0 (by omega) (by omega) | exact od_wI (by omega) (by omega) | rfl) ?_
        refine r_callT1i dX3_spells_81 hj ctX3_160 (c_J0_charAt_5068e hj (by omega)) (by decide) (Nat.le_of_ble_eq_true rfl) od_le.rf ?_
        refine r_icmp_ne (tgt := 91) dX3_spells_84 rfl (fun c84 => ?_) (fun c84 => ?_)
        · refine r_iconst dX3_spells_91 li_0 ?_
          refine r_istore dX3_spells_92 (by decide) rfl ?_
          refine r_iincE dX3_spells_94 rfl (by decide) (by first | exact od_w0 (by omega) (by omega) | exact od_wI (by omega) (by omega) | rfl) rfl ?_
          refine r_goto (tgt := 42) dX3_spells_97 rfl ?_
          rw [hB] at *
          first
          | exact ih _ _ ⟨by omega, by omega, Or.inl ⟨rfl, hsm.2.1, fun q q0 q1 => by
              by_cases cq : q = i
              · rw [cq]; assumption
              · exact hsm.2.2 q q0 (by omega)⟩⟩ (by omega)
          | refine ih _ _ ⟨by omega, by omega, Or.inr ⟨rfl, fun z => ?_⟩⟩ (by omega)
            have z2 := z.2 i.toNat (by rw [od_sl_len]; omega)
            rw [od_sl_at (by omega), show ((i.toNat : Nat) : Int) = i by omega] at z2
            omega
        · refine r_iconst dX3_spells_87 li_1 ?_
          refine r_goto (tgt := 92) dX3_spells_88 rfl ?_
          refine r_istore dX3_spells_92 (by decide) rfl ?_
          refine r_iincE dX3_spells_94 rfl (by decide) (by first | exact od_w0 (by omega) (by omega) | exact od_wI (by omega) (by omega) | rfl) rfl ?_
          refine r_goto (tgt := 42) dX3_spells_97 rfl ?_
          rw [hB] at *
          first
          | exact ih _ _ ⟨by omega, by omega, Or.inl ⟨rfl, hsm.2.1, fun q q0 q1 => by
              by_cases cq : q = i
              · rw [cq]; assumption
              · exact hsm.2.2 q q0 (by omega)⟩⟩ (by omega)
          | refine ih _ _ ⟨by omega, by omega, Or.inr ⟨rfl, fun z => ?_⟩⟩ (by omega)
            have z2 := z.2 i.toNat (by rw [od_sl_len]; omega)
            rw [od_sl_at (by omega), show ((i.toNat : Nat) : Int) = i by omega] at z2
            omega
set_option maxRecDepth 10000 in
theorem c_X3_spells {E : od_E} {g : od_G} {rd tp t : Int} (hr : ReAt E rd tp t) {B : Int → Int} {n : Int} (hT : TpOk g tp B n) {j : Nat} (hj : j < 11) (fr to : Int) (h1 : 0 ≤ fr ∧ fr ≤ to ∧ to ≤ od_ln j) (h2 : 0 ≤ g rd 4 ∧ g rd 4 ≤ g rd 5 ∧ g rd 5 ≤ 400) : od_Ct 5 mX3_spells [(2, rd), (2, -10 - (j : Int)), (0, fr), (0, to)] E g (some (0, od_b (tSp B (g rd 4) (g rd 5) (od_sl j fr to))), E, g) := by
  have hr0 := hr
  obtain ⟨hkr, e0, e1, hta, htx, hor⟩ := hr
  have hta0 := hta
  obtain ⟨hkt, t0, t1⟩ := hta
  have hT0 := hT
  obtain ⟨hB, hn, h4, hv⟩ := hT
  have l34 := od_ln34 hj
  refine od_ctI pnX3 rfl (Nat.le_of_ble_eq_true rfl) od_le.rf ?_
  show od_R _ _ _ _ _ 0 [some (2, rd), some (2, -10 - (j : Int)), some (0, fr), some (0, to), none, none] [] E g
  refine r_iload_n dX3_spells_0 rfl ?_
  refine r_iload_n dX3_spells_1 rfl ?_
  refine r_isubE dX3_spells_2 (by first | exact od_w0 (by omega) (by omega) | exact od_wI (by omega) (by omega) | rfl) ?_
  refine r_aload_n dX3_spells_3 rfl ?_
  refine r_getIj (j := 5) rfl dX3_spells_4 fkX3_31 gf3_5 (by assumption) (by (repeat (first | rewrite [od_upn (by omega)] | rewrite [od_up_at, if_pos (by omega)] | rewrite [od_up_at, if_neg (by omega)])); rfl) ?_
  refine r_aload_n dX3_spells_7 rfl ?_
  refine r_getIj (j := 4) rfl dX3_spells_8 fkX3_28 gf3_4 (by assumption) (by (repeat (first | rewrite [od_upn (by omega)] | rewrite [od_up_at, if_pos (by omega)] | rewrite [od_up_at, if_neg (by omega)])); rfl) ?_
  refine r_isubE dX3_spells_11 (by first | exact od_w0 (by omega) (by omega) | exact od_wI (by omega) (by omega) | rfl) ?_
  refine r_icmp_ne (tgt := 36) dX3_spells_12 rfl (fun c12 => ?_) (fun c12 => ?_)
  · refine r_iconst dX3_spells_36 li_0 ?_
    refine r_istore dX3_spells_37 (by decide) rfl ?_
    refine r_iconst dX3_spells_39 li_0 ?_
    refine r_istore dX3_spells_40 (by decide) rfl ?_
    first
    | (exfalso; omega)
    | exact lp_X3_sp hr0 hT0 hj fr to h1 h2 _ _ _ ⟨by omega, by omega, Or.inl ⟨rfl, by omega, fun q q0 q1 => by omega⟩⟩ (Nat.lt_succ_self _)
    | exact lp_X3_sp hr0 hT0 hj fr to h1 h2 _ _ _ ⟨by omega, by omega, Or.inr ⟨rfl, fun z => by
        have z1 := z.1
        rw [od_sl_len] at z1
        omega⟩⟩ (Nat.lt_succ_self _)
  · refine r_aload_n dX3_spells_15 rfl ?_
    refine r_getIj (j := 4) rfl dX3_spells_16 fkX3_28 gf3_4 (by assumption) (by (repeat (first | rewrite [od_upn (by omega)] | rewrite [od_up_at, if_pos (by omega)] | rewrite [od_up_at, if_neg (by omega)])); rfl) ?_
    refine r_if_lt (tgt := 36) dX3_spells_19 rfl (fun c19 => ?_) (fun c19 => ?_)
    · refine r_iconst dX3_spells_36 li_0 ?_
      refine r_istore dX3_spells_37 (by decide) rfl ?_
      refine r_iconst dX3_spells_39 li_0 ?_
      refine r_istore dX3_spells_40 (by decide) rfl ?_
      first
      | (exfalso; omega)
      | exact lp_X3_sp hr0 hT0 hj fr to h1 h2 _ _ _ ⟨by omega, by omega, Or.inl ⟨rfl, by omega, fun q q0 q1 => by omega⟩⟩ (Nat.lt_succ_self _)
      | exact lp_X3_sp hr0 hT0 hj fr to h1 h2 _ _ _ ⟨by omega, by omega, Or.inr ⟨rfl, fun z => by
          have z1 := z.1
          rw [od_sl_len] at z1
          omega⟩⟩ (Nat.lt_succ_self _)
    · refine r_aload_n dX3_spells_22 rfl ?_
      refine r_getIj (j := 5) rfl dX3_spells_23 fkX3_31 gf3_5 (by assumption) (by (repeat (first | rewrite [od_upn (by omega)] | rewrite [od_up_at, if_pos (by omega)] | rewrite [od_up_at, if_neg (by omega)])); rfl) ?_
      refine r_sipush dX3_spells_26 ls_400 ?_
      refine r_icmp_gt (tgt := 36) dX3_spells_29 rfl (fun c29 => ?_) (fun c29 => ?_)
      · refine r_iconst dX3_spells_36 li_0 ?_
        refine r_istore dX3_spells_37 (by decide) rfl ?_
        refine r_iconst dX3_spells_39 li_0 ?_
        refine r_istore dX3_spells_40 (by decide) rfl ?_
        first
        | (exfalso; omega)
        | exact lp_X3_sp hr0 hT0 hj fr to h1 h2 _ _ _ ⟨by omega, by omega, Or.inl ⟨rfl, by omega, fun q q0 q1 => by omega⟩⟩ (Nat.lt_succ_self _)
        | exact lp_X3_sp hr0 hT0 hj fr to h1 h2 _ _ _ ⟨by omega, by omega, Or.inr ⟨rfl, fun z => by
            have z1 := z.1
            rw [od_sl_len] at z1
            omega⟩⟩ (Nat.lt_succ_self _)
      · refine r_iconst dX3_spells_32 li_1 ?_
        refine r_goto (tgt := 37) dX3_spells_33 rfl ?_
        refine r_istore dX3_spells_37 (by decide) rfl ?_
        refine r_iconst dX3_spells_39 li_0 ?_
        refine r_istore dX3_spells_40 (by decide) rfl ?_
        first
        | (exfalso; omega)
        | exact lp_X3_sp hr0 hT0 hj fr to h1 h2 _ _ _ ⟨by omega, by omega, Or.inl ⟨rfl, by omega, fun q q0 q1 => by omega⟩⟩ (Nat.lt_succ_self _)
        | exact lp_X3_sp hr0 hT0 hj fr to h1 h2 _ _ _ ⟨by omega, by omega, Or.inr ⟨rfl, fun z => by
            have z1 := z.1
            rw [od_sl_len] at z1
            omega⟩⟩ (Nat.lt_succ_self _)
set_option maxRecDepth 10000 in
theorem lp_X3_wi {E : od_E} {g : od_G} {rd tp t : Int} (hr : ReAt E rd tp t) {B : Int → Int} {n : Int} (hT : TpOk g tp B n) {s : pS} (hR : RSt g rd B n s) {j : Nat} (hj : j < 11) : ∀ (m : Nat) (i q fr : Int), (0 ≤ i ∧ i ≤ od_ln j + 1 ∧ (i ≤ od_ln j → q = od_bq j i.toNat ∧ fr = od_bf j i.toNat) ∧ ∀ x : Int, 0 ≤ x → x < i → x ≤ od_ln j → (x = od_ln j ∨ od_chr j x = 32) → ¬ (g rd 3 = 1 ∧ tSp B (g rd 4) (g rd 5) (od_sl j (od_bf j x.toNat) x))) → ((od_ln j + 1 - i).toNat) < m → od_R 6 mX3_wordIn od_Z0 E (some (0, tA B n j s), E, g) 7 [some (2, rd), some (2, -10 - (j : Int)), some (0, q), some (0, fr), some (0, i)] [] E g := by
  have hr0 := hr
  obtain ⟨hkr, e0, e1, hta, htx, hor⟩ := hr
  have hta0 := hta
  obtain ⟨hkt, t0, t1⟩ := hta
  have hT0 := hT
  obtain ⟨hB, hn, h4, hv⟩ := hT
  have h2x : g rd 3 = 1 → 0 ≤ g rd 4 ∧ g rd 4 ≤ g rd 5 ∧ g rd 5 ≤ 400 := fun z => by
    rcases hR with hR | hR
    · obtain ⟨hbad, q0, q8, q7, q4, q5, q6, q3⟩ := hR
      have p1 := tpl_b (B := B) h4.1 s.1
      have p2 := tE_b (B := B) (n := n) (s := tpl B n s.1) (by omega)
      omega
    · omega
  intro m
  induction m with
  | zero => intro i q fr hi hM; exact absurd hM (Nat.not_lt_zero _)
  | succ m ih =>
    intro i q fr hi hM
    obtain ⟨hi0, hi1, hqf, hno⟩ := hi
    have l34 := od_ln34 hj
    have h3x : i ≤ od_ln j → (0 ≤ od_bf j i.toNat ∧ od_bf j i.toNat ≤ i) ∧ 0 ≤ od_bq j i.toNat ∧ od_bq j i.toNat ≤ 6 := fun z => by
      have := od_bd3 j hj i.toNat (by unfold od_ln at z; omega)
      rwa [show ((i.toNat : Nat) : Int) = i by omega] at this
    have hqS : od_bq j (i + 1).toNat = (if od_chr j i = 32 then od_bq j i.toNat + 1 else od_bq j i.toNat) := by
      rw [show (i + 1).toNat = i.toNat + 1 by omega]
      simp only [od_bq]
      rw [show ((i.toNat : Nat) : Int) = i by omega]
    have hfS : od_bf j (i + 1).toNat = (if od_chr j i = 32 then i + 1 else od_bf j i.toNat) := by
      rw [show (i + 1).toNat = i.toNat + 1 by omega]
      simp only [od_bf]
      rw [show ((i.toNat : Nat) : Int) = i by omega]
    refine r_iload dX3_wordIn_7 rfl ?_
    refine r_aload_n dX3_wordIn_9 rfl ?_
    refine r_callT0i dX3_wordIn_10 hj ctX3_154 (c_J0_length_8abf5 hj) (by decide) (Nat.le_of_ble_eq_true rfl) od_le.rf ?_
    refine r_icmp_gt (tgt := 71) dX3_wordIn_13 rfl (fun c13 => ?_) (fun c13 => ?_)
    · refine r_iconst dX3_wordIn_71 li_m1 ?_
      refine r_iret dX3_wordIn_72 rfl ?_
      rw [wi_miss hj hv hR (fun x x0 x1 x2 => hno x x0 (by omega) x1 x2)]
    · obtain ⟨hq, hf⟩ := hqf (by omega)
      have h3y := h3x (by omega)
      refine r_iload dX3_wordIn_16 rfl ?_
      refine r_aload_n dX3_wordIn_18 rfl ?_
      refine r_callT0i dX3_wordIn_19 hj ctX3_154 (c_J0_length_8abf5 hj) (by decide) (Nat.le_of_ble_eq_true rfl) od_le.rf ?_
      refine r_icmp_eq (tgt := 36) dX3_wordIn_22 rfl (fun c22 => ?_) (fun c22 => ?_)
      · refine r_aload_n dX3_wordIn_36 rfl ?_
        refine r_getIj (j := 3) rfl dX3_wordIn_37 fkX3_24 gf3_3 (by assumption) (by (repeat (first | rewrite [od_upn (by omega)] | rewrite [od_up_at, if_pos (by omega)] | rewrite [od_up_at, if_neg (by omega)])); rfl) ?_
        refine r_iconst dX3_wordIn_40 li_1 ?_
        refine r_icmp_ne (tgt := 57) dX3_wordIn_41 rfl (fun c41 => ?_) (fun c41 => ?_)
        · refine r_iincE dX3_wordIn_57 rfl (by decide) (by first | exact od_w0 (by omega) (by omega) | exact od_wI (by omega) (by omega) | rfl) rfl ?_
          refine r_iload dX3_wordIn_60 rfl ?_
          refine r_iconst dX3_wordIn_62 li_1 ?_
          refine r_iaddE dX3_wordIn_63 (by first | exact od_w0 (by omega) (by omega) | exact od_wI (by omega) (by omega) | rfl) ?_
          refine r_istore_n dX3_wordIn_64 (by decide) rfl ?_
          refine r_iincE dX3_wordIn_65 rfl (by decide) (by first | exact od_w0 (by omega) (by omega) | exact od_wI (by omega) (by omega) | rfl) rfl ?_
          refine r_goto (tgt := 7) dX3_wordIn_68 rfl ?_
          refine ih _ _ _ ⟨by omega, by omega, fun z => ?_, fun x x0 x1 x2 x3 => ?_⟩ (by omega)
          · rw [hqS, hfS]
            first
            | (rw [if_pos (by assumption), if_pos (by assumption)]; omega)
            | (rw [if_neg (by assumption), if_neg (by assumption)]; omega)
            | (exfalso; omega)
          · by_cases cx : x = i
            · rw [cx] at x3 ⊢
              first
              | (exfalso; omega)
              | exact fun z => absurd z.1 (by assumption)
              | (rw [← hf]; exact fun z => absurd z.2 (by assumption))
            · exact hno x x0 (by omega) x2 x3
        · have h2 := h2x (by assumption)
          refine r_aload_n dX3_wordIn_44 rfl ?_
          refine r_aload_n dX3_wordIn_45 rfl ?_
          refine r_iload_n dX3_wordIn_46 rfl ?_
          refine r_iload dX3_wordIn_47 rfl ?_
          refine r_callV3b dX3_wordIn_49 cvX3_164 (by assumption) (c_X3_spells hr0 hT0 hj _ _ (by omega) h2) (by decide) (Nat.le_of_ble_eq_true rfl) od_le.rf (fun q49 => ?_) (fun q49 => ?_)
          · refine r_if_eq (tgt := 57) dX3_wordIn_52 rfl (fun h => absurd h (by decide)) (fun _ => ?_)
            refine r_iload_n dX3_wordIn_55 rfl ?_
            refine r_iret dX3_wordIn_56 rfl ?_
            rw [wi_hit hj hv hR (i := i) (by omega) (by omega) (by assumption) (by rw [← hf]; assumption), hq]
          · refine r_if_eq (tgt := 57) dX3_wordIn_52 rfl (fun _ => ?_) (fun h => absurd h (by decide))
            refine r_iincE dX3_wordIn_57 rfl (by decide) (by first | exact od_w0 (by omega) (by omega) | exact od_wI (by omega) (by omega) | rfl) rfl ?_
            refine r_iload dX3_wordIn_60 rfl ?_
            refine r_iconst dX3_wordIn_62 li_1 ?_
            refine r_iaddE dX3_wordIn_63 (by first | exact od_w0 (by omega) (by omega) | exact od_wI (by omega) (by omega) | rfl) ?_
            refine r_istore_n dX3_wordIn_64 (by decide) rfl ?_
            refine r_iincE dX3_wordIn_65 rfl (by decide) (by first | exact od_w0 (by omega) (by omega) | exact od_wI (by omega) (by omega) | rfl) rfl ?_
            refine r_goto (tgt := 7) dX3_wordIn_68 rfl ?_
            refine ih _ _ _ ⟨by omega, by omega, fun z => ?_, fun x x0 x1 x2 x3 => ?_⟩ (by omega)
            · rw [hqS, hfS]
              first
              | (rw [if_pos (by assumption), if_pos (by assumption)]; omega)
              | (rw [if_neg (by assumption), if_neg (by assumption)]; omega)
              | (exfalso; omega)
            · by_cases cx : x = i
              · rw [cx] at x3 ⊢
                first
                | (exfalso; omega)
                | exact fun z => absurd z.1 (by assumption)
                | (rw [← hf]; exact fun z => absurd z.2 (by assumption))
              · exact hno x x0 (by omega) x2 x3
      · refine r_aload_n dX3_wordIn_25 rfl ?_
        refine r_iload dX3_wordIn_26 rfl ?_
        refine r_callT1i dX3_wordIn_28 hj ctX3_160 (c_J0_charAt_5068e hj (by omega)) (by decide) (Nat.le_of_ble_eq_true rfl) od_le.rf ?_
        refine r_bipush dX3_wordIn_31 lb_32 ?_
        refine r_icmp_ne (tgt := 65) dX3_wordIn_33 rfl (fun c33 => ?_) (fun c33 => ?_)
        · refine r_iincE dX3_wordIn_65 rfl (by decide) (by first | exact od_w0 (by omega) (by omega) | exact od_wI (by omega) (by omega) | rfl) rfl ?_
          refine r_goto (tgt := 7) dX3_wordIn_68 rfl ?_
          refine ih _ _ _ ⟨by omega, by omega, fun z => ?_, fun x x0 x1 x2 x3 => ?_⟩ (by omega)
          · rw [hqS, hfS]
            first
            | (rw [if_pos (by assumption), if_pos (by assumption)]; omega)
            | (rw [if_neg (by assumption), if_neg (by assumption)]; omega)
            | (exfalso; omega)
          · by_cases cx : x = i
            · rw [cx] at x3 ⊢
              first
              | (exfalso; omega)
              | exact fun z => absurd z.1 (by assumption)
              | (rw [← hf]; exact fun z => absurd z.2 (by assumption))
            · exact hno x x0 (by omega) x2 x3
        · refine r_aload_n dX3_wordIn_36 rfl ?_
          refine r_getIj (j := 3) rfl dX3_wordIn_37 fkX3_24 gf3_3 (by assumption) (by (repeat (first | rewrite [od_upn (by omega)] | rewrite [od_up_at, if_pos (by omega)] | rewrite [od_up_at, if_neg (by omega)])); rfl) ?_
          refine r_iconst dX3_wordIn_40 li_1 ?_
          refine r_icmp_ne (tgt := 57) dX3_wordIn_41 rfl (fun c41 => ?_) (fun c41 => ?_)
          · refine r_iincE dX3_wordIn_57 rfl (by decide) (by first | exact od_w0 (by omega) (by omega) | exact od_wI (by omega) (by omega) | rfl) rfl ?_
            refine r_iload dX3_wordIn_60 rfl ?_
            refine r_iconst dX3_wordIn_62 li_1 ?_
            refine r_iaddE dX3_wordIn_63 (by first | exact od_w0 (by omega) (by omega) | exact od_wI (by omega) (by omega) | rfl) ?_
            refine r_istore_n dX3_wordIn_64 (by decide) rfl ?_
            refine r_iincE dX3_wordIn_65 rfl (by decide) (by first | exact od_w0 (by omega) (by omega) | exact od_wI (by omega) (by omega) | rfl) rfl ?_
            refine r_goto (tgt := 7) dX3_wordIn_68 rfl ?_
            refine ih _ _ _ ⟨by omega, by omega, fun z => ?_, fun x x0 x1 x2 x3 => ?_⟩ (by omega)
            · rw [hqS, hfS]
              first
              | (rw [if_pos (by assumption), if_pos (by assumption)]; omega)
              | (rw [if_neg (by assumption), if_neg (by assumption)]; omega)
              | (exfalso; omega)
            · by_cases cx : x = i
              · rw [cx] at x3 ⊢
                first
                | (exfalso; omega)
                | exact fun z => absurd z.1 (by assumption)
                | (rw [← hf]; exact fun z => absurd z.2 (by assumption))
              · exact hno x x0 (by omega) x2 x3
          · have h2 := h2x (by assumption)
            refine r_aload_n dX3_wordIn_44 rfl ?_
            refine r_aload_n dX3_wordIn_45 rfl ?_
            refine r_iload_n dX3_wordIn_46 rfl ?_
            refine r_iload dX3_wordIn_47 rfl ?_
            refine r_callV3b dX3_wordIn_49 cvX3_164 (by assumption) (c_X3_spells hr0 hT0 hj _ _ (by omega) h2) (by decide) (Nat.le_of_ble_eq_true rfl) od_le.rf (fun q49 => ?_) (fun q49 => ?_)
            · refine r_if_eq (tgt := 57) dX3_wordIn_52 rfl (fun h => absurd h (by decide)) (fun _ => ?_)
              refine r_iload_n dX3_wordIn_55 rfl ?_
              refine r_iret dX3_wordIn_56 rfl ?_
              rw [wi_hit hj hv hR (i := i) (by omega) (by omega) (by assumption) (by rw [← hf]; assumption), hq]
            · refine r_if_eq (tgt := 57) dX3_wordIn_52 rfl (fun _ => ?_) (fun h => absurd h (by decide))
              refine r_iincE dX3_wordIn_57 rfl (by decide) (by first | exact od_w0 (by omega) (by omega) | exact od_wI (by omega) (by omega) | rfl) rfl ?_
              refine r_iload dX3_wordIn_60 rfl ?_
              refine r_iconst dX3_wordIn_62 li_1 ?_
              refine r_iaddE dX3_wordIn_63 (by first | exact od_w0 (by omega) (by omega) | exact od_wI (by omega) (by omega) | rfl) ?_
              refine r_istore_n dX3_wordIn_64 (by decide) rfl ?_
              refine r_iincE dX3_wordIn_65 rfl (by decide) (by first | exact od_w0 (by omega) (by omega) | exact od_wI (by omega) (by omega) | rfl) rfl ?_
              refine r_goto (tgt := 7) dX3_wordIn_68 rfl ?_
              refine ih _ _ _ ⟨by omega, by omega, fun z => ?_, fun x x0 x1 x2 x3 => ?_⟩ (by omega)
              · rw [hqS, hfS]
                first
                | (rw [if_pos (by assumption), if_pos (by assumption)]; omega)
                | (rw [if_neg (by assumption), if_neg (by assumption)]; omega)
                | (exfalso; omega)
              · by_cases cx : x = i
                · rw [cx] at x3 ⊢
                  first
                  | (exfalso; omega)
                  | exact fun z => absurd z.1 (by assumption)
                  | (rw [← hf]; exact fun z => absurd z.2 (by assumption))
                · exact hno x x0 (by omega) x2 x3
set_option maxRecDepth 10000 in
theorem c_X3_wordIn {E : od_E} {g : od_G} {rd tp t : Int} (hr : ReAt E rd tp t) {B : Int → Int} {n : Int} (hT : TpOk g tp B n) {s : pS} (hR : RSt g rd B n s) {j : Nat} (hj : j < 11) : od_Ct 6 mX3_wordIn [(2, rd), (2, -10 - (j : Int))] E g (some (0, tA B n j s), E, g) := by
  have hr0 := hr
  obtain ⟨hkr, e0, e1, hta, htx, hor⟩ := hr
  have hta0 := hta
  obtain ⟨hkt, t0, t1⟩ := hta
  refine od_ctI pnX3 rfl (Nat.le_of_ble_eq_true rfl) od_le.rf ?_
  show od_R _ _ _ _ _ 0 [some (2, rd), some (2, -10 - (j : Int)), none, none, none] [] E g
  refine r_iconst dX3_wordIn_0 li_0 ?_
  refine r_istore_n dX3_wordIn_1 (by decide) rfl ?_
  refine r_iconst dX3_wordIn_2 li_0 ?_
  refine r_istore_n dX3_wordIn_3 (by decide) rfl ?_
  refine r_iconst dX3_wordIn_4 li_0 ?_
  refine r_istore dX3_wordIn_5 (by decide) rfl ?_
  exact lp_X3_wi hr0 hT hR hj _ _ _ _ ⟨by omega, by have := od_ln34 hj; omega, fun _ => ⟨rfl, rfl⟩, fun x x0 x1 => by omega⟩ (Nat.lt_succ_self _)
