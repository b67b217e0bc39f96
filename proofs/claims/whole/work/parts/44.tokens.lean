/-! TOKENS of a tape: B its bytes, n how many -/
def tB (B : Int → Int) (n p : Int) : Int := if 0 ≤ p ∧ p < n then B p else -1
def tSo (x : Int) : Int := if x = -1 then 0 else if 97 ≤ x ∧ x ≤ 122 then 1 else if 48 ≤ x ∧ x ≤ 57 then 2 else 3
def tSk (B : Int → Int) (n : Int) : Nat → Int → Int
  | 0, p => p
  | f + 1, p => if tB B n p = 32 then tSk B n f (p + 1) else p
def tRn (B : Int → Int) (n s : Int) : Nat → Int → Int
  | 0, p => p
  | f + 1, p => if tSo (tB B n p) = s then tRn B n s f (p + 1) else p
def tNm (B : Int → Int) (n s : Int) : Nat → Int → Int → Int
  | 0, _, v => v
  | f + 1, p, v => if tSo (tB B n p) = s then tNm B n s f (p + 1) (min (v * 10 + tB B n p - 48) 1001) else v
def tS (B : Int → Int) (n p : Int) : Int := tSk B n 400 p
def tQ (B : Int → Int) (n s : Int) : Int := tSo (tB B n s)
def tE (B : Int → Int) (n s : Int) : Int := if tQ B n s = 3 then s + 1 else if tQ B n s = 1 ∨ tQ B n s = 2 then tRn B n (tQ B n s) 400 s else s
def tN (B : Int → Int) (n s : Int) : Int := if tQ B n s = 1 ∨ tQ B n s = 2 then tNm B n (tQ B n s) 400 s 0 else 0
def tP (B : Int → Int) (n : Int) : Nat → Int
  | 0 => 0
  | i + 1 => tE B n (tS B n (tP B n i))
/-- where a token begins -/
def tpl (B : Int → Int) (n i : Int) : Int := tS B n (tP B n i.toNat)
/-- a word that stands from s up to e -/
def tSp (B : Int → Int) (s e : Int) (w : List Int) : Prop := e - s = (w.length : Int) ∧ ∀ i : Nat, i < w.length → B (s + (i : Int)) = w.getD i 0
def od_wds : List (List Int) := [[115, 111, 117, 110, 100, 115], [100, 114, 111, 112, 115], [98, 97, 114, 115], [105, 102], [111, 114], [97, 110, 100], [110, 111, 116], [100, 114, 117, 109], [108, 111, 110, 103], [107, 105, 110, 100], [98, 101, 97, 116], [109, 111, 111, 100], [112, 105, 110, 115], [104, 111, 117, 114], [100, 111, 110, 101], [108, 97, 116, 101, 115, 116], [108, 111, 117, 100], [97, 108, 108], [97, 116], [112, 105, 110], [115, 104, 105, 102, 116], [98, 121], [115, 116, 111, 112], [112, 97, 115, 115], [116, 105, 109, 101, 115]]
/-- the word of a code, from 1 on -/
def od_wd (k : Int) : List Int := od_wds.getD (k - 1).toNat []
noncomputable def tWf (B : Int → Int) (s e : Int) : List (List Int) → Int → Int
  | [], _ => 0
  | w :: r, k => @ite Int (tSp B s e w) (Classical.propDecidable _) k (tWf B s e r (k + 1))
noncomputable def tW (B : Int → Int) (s e : Int) : Int := tWf B s e od_wds 1
def tVl (B : Int → Int) : Nat → Int → Int → Int
  | 0, _, v => v
  | f + 1, p, v => tVl B f (p + 1) (if 1000000 < v then v else 10 * v + B p - 48)
noncomputable def tC (B : Int → Int) (n i : Int) : Int := if tQ B n (tpl B n i) = 0 then 0 else if tQ B n (tpl B n i) = 1 then tW B (tpl B n i) (tE B n (tpl B n i)) else if tQ B n (tpl B n i) = 2 then 50 else 100 + tB B n (tpl B n i)
def tV (B : Int → Int) (n i : Int) : Int := if tQ B n (tpl B n i) = 2 then tVl B (tE B n (tpl B n i) - tpl B n i).toNat (tpl B n i) 0 else 0
theorem tSo_b (x : Int) : 0 ≤ tSo x ∧ tSo x ≤ 3 := by
  unfold tSo
  repeat' split
  all_goals omega
theorem tRn_S (B : Int → Int) (n s : Int) (f : Nat) (p : Int) : tRn B n s (f + 1) p = (if tSo (tB B n p) = s then tRn B n s f (p + 1) else p) := rfl
theorem tQ_0 {B : Int → Int} {n s : Int} (hs : 0 ≤ s) (hB : ∀ p : Int, 0 ≤ p → p < n → 0 ≤ B p) : tQ B n s = 0 ↔ n ≤ s := by
  unfold tQ tSo tB
  by_cases h : 0 ≤ s ∧ s < n
  · have := hB s h.1 h.2
    rw [if_pos h, if_neg (by omega)]
    constructor
    · intro z; revert z; repeat' split
      all_goals omega
    · omega
  · rw [if_neg h, if_pos rfl]
    omega
theorem tSk_b {B : Int → Int} {n : Int} : ∀ (f : Nat) (p : Int), p ≤ tSk B n f p ∧ (p ≤ n → tSk B n f p ≤ n) := by
  intro f
  induction f with
  | zero => intro p; exact ⟨Int.le_refl _, fun h => h⟩
  | succ f ih =>
    intro p
    simp only [tSk]
    split
    · rename_i h
      have hp : p < n := by
        unfold tB at h
        split at h <;> omega
      have q := ih (p + 1)
      exact ⟨by omega, fun _ => q.2 (by omega)⟩
    · exact ⟨Int.le_refl _, fun h => h⟩
theorem tRn_b {B : Int → Int} {n s : Int} (hs : s ≠ 0) : ∀ (f : Nat) (p : Int), p ≤ tRn B n s f p ∧ (p ≤ n → tRn B n s f p ≤ n) := by
  intro f
  induction f with
  | zero => intro p; exact ⟨Int.le_refl _, fun h => h⟩
  | succ f ih =>
    intro p
    simp only [tRn]
    split
    · rename_i h
      have hp : p < n := by
        unfold tB at h
        split at h
        · omega
        · exact absurd h.symm hs
      have q := ih (p + 1)
      exact ⟨by omega, fun _ => q.2 (by omega)⟩
    · exact ⟨Int.le_refl _, fun h => h⟩
theorem tQ_lt {B : Int → Int} {n s : Int} (h : tQ B n s ≠ 0) : 0 ≤ s ∧ s < n := by
  unfold tQ tB at h
  split at h
  · assumption
  · exact absurd rfl h
/-- a token that is one goes on -/
theorem tE_b {B : Int → Int} {n s : Int} (h : tQ B n s ≠ 0) : s + 1 ≤ tE B n s ∧ tE B n s ≤ n := by
  have q := tQ_lt h
  have b := tSo_b (tB B n s)
  unfold tE
  by_cases h3 : tQ B n s = 3
  · rw [if_pos h3]; omega
  · rw [if_neg h3, if_pos (by unfold tQ at h h3 ⊢; omega)]
    rw [tRn_S B n (tQ B n s) 399 s, if_pos (show tSo (tB B n s) = tQ B n s from rfl)]
    have r := tRn_b (B := B) (n := n) h 399 (s + 1)
    exact ⟨r.1, r.2 (by omega)⟩
theorem tE_0 {B : Int → Int} {n s : Int} (h : tQ B n s = 0) : tE B n s = s := by unfold tE; rw [if_neg (by omega), if_neg (by omega)]
theorem tpl_s (B : Int → Int) (n : Int) {i : Int} (h : 0 ≤ i) : tpl B n (i + 1) = tS B n (tE B n (tpl B n i)) := by
  unfold tpl
  rw [show (i + 1).toNat = i.toNat + 1 by omega]
  rfl
theorem tP_b {B : Int → Int} {n : Int} (hn : 0 ≤ n) : ∀ i : Nat, 0 ≤ tP B n i ∧ tP B n i ≤ n := by
  intro i
  induction i with
  | zero => exact ⟨Int.le_refl _, hn⟩
  | succ i ih =>
    have q := tSk_b (B := B) (n := n) 400 (tP B n i)
    show 0 ≤ tE B n (tS B n (tP B n i)) ∧ _ ≤ _
    have h1 : tP B n i ≤ tS B n (tP B n i) ∧ tS B n (tP B n i) ≤ n := ⟨q.1, q.2 ih.2⟩
    by_cases c : tQ B n (tS B n (tP B n i)) = 0
    · rw [tP, tE_0 c]; omega
    · have e := tE_b c
      rw [tP]
      omega
theorem tpl_b {B : Int → Int} {n : Int} (hn : 0 ≤ n) (i : Int) : 0 ≤ tpl B n i ∧ tpl B n i ≤ n := by
  have q := tSk_b (B := B) (n := n) 400 (tP B n i.toNat)
  have p := tP_b (B := B) hn i.toNat
  unfold tpl tS
  exact ⟨by omega, q.2 p.2⟩
/-- behind a token the next one's place is greater -/
theorem tpl_up {B : Int → Int} {n i : Int} (h0 : 0 ≤ i) (h : tQ B n (tpl B n i) ≠ 0) : tpl B n i + 1 ≤ tpl B n (i + 1) := by
  rw [tpl_s B n h0]
  have q := tSk_b (B := B) (n := n) 400 (tE B n (tpl B n i))
  have e := tE_b h
  unfold tS
  omega
theorem tSp_u {B : Int → Int} {s e : Int} {w w' : List Int} (h : tSp B s e w) (h' : tSp B s e w') : w = w' := by
  have hl : w.length = w'.length := by have := h.1; have := h'.1; omega
  apply List.ext_getElem hl
  intro i h1 h2
  have a := h.2 i h1
  have b := h'.2 i h2
  rw [a] at b
  simp [List.getD, h1, h2] at b
  exact b
theorem od_wd_u : ∀ i : Fin 25, ∀ j : Fin 25, od_wds.getD i.val [] = od_wds.getD j.val [] → i = j := by decide +kernel
theorem tWf_s {B : Int → Int} {s e : Int} : ∀ (l : List (List Int)) (k : Int), (tWf B s e l k = 0 ∧ (∀ w ∈ l, ¬ tSp B s e w)) ∨ ∃ i : Nat, i < l.length ∧ tWf B s e l k = k + i ∧ tSp B s e (l.getD i []) := by
  intro l
  induction l with
  | nil => intro k; exact Or.inl ⟨rfl, fun w hw => by simp at hw⟩
  | cons w r ih =>
    intro k
    simp only [tWf]
    by_cases h : tSp B s e w
    · rw [if_pos h]
      exact Or.inr ⟨0, by simp, by omega, h⟩
    · rw [if_neg h]
      rcases ih (k + 1) with ⟨h1, h2⟩ | ⟨i, h1, h2, h3⟩
      · exact Or.inl ⟨h1, fun w' hw => by
          rcases List.mem_cons.mp hw with rfl | hw
          · exact h
          · exact h2 w' hw⟩
      · exact Or.inr ⟨i + 1, by simp; omega, by rw [h2]; omega, h3⟩
theorem tW_b (B : Int → Int) (s e : Int) : 0 ≤ tW B s e ∧ tW B s e ≤ 25 := by
  rcases tWf_s (B := B) (s := s) (e := e) od_wds 1 with ⟨h1, _⟩ | ⟨i, h1, h2, _⟩
  · unfold tW; omega
  · have : od_wds.length = 25 := rfl
    unfold tW; omega
theorem tW_iff {B : Int → Int} {s e k : Int} (hk : 1 ≤ k ∧ k ≤ 25) : tW B s e = k ↔ tSp B s e (od_wd k) := by
  have hl : od_wds.length = 25 := rfl
  unfold tW od_wd
  constructor
  · intro h
    rcases tWf_s (B := B) (s := s) (e := e) od_wds 1 with ⟨h1, _⟩ | ⟨i, h1, h2, h3⟩
    · omega
    · rw [show (k - 1).toNat = i by omega]
      exact h3
  · intro h
    rcases tWf_s (B := B) (s := s) (e := e) od_wds 1 with ⟨h1, h2⟩ | ⟨i, h1, h2, h3⟩
    · refine absurd h (h2 _ ?_)
      rw [List.getD_eq_getElem?_getD, List.getElem?_eq_getElem (by omega), Option.getD_some]
      exact List.getElem_mem _
    · have := od_wd_u ⟨i, by omega⟩ ⟨(k - 1).toNat, by omega⟩ (tSp_u h3 h)
      have e2 : i = (k - 1).toNat := congrArg Fin.val this
      omega
theorem tC_b {B : Int → Int} {n : Int} (hB : ∀ p : Int, 0 ≤ p → p < n → 0 ≤ B p ∧ B p ≤ 255) (i : Int) : (0 ≤ tC B n i ∧ tC B n i ≤ 25) ∨ tC B n i = 50 ∨ (100 ≤ tC B n i ∧ tC B n i ≤ 355) := by
  have w := tW_b B (tpl B n i) (tE B n (tpl B n i))
  unfold tC
  by_cases h0 : tQ B n (tpl B n i) = 0
  · rw [if_pos h0]; omega
  · have l := tQ_lt h0
    rw [if_neg h0]
    split
    · omega
    · split
      · omega
      · unfold tB
        rw [if_pos l]
        have := hB _ l.1 l.2
        omega
/-- a sign of the tape -/
theorem tC_sign {B : Int → Int} {n : Int} {i k : Int} (hk : 0 ≤ k) : tC B n i = 100 + k ↔ tQ B n (tpl B n i) = 3 ∧ tB B n (tpl B n i) = k := by
  have w := tW_b B (tpl B n i) (tE B n (tpl B n i))
  have b := tSo_b (tB B n (tpl B n i))
  unfold tC
  by_cases h0 : tQ B n (tpl B n i) = 0
  · rw [if_pos h0]; omega
  · rw [if_neg h0]
    by_cases h1 : tQ B n (tpl B n i) = 1
    · rw [if_pos h1]; omega
    · rw [if_neg h1]
      by_cases h2 : tQ B n (tpl B n i) = 2
      · rw [if_pos h2]; omega
      · rw [if_neg h2]
        unfold tQ at *
        omega
theorem tC_word {B : Int → Int} {n : Int} (hB : ∀ p : Int, 0 ≤ p → p < n → 0 ≤ B p) {i k : Int} (hk : 1 ≤ k ∧ k ≤ 25) : tC B n i = k ↔ tQ B n (tpl B n i) = 1 ∧ tSp B (tpl B n i) (tE B n (tpl B n i)) (od_wd k) := by
  have b := tSo_b (tB B n (tpl B n i))
  unfold tC
  by_cases h0 : tQ B n (tpl B n i) = 0
  · rw [if_pos h0]; omega
  · have l := tQ_lt h0
    have hb := hB _ l.1 l.2
    rw [if_neg h0]
    by_cases h1 : tQ B n (tpl B n i) = 1
    · rw [if_pos h1, tW_iff hk]
      exact ⟨fun h => ⟨h1, h⟩, fun h => h.2⟩
    · rw [if_neg h1]
      have e : tB B n (tpl B n i) = B (tpl B n i) := by unfold tB; rw [if_pos l]
      split <;> omega
theorem tC_num {B : Int → Int} {n : Int} (hB : ∀ p : Int, 0 ≤ p → p < n → 0 ≤ B p) {i : Int} : tC B n i = 50 ↔ tQ B n (tpl B n i) = 2 := by
  have w := tW_b B (tpl B n i) (tE B n (tpl B n i))
  have b := tSo_b (tB B n (tpl B n i))
  unfold tC
  by_cases h0 : tQ B n (tpl B n i) = 0
  · rw [if_pos h0]; omega
  · have l := tQ_lt h0
    have hb := hB _ l.1 l.2
    have e : tB B n (tpl B n i) = B (tpl B n i) := by unfold tB; rw [if_pos l]
    rw [if_neg h0]
    by_cases h1 : tQ B n (tpl B n i) = 1
    · rw [if_pos h1]; omega
    · rw [if_neg h1]
      split <;> omega
/-- a code that isn't 0 is a token's -/
theorem tC_nz {B : Int → Int} {n i : Int} (h : tC B n i ≠ 0) : tQ B n (tpl B n i) ≠ 0 := by
  intro z
  unfold tC at h
  rw [if_pos z] at h
  exact h rfl
/-- both numbers -/
theorem tNm_vl {B : Int → Int} {n s : Int} (hs : s = 2) : ∀ (f : Nat) (p v u : Int), 0 ≤ v → u = min v 1001 → tNm B n s f p u = min (tVl B (tRn B n s f p - p).toNat p v) 1001 ∧ 0 ≤ tVl B (tRn B n s f p - p).toNat p v := by
  subst hs
  intro f
  induction f with
  | zero =>
    intro p v u hv hu
    simp only [tNm, tRn]
    rw [show (p - p).toNat = 0 by omega]
    exact ⟨hu, hv⟩
  | succ f ih =>
    intro p v u hv hu
    simp only [tNm, tRn]
    by_cases h : tSo (tB B n p) = 2
    · rw [if_pos h, if_pos h]
      have hr := (tRn_b (B := B) (n := n) (s := 2) (by omega) f (p + 1)).1
      have hb : tB B n p = B p ∧ 48 ≤ B p ∧ B p ≤ 57 := by
        unfold tB at h ⊢
        by_cases c : 0 ≤ p ∧ p < n
        · rw [if_pos c] at h ⊢
          unfold tSo at h
          refine ⟨rfl, ?_⟩
          revert h
          repeat' split
          all_goals omega
        · rw [if_neg c] at h
          exact absurd h (by decide)
      rw [show (tRn B n 2 f (p + 1) - p).toNat = (tRn B n 2 f (p + 1) - (p + 1)).toNat + 1 by omega]
      simp only [tVl]
      refine ih (p + 1) _ _ ?_ ?_
      · split <;> omega
      · rw [hb.1]
        split <;> omega
    · rw [if_neg h, if_neg h, show (p - p).toNat = 0 by omega]
      exact ⟨hu, hv⟩
theorem tV_n {B : Int → Int} {n i : Int} (h : tQ B n (tpl B n i) = 2) : tN B n (tpl B n i) = min (tV B n i) 1001 ∧ 0 ≤ tV B n i := by
  unfold tN tV tE
  rw [if_pos (Or.inr h), if_pos h, if_neg (by omega), if_pos (Or.inr h), h]
  exact tNm_vl rfl 400 _ 0 0 (by omega) rfl
