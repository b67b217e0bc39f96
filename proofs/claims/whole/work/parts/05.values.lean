/-! THE SYSTEM'S OWN LOGIC: values are whole numbers with a tag, a heap is what each row of numbers holds -/
/-- a value: (0, x) an int, (1, x) a long, (2, a) a reference: -1 is null, from 0 on the cells by their numbers, below -1 what was there before -/
abbrev od_V : Type := Nat × Int
/-- cells and slots so far; of each cell its kind (a class, or 20 int, 21 byte, 22 boolean, 23 long, 24 Text, 25 Street rows) and its length; the references in its fields -/
abbrev od_E : Type := (Nat × Nat) × (Int → Nat × Nat) × (Int → Nat → Int)
/-- what the fields that are no references, and the rows, hold -/
abbrev od_G : Type := Int → Int → Int
abbrev od_Rs : Type := Option od_V × od_E × od_G
abbrev od_L : Type := List (Option od_V)
abbrev od_Zt : Type := (Int → Nat) → (Nat → Prop) → State → Prop
def od_w (x : Int) : Int := (x + 2147483648) % 4294967296 - 2147483648
def od_wl (x : Int) : Int := (x + 9223372036854775808) % 18446744073709551616 - 9223372036854775808
def od_r32 (x : Int) : Prop := -2147483648 ≤ x ∧ x < 2147483648
def od_r64 (x : Int) : Prop := -9223372036854775808 ≤ x ∧ x < 9223372036854775808
theorem od_w_r (x : Int) : od_r32 (od_w x) := by unfold od_w od_r32; omega
theorem od_wl_r (x : Int) : od_r64 (od_wl x) := by unfold od_wl od_r64; omega
theorem od_w_id {x : Int} (h : od_r32 x) : od_w x = x := by unfold od_r32 at h; unfold od_w; omega
theorem od_wl_id {x : Int} (h : od_r64 x) : od_wl x = x := by unfold od_r64 at h; unfold od_wl; omega
theorem od_ti {x : Int} (h : od_r32 x) : (Int32.ofInt x).toInt = x := Int32.toInt_ofInt_of_le (by have := h.1; omega) (by have := h.2; omega)
theorem od_tl {x : Int} (h : od_r64 x) : (Int64.ofInt x).toInt = x := Int64.toInt_ofInt_of_le (by have := h.1; omega) (by have := h.2; omega)
theorem od_it (x : Int32) : od_r32 x.toInt := ⟨by have := Int32.le_toInt x; omega, by have := Int32.toInt_lt x; omega⟩
theorem od_lt (x : Int64) : od_r64 x.toInt := ⟨by have := Int64.le_toInt x; omega, by have := Int64.toInt_lt x; omega⟩
theorem od_ofw (x : Int) : Int32.ofInt (od_w x) = Int32.ofInt x := by
  have h : od_w x = x - 4294967296 * ((x + 2147483648) / 4294967296) := by unfold od_w; omega
  have h0 : Int32.ofInt 4294967296 = 0 := by decide
  rw [h, Int32.ofInt_sub, Int32.ofInt_mul, h0]
  simp
theorem od_ofwl (x : Int) : Int64.ofInt (od_wl x) = Int64.ofInt x := by
  have h : od_wl x = x - 18446744073709551616 * ((x + 9223372036854775808) / 18446744073709551616) := by unfold od_wl; omega
  have h0 : Int64.ofInt 18446744073709551616 = 0 := by decide
  rw [h, Int64.ofInt_sub, Int64.ofInt_mul, h0]
  simp
theorem od_ilt {a b : Int} (ha : od_r32 a) (hb : od_r32 b) : Int32.ofInt a < Int32.ofInt b ↔ a < b := by rw [Int32.lt_iff_toInt_lt, od_ti ha, od_ti hb]
theorem od_ile {a b : Int} (ha : od_r32 a) (hb : od_r32 b) : Int32.ofInt a ≤ Int32.ofInt b ↔ a ≤ b := by rw [Int32.le_iff_toInt_le, od_ti ha, od_ti hb]
theorem od_ieq {a b : Int} (ha : od_r32 a) (hb : od_r32 b) : Int32.ofInt a = Int32.ofInt b ↔ a = b := by rw [← Int32.toInt_inj, od_ti ha, od_ti hb]
theorem od_llt {a b : Int} (ha : od_r64 a) (hb : od_r64 b) : Int64.ofInt a < Int64.ofInt b ↔ a < b := by rw [Int64.lt_iff_toInt_lt, od_tl ha, od_tl hb]
theorem od_leq {a b : Int} (ha : od_r64 a) (hb : od_r64 b) : Int64.ofInt a = Int64.ofInt b ↔ a = b := by rw [← Int64.toInt_inj, od_tl ha, od_tl hb]
theorem od_r0 : od_r32 0 := by unfold od_r32; omega
theorem od_i0 : Int32.ofInt 0 = 0 := rfl
theorem od_clamp {x : Int} (h : od_r32 x) : (Int32.ofInt x).toNatClampNeg = x.toNat := by
  rw [← Int32.toNat_toInt, od_ti h]
theorem od_in {i : Int} {n : Nat} (hi : od_r32 i) (h0 : 0 ≤ i) (hn : i < n) : vp_in (Int32.ofInt i) n := by
  rw [vp_in_iff, od_ti hi]; exact ⟨h0, hn⟩
/-- the same operations on whole numbers -/
def od_and (a b : Int) : Int := (Int32.ofInt a &&& Int32.ofInt b).toInt
def od_or (a b : Int) : Int := (Int32.ofInt a ||| Int32.ofInt b).toInt
def od_xor (a b : Int) : Int := (Int32.ofInt a ^^^ Int32.ofInt b).toInt
def od_shl (a b : Int) : Int := (Int32.ofInt a <<< (Int32.ofInt b &&& 31)).toInt
def od_shr (a b : Int) : Int := (Int32.ofInt a >>> (Int32.ofInt b &&& 31)).toInt
def od_ushr (a b : Int) : Int := ((Int32.ofInt a).toUInt32 >>> ((Int32.ofInt b).toUInt32 &&& Int32.toUInt32 31)).toInt32.toInt
def od_byte (a : Int) : Int := (Int32.ofInt a).toInt8.toInt32.toInt
def od_char (a : Int) : Int := ((Int32.ofInt a).toUInt32 % 65536).toInt32.toInt
def od_cmp (a b : Int) : Int := if a < b then -1 else if a = b then 0 else 1
theorem od_div32 (a b : Int) (ha : od_r32 a) (hb : od_r32 b) : Int32.ofInt a / Int32.ofInt b = Int32.ofInt (od_w (a.tdiv b)) := by
  rw [od_ofw, ← Int32.toInt_inj, Int32.toInt_div, od_ti ha, od_ti hb, Int32.toInt_ofInt]
theorem od_div64 (a b : Int) (ha : od_r64 a) (hb : od_r64 b) : Int64.ofInt a / Int64.ofInt b = Int64.ofInt (od_wl (a.tdiv b)) := by
  rw [od_ofwl, ← Int64.toInt_inj, Int64.toInt_div, od_tl ha, od_tl hb, Int64.toInt_ofInt]
theorem od_rem32 (a b : Int) (ha : od_r32 a) (hb : od_r32 b) : Int32.ofInt a - Int32.ofInt a / Int32.ofInt b * Int32.ofInt b = Int32.ofInt (a.tmod b) := by
  rw [od_div32 a b ha hb, od_ofw, ← Int32.ofInt_mul, ← Int32.ofInt_sub]
  congr 1
  have := Int.mul_tdiv_add_tmod a b
  rw [Int.mul_comm b] at this
  omega
theorem od_rem64 (a b : Int) (ha : od_r64 a) (hb : od_r64 b) : Int64.ofInt a - Int64.ofInt a / Int64.ofInt b * Int64.ofInt b = Int64.ofInt (a.tmod b) := by
  rw [od_div64 a b ha hb, od_ofwl, ← Int64.ofInt_mul, ← Int64.ofInt_sub]
  congr 1
  have := Int.mul_tdiv_add_tmod a b
  rw [Int.mul_comm b] at this
  omega
theorem od_tmod_r {a b : Int} (ha : od_r32 a) : od_r32 (a.tmod b) := by
  have h1 : (a.tmod b).natAbs ≤ a.natAbs := by rw [Int.natAbs_tmod]; exact Nat.mod_le _ _
  have h2 : 0 ≤ a → 0 ≤ a.tmod b := fun h => Int.tmod_nonneg b h
  have h3 : a ≤ 0 → a.tmod b ≤ 0 := fun h => by have h4 := Int.tmod_nonneg (a := -a) b (by omega); rw [Int.neg_tmod] at h4; omega
  unfold od_r32 at ha ⊢
  omega
theorem od_tmod_r64 {a b : Int} (ha : od_r64 a) : od_r64 (a.tmod b) := by
  have h1 : (a.tmod b).natAbs ≤ a.natAbs := by rw [Int.natAbs_tmod]; exact Nat.mod_le _ _
  have h2 : 0 ≤ a → 0 ≤ a.tmod b := fun h => Int.tmod_nonneg b h
  have h3 : a ≤ 0 → a.tmod b ≤ 0 := fun h => by have h4 := Int.tmod_nonneg (a := -a) b (by omega); rw [Int.neg_tmod] at h4; omega
  unfold od_r64 at ha ⊢
  omega
/-! values in the machine -/
def od_rv (β : Int → Nat) (r : Int) : Value := if r = -1 then .null else .ref (β r)
def od_ro (β : Int → Nat) (r : Int) : Option Nat := if r = -1 then none else some (β r)
theorem od_rf_ro (β : Int → Nat) (r : Int) : va_rf (od_ro β r) = od_rv β r := by unfold od_ro od_rv; split <;> rfl
def od_enc (β : Int → Nat) (v : od_V) : Value := match v with
  | (0, x) => .int (Int32.ofInt x)
  | (1, x) => .long (Int64.ofInt x)
  | (_ + 2, r) => od_rv β r
def od_ok (E : od_E) (v : od_V) : Prop := match v with
  | (0, x) => od_r32 x
  | (1, x) => od_r64 x
  | (_ + 2, r) => r < (E.1.1 : Int)
theorem od_ref {β : Int → Nat} {a : Int} (h : a ≠ -1) : od_enc β (2, a) = .ref (β a) := by show od_rv β a = _; unfold od_rv; rw [if_neg h]
theorem od_nul {β : Int → Nat} : od_enc β (2, -1) = .null := by show od_rv β (-1) = _; unfold od_rv; rw [if_pos rfl]
theorem od_enc_ext {E : od_E} {β β' : Int → Nat} (h : ∀ a : Int, a < E.1.1 → β' a = β a) {v : od_V} (hv : od_ok E v) : od_enc β' v = od_enc β v := by
  match v, hv with
  | (0, x), _ => rfl
  | (1, x), _ => rfl
  | (n + 2, r), hv =>
    show od_rv β' r = od_rv β r
    unfold od_rv
    rw [h r hv]
theorem od_map_ext {E : od_E} {β β' : Int → Nat} (h : ∀ a : Int, a < E.1.1 → β' a = β a) {st : List od_V} (hv : ∀ v ∈ st, od_ok E v) : st.map (od_enc β') = st.map (od_enc β) := List.map_congr_left fun v hm => od_enc_ext h (hv v hm)
theorem od_cat (β : Int → Nat) (v : od_V) : (od_enc β v).category = 2 ↔ v.1 = 1 := by
  match v with
  | (0, x) => simp [od_enc, Value.category]
  | (1, x) => simp [od_enc, Value.category]
  | (n + 2, r) =>
    show (od_rv β r).category = 2 ↔ n + 2 = 1
    unfold od_rv
    split <;> simp [Value.category]
def od_fit (k n : Nat) (x : Int) : Prop := if k = 23 then od_r64 x else if k = 24 ∨ k = 25 then x < (n : Int) else od_r32 x
def od_can (E : od_E) (g : od_G) : Prop := (∀ a : Int, (E.2.1 a).1 < 30 → 0 ≤ a ∧ a < (E.1.1 : Int)) ∧ (∀ a j : Int, od_fit (E.2.1 a).1 E.1.1 (g a j)) ∧ ∀ (a : Int) (k : Nat), E.2.2 a k < (E.1.1 : Int)
def od_fv (β : Int → Nat) (isr : Bool) (r x : Int) : Value := if isr = true then od_rv β r else .int (Int32.ofInt x)
def od_fs (β : Int → Nat) (E : od_E) (g : od_G) (k : Nat) (a : Int) : List Value := (List.range (od_N k)).map fun j => od_fv β (od_isr k j) (E.2.2 a j) (g a j)
def od_cell (tc : Nat → ClassId) (β : Int → Nat) (E : od_E) (g : od_G) (a : Int) : va_E :=
  if (E.2.1 a).1 = 20 then .inl (tc 0, (E.2.1 a).2, .inl fun j => Int32.ofInt (g a j))
  else if (E.2.1 a).1 = 21 then .inl (tc 1, (E.2.1 a).2, .inl fun j => Int32.ofInt (g a j))
  else if (E.2.1 a).1 = 22 then .inl (tc 2, (E.2.1 a).2, .inl fun j => Int32.ofInt (g a j))
  else if (E.2.1 a).1 = 23 then .inl (tc 3, (E.2.1 a).2, .inr (.inl fun j => Int64.ofInt (g a j)))
  else if (E.2.1 a).1 = 24 then .inl (tc 4, (E.2.1 a).2, .inr (.inr (.inr (.inr fun j => od_ro β (g a j)))))
  else if (E.2.1 a).1 = 25 then .inl (tc 5, (E.2.1 a).2, .inr (.inr (.inr (.inr fun j => od_ro β (g a j)))))
  else .inr ((E.2.1 a).1, od_fs β E g (E.2.1 a).1 a)
def od_ws (tc : Nat → ClassId) (β : Int → Nat) (E : od_E) (g : od_G) : va_W := (List.range E.1.1).map fun i : Nat => (β (i : Int), od_cell tc β E g (i : Int))
theorem od_ws_at {tc : Nat → ClassId} {β : Int → Nat} {E : od_E} {g : od_G} {a : Int} (h0 : 0 ≤ a) (hn : a < (E.1.1 : Int)) : (od_ws tc β E g)[a.toNat]? = some (β a, od_cell tc β E g a) := by
  have h1 : a.toNat < E.1.1 := by omega
  have h2 : ((a.toNat : Nat) : Int) = a := by omega
  simp [od_ws, List.getElem?_map, List.getElem?_range h1, h2]
theorem od_ws_len {tc : Nat → ClassId} {β : Int → Nat} {E : od_E} {g : od_G} : (od_ws tc β E g).length = E.1.1 := by simp [od_ws]
theorem od_ws_get {tc : Nat → ClassId} {β : Int → Nat} {E : od_E} {g : od_G} {k : Nat} {q : Nat × va_E} (h : (od_ws tc β E g)[k]? = some q) : k < E.1.1 ∧ q = (β (k : Int), od_cell tc β E g (k : Int)) := by
  have hk : k < E.1.1 := by
    have := (List.getElem?_eq_some_iff.mp h).1
    rwa [od_ws_len] at this
  refine ⟨hk, ?_⟩
  have h2 := od_ws_at (tc := tc) (β := β) (E := E) (g := g) (a := (k : Int)) (by omega) (by omega)
  rw [show ((k : Int)).toNat = k by omega] at h2
  exact Option.some.inj (h.symm.trans h2)
/-- the cell of an object, of a row -/
theorem od_cell_o {tc : Nat → ClassId} {β : Int → Nat} {E : od_E} {g : od_G} {a : Int} {c : Nat} (hc : c < 12) (h : (E.2.1 a).1 = c) : od_cell tc β E g a = .inr (c, od_fs β E g c a) := by
  unfold od_cell
  rw [h, if_neg (by omega), if_neg (by omega), if_neg (by omega), if_neg (by omega), if_neg (by omega), if_neg (by omega)]
theorem od_fs_at {β : Int → Nat} {E : od_E} {g : od_G} {c k : Nat} {a : Int} (hk : k < od_N c) : (od_fs β E g c a)[k]? = some (od_fv β (od_isr c k) (E.2.2 a k) (g a k)) := by
  simp [od_fs, List.getElem?_map, List.getElem?_range hk]
theorem od_fs_len {β : Int → Nat} {E : od_E} {g : od_G} {c : Nat} {a : Int} : (od_fs β E g c a).length = od_N c := by simp [od_fs]
/-! locals -/
def od_lh (β : Int → Nat) (ls : Array Slot) (nL : Nat) (L : od_L) : Prop := ls.size = nL ∧ lv_wf ls ∧ ∀ (k : Nat) (v : od_V), L[k]? = some (some v) → ls[k]? = some (.val (od_enc β v))
def od_lv1 (β : Int → Nat) (L : od_L) (k : Nat) : Option (Nat × Value) := match L[k]? with
  | some (some v) => some (k, od_enc β v)
  | _ => none
def od_lv (β : Int → Nat) (L : od_L) : List (Nat × Value) := (List.range L.length).filterMap (od_lv1 β L)
theorem od_lv1_some {β : Int → Nat} {L : od_L} {k : Nat} {q : Nat × Value} (h : od_lv1 β L k = some q) : ∃ v, L[k]? = some (some v) ∧ q = (k, od_enc β v) := by
  unfold od_lv1 at h
  split at h
  · rename_i v hv
    exact ⟨v, hv, (Option.some.inj h).symm⟩
  · cases h
theorem od_lv_in {β : Int → Nat} {L : od_L} {k : Nat} {v : od_V} (h : L[k]? = some (some v)) : (k, od_enc β v) ∈ od_lv β L := by
  refine List.mem_filterMap.mpr ⟨k, List.mem_range.mpr (List.getElem?_eq_some_iff.mp h).1, ?_⟩
  simp [od_lv1, h]
theorem od_lh_has {β : Int → Nat} {ls : Array Slot} {nL : Nat} {L : od_L} (h : od_lh β ls nL L) : lv_has ls nL (od_lv β L) := by
  refine ⟨h.1, h.2.1, fun q hq => ?_⟩
  obtain ⟨k, -, hk⟩ := List.mem_filterMap.mp hq
  obtain ⟨v, hv, rfl⟩ := od_lv1_some hk
  exact h.2.2 k v hv
def od_cut (L : od_L) (i : Nat) : od_L := match i with
  | 0 => L
  | j + 1 => match L[j]? with
    | some (some (1, _)) => L.set j none
    | _ => L
def od_st1 (L : od_L) (i : Nat) (v : od_V) : od_L := (od_cut L i).set i (some v)
def od_st2 (L : od_L) (i : Nat) (v : od_V) : od_L := ((od_cut L i).set i (some v)).set (i + 1) none
theorem od_cut_at {L : od_L} {i k : Nat} {w : od_V} (h : (od_cut L i)[k]? = some (some w)) : L[k]? = some (some w) ∧ ¬ (k + 1 = i ∧ w.1 = 1) := by
  match i with
  | 0 => exact ⟨h, fun q => by omega⟩
  | j + 1 =>
    unfold od_cut at h
    dsimp only at h
    split at h
    · rename_i x hx
      rw [List.getElem?_set] at h
      split at h
      · split at h <;> simp at h
      · rename_i hne
        exact ⟨h, fun q => hne (by omega)⟩
    · rename_i hx
      refine ⟨h, fun q => ?_⟩
      have hk : k = j := by omega
      subst hk
      obtain ⟨w1, w2⟩ := w
      have : w1 = 1 := q.2
      subst this
      exact hx w2 h
theorem od_lh_st1 {β : Int → Nat} {ls : Array Slot} {nL i : Nat} {L : od_L} {v : od_V} (h : lv_has ls nL ((i, od_enc β v) :: (od_lv β L).filter (fun q => !(q.1 == i) && !(q.1 + 1 == i && q.2.category == 2)))) : od_lh β ls nL (od_st1 L i v) := by
  refine ⟨h.1, h.2.1, fun k w hk => ?_⟩
  unfold od_st1 at hk
  rw [List.getElem?_set] at hk
  split at hk
  · rename_i e
    subst e
    split at hk
    · cases hk
      exact h.2.2 _ List.mem_cons_self
    · cases hk
  · rename_i hne
    obtain ⟨h1, h2⟩ := od_cut_at hk
    refine h.2.2 (k, od_enc β w) (List.mem_cons_of_mem _ (List.mem_filter.mpr ⟨od_lv_in h1, ?_⟩))
    have h3 : ¬ (k + 1 = i ∧ (od_enc β w).category = 2) := fun q => h2 ⟨q.1, (od_cat β w).mp q.2⟩
    have h4 : ¬ k = i := fun q => hne q.symm
    simp only [Bool.and_eq_true, Bool.not_eq_true', beq_eq_false_iff_ne, ne_eq, Bool.and_eq_false_imp, beq_iff_eq]
    exact ⟨h4, fun e => fun e2 => h3 ⟨e, e2⟩⟩
theorem od_lh_st2 {β : Int → Nat} {ls : Array Slot} {nL i : Nat} {L : od_L} {v : od_V} (h : lv_has ls nL ((i, od_enc β v) :: (od_lv β L).filter (fun q => !(q.1 == i) && (!(q.1 == i + 1) && !(q.1 + 1 == i && q.2.category == 2))))) : od_lh β ls nL (od_st2 L i v) := by
  refine ⟨h.1, h.2.1, fun k w hk => ?_⟩
  unfold od_st2 at hk
  rw [List.getElem?_set] at hk
  split at hk
  · split at hk <;> simp at hk
  · rename_i hne1
    rw [List.getElem?_set] at hk
    split at hk
    · rename_i e
      subst e
      split at hk
      · cases hk
        exact h.2.2 _ List.mem_cons_self
      · cases hk
    · rename_i hne
      obtain ⟨h1, h2⟩ := od_cut_at hk
      refine h.2.2 (k, od_enc β w) (List.mem_cons_of_mem _ (List.mem_filter.mpr ⟨od_lv_in h1, ?_⟩))
      have h3 : ¬ (k + 1 = i ∧ (od_enc β w).category = 2) := fun q => h2 ⟨q.1, (od_cat β w).mp q.2⟩
      have h4 : ¬ k = i := fun q => hne q.symm
      have h5 : ¬ k = i + 1 := fun q => hne1 q.symm
      simp only [Bool.and_eq_true, Bool.not_eq_true', beq_eq_false_iff_ne, ne_eq, Bool.and_eq_false_imp, beq_iff_eq]
      exact ⟨h4, h5, fun e => fun e2 => h3 ⟨e, e2⟩⟩
theorem od_lh_ext {E : od_E} {β β' : Int → Nat} (h : ∀ a : Int, a < E.1.1 → β' a = β a) {ls : Array Slot} {nL : Nat} {L : od_L} (hv : ∀ v : od_V, some v ∈ L → od_ok E v) (hl : od_lh β ls nL L) : od_lh β' ls nL L :=
  ⟨hl.1, hl.2.1, fun k v hk => by rw [od_enc_ext h (hv v (List.mem_of_getElem? hk))]; exact hl.2.2 k v hk⟩
theorem od_set_mem {L : od_L} {i : Nat} {x : Option od_V} {v : od_V} (h : some v ∈ L.set i x) : some v ∈ L ∨ some v = x := by
  rcases List.mem_or_eq_of_mem_set h with h | h
  · exact Or.inl h
  · exact Or.inr h
theorem od_cut_mem {L : od_L} {i : Nat} {v : od_V} (h : some v ∈ od_cut L i) : some v ∈ L := by
  obtain ⟨k, hk⟩ := List.getElem?_of_mem h
  exact List.mem_of_getElem? (od_cut_at hk).1
theorem od_st1_ok {E : od_E} {L : od_L} {i : Nat} {x : od_V} (hL : ∀ v : od_V, some v ∈ L → od_ok E v) (hx : od_ok E x) : ∀ v : od_V, some v ∈ od_st1 L i x → od_ok E v := by
  intro v h
  rcases od_set_mem h with h | h
  · exact hL v (od_cut_mem h)
  · cases h; exact hx
theorem od_st2_ok {E : od_E} {L : od_L} {i : Nat} {x : od_V} (hL : ∀ v : od_V, some v ∈ L → od_ok E v) (hx : od_ok E x) : ∀ v : od_V, some v ∈ od_st2 L i x → od_ok E v := by
  intro v h
  rcases od_set_mem h with h | h
  · rcases od_set_mem h with h | h
    · exact hL v (od_cut_mem h)
    · cases h; exact hx
  · cases h
