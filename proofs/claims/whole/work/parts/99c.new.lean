/-! what is made new -/
def od_nE (E : od_E) (k n sl : Nat) : od_E := ((E.1.1 + 1, E.1.2 + sl), fun a => if a = (E.1.1 : Int) then (k, n) else E.2.1 a, fun a j => if a = (E.1.1 : Int) then -1 else E.2.2 a j)
def od_nG (g : od_G) (n x : Int) : od_G := fun a j => if a = n then x else g a j
def od_nb (β : Int → Nat) (n : Int) (q : Nat) : Int → Nat := fun a => if a = n then q else β a
def od_pE (E : od_E) (a : Int) (k : Nat) (x : Int) : od_E := (E.1, E.2.1, fun b j => if b = a ∧ j = k then x else E.2.2 b j)
theorem od_nE_le {E : od_E} {k n sl : Nat} : od_le E (od_nE E k n sl) := ⟨Nat.le_succ _, Nat.le_add_right _ _⟩
theorem od_pE_le {E : od_E} {a x : Int} {k : Nat} : od_le E (od_pE E a k x) := ⟨Nat.le_refl _, Nat.le_refl _⟩
theorem od_fit_mo {k n n' : Nat} {x : Int} (h : n ≤ n') (hf : od_fit k n x) : od_fit k n' x := by
  unfold od_fit at hf ⊢
  split at hf
  · rename_i c; rw [if_pos c]; exact hf
  · rename_i c
    rw [if_neg c]
    split at hf
    · rename_i c2; rw [if_pos c2]; omega
    · rename_i c2; rw [if_neg c2]; exact hf
theorem od_can_new {E : od_E} {g : od_G} {k n sl : Nat} {x : Int} (h : od_can E g) (hx : od_fit k (E.1.1 + 1) x) : od_can (od_nE E k n sl) (od_nG g E.1.1 x) := by
  refine ⟨fun a => ?_, fun a j => ?_, fun a j => ?_⟩
  · show ((if a = (E.1.1 : Int) then (k, n) else E.2.1 a).1 < 30) → 0 ≤ a ∧ a < ((E.1.1 + 1 : Nat) : Int)
    split
    · intro _; omega
    · intro q
      have := h.1 a q
      omega
  · show od_fit (if a = (E.1.1 : Int) then (k, n) else E.2.1 a).1 (E.1.1 + 1) (if a = (E.1.1 : Int) then x else g a j)
    split
    · exact hx
    · exact od_fit_mo (Nat.le_succ _) (h.2.1 a j)
  · show (if a = (E.1.1 : Int) then -1 else E.2.2 a j) < ((E.1.1 + 1 : Nat) : Int)
    split
    · omega
    · have := h.2.2 a j
      omega
theorem od_cell_ext {tc : Nat → ClassId} {β β' : Int → Nat} {E E' : od_E} {g g' : od_G} {a : Int} (hcan : od_can E g) (h1 : E'.2.1 a = E.2.1 a) (h2 : E'.2.2 a = E.2.2 a) (h3 : g' a = g a) (hb : ∀ r : Int, r < (E.1.1 : Int) → β' r = β r) : od_cell tc β' E' g' a = od_cell tc β E g a := by
  have e1 : ∀ k : Nat, od_fs β' E' g' k a = od_fs β E g k a := fun k => by
    unfold od_fs od_fv od_rv
    rw [h2, h3]
    refine List.map_congr_left fun j _ => ?_
    rw [hb _ (hcan.2.2 a j)]
  have e2 : (E.2.1 a).1 = 24 ∨ (E.2.1 a).1 = 25 → (fun j : Nat => od_ro β' (g a j)) = fun j : Nat => od_ro β (g a j) := fun hk => by
    funext j
    have z := hcan.2.1 a j
    rw [od_fit_r hk] at z
    unfold od_ro
    rw [hb _ z]
  unfold od_cell
  rw [h1, h3, e1]
  split
  · rfl
  · split
    · rfl
    · split
      · rfl
      · split
        · rfl
        · split
          · rename_i c; rw [e2 (Or.inl c)]
          · split
            · rename_i c; rw [e2 (Or.inr c)]
            · rfl
theorem od_ws_push {tc : Nat → ClassId} {β : Int → Nat} {E : od_E} {g : od_G} {k n sl q : Nat} {x : Int} (hcan : od_can E g) : od_ws tc (od_nb β E.1.1 q) (od_nE E k n sl) (od_nG g E.1.1 x) = od_ws tc β E g ++ [(q, od_cell tc (od_nb β E.1.1 q) (od_nE E k n sl) (od_nG g E.1.1 x) E.1.1)] := by
  unfold od_ws
  show (List.range (E.1.1 + 1)).map _ = _
  rw [List.range_succ, List.map_append]
  congr 1
  · refine List.map_congr_left fun i hi => ?_
    have hi1 : i < E.1.1 := List.mem_range.mp hi
    have hne : ¬ (i : Int) = (E.1.1 : Int) := by omega
    refine Prod.ext ?_ ?_
    · show od_nb β E.1.1 q i = β i
      unfold od_nb
      rw [if_neg hne]
    · refine od_cell_ext hcan ?_ ?_ ?_ (fun r hr => ?_)
      · show (if (i : Int) = (E.1.1 : Int) then (k, n) else E.2.1 i) = _
        rw [if_neg hne]
      · funext j
        show (if (i : Int) = (E.1.1 : Int) then (-1 : Int) else E.2.2 i j) = _
        rw [if_neg hne]
      · funext j
        show (if (i : Int) = (E.1.1 : Int) then x else g i j) = _
        rw [if_neg hne]
      · unfold od_nb
        rw [if_neg (by omega)]
  · show [(od_nb β E.1.1 q E.1.1, _)] = _
    unfold od_nb
    rw [if_pos rfl]
theorem od_dflt : ∀ c, c < 12 → ∀ k, k < od_N c → defaultValue (od_ty c k) = if od_isr c k = true then .null else .int 0 := by decide +kernel
def od_isRef : FieldType → Bool
  | .object _ => true
  | .array _ => true
  | _ => false
theorem od_refs : ∀ c, c < 12 → ∀ k, k < od_N c → od_isr c k = true → od_isRef (od_ty c k) = true := by decide +kernel
theorem od_refok {t : FieldType} (h : od_isRef t = true) (β : Int → Nat) (x : Int) : narrow t (od_rv β x) = od_rv β x ∧ fits t (od_rv β x) = true := by
  unfold od_rv
  cases t with
  | object s => split <;> exact ⟨rfl, rfl⟩
  | array s => split <;> exact ⟨rfl, rfl⟩
  | _ => exact absurd h (by decide)
theorem od_obj1 : Cond.instanceMethod Lib.objectInit ∈ lw_good := lw_gd1 25 (by decide +kernel) (by decide +kernel)
theorem od_obj2 : Cond.code Lib.objectInit ⟨#[0xb1]⟩ 1 none ∈ lw_good := lw_gd1 26 (by decide +kernel) (by decide +kernel)
theorem od_ilt0 {n : Int} (h : od_r32 n) : (Int32.ofInt n < 0) ↔ n < 0 := by
  have z := od_ilt h od_r0
  rw [od_i0] at z
  exact z
section RowsN
variable {d : Nat} {M : od_M} {Z : od_Zt} {E0 : od_E} {res : od_Q} {pc : Nat} {L : od_L} {st : List od_V} {E : od_E} {g : od_G}
theorem r_new {i c : Nat} (hd : decode M.2.2.1 pc = .ok (.new i, 3)) (hcl : Cond.classLink M.1 i (od_C c) ∈ lw_good) (hni : Cond.instantiable (od_C c) (od_N c) ∈ lw_good) (hin : Cond.initialized (od_C c) ∈ lw_good) (hc : c < 12) (hle : od_le (od_nE E c 0 (od_N c)) res.1)
    (kk : od_Rq d M Z E0 res (pc + 3) L ((2, (E.1.1 : Int)) :: st) (od_nE E c 0 (od_N c)) (od_nG g E.1.1 0)) : od_Rq d M Z E0 res pc L st E g := by
  intro p l e s m args below meth c1 tc D β0 β A H locs ls S
  have z1 := S.2.2.1.1
  have h1 := z1.1
  have h2 := z1.2
  have h3 : E.1.1 + 1 ≤ res.1.1.1 := hle.1
  have h4 : E.1.2 + od_N c ≤ res.1.1.2 := hle.2
  have hcan := od_can_new (k := c) (n := 0) (sl := od_N c) (x := 0) S.can ((od_fit_i (by omega)).mpr od_r0)
  refine va_new (D := D) (ci := c) (C := od_C c) (T := od_T c) (N := od_N c) (fs := od_fs β (od_nE E c 0 (od_N c)) (od_nG g E.1.1 0) c E.1.1) S.hx S.hb S.hts (od_hin c hc) (od_ty c) (od_tyok c hc) S.hown (S.hts _ hcl) (S.hts _ hni) (S.hts _ hin) S.hK S.hP S.hD S.hS S.hA (od_vw c hc) (fun j hj => ?_) (by show _ ≤ res.1.1.1 - E0.1.1; omega) (by show _ ≤ res.1.1.2 - E0.1.2; omega) hd (fun q H1 hP1 hD1 hS1 => ?_)
  · rw [od_dflt c hc j hj]
    unfold vp_V
    rw [List.getD_eq_getElem?_getD, od_fs_at hj]
    show _ = od_fv β (od_isr c j) (if (E.1.1 : Int) = (E.1.1 : Int) then (-1 : Int) else _) (if (E.1.1 : Int) = (E.1.1 : Int) then (0 : Int) else _)
    rw [if_pos rfl, if_pos rfl]
    unfold od_fv od_rv
    by_cases cr : od_isr c j = true
    · rw [if_pos cr, if_pos cr, if_pos rfl]
    · rw [if_neg cr, if_neg cr]; rfl
  · have hcell : od_cell tc (od_nb β E.1.1 q) (od_nE E c 0 (od_N c)) (od_nG g E.1.1 0) E.1.1 = .inr (c, od_fs β (od_nE E c 0 (od_N c)) (od_nG g E.1.1 0) c E.1.1) := by
      rw [od_cell_o hc (by show (if (E.1.1 : Int) = (E.1.1 : Int) then (c, 0) else _).1 = c; rw [if_pos rfl])]
      unfold od_fs
      congr 2
      refine List.map_congr_left fun j _ => ?_
      show od_fv _ _ (if (E.1.1 : Int) = (E.1.1 : Int) then (-1 : Int) else _) _ = od_fv _ _ (if (E.1.1 : Int) = (E.1.1 : Int) then (-1 : Int) else _) _
      rw [if_pos rfl]
      unfold od_fv od_rv
      split <;> simp
    rw [← hcell, ← od_ws_push S.can] at hP1 hD1
    have S2 := S.call (r := some (2, (E.1.1 : Int))) S.sok od_nE_le hle (β' := od_nb β E.1.1 q) (fun a ha => by unfold od_nb; rw [if_neg (by omega)]) hP1 hD1 hcan (fun v hv => by cases hv with | head => (show (E.1.1 : Int) < ((E.1.1 + 1 : Nat) : Int); omega) | tail _ hv => cases hv) hS1
    have w := kk p l e s m args below meth c1 tc D β0 (od_nb β E.1.1 q) A H1 locs ls S2
    have e1 : (od_nE E c 0 (od_N c)).1.1 - E0.1.1 = E.1.1 - E0.1.1 + 1 := by show E.1.1 + 1 - E0.1.1 = _; omega
    have e2 : (od_nE E c 0 (od_N c)).1.2 - E0.1.2 = E.1.2 - E0.1.2 + od_N c := by show E.1.2 + od_N c - E0.1.2 = _; omega
    rw [e1, e2] at w
    refine W.eq (g2 := F0 m (pc + 3) ls (((2, (E.1.1 : Int)) :: st).map (od_enc (od_nb β E.1.1 q)))) ?_ w
    rw [List.map_cons, od_ref (by omega), od_map_ext (E := E) (β := β) (β' := od_nb β E.1.1 q) (fun a ha => by unfold od_nb; rw [if_neg (by omega)]) S.sok]
    unfold od_nb
    rw [if_pos rfl]
theorem od_newA {k n : Nat} {x : Int} {i q : Nat} {cA : ClassId} {ty : FieldType} {a0 : vp_A} {e1 e2 : Nat} {tc : Nat → ClassId} {D : va_G} {β0 β : Int → Nat} {A : Nat → Prop} {H H1 : Heap} {locs : List Loc} {ls : Array Slot} {p : Program} {l : Launch} {e : Env} {s : State} {m : MethodId} {args : Array Value} {below : List Frame} {meth : Method} {c1 : Code} {v0 : od_V}
    (S : od_St M Z E0 res L (v0 :: st) E g p s m args meth c1 tc D β0 β A H locs ls) (hle : od_le (od_nE E k n n) res.1) (hfit : od_fit k (E.1.1 + 1) x) (hti : (od_tys tc)[i]? = some (tc i, ty)) (hun : ∀ cB : ClassId, va_RA s cB ty → va_RA s (tc i) ty → cB = tc i)
    (hcell : od_cell tc (od_nb β E.1.1 q) (od_nE E k n n) (od_nG g E.1.1 x) E.1.1 = .inl (tc i, a0))
    (hK1 : va_K D vwCl (od_tys tc ++ [(cA, ty)]) s) (hP1 : va_P D vwCl (od_ws tc β E g ++ [(q, .inl (cA, a0))]) H1) (hD1 : va_D A (od_ws tc β E g ++ [(q, .inl (cA, a0))])) (hS1 : va_S A s.heap H1 locs)
    (kk : od_Rq d M Z E0 res (pc + e1) L ((2, (E.1.1 : Int)) :: st) (od_nE E k n n) (od_nG g E.1.1 x)) :
    W p l e (od_rm d E0 res.1) s m args below meth c1 H1 locs (E.1.1 - E0.1.1 + 1) (E.1.2 - E0.1.2 + n) (MQ below (od_Po tc D β0 E0.1.1 A res) args s (res.1.1.1 - E0.1.1) (res.1.1.2 - E0.1.2) A) (F0 m (pc + e1) ls (.ref q :: st.map (od_enc β))) := by
  have z1 := S.2.2.1.1
  have h1 := z1.1
  have h2 := z1.2
  have hA : cA = tc i := by
    have r1 := (hK1.2 (od_tys tc).length (cA, ty) (by simp)).2
    have r2 := (S.hK.2 i _ hti).2
    exact hun cA r1 r2
  subst hA
  have o := od_ok1 S.sok
  have hcan := od_can_new (k := k) (n := n) (sl := n) (x := x) S.can hfit
  rw [← hcell, ← od_ws_push S.can] at hP1 hD1
  have S2 := S.call (r := some (2, (E.1.1 : Int))) (rest := st) o.2 od_nE_le hle (β' := od_nb β E.1.1 q) (fun a ha => by unfold od_nb; rw [if_neg (by omega)]) hP1 hD1 hcan (fun v hv => by cases hv with | head => (show (E.1.1 : Int) < ((E.1.1 + 1 : Nat) : Int); omega) | tail _ hv => cases hv) hS1
  have w := kk p l e s m args below meth c1 tc D β0 (od_nb β E.1.1 q) A H1 locs ls S2
  have e1 : (od_nE E k n n).1.1 - E0.1.1 = E.1.1 - E0.1.1 + 1 := by show E.1.1 + 1 - E0.1.1 = _; omega
  have e2 : (od_nE E k n n).1.2 - E0.1.2 = E.1.2 - E0.1.2 + n := by show E.1.2 + n - E0.1.2 = _; omega
  rw [e1, e2] at w
  refine W.eq (g2 := F0 m _ ls (((2, (E.1.1 : Int)) :: st).map (od_enc (od_nb β E.1.1 q)))) ?_ w
  rw [List.map_cons, od_ref (by omega), od_map_ext (E := E) (β := β) (β' := od_nb β E.1.1 q) (fun a ha => by unfold od_nb; rw [if_neg (by omega)]) o.2]
  unfold od_nb
  rw [if_pos rfl]
theorem od_nE_at (E : od_E) (k n sl : Nat) : (od_nE E k n sl).2.1 E.1.1 = (k, n) := if_pos rfl
theorem od_nG_at (g : od_G) (n x : Int) : od_nG g n x n = fun _ => x := funext fun _ => if_pos rfl
theorem r_newI {n : Int} (hd : decode M.2.2.1 pc = .ok (.newarray .int, 2)) (hn : 0 ≤ n ∧ n ≤ 1000000) (hle : od_le (od_nE E 20 n.toNat n.toNat) res.1) (kk : od_Rq d M Z E0 res (pc + 2) L ((2, (E.1.1 : Int)) :: st) (od_nE E 20 n.toNat n.toNat) (od_nG g E.1.1 0)) : od_Rq d M Z E0 res pc L ((0, n) :: st) E g := by
  intro p l e s m args below meth c1 tc D β0 β A H locs ls S
  have o := od_ok1 S.sok
  have z1 := S.2.2.1.1
  have h1 := z1.1
  have h2 := z1.2
  have h3 : E.1.1 + 1 ≤ res.1.1.1 := hle.1
  have h4 : E.1.2 + n.toNat ≤ res.1.1.2 := hle.2
  refine W.eq (g2 := F0 m pc ls (.int (Int32.ofInt n) :: st.map (od_enc β))) rfl ?_
  refine va_newa (D := D) (atype := .int) (ty := .int) (N' := n.toNat) (a0 := (n.toNat, .inl fun _ => 0)) S.hx S.hb (S.hts _ ac_int) rfl S.hK S.hP S.hD S.hS S.hA (fun _ => rfl) (by rw [od_ilt0 o.1]; omega) (od_clamp o.1) (by show n.toNat * 4 ≤ 536870912; omega) (by show _ ≤ res.1.1.1 - E0.1.1; omega) (by show _ ≤ res.1.1.2 - E0.1.2; omega) hd (fun q cA H1 hK1 hP1 hD1 hS1 => ?_)
  refine od_newA (i := 0) (e1 := 2) (e2 := 0) S hle ((od_fit_i (by omega)).mpr od_r0) rfl (fun cB r1 r2 => Option.some.inj (r1.symm.trans r2)) ?_ hK1 hP1 hD1 hS1 kk
  rw [od_cell_i (od_nE_at E 20 n.toNat n.toNat), od_nG_at]
  rfl
theorem r_newB {n : Int} (hd : decode M.2.2.1 pc = .ok (.newarray .byte, 2)) (hn : 0 ≤ n ∧ n ≤ 1000000) (hle : od_le (od_nE E 21 n.toNat n.toNat) res.1) (kk : od_Rq d M Z E0 res (pc + 2) L ((2, (E.1.1 : Int)) :: st) (od_nE E 21 n.toNat n.toNat) (od_nG g E.1.1 0)) : od_Rq d M Z E0 res pc L ((0, n) :: st) E g := by
  intro p l e s m args below meth c1 tc D β0 β A H locs ls S
  have o := od_ok1 S.sok
  have z1 := S.2.2.1.1
  have h1 := z1.1
  have h2 := z1.2
  have h3 : E.1.1 + 1 ≤ res.1.1.1 := hle.1
  have h4 : E.1.2 + n.toNat ≤ res.1.1.2 := hle.2
  refine W.eq (g2 := F0 m pc ls (.int (Int32.ofInt n) :: st.map (od_enc β))) rfl ?_
  refine va_newa (D := D) (atype := .byte) (ty := .byte) (N' := n.toNat) (a0 := (n.toNat, .inl fun _ => 0)) S.hx S.hb (S.hts _ ac_byte) rfl S.hK S.hP S.hD S.hS S.hA (fun _ => rfl) (by rw [od_ilt0 o.1]; omega) (od_clamp o.1) (by show n.toNat * 1 ≤ 536870912; omega) (by show _ ≤ res.1.1.1 - E0.1.1; omega) (by show _ ≤ res.1.1.2 - E0.1.2; omega) hd (fun q cA H1 hK1 hP1 hD1 hS1 => ?_)
  refine od_newA (i := 1) (e1 := 2) (e2 := 0) S hle ((od_fit_i (by omega)).mpr od_r0) rfl (fun cB r1 r2 => Option.some.inj (r1.symm.trans r2)) ?_ hK1 hP1 hD1 hS1 kk
  rw [od_cell_b (od_nE_at E 21 n.toNat n.toNat), od_nG_at]
  rfl
theorem r_newZ {n : Int} (hd : decode M.2.2.1 pc = .ok (.newarray .boolean, 2)) (hn : 0 ≤ n ∧ n ≤ 1000000) (hle : od_le (od_nE E 22 n.toNat n.toNat) res.1) (kk : od_Rq d M Z E0 res (pc + 2) L ((2, (E.1.1 : Int)) :: st) (od_nE E 22 n.toNat n.toNat) (od_nG g E.1.1 0)) : od_Rq d M Z E0 res pc L ((0, n) :: st) E g := by
  intro p l e s m args below meth c1 tc D β0 β A H locs ls S
  have o := od_ok1 S.sok
  have z1 := S.2.2.1.1
  have h1 := z1.1
  have h2 := z1.2
  have h3 : E.1.1 + 1 ≤ res.1.1.1 := hle.1
  have h4 : E.1.2 + n.toNat ≤ res.1.1.2 := hle.2
  refine W.eq (g2 := F0 m pc ls (.int (Int32.ofInt n) :: st.map (od_enc β))) rfl ?_
  refine va_newa (D := D) (atype := .boolean) (ty := .boolean) (N' := n.toNat) (a0 := (n.toNat, .inl fun _ => 0)) S.hx S.hb (S.hts _ ac_boolean) rfl S.hK S.hP S.hD S.hS S.hA (fun _ => rfl) (by rw [od_ilt0 o.1]; omega) (od_clamp o.1) (by show n.toNat * 1 ≤ 536870912; omega) (by show _ ≤ res.1.1.1 - E0.1.1; omega) (by show _ ≤ res.1.1.2 - E0.1.2; omega) hd (fun q cA H1 hK1 hP1 hD1 hS1 => ?_)
  refine od_newA (i := 2) (e1 := 2) (e2 := 0) S hle ((od_fit_i (by omega)).mpr od_r0) rfl (fun cB r1 r2 => Option.some.inj (r1.symm.trans r2)) ?_ hK1 hP1 hD1 hS1 kk
  rw [od_cell_z (od_nE_at E 22 n.toNat n.toNat), od_nG_at]
  rfl
theorem r_newJ {n : Int} (hd : decode M.2.2.1 pc = .ok (.newarray .long, 2)) (hn : 0 ≤ n ∧ n ≤ 1000000) (hle : od_le (od_nE E 23 n.toNat n.toNat) res.1) (kk : od_Rq d M Z E0 res (pc + 2) L ((2, (E.1.1 : Int)) :: st) (od_nE E 23 n.toNat n.toNat) (od_nG g E.1.1 0)) : od_Rq d M Z E0 res pc L ((0, n) :: st) E g := by
  intro p l e s m args below meth c1 tc D β0 β A H locs ls S
  have o := od_ok1 S.sok
  have z1 := S.2.2.1.1
  have h1 := z1.1
  have h2 := z1.2
  have h3 : E.1.1 + 1 ≤ res.1.1.1 := hle.1
  have h4 : E.1.2 + n.toNat ≤ res.1.1.2 := hle.2
  refine W.eq (g2 := F0 m pc ls (.int (Int32.ofInt n) :: st.map (od_enc β))) rfl ?_
  refine va_newa (D := D) (atype := .long) (ty := .long) (N' := n.toNat) (a0 := (n.toNat, .inr (.inl fun _ => 0))) S.hx S.hb (S.hts _ ac_long) rfl S.hK S.hP S.hD S.hS S.hA (fun _ => rfl) (by rw [od_ilt0 o.1]; omega) (od_clamp o.1) (by show n.toNat * 8 ≤ 536870912; omega) (by show _ ≤ res.1.1.1 - E0.1.1; omega) (by show _ ≤ res.1.1.2 - E0.1.2; omega) hd (fun q cA H1 hK1 hP1 hD1 hS1 => ?_)
  refine od_newA (i := 3) (e1 := 2) (e2 := 0) S hle (od_fit_l.mpr (by unfold od_r64; omega)) rfl (fun cB r1 r2 => Option.some.inj (r1.symm.trans r2)) ?_ hK1 hP1 hD1 hS1 kk
  rw [od_cell_l (od_nE_at E 23 n.toNat n.toNat), od_nG_at]
  rfl
theorem r_newQ24 {n : Int} {ix : Nat} (hd : decode M.2.2.1 pc = .ok (.anewarray ix, 3)) (hcl : Cond.classLink M.1 ix RX9 ∈ lw_good) (hn : 0 ≤ n ∧ n ≤ 1000000) (hle : od_le (od_nE E 24 n.toNat n.toNat) res.1) (kk : od_Rq d M Z E0 res (pc + 3) L ((2, (E.1.1 : Int)) :: st) (od_nE E 24 n.toNat n.toNat) (od_nG g E.1.1 (-1))) : od_Rq d M Z E0 res pc L ((0, n) :: st) E g := by
  intro p l e s m args below meth c1 tc D β0 β A H locs ls S
  have o := od_ok1 S.sok
  have z1 := S.2.2.1.1
  have h1 := z1.1
  have h2 := z1.2
  have h3 : E.1.1 + 1 ≤ res.1.1.1 := hle.1
  have h4 : E.1.2 + n.toNat ≤ res.1.1.2 := hle.2
  refine W.eq (g2 := F0 m pc ls (.int (Int32.ofInt n) :: st.map (od_enc β))) rfl ?_
  have hAO : va_AO RX9 s := S.hE.2.2.2.2.2.2.2.2.2.1
  refine va_newq (D := D) (C := RX9) (N' := n.toNat) S.hx S.hb S.hown (S.hts _ hcl) hAO S.hK S.hP S.hD S.hS S.hA (by rw [od_ilt0 o.1]; omega) (od_clamp o.1) (by omega) (by show _ ≤ res.1.1.1 - E0.1.1; omega) (by show _ ≤ res.1.1.2 - E0.1.2; omega) hd (fun q cA H1 hK1 hP1 hD1 hS1 => ?_)
  refine od_newA (i := 4) (e1 := 3) (e2 := 0) S hle ((od_fit_r (by omega)).mpr (by omega)) rfl (fun cB r1 r2 => ?_) ?_ hK1 hP1 hD1 hS1 kk
  · obtain ⟨_, _, _, _, _, f1⟩ := r1
    obtain ⟨_, _, _, _, _, f2⟩ := r2
    exact Option.some.inj (f1.symm.trans f2)
  rw [od_cell_r24 (od_nE_at E 24 n.toNat n.toNat), od_nG_at]
  rfl
theorem r_newQ25 {n : Int} {ix : Nat} (hd : decode M.2.2.1 pc = .ok (.anewarray ix, 3)) (hcl : Cond.classLink M.1 ix RX6 ∈ lw_good) (hn : 0 ≤ n ∧ n ≤ 1000000) (hle : od_le (od_nE E 25 n.toNat n.toNat) res.1) (kk : od_Rq d M Z E0 res (pc + 3) L ((2, (E.1.1 : Int)) :: st) (od_nE E 25 n.toNat n.toNat) (od_nG g E.1.1 (-1))) : od_Rq d M Z E0 res pc L ((0, n) :: st) E g := by
  intro p l e s m args below meth c1 tc D β0 β A H locs ls S
  have o := od_ok1 S.sok
  have z1 := S.2.2.1.1
  have h1 := z1.1
  have h2 := z1.2
  have h3 : E.1.1 + 1 ≤ res.1.1.1 := hle.1
  have h4 : E.1.2 + n.toNat ≤ res.1.1.2 := hle.2
  refine W.eq (g2 := F0 m pc ls (.int (Int32.ofInt n) :: st.map (od_enc β))) rfl ?_
  have hAO : va_AO RX6 s := S.hE.2.2.2.2.2.2.2.2.2.2
  refine va_newq (D := D) (C := RX6) (N' := n.toNat) S.hx S.hb S.hown (S.hts _ hcl) hAO S.hK S.hP S.hD S.hS S.hA (by rw [od_ilt0 o.1]; omega) (od_clamp o.1) (by omega) (by show _ ≤ res.1.1.1 - E0.1.1; omega) (by show _ ≤ res.1.1.2 - E0.1.2; omega) hd (fun q cA H1 hK1 hP1 hD1 hS1 => ?_)
  refine od_newA (i := 5) (e1 := 3) (e2 := 0) S hle ((od_fit_r (by omega)).mpr (by omega)) rfl (fun cB r1 r2 => ?_) ?_ hK1 hP1 hD1 hS1 kk
  · obtain ⟨_, _, _, _, _, f1⟩ := r1
    obtain ⟨_, _, _, _, _, f2⟩ := r2
    exact Option.some.inj (f1.symm.trans f2)
  rw [od_cell_r25 (od_nE_at E 25 n.toNat n.toNat), od_nG_at]
  rfl
theorem od_ws_setE {tc : Nat → ClassId} {β : Int → Nat} {E : od_E} {g : od_G} {a x : Int} {k c : Nat} (h0 : 0 ≤ a) (hc : c < 12) (hk : (E.2.1 a).1 = c) (hr : od_isr c k = true) (hcan : od_can E g) : (od_ws tc β E g).set a.toNat (β a, .inr (c, (od_fs β E g c a).set k (od_rv β x))) = od_ws tc β (od_pE E a k x) g := by
  have e0 : od_cell tc β (od_pE E a k x) g a = .inr (c, (od_fs β E g c a).set k (od_rv β x)) := by
    rw [od_cell_o (E := od_pE E a k x) hc hk]
    congr 2
    apply List.ext_getElem?
    intro i
    rw [List.getElem?_set, od_fs_len]
    by_cases hi : i < od_N c
    · rw [od_fs_at hi, od_fs_at hi]
      show some (od_fv β (od_isr c i) (if a = a ∧ i = k then x else E.2.2 a i) (g a i)) = _
      by_cases h : k = i
      · subst h
        rw [if_pos ⟨rfl, rfl⟩, if_pos rfl, if_pos hi, hr]
        rfl
      · rw [if_neg (by omega), if_neg h]
    · have e1 : (od_fs β (od_pE E a k x) g c a)[i]? = none := List.getElem?_eq_none (by rw [od_fs_len]; omega)
      have e2 : (od_fs β E g c a)[i]? = none := List.getElem?_eq_none (by rw [od_fs_len]; omega)
      rw [e1, e2]
      split
      · rename_i h
        rw [if_neg (by omega)]
      · rfl
  apply List.ext_getElem?
  intro i
  rw [List.getElem?_set]
  by_cases hi : i < E.1.1
  · have e1 := od_ws_at (tc := tc) (β := β) (E := E) (g := g) (a := (i : Int)) (by omega) (by omega)
    have e2 := od_ws_at (tc := tc) (β := β) (E := od_pE E a k x) (g := g) (a := (i : Int)) (by omega) (by show (i : Int) < (E.1.1 : Int); omega)
    rw [show ((i : Int)).toNat = i by omega] at e1 e2
    rw [e1, e2, od_ws_len]
    split
    · rename_i h
      rw [if_pos (by omega), show (i : Int) = a by omega, e0]
    · rename_i h
      rw [od_cell_ext hcan (E' := od_pE E a k x) rfl ?_ rfl (fun _ _ => rfl)]
      funext j
      show (if (i : Int) = a ∧ j = k then x else E.2.2 i j) = _
      rw [if_neg (by omega)]
  · have e1 : (od_ws tc β E g)[i]? = none := List.getElem?_eq_none (by rw [od_ws_len]; omega)
    have e2 : (od_ws tc β (od_pE E a k x) g)[i]? = none := List.getElem?_eq_none (by rw [od_ws_len]; show E.1.1 ≤ i; omega)
    rw [e1, e2, od_ws_len]
    split <;> simp [hi]
    omega
theorem r_putR {a x : Int} {i c k : Nat} (hd : decode M.2.2.1 pc = .ok (.putfield i, 3)) (hf : od_FL M.1 i c k) (hc : c < 12 ∧ k < od_N c ∧ od_isr c k = true) (hw : (od_T c k).2.2.2 = true ∧ (od_T c k).1 = M.1) (hini : M.2.1.name = "<init>") (hk : (E.2.1 a).1 = c) (kk : od_Rq d M Z E0 res (pc + 3) L st (od_pE E a k x) g) : od_Rq d M Z E0 res pc L ((2, x) :: (2, a) :: st) E g := by
  intro p l e s m args below meth c1 tc D β0 β A H locs ls S
  have o := od_ok2 S.sok
  have hv := S.can.1 a (by rw [hk]; omega)
  have hn : a ≠ -1 := by omega
  have hx : x < (E.1.1 : Int) := o.1
  refine W.eq (g2 := F0 m pc ls (od_rv β x :: .ref (β a) :: st.map (od_enc β))) (by rw [List.map_cons, List.map_cons, od_ref hn]; rfl) ?_
  have hr := od_refok (od_refs c hc.1 k hc.2.1 hc.2.2) β x
  refine va_putF (D := D) (ci := c) (C := od_C c) (T := od_T c) (N := od_N c) (v := od_rv β x) (ty := od_ty c k) S.hx S.hb S.hts (od_hin c hc.1) (od_ty c) (od_tyok c hc.1) (od_nm c hc.1) S.hown S.hK S.hP S.hD S.hS a.toNat (fs := od_fs β E g c a) ?_ (od_vw c hc.1) k hc.2.1 (S.hts _ hf) (fun _ h9 => h9) hw.1 (S.hnm hini) hw.2 (od_tyok c hc.1 k hc.2.1) hr.1 hr.2 (by rw [od_fs_len]; exact hc.2.1) hd (fun H1 locs1 hP1 hD1 hS1 => ?_)
  · rw [od_ws_at hv.1 hv.2, od_cell_o hc.1 hk]
  · rw [od_ws_setE hv.1 hc.1 hk hc.2.2 S.can] at hP1 hD1
    have hcan : od_can (od_pE E a k x) g := ⟨S.can.1, S.can.2.1, fun b j => by
      show (if b = a ∧ j = k then x else E.2.2 b j) < (E.1.1 : Int)
      split
      · exact hx
      · exact S.can.2.2 b j⟩
    have S2 := S.call (r := none) (rest := st) o.2.2 (od_pE_le (a := a) (k := k) (x := x)) (show od_le (od_pE E a k x) res.1 from S.2.2.1.2.1) (β' := β) (fun _ _ => rfl) hP1 hD1 hcan (fun v hv => by cases hv) hS1
    exact kk p l e s m args below meth c1 tc D β0 β A H1 locs1 ls S2
theorem r_objI {a : Int} {i : Nat} (hd : decode M.2.2.1 pc = .ok (.invokespecial i, 3)) (hl : Cond.methodLink M.1 i Lib.objectInit ∈ lw_good) (ha : a ≠ -1) (hdd : 1 ≤ d) (hcat : od_cats st ≤ 8) (kk : od_Rq d M Z E0 res (pc + 3) L st E g) : od_Rq d M Z E0 res pc L ((2, a) :: st) E g := by
  intro p l e s m args below meth c1 tc D β0 β A H locs ls S
  have o := od_ok1 S.sok
  refine W.eq (g2 := F0 m pc ls (.ref (β a) :: st.map (od_enc β))) (by rw [List.map_cons, od_ref ha]) ?_
  refine W.objInit S.hx S.hb S.hown (S.hts _ hl) (S.hts _ od_obj1) (S.hts _ od_obj2) rfl (by rw [S.hml]; exact S.hl.1) rfl hd (by show 1 ≤ d; omega) ?_ (kk p l e s m args below meth c1 tc D β0 β A H locs ls (S.stk o.2))
  show 2 * 0 + ((st.map (od_enc β)).map fun v => v.category).sum + 12 ≤ 64 * d
  rw [od_cats_eq]
  omega
end RowsN
