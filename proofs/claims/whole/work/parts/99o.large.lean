/-! the judgement at large: where the cells of the end are not known before -/
abbrev od_Qz : Type := (Nat × Nat) × (od_E → Option od_V → od_G → Prop)
def od_tt (E : od_E) : od_Q := (E, fun _ _ => True)
def od_rmz (d : Nat) (n : Nat × Nat) : Room := { frames := d, cells := n.1, slots := n.2, locals := 64 * d }
def od_Pz (tc : Nat → ClassId) (D : va_G) (β0 : Int → Nat) (E0 : od_E) (A : Nat → Prop) (Q : od_E → Option od_V → od_G → Prop) : Array Value → State → Outcome → State → Prop := fun _ st oc t =>
  (∃ (E : od_E) (β : Int → Nat) (r : Option od_V) (g : od_G), Q E r g ∧ od_le E0 E ∧ (∀ a : Int, a < (E0.1.1 : Int) → β a = β0 a) ∧ oc = .returned (r.map (od_enc β)) ∧ va_P D vwCl (od_ws tc β E g) t.heap ∧ va_D A (od_ws tc β E g) ∧ od_can E g ∧ ∀ v ∈ r.toList, od_ok E v) ∧ va_F A st t
/-- the contract at large -/
def od_Cz (d : Nat) (M : od_M) (as : List od_V) (E : od_E) (g : od_G) (res : od_Qz) : Prop :=
  od_can E g → (∀ v ∈ as, od_ok E v) → ∀ (l : Launch) (tc : Nat → ClassId) (D : va_G) (β : Int → Nat) (sz : Nat),
    Met l M.2.1 (od_words M) (od_rmz d res.1) (od_Pre tc D β sz as E g) (od_Pz tc D β E (va_A (od_ws tc β E g) sz) res.2) res.1.1 res.1.2 (va_A (od_ws tc β E g) sz)
def od_Rz (d : Nat) (M : od_M) (Z : od_Zt) (E0 : od_E) (res : od_Qz) (u : Nat × Nat) (pc : Nat) (L : od_L) (st : List od_V) (E : od_E) (g : od_G) : Prop :=
  ∀ (p : Program) (l : Launch) (e : Env) (s : State) (m : MethodId) (args : Array Value) (below : List Frame) (meth : Method) (c : Code) (tc : Nat → ClassId) (D : va_G) (β0 β : Int → Nat) (A : Nat → Prop) (H : Heap) (locs : List Loc) (ls : Array Slot),
    od_St M Z E0 (od_tt E) L st E g p s m args meth c tc D β0 β A H locs ls →
    W p l e (od_rmz d res.1) s m args below meth c H locs u.1 u.2 (MQ below (od_Pz tc D β0 E0 A res.2) args s res.1.1 res.1.2 A) (F0 m pc ls (st.map (od_enc β)))
theorem od_Wup {p : Program} {l : Launch} {e : Env} {R : Room} {s : State} {m : MethodId} {args : Array Value} {below : List Frame} {meth : Method} {c : Code} {H : Heap} {locs : List Loc} {c1 s1 c2 s2 : Nat} {Q : State → Prop} {f : JFrame} (hc : c1 ≤ c2) (hs : s1 ≤ s2) (k : W p l e R s m args below meth c H locs c2 s2 Q f) : W p l e R s m args below meth c H locs c1 s1 Q f := fun T hT X =>
  k T hT ⟨X.admits, X.cas, X.clock, X.frames, X.room, X.hears, X.method, X.code, X.here, X.tail, X.warmed, X.limits, X.bytes, ⟨X.same.1, X.same.2.1, Nat.le_trans X.same.2.2.1 (Nat.add_le_add_left hc _), X.same.2.2.2.1, Nat.le_trans X.same.2.2.2.2.1 hs, X.same.2.2.2.2.2⟩⟩
theorem od_Wroom {p : Program} {l : Launch} {e : Env} {d : Nat} {n n' : Nat × Nat} {s : State} {m : MethodId} {args : Array Value} {below : List Frame} {meth : Method} {c : Code} {H : Heap} {locs : List Loc} {c1 s1 : Nat} {Q Q' : State → Prop} {f : JFrame} (h1 : n'.1 ≤ n.1) (h2 : n'.2 ≤ n.2) (hQ : ∀ t, Q' t → Q t) (k : W p l e (od_rmz d n') s m args below meth c H locs c1 s1 Q' f) : W p l e (od_rmz d n) s m args below meth c H locs c1 s1 Q f := fun T hT X => by
  have hr : s.hasRoom e.platform (od_rmz d n') = true := by
    have h := X.room
    simp only [State.hasRoom, od_rmz, Bool.and_eq_true, decide_eq_true_eq] at h ⊢
    refine ⟨⟨⟨⟨h.1.1.1.1, h.1.1.1.2⟩, ?_⟩, ?_⟩, h.2⟩
    · first | exact Nat.le_trans (Nat.add_le_add_left h1 _) h.1.1.2 | exact decide_eq_true (Nat.le_trans (Nat.add_le_add_left h1 _) (of_decide_eq_true h.1.1.2))
    · first | exact Nat.le_trans (Nat.add_le_add_left h2 _) h.1.2 | exact decide_eq_true (Nat.le_trans (Nat.add_le_add_left h2 _) (of_decide_eq_true h.1.2))
  obtain ⟨t, a, b⟩ := k T hT ⟨X.admits, X.cas, X.clock, X.frames, hr, X.hears, X.method, X.code, X.here, X.tail, X.warmed, X.limits, X.bytes, X.same⟩
  exact ⟨t, a, hQ t b⟩
theorem od_St.to {M : od_M} {Z : od_Zt} {E0 : od_E} {res res' : od_Q} {L : od_L} {st : List od_V} {E : od_E} {g : od_G} {p : Program} {s : State} {m : MethodId} {args : Array Value} {meth : Method} {c : Code} {tc : Nat → ClassId} {D : va_G} {β0 β : Int → Nat} {A : Nat → Prop} {H : Heap} {locs : List Loc} {ls : Array Slot} (S : od_St M Z E0 res L st E g p s m args meth c tc D β0 β A H locs ls) (h : od_le E res'.1) : od_St M Z E0 res' L st E g p s m args meth c tc D β0 β A H locs ls :=
  ⟨S.1, S.2.1, ⟨S.2.2.1.1, h, S.2.2.1.2.2⟩, S.2.2.2⟩
section RowsZ
variable {d : Nat} {M : od_M} {Z : od_Zt} {E0 : od_E} {res : od_Qz} {u : Nat × Nat} {pc : Nat} {L : od_L} {st : List od_V} {E : od_E} {g : od_G}
/-- where the end is known: as before -/
theorem z_sw {E' : od_E} {Q : Option od_V → od_G → Prop} (hle : od_le E E') (hu : (E.1.1 - E0.1.1 ≤ u.1 ∧ E.1.2 - E0.1.2 ≤ u.2) ∧ (u.1 + (E'.1.1 - E.1.1) ≤ res.1.1 ∧ u.2 + (E'.1.2 - E.1.2) ≤ res.1.2)) (h0 : u.1 = E.1.1 - E0.1.1 ∧ u.2 = E.1.2 - E0.1.2) (hq : ∀ r g', Q r g' → res.2 E' r g') (k : od_Rq d M Z E0 (E', Q) pc L st E g) : od_Rz d M Z E0 res u pc L st E g := by
  intro p l e s m args below meth c tc D β0 β A H locs ls S
  have z1 := S.2.2.1.1
  have a1 := z1.1
  have a2 := z1.2
  have b1 := hle.1
  have b2 := hle.2
  have w := k p l e s m args below meth c tc D β0 β A H locs ls (S.to hle)
  rw [← h0.1, ← h0.2] at w
  refine od_Wroom (n' := (E'.1.1 - E0.1.1, E'.1.2 - E0.1.2)) (by show E'.1.1 - E0.1.1 ≤ _; omega) (by show E'.1.2 - E0.1.2 ≤ _; omega) ?_ w
  rintro t ⟨oc, h1, h2, ⟨⟨β', r, g', h3, h4, h5, h6, h7, h8, h9⟩, h10⟩, L', h11, h12⟩
  refine ⟨oc, h1, h2, ⟨⟨E', β', r, g', hq r g' h3, z1.tr hle, h4, h5, h6, h7, h8, h9⟩, h10⟩, L', ⟨h11.1, h11.2.1, ?_⟩, h12⟩
  have y := h11.2.2
  exact ⟨y.1, y.2.1, Nat.le_trans y.2.2.1 (Nat.add_le_add_left (by show E'.1.1 - E0.1.1 ≤ _; omega) _), y.2.2.2.1, Nat.le_trans y.2.2.2.2.1 (by show E'.1.2 - E0.1.2 ≤ _; omega), y.2.2.2.2.2⟩
theorem z_aload_n {i : Fin 4} {x : Int} (hd : decode M.2.2.1 pc = .ok (.aload_n i, 1)) (h : L[(i : Nat)]? = some (some (2, x))) (k : od_Rz d M Z E0 res u (pc + 1) L ((2, x) :: st) E g) : od_Rz d M Z E0 res u pc L st E g := by
  intro p l e s m args below meth c tc D β0 β A H locs ls S
  have h1 := S.hl.2.2 _ _ h
  have h2 := k p l e s m args below meth c tc D β0 β A H locs ls (S.stk (od_okc (S.lok _ (List.mem_of_getElem? h)) S.sok))
  by_cases hx : x = -1
  · subst hx
    rw [od_nul] at h1
    refine lv_aload_nN S.hx S.hb hd rfl h1 ?_
    refine W.eq (g2 := F0 m (pc + 1) ls (((2, -1) :: st).map (od_enc β))) (by rw [List.map_cons, od_nul]) ?_
    exact h2
  · rw [od_ref hx] at h1
    refine lv_aload_n S.hx S.hb hd rfl h1 ?_
    refine W.eq (g2 := F0 m (pc + 1) ls (((2, x) :: st).map (od_enc β))) (by rw [List.map_cons, od_ref hx]) ?_
    exact h2
theorem z_iload_n {i : Fin 4} {x : Int} (hd : decode M.2.2.1 pc = .ok (.iload_n i, 1)) (h : L[(i : Nat)]? = some (some (0, x))) (k : od_Rz d M Z E0 res u (pc + 1) L ((0, x) :: st) E g) : od_Rz d M Z E0 res u pc L st E g := by
  intro p l e s m args below meth c tc D β0 β A H locs ls S
  refine lv_iload_n S.hx S.hb hd rfl (S.hl.2.2 _ _ h) ?_
  exact k p l e s m args below meth c tc D β0 β A H locs ls (S.stk (od_okc (S.lok _ (List.mem_of_getElem? h)) S.sok))
theorem z_iconst {n : Int} (hd : decode M.2.2.1 pc = .ok (.iconst n, 1)) (h : (Int32.ofInt n).toInt = n) (k : od_Rz d M Z E0 res u (pc + 1) L ((0, n) :: st) E g) : od_Rz d M Z E0 res u pc L (st) E g := by
  intro p l e s m args below meth c tc D β0 β A H locs ls S
  refine W.eq (g2 := F0 m pc ls (st.map (od_enc β))) rfl ?_
  refine lv_iconst S.hx S.hb (v := Int32.ofInt n) hd rfl ?_
  exact k p l e s m args below meth c tc D β0 β A H locs ls (S.stk (od_okc (od_lit h) S.sok))
theorem z_bipush {n : Int} (hd : decode M.2.2.1 pc = .ok (.bipush n, 2)) (h : (Int8.ofInt n).toInt32.toInt = n) (k : od_Rz d M Z E0 res u (pc + 2) L ((0, n) :: st) E g) : od_Rz d M Z E0 res u pc L (st) E g := by
  intro p l e s m args below meth c tc D β0 β A H locs ls S
  refine W.eq (g2 := F0 m pc ls (st.map (od_enc β))) rfl ?_
  refine lv_bipush S.hx S.hb (v := Int32.ofInt n) hd (by rw [← Int32.ofInt_toInt (Int8.ofInt n).toInt32, h]) ?_
  exact k p l e s m args below meth c tc D β0 β A H locs ls (S.stk (od_okc (od_litb h) S.sok))
theorem z_iadd {a b : Int} (hd : decode M.2.2.1 pc = .ok (.iadd, 1)) (k : od_Rz d M Z E0 res u (pc + 1) L ((0, (od_w (a + b))) :: st) E g) : od_Rz d M Z E0 res u pc L ((0, b) :: (0, a) :: st) E g := by
  intro p l e s m args below meth c tc D β0 β A H locs ls S
  refine W.eq (g2 := F0 m pc ls (.int (Int32.ofInt b) :: .int (Int32.ofInt a) :: st.map (od_enc β))) rfl ?_
  have o := od_ok2 S.sok
  refine lv_iadd S.hx S.hb hd ?_
  rw [← Int32.ofInt_add, ← od_ofw]
  exact k p l e s m args below meth c tc D β0 β A H locs ls (S.stk (od_okc (od_w_r _) o.2.2))
theorem z_isub {a b : Int} (hd : decode M.2.2.1 pc = .ok (.isub, 1)) (k : od_Rz d M Z E0 res u (pc + 1) L ((0, (od_w (a - b))) :: st) E g) : od_Rz d M Z E0 res u pc L ((0, b) :: (0, a) :: st) E g := by
  intro p l e s m args below meth c tc D β0 β A H locs ls S
  refine W.eq (g2 := F0 m pc ls (.int (Int32.ofInt b) :: .int (Int32.ofInt a) :: st.map (od_enc β))) rfl ?_
  have o := od_ok2 S.sok
  refine lv_isub S.hx S.hb hd ?_
  rw [← Int32.ofInt_sub, ← od_ofw]
  exact k p l e s m args below meth c tc D β0 β A H locs ls (S.stk (od_okc (od_w_r _) o.2.2))
theorem z_iand {a b : Int} (hd : decode M.2.2.1 pc = .ok (.iand, 1)) (k : od_Rz d M Z E0 res u (pc + 1) L ((0, (od_and a b)) :: st) E g) : od_Rz d M Z E0 res u pc L ((0, b) :: (0, a) :: st) E g := by
  intro p l e s m args below meth c tc D β0 β A H locs ls S
  refine W.eq (g2 := F0 m pc ls (.int (Int32.ofInt b) :: .int (Int32.ofInt a) :: st.map (od_enc β))) rfl ?_
  have o := od_ok2 S.sok
  refine lv_iand S.hx S.hb hd ?_
  refine W.eq (g2 := F0 m (pc + 1) ls (.int (Int32.ofInt (od_and a b)) :: st.map (od_enc β))) (by unfold od_and; rw [Int32.ofInt_toInt]) ?_
  exact k p l e s m args below meth c tc D β0 β A H locs ls (S.stk (od_okc (od_it _) o.2.2))
theorem z_iaddE {a b y : Int} (hd : decode M.2.2.1 pc = .ok (.iadd, 1)) (hy : od_w (a + b) = y) (k : od_Rz d M Z E0 res u (pc + 1) L ((0, y) :: st) E g) : od_Rz d M Z E0 res u pc L ((0, b) :: (0, a) :: st) E g := z_iadd hd (by rw [hy]; exact k)
theorem z_isubE {a b y : Int} (hd : decode M.2.2.1 pc = .ok (.isub, 1)) (hy : od_w (a - b) = y) (k : od_Rz d M Z E0 res u (pc + 1) L ((0, y) :: st) E g) : od_Rz d M Z E0 res u pc L ((0, b) :: (0, a) :: st) E g := z_isub hd (by rw [hy]; exact k)
theorem z_icmp_eq {a b : Int} {off : Int} {tgt : Nat} (hd : decode M.2.2.1 pc = .ok (.if_icmp .eq off, 3)) (ht : (pc : Int) + off = (tgt : Int)) (kt : a = b → od_Rz d M Z E0 res u tgt L st E g) (kf : a ≠ b → od_Rz d M Z E0 res u (pc + 3) L st E g) : od_Rz d M Z E0 res u pc L ((0, b) :: (0, a) :: st) E g := by
  intro p l e s m args below meth c tc D β0 β A H locs ls S
  have o : od_r32 b ∧ od_r32 a ∧ ∀ v ∈ st, od_ok E v := od_ok2 S.sok
  refine W.eq (g2 := F0 m pc ls (.int (Int32.ofInt b) :: .int (Int32.ofInt a) :: st.map (od_enc β))) rfl ?_
  refine lv_icmp_eq S.hx S.hb hd ht (fun h => kt ?_ p l e s m args below meth c tc D β0 β A H locs ls (S.stk o.2.2)) (fun h => kf ?_ p l e s m args below meth c tc D β0 β A H locs ls (S.stk o.2.2))
  · exact (od_ieq o.2.1 o.1).mp h
  · exact fun q => h ((od_ieq o.2.1 o.1).mpr q)
theorem z_icmp_gt {a b : Int} {off : Int} {tgt : Nat} (hd : decode M.2.2.1 pc = .ok (.if_icmp .gt off, 3)) (ht : (pc : Int) + off = (tgt : Int)) (kt : b < a → od_Rz d M Z E0 res u tgt L st E g) (kf : a ≤ b → od_Rz d M Z E0 res u (pc + 3) L st E g) : od_Rz d M Z E0 res u pc L ((0, b) :: (0, a) :: st) E g := by
  intro p l e s m args below meth c tc D β0 β A H locs ls S
  have o : od_r32 b ∧ od_r32 a ∧ ∀ v ∈ st, od_ok E v := od_ok2 S.sok
  refine W.eq (g2 := F0 m pc ls (.int (Int32.ofInt b) :: .int (Int32.ofInt a) :: st.map (od_enc β))) rfl ?_
  refine lv_icmp_gt S.hx S.hb hd ht (fun h => kt ?_ p l e s m args below meth c tc D β0 β A H locs ls (S.stk o.2.2)) (fun h => kf ?_ p l e s m args below meth c tc D β0 β A H locs ls (S.stk o.2.2))
  · exact (od_ilt o.1 o.2.1).mp h
  · exact Int.not_lt.mp (fun q => h ((od_ilt o.1 o.2.1).mpr q))
theorem z_icmp_lt {a b : Int} {off : Int} {tgt : Nat} (hd : decode M.2.2.1 pc = .ok (.if_icmp .lt off, 3)) (ht : (pc : Int) + off = (tgt : Int)) (kt : a < b → od_Rz d M Z E0 res u tgt L st E g) (kf : b ≤ a → od_Rz d M Z E0 res u (pc + 3) L st E g) : od_Rz d M Z E0 res u pc L ((0, b) :: (0, a) :: st) E g := by
  intro p l e s m args below meth c tc D β0 β A H locs ls S
  have o : od_r32 b ∧ od_r32 a ∧ ∀ v ∈ st, od_ok E v := od_ok2 S.sok
  refine W.eq (g2 := F0 m pc ls (.int (Int32.ofInt b) :: .int (Int32.ofInt a) :: st.map (od_enc β))) rfl ?_
  refine lv_icmp_lt S.hx S.hb hd ht (fun h => kt ?_ p l e s m args below meth c tc D β0 β A H locs ls (S.stk o.2.2)) (fun h => kf ?_ p l e s m args below meth c tc D β0 β A H locs ls (S.stk o.2.2))
  · exact (od_ilt o.2.1 o.1).mp h
  · exact Int.not_lt.mp (fun q => h ((od_ilt o.2.1 o.1).mpr q))
theorem z_dup {a : od_V} (hd : decode M.2.2.1 pc = .ok (.dup, 1)) (ha : a.1 ≠ 1) (k : od_Rz d M Z E0 res u (pc + 1) L (a :: a :: st) E g) : od_Rz d M Z E0 res u pc L (a :: st) E g := by
  intro p l e s m args below meth c tc D β0 β A H locs ls S
  have o := S.sok
  refine lv_dup S.hx S.hb hd (od_cat1 ha) ?_
  exact k p l e s m args below meth c tc D β0 β A H locs ls (S.stk (fun v hv => o v (by simp only [List.mem_cons] at hv ⊢; grind)))
theorem z_astore_n {i : Fin 4} {x : Int} {L' : od_L} (hd : decode M.2.2.1 pc = .ok (.astore_n i, 1)) (hn : (i : Nat) < M.2.2.2.1) (hL : od_st1 L (i : Nat) (2, x) = L') (k : od_Rz d M Z E0 res u (pc + 1) L' st E g) : od_Rz d M Z E0 res u pc L ((2, x) :: st) E g := by
  intro p l e s m args below meth c tc D β0 β A H locs ls S
  subst hL
  have o := od_ok1 S.sok
  by_cases hx : x = -1
  · subst hx
    refine W.eq (g2 := F0 m pc ls (.null :: st.map (od_enc β))) (by rw [List.map_cons, od_nul]) ?_
    refine lv_astore_nN S.hx S.hb hd rfl (od_lh_has S.hl) hn rfl (fun ls' hl => ?_)
    rw [← od_nul (β := β)] at hl
    exact k p l e s m args below meth c tc D β0 β A H locs ls' (S.loc o.2 (od_st1_ok S.lok o.1) (od_lh_st1 hl))
  · refine W.eq (g2 := F0 m pc ls (.ref (β x) :: st.map (od_enc β))) (by rw [List.map_cons, od_ref hx]) ?_
    refine lv_astore_n S.hx S.hb hd rfl (od_lh_has S.hl) hn rfl (fun ls' hl => ?_)
    rw [← od_ref (β := β) hx] at hl
    exact k p l e s m args below meth c tc D β0 β A H locs ls' (S.loc o.2 (od_st1_ok S.lok o.1) (od_lh_st1 hl))
theorem z_istore_n {i : Fin 4} {x : Int} {L' : od_L} (hd : decode M.2.2.1 pc = .ok (.istore_n i, 1)) (hn : (i : Nat) < M.2.2.2.1) (hL : od_st1 L (i : Nat) (0, x) = L') (k : od_Rz d M Z E0 res u (pc + 1) L' st E g) : od_Rz d M Z E0 res u pc L ((0, x) :: st) E g := by
  intro p l e s m args below meth c tc D β0 β A H locs ls S
  subst hL
  have o := od_ok1 S.sok
  refine lv_istore_n S.hx S.hb hd rfl (od_lh_has S.hl) hn rfl (fun ls' hl => ?_)
  exact k p l e s m args below meth c tc D β0 β A H locs ls' (S.loc o.2 (od_st1_ok S.lok o.1) (od_lh_st1 (v := (0, x)) hl))
theorem z_lcmp {a b : Int} (hd : decode M.2.2.1 pc = .ok (.lcmp, 1)) (k : od_Rz d M Z E0 res u (pc + 1) L ((0, (od_cmp a b)) :: st) E g) : od_Rz d M Z E0 res u pc L ((1, b) :: (1, a) :: st) E g := by
  intro p l e s m args below meth c tc D β0 β A H locs ls S
  refine W.eq (g2 := F0 m pc ls (.long (Int64.ofInt b) :: .long (Int64.ofInt a) :: st.map (od_enc β))) rfl ?_
  have o := od_ok2 S.sok
  refine W.lcmp S.hx S.hb hd ?_
  rw [od_cmp_lg o.2.1 o.1]
  exact k p l e s m args below meth c tc D β0 β A H locs ls (S.stk (od_okc (od_cmp_r a b) o.2.2))
theorem z_lcmp3 {a b : Int} (hd : decode M.2.2.1 pc = .ok (.lcmp, 1)) (k1 : a < b → od_Rz d M Z E0 res u (pc + 1) L ((0, -1) :: st) E g) (k2 : a = b → od_Rz d M Z E0 res u (pc + 1) L ((0, 0) :: st) E g) (k3 : b < a → od_Rz d M Z E0 res u (pc + 1) L ((0, 1) :: st) E g) : od_Rz d M Z E0 res u pc L ((1, b) :: (1, a) :: st) E g := by
  refine z_lcmp hd ?_
  unfold od_cmp
  rcases Int.lt_trichotomy a b with h | h | h
  · rw [if_pos h]; exact k1 h
  · rw [if_neg (by omega), if_pos h]; exact k2 h
  · rw [if_neg (by omega), if_neg (by omega)]; exact k3 h
theorem z_if_eq {a : Int} {off : Int} {tgt : Nat} (hd : decode M.2.2.1 pc = .ok (.ifCond .eq off, 3)) (ht : (pc : Int) + off = (tgt : Int)) (kt : a = 0 → od_Rz d M Z E0 res u tgt L st E g) (kf : a ≠ 0 → od_Rz d M Z E0 res u (pc + 3) L st E g) : od_Rz d M Z E0 res u pc L ((0, a) :: st) E g := by
  intro p l e s m args below meth c tc D β0 β A H locs ls S
  have o1 := od_ok1 S.sok
  have o : od_r32 0 ∧ od_r32 a ∧ ∀ v ∈ st, od_ok E v := ⟨od_r0, o1.1, o1.2⟩
  refine W.eq (g2 := F0 m pc ls (.int (Int32.ofInt a) :: st.map (od_enc β))) rfl ?_
  refine lv_if_eq S.hx S.hb hd ht (fun h => kt ?_ p l e s m args below meth c tc D β0 β A H locs ls (S.stk o.2.2)) (fun h => kf ?_ p l e s m args below meth c tc D β0 β A H locs ls (S.stk o.2.2))
  · exact (od_ieq o.2.1 o.1).mp h
  · exact fun q => h ((od_ieq o.2.1 o.1).mpr q)
theorem z_if_ne {a : Int} {off : Int} {tgt : Nat} (hd : decode M.2.2.1 pc = .ok (.ifCond .ne off, 3)) (ht : (pc : Int) + off = (tgt : Int)) (kt : a ≠ 0 → od_Rz d M Z E0 res u tgt L st E g) (kf : a = 0 → od_Rz d M Z E0 res u (pc + 3) L st E g) : od_Rz d M Z E0 res u pc L ((0, a) :: st) E g := by
  intro p l e s m args below meth c tc D β0 β A H locs ls S
  have o1 := od_ok1 S.sok
  have o : od_r32 0 ∧ od_r32 a ∧ ∀ v ∈ st, od_ok E v := ⟨od_r0, o1.1, o1.2⟩
  refine W.eq (g2 := F0 m pc ls (.int (Int32.ofInt a) :: st.map (od_enc β))) rfl ?_
  refine lv_if_ne S.hx S.hb hd ht (fun h => kt ?_ p l e s m args below meth c tc D β0 β A H locs ls (S.stk o.2.2)) (fun h => kf ?_ p l e s m args below meth c tc D β0 β A H locs ls (S.stk o.2.2))
  · exact fun q => h ((od_ieq o.2.1 o.1).mpr q)
  · exact (od_ieq o.2.1 o.1).mp h
theorem z_iinc {i : Nat} {n x : Int} {L' : od_L} (hd : decode M.2.2.1 pc = .ok (.iinc i n, 3)) (h : L[i]? = some (some (0, x))) (hn : i < M.2.2.2.1) (hL : od_st1 L i (0, od_w (x + n)) = L') (k : od_Rz d M Z E0 res u (pc + 3) L' st E g) : od_Rz d M Z E0 res u pc L st E g := by
  intro p l e s m args below meth c tc D β0 β A H locs ls S
  subst hL
  obtain ⟨q, hq⟩ := List.getElem?_of_mem (od_lv_in (β := β) h)
  refine lv_iinc S.hx S.hb (v := Int32.ofInt (od_w (x + n))) (x := Int32.ofInt x) hd (od_lh_has S.hl) hq (by rw [od_ofw, Int32.ofInt_add]) hn rfl (fun ls' hl => ?_)
  exact k p l e s m args below meth c tc D β0 β A H locs ls' (S.loc S.sok (od_st1_ok S.lok (od_w_r _)) (od_lh_st1 (v := (0, od_w (x + n))) hl))
theorem z_iincE {i : Nat} {n x y : Int} {L' : od_L} (hd : decode M.2.2.1 pc = .ok (.iinc i n, 3)) (h : L[i]? = some (some (0, x))) (hn : i < M.2.2.2.1) (hy : od_w (x + n) = y) (hL : od_st1 L i (0, y) = L') (k : od_Rz d M Z E0 res u (pc + 3) L' st E g) : od_Rz d M Z E0 res u pc L st E g := z_iinc hd h hn (by rw [hy]; exact hL) k
theorem z_goto {off : Int} {tgt : Nat} (hd : decode M.2.2.1 pc = .ok (.goto off, 3)) (ht : (pc : Int) + off = (tgt : Int)) (k : od_Rz d M Z E0 res u tgt L st E g) : od_Rz d M Z E0 res u pc L st E g := by
  intro p l e s m args below meth c tc D β0 β A H locs ls S
  exact lv_goto S.hx S.hb hd ht (k p l e s m args below meth c tc D β0 β A H locs ls S)
theorem z_getR {a x : Int} {i c k : Nat} (hd : decode M.2.2.1 pc = .ok (.getfield i, 3)) (hf : od_FL M.1 i c k) (hc : c < 12 ∧ k < od_N c ∧ od_isr c k = true) (hk : (E.2.1 a).1 = c) (hx : E.2.2 a k = x) (kk : od_Rz d M Z E0 res u (pc + 3) L ((2, x) :: st) E g) : od_Rz d M Z E0 res u pc L ((2, a) :: st) E g := by
  intro p l e s m args below meth c1 tc D β0 β A H locs ls S
  have o := od_ok1 S.sok
  have hv := S.can.1 a (by rw [hk]; omega)
  have hn : a ≠ -1 := by omega
  refine W.eq (g2 := F0 m pc ls (.ref (β a) :: st.map (od_enc β))) (by rw [List.map_cons, od_ref hn]) ?_
  refine va_get (D := D) (ci := c) (C := od_C c) (T := od_T c) (N := od_N c) (v := od_rv β x) S.hx S.hb S.hts (od_hin c hc.1) S.hown S.hK S.hP a.toNat (fs := od_fs β E g c a) ?_ (od_vw c hc.1) k hc.2.1 (S.hts _ hf) (fun _ h9 => h9) ?_ hd ?_
  · rw [od_ws_at hv.1 hv.2, od_cell_o hc.1 hk]
  · rw [od_fs_at hc.2.1, hc.2.2, hx]; rfl
  · exact kk p l e s m args below meth c1 tc D β0 β A H locs ls (S.stk (od_okc (show x < (E.1.1 : Int) from hx ▸ S.can.2.2 a k) o.2))
theorem z_getI {a x : Int} {i c k : Nat} (hd : decode M.2.2.1 pc = .ok (.getfield i, 3)) (hf : od_FL M.1 i c k) (hc : c < 12 ∧ k < od_N c ∧ od_isr c k = false) (hk : (E.2.1 a).1 = c) (hx : g a k = x) (kk : od_Rz d M Z E0 res u (pc + 3) L ((0, x) :: st) E g) : od_Rz d M Z E0 res u pc L ((2, a) :: st) E g := by
  intro p l e s m args below meth c1 tc D β0 β A H locs ls S
  have o := od_ok1 S.sok
  have hv := S.can.1 a (by rw [hk]; omega)
  have hn : a ≠ -1 := by omega
  refine W.eq (g2 := F0 m pc ls (.ref (β a) :: st.map (od_enc β))) (by rw [List.map_cons, od_ref hn]) ?_
  refine va_get (D := D) (ci := c) (C := od_C c) (T := od_T c) (N := od_N c) (v := .int (Int32.ofInt x)) S.hx S.hb S.hts (od_hin c hc.1) S.hown S.hK S.hP a.toNat (fs := od_fs β E g c a) ?_ (od_vw c hc.1) k hc.2.1 (S.hts _ hf) (fun _ h9 => h9) ?_ hd ?_
  · rw [od_ws_at hv.1 hv.2, od_cell_o hc.1 hk]
  · rw [od_fs_at hc.2.1, hc.2.2, hx]; rfl
  · exact kk p l e s m args below meth c1 tc D β0 β A H locs ls (S.stk (od_okc (by have h := S.can.2.1 a k; rw [hk, hx] at h; exact (od_fit_i (by omega)).mp h) o.2))
theorem z_getIj {a x j : Int} {i c k : Nat} (hj : (k : Int) = j) (hd : decode M.2.2.1 pc = .ok (.getfield i, 3)) (hf : od_FL M.1 i c k) (hc : c < 12 ∧ k < od_N c ∧ od_isr c k = false) (hk : (E.2.1 a).1 = c) (hx : g a j = x) (kk : od_Rz d M Z E0 res u (pc + 3) L ((0, x) :: st) E g) : od_Rz d M Z E0 res u pc L ((2, a) :: st) E g := z_getI hd hf hc hk (by rw [hj]; exact hx) kk
theorem z_tabIn {x : Int} {dflt lo hi : Int} {offs : Array Int} {len : Nat} {off : Int} {tgt : Nat} (hd : decode M.2.2.1 pc = .ok (.tableswitch dflt lo hi offs, len)) (h1 : ¬ x < lo) (h2 : ¬ hi < x) (ho : offs[(x - lo).toNat]? = some off) (ht : (pc : Int) + off = (tgt : Int)) (k : od_Rz d M Z E0 res u tgt L st E g) : od_Rz d M Z E0 res u pc L ((0, x) :: st) E g := by
  intro p l e s m args below meth c tc D β0 β A H locs ls S
  have o := od_ok1 S.sok
  have ex : (Int32.ofInt x).toInt = x := od_ti o.1
  refine W.eq (g2 := F0 m pc ls (.int (Int32.ofInt x) :: st.map (od_enc β))) rfl ?_
  exact lv_tableIn S.hx S.hb hd (by rw [ex]; exact h1) (by rw [ex]; exact h2) (by rw [ex]; exact ho) ht (k p l e s m args below meth c tc D β0 β A H locs ls (S.stk o.2))
theorem z_tabOut {x : Int} {dflt lo hi : Int} {offs : Array Int} {len : Nat} {tgt : Nat} (hd : decode M.2.2.1 pc = .ok (.tableswitch dflt lo hi offs, len)) (h : x < lo ∨ hi < x) (ht : (pc : Int) + dflt = (tgt : Int)) (k : od_Rz d M Z E0 res u tgt L st E g) : od_Rz d M Z E0 res u pc L ((0, x) :: st) E g := by
  intro p l e s m args below meth c tc D β0 β A H locs ls S
  have o := od_ok1 S.sok
  have ex : (Int32.ofInt x).toInt = x := od_ti o.1
  refine W.eq (g2 := F0 m pc ls (.int (Int32.ofInt x) :: st.map (od_enc β))) rfl ?_
  exact lv_tableOut S.hx S.hb hd (by rw [ex]; exact h) ht (k p l e s m args below meth c tc D β0 β A H locs ls (S.stk o.2))
theorem z_sw42 {x dflt lo hi : Int} {o0 o1 o2 o3 o4 o5 o6 o7 o8 o9 o10 o11 o12 o13 o14 o15 o16 o17 o18 o19 o20 o21 o22 o23 o24 o25 o26 o27 o28 o29 o30 o31 o32 o33 o34 o35 o36 o37 o38 o39 o40 o41 : Int} {t0 t1 t2 t3 t4 t5 t6 t7 t8 t9 t10 t11 t12 t13 t14 t15 t16 t17 t18 t19 t20 t21 t22 t23 t24 t25 t26 t27 t28 t29 t30 t31 t32 t33 t34 t35 t36 t37 t38 t39 t40 t41 td : Nat} {len : Nat} (hd : decode M.2.2.1 pc = .ok (.tableswitch dflt lo hi #[o0, o1, o2, o3, o4, o5, o6, o7, o8, o9, o10, o11, o12, o13, o14, o15, o16, o17, o18, o19, o20, o21, o22, o23, o24, o25, o26, o27, o28, o29, o30, o31, o32, o33, o34, o35, o36, o37, o38, o39, o40, o41], len)) (hh : hi = lo + 41) (h0 : (pc : Int) + o0 = (t0 : Int)) (h1 : (pc : Int) + o1 = (t1 : Int)) (h2 : (pc : Int) + o2 = (t2 : Int)) (h3 : (pc : Int) + o3 = (t3 : Int)) (h4 : (pc : Int) + o4 = (t4 : Int)) (h5 : (pc : Int) + o5 = (t5 : Int)) (h6 : (pc : Int) + o6 = (t6 : Int)) (h7 : (pc : Int) + o7 = (t7 : Int)) (h8 : (pc : Int) + o8 = (t8 : Int)) (h9 : (pc : Int) + o9 = (t9 : Int)) (h10 : (pc : Int) + o10 = (t10 : Int)) (h11 : (pc : Int) + o11 = (t11 : Int)) (h12 : (pc : Int) + o12 = (t12 : Int)) (h13 : (pc : Int) + o13 = (t13 : Int)) (h14 : (pc : Int) + o14 = (t14 : Int)) (h15 : (pc : Int) + o15 = (t15 : Int)) (h16 : (pc : Int) + o16 = (t16 : Int)) (h17 : (pc : Int) + o17 = (t17 : Int)) (h18 : (pc : Int) + o18 = (t18 : Int)) (h19 : (pc : Int) + o19 = (t19 : Int)) (h20 : (pc : Int) + o20 = (t20 : Int)) (h21 : (pc : Int) + o21 = (t21 : Int)) (h22 : (pc : Int) + o22 = (t22 : Int)) (h23 : (pc : Int) + o23 = (t23 : Int)) (h24 : (pc : Int) + o24 = (t24 : Int)) (h25 : (pc : Int) + o25 = (t25 : Int)) (h26 : (pc : Int) + o26 = (t26 : Int)) (h27 : (pc : Int) + o27 = (t27 : Int)) (h28 : (pc : Int) + o28 = (t28 : Int)) (h29 : (pc : Int) + o29 = (t29 : Int)) (h30 : (pc : Int) + o30 = (t30 : Int)) (h31 : (pc : Int) + o31 = (t31 : Int)) (h32 : (pc : Int) + o32 = (t32 : Int)) (h33 : (pc : Int) + o33 = (t33 : Int)) (h34 : (pc : Int) + o34 = (t34 : Int)) (h35 : (pc : Int) + o35 = (t35 : Int)) (h36 : (pc : Int) + o36 = (t36 : Int)) (h37 : (pc : Int) + o37 = (t37 : Int)) (h38 : (pc : Int) + o38 = (t38 : Int)) (h39 : (pc : Int) + o39 = (t39 : Int)) (h40 : (pc : Int) + o40 = (t40 : Int)) (h41 : (pc : Int) + o41 = (t41 : Int)) (hdf : (pc : Int) + dflt = (td : Int)) (k0 : x = lo + 0 → od_Rz d M Z E0 res u t0 L st E g) (k1 : x = lo + 1 → od_Rz d M Z E0 res u t1 L st E g) (k2 : x = lo + 2 → od_Rz d M Z E0 res u t2 L st E g) (k3 : x = lo + 3 → od_Rz d M Z E0 res u t3 L st E g) (k4 : x = lo + 4 → od_Rz d M Z E0 res u t4 L st E g) (k5 : x = lo + 5 → od_Rz d M Z E0 res u t5 L st E g) (k6 : x = lo + 6 → od_Rz d M Z E0 res u t6 L st E g) (k7 : x = lo + 7 → od_Rz d M Z E0 res u t7 L st E g) (k8 : x = lo + 8 → od_Rz d M Z E0 res u t8 L st E g) (k9 : x = lo + 9 → od_Rz d M Z E0 res u t9 L st E g) (k10 : x = lo + 10 → od_Rz d M Z E0 res u t10 L st E g) (k11 : x = lo + 11 → od_Rz d M Z E0 res u t11 L st E g) (k12 : x = lo + 12 → od_Rz d M Z E0 res u t12 L st E g) (k13 : x = lo + 13 → od_Rz d M Z E0 res u t13 L st E g) (k14 : x = lo + 14 → od_Rz d M Z E0 res u t14 L st E g) (k15 : x = lo + 15 → od_Rz d M Z E0 res u t15 L st E g) (k16 : x = lo + 16 → od_Rz d M Z E0 res u t16 L st E g) (k17 : x = lo + 17 → od_Rz d M Z E0 res u t17 L st E g) (k18 : x = lo + 18 → od_Rz d M Z E0 res u t18 L st E g) (k19 : x = lo + 19 → od_Rz d M Z E0 res u t19 L st E g) (k20 : x = lo + 20 → od_Rz d M Z E0 res u t20 L st E g) (k21 : x = lo + 21 → od_Rz d M Z E0 res u t21 L st E g) (k22 : x = lo + 22 → od_Rz d M Z E0 res u t22 L st E g) (k23 : x = lo + 23 → od_Rz d M Z E0 res u t23 L st E g) (k24 : x = lo + 24 → od_Rz d M Z E0 res u t24 L st E g) (k25 : x = lo + 25 → od_Rz d M Z E0 res u t25 L st E g) (k26 : x = lo + 26 → od_Rz d M Z E0 res u t26 L st E g) (k27 : x = lo + 27 → od_Rz d M Z E0 res u t27 L st E g) (k28 : x = lo + 28 → od_Rz d M Z E0 res u t28 L st E g) (k29 : x = lo + 29 → od_Rz d M Z E0 res u t29 L st E g) (k30 : x = lo + 30 → od_Rz d M Z E0 res u t30 L st E g) (k31 : x = lo + 31 → od_Rz d M Z E0 res u t31 L st E g) (k32 : x = lo + 32 → od_Rz d M Z E0 res u t32 L st E g) (k33 : x = lo + 33 → od_Rz d M Z E0 res u t33 L st E g) (k34 : x = lo + 34 → od_Rz d M Z E0 res u t34 L st E g) (k35 : x = lo + 35 → od_Rz d M Z E0 res u t35 L st E g) (k36 : x = lo + 36 → od_Rz d M Z E0 res u t36 L st E g) (k37 : x = lo + 37 → od_Rz d M Z E0 res u t37 L st E g) (k38 : x = lo + 38 → od_Rz d M Z E0 res u t38 L st E g) (k39 : x = lo + 39 → od_Rz d M Z E0 res u t39 L st E g) (k40 : x = lo + 40 → od_Rz d M Z E0 res u t40 L st E g) (k41 : x = lo + 41 → od_Rz d M Z E0 res u t41 L st E g) (kd : x < lo ∨ hi < x → od_Rz d M Z E0 res u td L st E g) : od_Rz d M Z E0 res u pc L ((0, x) :: st) E g := by
  by_cases h : x < lo ∨ hi < x
  · exact z_tabOut hd h hdf (kd h)
  · rcases (by omega : x = lo + 0 ∨ x = lo + 1 ∨ x = lo + 2 ∨ x = lo + 3 ∨ x = lo + 4 ∨ x = lo + 5 ∨ x = lo + 6 ∨ x = lo + 7 ∨ x = lo + 8 ∨ x = lo + 9 ∨ x = lo + 10 ∨ x = lo + 11 ∨ x = lo + 12 ∨ x = lo + 13 ∨ x = lo + 14 ∨ x = lo + 15 ∨ x = lo + 16 ∨ x = lo + 17 ∨ x = lo + 18 ∨ x = lo + 19 ∨ x = lo + 20 ∨ x = lo + 21 ∨ x = lo + 22 ∨ x = lo + 23 ∨ x = lo + 24 ∨ x = lo + 25 ∨ x = lo + 26 ∨ x = lo + 27 ∨ x = lo + 28 ∨ x = lo + 29 ∨ x = lo + 30 ∨ x = lo + 31 ∨ x = lo + 32 ∨ x = lo + 33 ∨ x = lo + 34 ∨ x = lo + 35 ∨ x = lo + 36 ∨ x = lo + 37 ∨ x = lo + 38 ∨ x = lo + 39 ∨ x = lo + 40 ∨ x = lo + 41) with q | q | q | q | q | q | q | q | q | q | q | q | q | q | q | q | q | q | q | q | q | q | q | q | q | q | q | q | q | q | q | q | q | q | q | q | q | q | q | q | q | q
    · exact z_tabIn (off := o0) hd (by omega) (by omega) (by rw [show (x - lo).toNat = 0 by omega]; rfl) h0 (k0 q)
    · exact z_tabIn (off := o1) hd (by omega) (by omega) (by rw [show (x - lo).toNat = 1 by omega]; rfl) h1 (k1 q)
    · exact z_tabIn (off := o2) hd (by omega) (by omega) (by rw [show (x - lo).toNat = 2 by omega]; rfl) h2 (k2 q)
    · exact z_tabIn (off := o3) hd (by omega) (by omega) (by rw [show (x - lo).toNat = 3 by omega]; rfl) h3 (k3 q)
    · exact z_tabIn (off := o4) hd (by omega) (by omega) (by rw [show (x - lo).toNat = 4 by omega]; rfl) h4 (k4 q)
    · exact z_tabIn (off := o5) hd (by omega) (by omega) (by rw [show (x - lo).toNat = 5 by omega]; rfl) h5 (k5 q)
    · exact z_tabIn (off := o6) hd (by omega) (by omega) (by rw [show (x - lo).toNat = 6 by omega]; rfl) h6 (k6 q)
    · exact z_tabIn (off := o7) hd (by omega) (by omega) (by rw [show (x - lo).toNat = 7 by omega]; rfl) h7 (k7 q)
    · exact z_tabIn (off := o8) hd (by omega) (by omega) (by rw [show (x - lo).toNat = 8 by omega]; rfl) h8 (k8 q)
    · exact z_tabIn (off := o9) hd (by omega) (by omega) (by rw [show (x - lo).toNat = 9 by omega]; rfl) h9 (k9 q)
    · exact z_tabIn (off := o10) hd (by omega) (by omega) (by rw [show (x - lo).toNat = 10 by omega]; rfl) h10 (k10 q)
    · exact z_tabIn (off := o11) hd (by omega) (by omega) (by rw [show (x - lo).toNat = 11 by omega]; rfl) h11 (k11 q)
    · exact z_tabIn (off := o12) hd (by omega) (by omega) (by rw [show (x - lo).toNat = 12 by omega]; rfl) h12 (k12 q)
    · exact z_tabIn (off := o13) hd (by omega) (by omega) (by rw [show (x - lo).toNat = 13 by omega]; rfl) h13 (k13 q)
    · exact z_tabIn (off := o14) hd (by omega) (by omega) (by rw [show (x - lo).toNat = 14 by omega]; rfl) h14 (k14 q)
    · exact z_tabIn (off := o15) hd (by omega) (by omega) (by rw [show (x - lo).toNat = 15 by omega]; rfl) h15 (k15 q)
    · exact z_tabIn (off := o16) hd (by omega) (by omega) (by rw [show (x - lo).toNat = 16 by omega]; rfl) h16 (k16 q)
    · exact z_tabIn (off := o17) hd (by omega) (by omega) (by rw [show (x - lo).toNat = 17 by omega]; rfl) h17 (k17 q)
    · exact z_tabIn (off := o18) hd (by omega) (by omega) (by rw [show (x - lo).toNat = 18 by omega]; rfl) h18 (k18 q)
    · exact z_tabIn (off := o19) hd (by omega) (by omega) (by rw [show (x - lo).toNat = 19 by omega]; rfl) h19 (k19 q)
    · exact z_tabIn (off := o20) hd (by omega) (by omega) (by rw [show (x - lo).toNat = 20 by omega]; rfl) h20 (k20 q)
    · exact z_tabIn (off := o21) hd (by omega) (by omega) (by rw [show (x - lo).toNat = 21 by omega]; rfl) h21 (k21 q)
    · exact z_tabIn (off := o22) hd (by omega) (by omega) (by rw [show (x - lo).toNat = 22 by omega]; rfl) h22 (k22 q)
    · exact z_tabIn (off := o23) hd (by omega) (by omega) (by rw [show (x - lo).toNat = 23 by omega]; rfl) h23 (k23 q)
    · exact z_tabIn (off := o24) hd (by omega) (by omega) (by rw [show (x - lo).toNat = 24 by omega]; rfl) h24 (k24 q)
    · exact z_tabIn (off := o25) hd (by omega) (by omega) (by rw [show (x - lo).toNat = 25 by omega]; rfl) h25 (k25 q)
    · exact z_tabIn (off := o26) hd (by omega) (by omega) (by rw [show (x - lo).toNat = 26 by omega]; rfl) h26 (k26 q)
    · exact z_tabIn (off := o27) hd (by omega) (by omega) (by rw [show (x - lo).toNat = 27 by omega]; rfl) h27 (k27 q)
    · exact z_tabIn (off := o28) hd (by omega) (by omega) (by rw [show (x - lo).toNat = 28 by omega]; rfl) h28 (k28 q)
    · exact z_tabIn (off := o29) hd (by omega) (by omega) (by rw [show (x - lo).toNat = 29 by omega]; rfl) h29 (k29 q)
    · exact z_tabIn (off := o30) hd (by omega) (by omega) (by rw [show (x - lo).toNat = 30 by omega]; rfl) h30 (k30 q)
    · exact z_tabIn (off := o31) hd (by omega) (by omega) (by rw [show (x - lo).toNat = 31 by omega]; rfl) h31 (k31 q)
    · exact z_tabIn (off := o32) hd (by omega) (by omega) (by rw [show (x - lo).toNat = 32 by omega]; rfl) h32 (k32 q)
    · exact z_tabIn (off := o33) hd (by omega) (by omega) (by rw [show (x - lo).toNat = 33 by omega]; rfl) h33 (k33 q)
    · exact z_tabIn (off := o34) hd (by omega) (by omega) (by rw [show (x - lo).toNat = 34 by omega]; rfl) h34 (k34 q)
    · exact z_tabIn (off := o35) hd (by omega) (by omega) (by rw [show (x - lo).toNat = 35 by omega]; rfl) h35 (k35 q)
    · exact z_tabIn (off := o36) hd (by omega) (by omega) (by rw [show (x - lo).toNat = 36 by omega]; rfl) h36 (k36 q)
    · exact z_tabIn (off := o37) hd (by omega) (by omega) (by rw [show (x - lo).toNat = 37 by omega]; rfl) h37 (k37 q)
    · exact z_tabIn (off := o38) hd (by omega) (by omega) (by rw [show (x - lo).toNat = 38 by omega]; rfl) h38 (k38 q)
    · exact z_tabIn (off := o39) hd (by omega) (by omega) (by rw [show (x - lo).toNat = 39 by omega]; rfl) h39 (k39 q)
    · exact z_tabIn (off := o40) hd (by omega) (by omega) (by rw [show (x - lo).toNat = 40 by omega]; rfl) h40 (k40 q)
    · exact z_tabIn (off := o41) hd (by omega) (by omega) (by rw [show (x - lo).toNat = 41 by omega]; rfl) h41 (k41 q)
theorem z_zret {v : Int} (hd : decode M.2.2.1 pc = .ok (.ireturn, 1)) {ty : FieldType} (hty : M.2.2.2.2 = some ty) (hn : narrow ty (.int (Int32.ofInt v)) = .int (Int32.ofInt v)) (hu : u.1 ≤ res.1.1 ∧ u.2 ≤ res.1.2) (hq : res.2 E (some (0, v)) g) : od_Rz d M Z E0 res u pc L [(0, v)] E g := by
  intro p l e s m args below meth c1 tc D β0 β A H locs ls S
  refine od_Wup hu.1 hu.2 ?_
  exact W.zret (v := Int32.ofInt v) S.hx S.hb (by rw [S.hr, hty]) hn (fun t ht hW => ⟨⟨E, β, _, g, hq, S.2.2.1.1, S.2.2.1.2.2.1, rfl, by rw [ht]; exact S.hP, S.hD, S.can, fun w hw => by simp at hw; subst hw; exact S.sok _ (by simp)⟩, S.hS.F ht⟩) S.hS.2.2 hd S.hlk

theorem z_callVq {d' : Nat} {M' : od_M} {as rest : List od_V} {b : Int} {c : Nat} {i n : Nat} {E' : od_E} {Q' : Option od_V → od_G → Prop} (hd : decode M.2.2.1 pc = .ok (.invokevirtual i, 3)) (hw : od_CV M.1 i M' c n) (hk : (E.2.1 b).1 = c) (hc : od_Cq d' M' ((2, b) :: as) E g (E', Q')) (hn : as.length = n) (hdd : d' + 1 ≤ d) (hst : as.reverse ++ (2, b) :: rest = st) (hcat : od_cats rest ≤ 8) (hu : u.1 + (E'.1.1 - E.1.1) ≤ res.1.1 ∧ u.2 + (E'.1.2 - E.1.2) ≤ res.1.2) (kk : ∀ (r : Option od_V) (g' : od_G), Q' r g' → od_Rz d M Z E0 res (u.1 + (E'.1.1 - E.1.1), u.2 + (E'.1.2 - E.1.2)) (pc + 3) L (r.toList ++ rest) E' g') : od_Rz d M Z E0 res u pc L st E g := by
  intro p l e s m args below meth c1 tc D β0 β A H locs ls S
  subst hst
  have hsok := S.sok
  obtain ⟨w1, w2, w3, w4, w5, w6, w7, w8⟩ := hw
  have hv := S.can.1 b (by rw [hk]; omega)
  have hb1 : b ≠ -1 := by omega
  have hrest : ∀ v ∈ rest, od_ok E v := fun v hv => hsok v (by simp [hv])
  have has : ∀ v ∈ ((2, b) :: as : List od_V), od_ok E v := fun v hv => hsok v (by simp only [List.mem_cons, List.mem_append, List.mem_reverse] at hv ⊢; grind)
  have hA1 : ∀ q, va_A (od_ws tc β E g) H.size q → A q := fun q h => h.elim (fun ⟨k, e, hk⟩ => S.hD.2 k _ hk) (fun h => S.hA q (Nat.le_trans S.hS.1 h))
  have hM := hc.2 S.can has l tc D β H.size
  have hle1 : od_le E E' := hc.1
  have z1 := S.2.2.1.1
  have hroom : (od_rm d' E E').frames + 1 ≤ (od_rmz d res.1).frames ∧ 8 + (M'.2.2.2.1 + 11) + (od_rm d' E E').locals ≤ (od_rmz d res.1).locals := by
    show d' + 1 ≤ d ∧ 8 + (M'.2.2.2.1 + 11) + 64 * d' ≤ 64 * d
    omega
  have hfit : u.1 + (E'.1.1 - E.1.1) ≤ (od_rmz d res.1).cells ∧ u.2 + (E'.1.2 - E.1.2) ≤ (od_rmz d res.1).slots := hu
  have hpre : ∀ U : State, U.heap = H → s.WarmedH U.vm → od_Pre tc D β H.size ((2, b) :: as) E g (((2, b) :: as : List od_V).map (od_enc β)).toArray U := fun U hU hW => ⟨rfl, by rw [hU], by rw [hU]; exact S.hP, va_K.moved hW.alike S.hK, S.hD.weaken (fun _ _ _ _ => trivial), S.hE.to S.hS hU hW hA1⟩
  have hmap : (((2, b) :: as).map (od_enc β)) = Value.ref (β b) :: as.map (od_enc β) := by rw [List.map_cons, od_ref hb1]
  rw [hmap] at hpre
  have hstk : (as.reverse ++ (2, b) :: rest).map (od_enc β) = (as.map (od_enc β)).reverse ++ Value.ref (β b) :: rest.map (od_enc β) := by rw [List.map_append, List.map_reverse, List.map_cons, od_ref hb1]
  have hrun := va_runV (e := e) (below := below) (meth := meth) (locs := locs) (As := as.map (od_enc β)) (rest := rest.map (od_enc β)) (g := F0 m pc ls ((as.reverse ++ (2, b) :: rest).map (od_enc β))) (C := od_C c) (n := n) ⟨S.hx, S.hb, S.hml, S.hown, S.hts⟩ hM ⟨callB_of n S.hts (od_good w5) rfl rfl rfl (S.hts _ w4) (S.hts _ w1) w7 hroom, S.hts _ w2, S.hts _ w3⟩ ⟨od_blind, va_recv S.hK S.hP (ci := c) (q0 := b.toNat) (od_vw c w6) ((od_ws_at hv.1 hv.2).trans (by rw [od_cell_o w6 hk])), hpre⟩ rfl (by rw [List.length_map]; exact hn) S.hl.1 hstk (lv_room (by rw [od_cats_eq]; exact hcat)) hd hfit
  refine od_callW hrun S.hS hA1 (fun β' H1 locs1 r g' hq1 hβ hP1 hD1 hcan1 hok1 hS1 => ?_)
  have h := kk r g' hq1 p l e s m args below meth c1 tc D β0 β' A H1 locs1 ls ((S.to (res' := od_tt E') hle1).call hrest hle1 (show od_le E' (od_tt E').1 from od_le.rf) hβ hP1 hD1 hcan1 hok1 hS1)
  refine W.eq (g2 := F0 m (pc + 3) ls ((r.toList ++ rest).map (od_enc β'))) ?_ h
  rw [List.map_append, od_map_ext hβ hrest]
  cases r <;> rfl
theorem z_callIq {d' : Nat} {M' : od_M} {as rest : List od_V} {b : Int} {i n : Nat} {E' : od_E} {Q' : Option od_V → od_G → Prop} (hd : decode M.2.2.1 pc = .ok (.invokespecial i, 3)) (hw : od_CI M.1 i M' n) (hk : (E.2.1 b).1 < 12) (hc : od_Cq d' M' ((2, b) :: as) E g (E', Q')) (hn : as.length = n) (hdd : d' + 1 ≤ d) (hst : as.reverse ++ (2, b) :: rest = st) (hcat : od_cats rest ≤ 8) (hu : u.1 + (E'.1.1 - E.1.1) ≤ res.1.1 ∧ u.2 + (E'.1.2 - E.1.2) ≤ res.1.2) (kk : ∀ (r : Option od_V) (g' : od_G), Q' r g' → od_Rz d M Z E0 res (u.1 + (E'.1.1 - E.1.1), u.2 + (E'.1.2 - E.1.2)) (pc + 3) L (r.toList ++ rest) E' g') : od_Rz d M Z E0 res u pc L st E g := by
  intro p l e s m args below meth c1 tc D β0 β A H locs ls S
  subst hst
  have hsok := S.sok
  obtain ⟨w1, w2, w3, w0, w4, w5, w7, w8⟩ := hw
  have hv := S.can.1 b (by omega)
  have hb1 : b ≠ -1 := by omega
  have hrest : ∀ v ∈ rest, od_ok E v := fun v hv => hsok v (by simp [hv])
  have has : ∀ v ∈ ((2, b) :: as : List od_V), od_ok E v := fun v hv => hsok v (by simp only [List.mem_cons, List.mem_append, List.mem_reverse] at hv ⊢; grind)
  have hA1 : ∀ q, va_A (od_ws tc β E g) H.size q → A q := fun q h => h.elim (fun ⟨k, e, hk⟩ => S.hD.2 k _ hk) (fun h => S.hA q (Nat.le_trans S.hS.1 h))
  have hM := hc.2 S.can has l tc D β H.size
  have hle1 : od_le E E' := hc.1
  have z1 := S.2.2.1.1
  have hroom : (od_rm d' E E').frames + 1 ≤ (od_rmz d res.1).frames ∧ 8 + (M'.2.2.2.1 + 11) + (od_rm d' E E').locals ≤ (od_rmz d res.1).locals := by
    show d' + 1 ≤ d ∧ 8 + (M'.2.2.2.1 + 11) + 64 * d' ≤ 64 * d
    omega
  have hfit : u.1 + (E'.1.1 - E.1.1) ≤ (od_rmz d res.1).cells ∧ u.2 + (E'.1.2 - E.1.2) ≤ (od_rmz d res.1).slots := hu
  have hpre : ∀ U : State, U.heap = H → s.WarmedH U.vm → od_Pre tc D β H.size ((2, b) :: as) E g (((2, b) :: as : List od_V).map (od_enc β)).toArray U := fun U hU hW => ⟨rfl, by rw [hU], by rw [hU]; exact S.hP, va_K.moved hW.alike S.hK, S.hD.weaken (fun _ _ _ _ => trivial), S.hE.to S.hS hU hW hA1⟩
  have hmap : (((2, b) :: as).map (od_enc β)) = Value.ref (β b) :: as.map (od_enc β) := by rw [List.map_cons, od_ref hb1]
  rw [hmap] at hpre
  have hstk : (as.reverse ++ (2, b) :: rest).map (od_enc β) = (as.map (od_enc β)).reverse ++ Value.ref (β b) :: rest.map (od_enc β) := by rw [List.map_append, List.map_reverse, List.map_cons, od_ref hb1]
  have hrun := va_runI (e := e) (below := below) (meth := meth) (locs := locs) (As := as.map (od_enc β)) (rest := rest.map (od_enc β)) (g := F0 m pc ls ((as.reverse ++ (2, b) :: rest).map (od_enc β))) (n := n) ⟨S.hx, S.hb, S.hml, S.hown, S.hts⟩ hM ⟨w0 ▸ callB_of n S.hts (od_good w5) rfl rfl rfl (S.hts _ w4) (S.hts _ w1) w7 hroom, w3, S.hts _ w2⟩ ⟨od_blind, hpre⟩ rfl (by rw [List.length_map]; exact hn) S.hl.1 hstk (lv_room (by rw [od_cats_eq]; exact hcat)) hd hfit
  refine od_callW hrun S.hS hA1 (fun β' H1 locs1 r g' hq1 hβ hP1 hD1 hcan1 hok1 hS1 => ?_)
  have h := kk r g' hq1 p l e s m args below meth c1 tc D β0 β' A H1 locs1 ls ((S.to (res' := od_tt E') hle1).call hrest hle1 (show od_le E' (od_tt E').1 from od_le.rf) hβ hP1 hD1 hcan1 hok1 hS1)
  refine W.eq (g2 := F0 m (pc + 3) ls ((r.toList ++ rest).map (od_enc β'))) ?_ h
  rw [List.map_append, od_map_ext hβ hrest]
  cases r <;> rfl
end RowsZ
theorem od_callWz {p : Program} {l : Launch} {e : Env} {R : Room} {s : State} {m : MethodId} {args : Array Value} {below : List Frame} {meth : Method} {c : Code} {H : Heap} {locs : List Loc} {cells slots : Nat} {Q : State → Prop} {pc : Nat} {ls : Array Slot} {rest st0 : List Value} {a : Array Value} {A A1 : Nat → Prop} {mc ms : Nat} {tc : Nat → ClassId} {D : va_G} {β : Int → Nat} {E : od_E} {Qz : od_E → Option od_V → od_G → Prop}
    (hr : va_Run p l e R s m args below meth c H locs cells slots mc ms (F0 m pc ls st0) rest (od_Pz tc D β E A1 Qz a) A1) (hS : va_S A s.heap H locs) (hA1 : ∀ q, A1 q → A q)
    (kk : ∀ (E' : od_E) (β' : Int → Nat) (H1 : Heap) (locs1 : List Loc) (r : Option od_V) (g' : od_G), Qz E' r g' → od_le E E' → (∀ a : Int, a < (E.1.1 : Int) → β' a = β a) → va_P D vwCl (od_ws tc β' E' g') H1 → va_D A (od_ws tc β' E' g') → od_can E' g' → (∀ v ∈ r.toList, od_ok E' v) → va_S A s.heap H1 locs1 → W p l e R s m args below meth c H1 locs1 (cells + mc) (slots + ms) Q (F0 m (pc + 3) ls ((r.map (od_enc β')).toList ++ rest))) : W p l e R s m args below meth c H locs cells slots Q (F0 m pc ls st0) := by
  intro T hT X
  obtain ⟨v, st₀, t, T', L, h0, X', hL, e1, e2, ⟨⟨E', β', r, g', hq, hle, hβ, hv, hP, hD, hcan, hok⟩, hz, hk⟩, stp⟩ := hr T hT X
  cases hv
  rw [h0] at hz hk
  obtain ⟨t2, a1, b1⟩ := kk E' β' T'.heap (locs ++ L) r g' hq hle hβ (by rw [e1]; exact hP) (hD.weaken fun _ _ _ h => hA1 _ h) hcan hok
    ⟨Nat.le_trans hS.1 (by rw [e1]; exact hz), fun q h1 h2 => by rw [e1, hk q (Nat.lt_of_lt_of_le h1 hS.1) (fun z => h2 (hA1 q z))]; exact hS.2.1 q h1 h2, fun q hq => by
      rcases List.mem_append.mp hq with h | h
      · exact hS.2.2 q h
      · exact hA1 _ (hL q h)⟩ T' rfl X'
  exact ⟨t2, stp t2 a1, b1⟩
section RowsZ2
variable {d : Nat} {M : od_M} {Z : od_Zt} {E0 : od_E} {res : od_Qz} {u : Nat × Nat} {pc : Nat} {L : od_L} {st : List od_V} {E : od_E} {g : od_G}
theorem z_callVz {d' : Nat} {M' : od_M} {as rest : List od_V} {b : Int} {c : Nat} {i n : Nat} {rz : od_Qz} (hd : decode M.2.2.1 pc = .ok (.invokevirtual i, 3)) (hw : od_CV M.1 i M' c n) (hk : (E.2.1 b).1 = c) (hc : od_Cz d' M' ((2, b) :: as) E g rz) (hn : as.length = n) (hdd : d' + 1 ≤ d) (hst : as.reverse ++ (2, b) :: rest = st) (hcat : od_cats rest ≤ 8) (hu : u.1 + rz.1.1 ≤ res.1.1 ∧ u.2 + rz.1.2 ≤ res.1.2) (kk : ∀ (E' : od_E) (r : Option od_V) (g' : od_G), rz.2 E' r g' → od_le E E' → od_Rz d M Z E0 res (u.1 + rz.1.1, u.2 + rz.1.2) (pc + 3) L (r.toList ++ rest) E' g') : od_Rz d M Z E0 res u pc L st E g := by
  intro p l e s m args below meth c1 tc D β0 β A H locs ls S
  subst hst
  have hsok := S.sok
  obtain ⟨w1, w2, w3, w4, w5, w6, w7, w8⟩ := hw
  have hv := S.can.1 b (by rw [hk]; omega)
  have hb1 : b ≠ -1 := by omega
  have hrest : ∀ v ∈ rest, od_ok E v := fun v hv => hsok v (by simp [hv])
  have has : ∀ v ∈ ((2, b) :: as : List od_V), od_ok E v := fun v hv => hsok v (by simp only [List.mem_cons, List.mem_append, List.mem_reverse] at hv ⊢; grind)
  have hA1 : ∀ q, va_A (od_ws tc β E g) H.size q → A q := fun q h => h.elim (fun ⟨k, e, hk⟩ => S.hD.2 k _ hk) (fun h => S.hA q (Nat.le_trans S.hS.1 h))
  have hM := hc S.can has l tc D β H.size
  have z1 := S.2.2.1.1
  have hroom : (od_rmz d' rz.1).frames + 1 ≤ (od_rmz d res.1).frames ∧ 8 + (M'.2.2.2.1 + 11) + (od_rmz d' rz.1).locals ≤ (od_rmz d res.1).locals := by
    show d' + 1 ≤ d ∧ 8 + (M'.2.2.2.1 + 11) + 64 * d' ≤ 64 * d
    omega
  have hfit : u.1 + rz.1.1 ≤ (od_rmz d res.1).cells ∧ u.2 + rz.1.2 ≤ (od_rmz d res.1).slots := hu
  have hpre : ∀ U : State, U.heap = H → s.WarmedH U.vm → od_Pre tc D β H.size ((2, b) :: as) E g (((2, b) :: as : List od_V).map (od_enc β)).toArray U := fun U hU hW => ⟨rfl, by rw [hU], by rw [hU]; exact S.hP, va_K.moved hW.alike S.hK, S.hD.weaken (fun _ _ _ _ => trivial), S.hE.to S.hS hU hW hA1⟩
  have hmap : (((2, b) :: as).map (od_enc β)) = Value.ref (β b) :: as.map (od_enc β) := by rw [List.map_cons, od_ref hb1]
  rw [hmap] at hpre
  have hstk : (as.reverse ++ (2, b) :: rest).map (od_enc β) = (as.map (od_enc β)).reverse ++ Value.ref (β b) :: rest.map (od_enc β) := by rw [List.map_append, List.map_reverse, List.map_cons, od_ref hb1]
  have hrun := va_runV (e := e) (below := below) (meth := meth) (locs := locs) (As := as.map (od_enc β)) (rest := rest.map (od_enc β)) (g := F0 m pc ls ((as.reverse ++ (2, b) :: rest).map (od_enc β))) (C := od_C c) (n := n) ⟨S.hx, S.hb, S.hml, S.hown, S.hts⟩ hM ⟨callB_of n S.hts (od_good w5) rfl rfl rfl (S.hts _ w4) (S.hts _ w1) w7 hroom, S.hts _ w2, S.hts _ w3⟩ ⟨od_blind, va_recv S.hK S.hP (ci := c) (q0 := b.toNat) (od_vw c w6) ((od_ws_at hv.1 hv.2).trans (by rw [od_cell_o w6 hk])), hpre⟩ rfl (by rw [List.length_map]; exact hn) S.hl.1 hstk (lv_room (by rw [od_cats_eq]; exact hcat)) hd hfit
  refine od_callWz hrun S.hS hA1 (fun E' β' H1 locs1 r g' hq1 hle1 hβ hP1 hD1 hcan1 hok1 hS1 => ?_)
  have h := kk E' r g' hq1 hle1 p l e s m args below meth c1 tc D β0 β' A H1 locs1 ls ((S.to (res' := od_tt E') hle1).call hrest hle1 (show od_le E' (od_tt E').1 from od_le.rf) hβ hP1 hD1 hcan1 hok1 hS1)
  refine W.eq (g2 := F0 m (pc + 3) ls ((r.toList ++ rest).map (od_enc β'))) ?_ h
  rw [List.map_append, od_map_ext hβ hrest]
  cases r <;> rfl
end RowsZ2
/-- a contract at large, by the walk of the method's body -/
theorem od_czI {d : Nat} {M : od_M} {as : List od_V} {E : od_E} {g : od_G} {res : od_Qz} (hpl : plainName M.2.1.cls = true) (hown : M.2.1.cls = M.1) (hlen : (od_ent as).length ≤ M.2.2.2.1) (k : od_Rz d M od_Z0 E res (0, 0) 0 (od_pad M.2.2.2.1 (od_ent as)) [] E g) : od_Cz d M as E g res := by
  intro hcan hok l tc D β sz
  refine Met.ofW (cc := M.2.2.1) (maxL := M.2.2.2.1) (ret := M.2.2.2.2) hpl rfl ?_
  intro p e s m args below meth c s₁ B hml hv
  obtain ⟨rfl, hsz, hP, hK, hD, hE⟩ := hv
  subst hsz
  have hts := atoms_spec (ws := od_words M) B.pre
  have hown1 : s.vm.findClass M.1 = some m.cls := by rw [← hown]; exact findClass_of_methodNamed B.named
  rw [lg_entry_eq]
  have hl := lv_entry (as.map (od_enc β)) (n := M.2.2.2.1) (by rw [od_ent_len]; exact hlen)
  generalize (lg_sl (as.map (od_enc β)) ++ List.replicate (M.2.2.2.1 - (lg_sl (as.map (od_enc β))).length) Slot.unset).toArray = ls at hl ⊢
  refine k p l e s m (as.map (od_enc β)).toArray below meth c tc D β β (va_A (od_ws tc β E g) s.heap.size) s.heap [] ls
    ⟨⟨B.exec, B.bytes, B.returns, hml, hown1, fun w hw => hts w (List.mem_cons_of_mem _ hw), B.notSynchronized, fun hn => (name_of_methodNamed B.named B.method).1.trans hn⟩,
     ⟨hK, hP, hD.self, va_S.rf, fun q h => Or.inr h, hE, trivial, fun _ _ _ _ => trivial⟩,
     ⟨od_le.rf, od_le.rf, fun _ _ => rfl, hcan, fun v hv => by simp at hv, fun v hv => ?_⟩,
     ⟨hl.1, hl.2.1, fun i v hv => ?_⟩⟩
  · rcases List.mem_append.mp hv with hv | hv
    · exact od_ent_ok as hok v hv
    · exact absurd (List.eq_of_mem_replicate hv) (by simp)
  · unfold od_pad at hv
    rw [List.getElem?_append] at hv
    split at hv
    · have h1 := od_ent_in β as 0 i v hv
      rw [Nat.zero_add] at h1
      exact hl.2.2 _ h1
    · rw [List.getElem?_replicate] at hv
      split at hv <;> simp at hv
