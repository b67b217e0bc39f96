/-! THE JUDGEMENT -/
def od_tys (tc : Nat → ClassId) : List (ClassId × FieldType) := [(tc 0, .int), (tc 1, .byte), (tc 2, .boolean), (tc 3, .long), (tc 4, .object RX9), (tc 5, .object RX6)]
def od_le (E E' : od_E) : Prop := E.1.1 ≤ E'.1.1 ∧ E.1.2 ≤ E'.1.2
theorem od_le.rf {E : od_E} : od_le E E := ⟨Nat.le_refl _, Nat.le_refl _⟩
theorem od_le.tr {E E' E'' : od_E} (h : od_le E E') (h' : od_le E' E'') : od_le E E'' := ⟨Nat.le_trans h.1 h'.1, Nat.le_trans h.2 h'.2⟩
def od_rm (d : Nat) (E0 E1 : od_E) : Room := { frames := d, cells := E1.1.1 - E0.1.1, slots := E1.1.2 - E0.1.2, locals := 64 * d }
/-! what was there before: String constants, static rows, words of another sort -/
def od_str : List String := ["sounds drops bars", "pin shift stop pass", "drum long kind beat pins hour mood", "hour done latest loud all at pins", "at", "by", "times", "if", "not", "and", "or"]
def od_six : List Nat := [63, 65, 144, 146, 105, 107, 112, 93, 129, 127, 119]
def od_byt : List (List Int32) := [[115, 111, 117, 110, 100, 115, 32, 100, 114, 111, 112, 115, 32, 98, 97, 114, 115], [112, 105, 110, 32, 115, 104, 105, 102, 116, 32, 115, 116, 111, 112, 32, 112, 97, 115, 115], [100, 114, 117, 109, 32, 108, 111, 110, 103, 32, 107, 105, 110, 100, 32, 98, 101, 97, 116, 32, 112, 105, 110, 115, 32, 104, 111, 117, 114, 32, 109, 111, 111, 100], [104, 111, 117, 114, 32, 100, 111, 110, 101, 32, 108, 97, 116, 101, 115, 116, 32, 108, 111, 117, 100, 32, 97, 108, 108, 32, 97, 116, 32, 112, 105, 110, 115], [97, 116], [98, 121], [116, 105, 109, 101, 115], [105, 102], [110, 111, 116], [97, 110, 100], [111, 114]]
def od_len : List Nat := od_byt.map List.length
def od_nest : List Cond := [.methodLinkNest RX10 11 yX6_init RX10, .methodLinkNest RX10 32 yX2_init RX10, .methodLinkNest RX10 42 yX8_init RX10, .methodLinkNest RX10 58 yX0_init RX10, .methodLinkNest RX0 11 yX7_init RX10]
def od_tm : Nat → Int32 := fun j => ([999, 10, 9] : List Int32).getD j 0
def od_pr : Nat → Int32 := fun j => ([2, 3, 5, 7, 11] : List Int32).getD j 0
def od_Fm (q : Nat) (A : Nat → Prop) (U : State) (H : Heap) : Prop := va_Z RJ3 "SIOOBE_FORMATTER" "Ljava/util/function/BiFunction;" .null A U H ∨ va_Z RJ3 "SIOOBE_FORMATTER" "Ljava/util/function/BiFunction;" (.ref q) A U H
theorem od_Fm.moved {q : Nat} {A : Nat → Prop} {u U : State} {H : Heap} (hvm : u.vm.Alike U.vm) (h : od_Fm q A u H) : od_Fm q A U H := h.elim (fun h => Or.inl (h.moved hvm)) (fun h => Or.inr (h.moved hvm))
theorem od_Fm.kept {q : Nat} {A : Nat → Prop} {U : State} {H H1 : Heap} (h : od_Fm q A U H) (hq : ∀ a : Nat, a < H.size → ¬ A a → H1[a]? = H[a]?) : od_Fm q A U H1 := h.elim (fun h => Or.inl (h.kept hq)) (fun h => Or.inr (h.kept hq))
theorem od_Fm.narrow {q : Nat} {A B : Nat → Prop} {U : State} {H : Heap} (h : od_Fm q A U H) (hAB : ∀ q, B q → A q) : od_Fm q B U H := h.elim (fun h => Or.inl (h.narrow hAB)) (fun h => Or.inr (h.narrow hAB))
def od_Ext (β : Int → Nat) (A : Nat → Prop) (U : State) (H : Heap) : Prop :=
  vk_S 11 od_len od_byt (fun i => β (-10 - (i : Int))) (fun i => β (-30 - (i : Int))) A U H ∧ (∀ i : Nat, i < 11 → vk_R RX3 (od_six.getD i 0) (od_str.getD i "") (β (-10 - (i : Int))) U)
  ∧ va_Z RX10 "TERMS_MOST" "[I" (.ref (β (-60))) A U H ∧ va_T .int (β (-60)) 3 (fun j => .int (od_tm j)) A U H ∧ va_Z RX4 "PRIMES" "[I" (.ref (β (-61))) A U H ∧ va_T .int (β (-61)) 5 (fun j => .int (od_pr j)) A U H
  ∧ va_Z RJ0 "COMPACT_STRINGS" "Z" (.int 1) A U H ∧ od_Fm (β (-62)) A U H ∧ (∀ w ∈ od_nest, va_Nw w U) ∧ va_AO RX9 U ∧ va_AO RX6 U
theorem od_Ext.ext {β β' : Int → Nat} {A : Nat → Prop} {U : State} {H : Heap} (h : od_Ext β A U H) (hb : ∀ a : Int, a < 0 → β' a = β a) : od_Ext β' A U H := by
  have e1 : (fun i : Nat => β' (-10 - (i : Int))) = fun i : Nat => β (-10 - (i : Int)) := funext fun i => hb _ (by omega)
  have e2 : (fun i : Nat => β' (-30 - (i : Int))) = fun i : Nat => β (-30 - (i : Int)) := funext fun i => hb _ (by omega)
  unfold od_Ext at h ⊢
  rw [e1, e2, hb (-60) (by omega), hb (-61) (by omega), hb (-62) (by omega)]
  exact ⟨h.1, fun i hi => by rw [hb _ (by omega)]; exact h.2.1 i hi, h.2.2⟩
theorem od_nest_warm {s U : State} (hW : s.WarmedH U.vm) (h : ∀ w ∈ od_nest, va_Nw w s) : ∀ w ∈ od_nest, va_Nw w U := by
  intro w hw
  have h1 := h w hw
  simp only [od_nest, List.mem_cons, List.not_mem_nil, or_false] at hw
  rcases hw with rfl | rfl | rfl | rfl | rfl <;> exact va_Nw.warmM hW h1
/-- what was there before is there at a callee's start -/
theorem od_Ext.to {β : Int → Nat} {A A1 : Nat → Prop} {s U : State} {H : Heap} {locs : List Loc} (h : od_Ext β A s s.heap) (hS : va_S A s.heap H locs) (hU : U.heap = H) (hW : s.WarmedH U.vm) (hA : ∀ q, A1 q → A q) : od_Ext β A1 U U.heap := by
  obtain ⟨h1, h2, h3, h4, h5, h6, h7, h8, h9, h10, h11⟩ := h
  rw [hU]
  exact ⟨((h1.kept hS.2.1).moved hW.alike).narrow hA, fun i hi => (h2 i hi).warm hW, ((h3.kept hS.2.1).moved hW.alike).narrow hA, ((h4.kept hS.2.1).moved hW.alike).narrow hA, ((h5.kept hS.2.1).moved hW.alike).narrow hA, ((h6.kept hS.2.1).moved hW.alike).narrow hA, ((h7.kept hS.2.1).moved hW.alike).narrow hA, ((h8.kept hS.2.1).moved hW.alike).narrow hA, od_nest_warm hW h9, h10.moved hW.alike, h11.moved hW.alike⟩
theorem od_Ext.calling {β : Int → Nat} {A : Nat → Prop} {U : State} {H : Heap} (h : od_Ext β A U H) (g : JFrame) (mk : MethodId) (a : Array Value) : od_Ext β A (U.calling g mk a) H := by
  obtain ⟨h1, h2, h3, h4, h5, h6, h7, h8, h9, h10, h11⟩ := h
  have hA : U.vm.Alike (U.calling g mk a).vm := Vm.Alike.refl U.vm
  refine ⟨h1.moved hA, fun i hi => vk_R.same rfl (h2 i hi), h3.moved hA, h4.moved hA, h5.moved hA, h6.moved hA, h7.moved hA, h8.moved hA, fun w hw => ?_, h10.moved hA, h11.moved hA⟩
  have h1 := h9 w hw
  simp only [od_nest, List.mem_cons, List.not_mem_nil, or_false] at hw
  rcases hw with rfl | rfl | rfl | rfl | rfl <;> exact va_Nw.same rfl rfl h1
/-- what a method may come to: its cells, and what is asked of the answer and of the numbers behind it -/
abbrev od_Q : Type := od_E × (Option od_V → od_G → Prop)
def od_x (r : od_Rs) : od_Q := (r.2.1, fun v g => v = r.1 ∧ g = r.2.2)
/-- behind a method: the answer, and the world -/
def od_Po (tc : Nat → ClassId) (D : va_G) (β0 : Int → Nat) (n0 : Nat) (A : Nat → Prop) (res : od_Q) : Array Value → State → Outcome → State → Prop := fun _ st oc t =>
  (∃ (β : Int → Nat) (r : Option od_V) (g : od_G), res.2 r g ∧ (∀ a : Int, a < (n0 : Int) → β a = β0 a) ∧ oc = .returned (r.map (od_enc β)) ∧ va_P D vwCl (od_ws tc β res.1 g) t.heap ∧ va_D A (od_ws tc β res.1 g) ∧ od_can res.1 g ∧ ∀ v ∈ r.toList, od_ok res.1 v) ∧ va_F A st t
def od_Pre (tc : Nat → ClassId) (D : va_G) (β : Int → Nat) (sz : Nat) (as : List od_V) (E : od_E) (g : od_G) : Array Value → State → Prop := va_Pc (as.map (od_enc β)) fun U =>
  U.heap.size = sz ∧ va_P D vwCl (od_ws tc β E g) U.heap ∧ va_K D vwCl (od_tys tc) U ∧ va_D (fun _ => True) (od_ws tc β E g) ∧ od_Ext β (va_A (od_ws tc β E g) sz) U U.heap
def od_words (M : od_M) : List Cond := Cond.code M.2.1 M.2.2.1 M.2.2.2.1 M.2.2.2.2 :: lw_good
/-- THE CONTRACT: called with these arguments in this world the method returns, and what is asked holds -/
def od_Cq (d : Nat) (M : od_M) (as : List od_V) (E : od_E) (g : od_G) (res : od_Q) : Prop :=
  od_le E res.1 ∧ (od_can E g → (∀ v ∈ as, od_ok E v) → ∀ (l : Launch) (tc : Nat → ClassId) (D : va_G) (β : Int → Nat) (sz : Nat),
    Met l M.2.1 (od_words M) (od_rm d E res.1) (od_Pre tc D β sz as E g) (od_Po tc D β E.1.1 (va_A (od_ws tc β E g) sz) res) (res.1.1.1 - E.1.1) (res.1.1.2 - E.1.2) (va_A (od_ws tc β E g) sz))
/-- the same, with the answer and the world as such -/
def od_Ct (d : Nat) (M : od_M) (as : List od_V) (E : od_E) (g : od_G) (res : od_Rs) : Prop := od_Cq d M as E g (od_x res)
/-- all that stands while a method runs -/
def od_St (M : od_M) (Z : od_Zt) (E0 : od_E) (res : od_Q) (L : od_L) (st : List od_V) (E : od_E) (g : od_G) (p : Program) (s : State) (m : MethodId) (args : Array Value) (meth : Method) (c : Code) (tc : Nat → ClassId) (D : va_G) (β0 β : Int → Nat) (A : Nat → Prop) (H : Heap) (locs : List Loc) (ls : Array Slot) : Prop :=
  (p.tables.exec = Jvm.exec ∧ c.code = M.2.2.1 ∧ meth.sig.returnType = M.2.2.2.2 ∧ c.maxLocals = M.2.2.2.1 ∧ s.vm.findClass M.1 = some m.cls ∧ (∀ w ∈ lw_good, w.before args s = true) ∧ meth.locks = false ∧ (M.2.1.name = "<init>" → meth.name = "<init>"))
  ∧ (va_K D vwCl (od_tys tc) s ∧ va_P D vwCl (od_ws tc β E g) H ∧ va_D A (od_ws tc β E g) ∧ va_S A s.heap H locs ∧ (∀ q, s.heap.size ≤ q → A q) ∧ od_Ext β A s s.heap ∧ Z β A s ∧ (∀ β1 β2 : Int → Nat, (∀ a : Int, a < 0 → β2 a = β1 a) → Z β1 A s → Z β2 A s))
  ∧ (od_le E0 E ∧ od_le E res.1 ∧ (∀ a : Int, a < (E0.1.1 : Int) → β a = β0 a) ∧ od_can E g ∧ (∀ v ∈ st, od_ok E v) ∧ ∀ v : od_V, some v ∈ L → od_ok E v)
  ∧ od_lh β ls M.2.2.2.1 L
/-- THE JUDGEMENT: from here the method comes to its end with what is asked -/
def od_Rq (d : Nat) (M : od_M) (Z : od_Zt) (E0 : od_E) (res : od_Q) (pc : Nat) (L : od_L) (st : List od_V) (E : od_E) (g : od_G) : Prop :=
  ∀ (p : Program) (l : Launch) (e : Env) (s : State) (m : MethodId) (args : Array Value) (below : List Frame) (meth : Method) (c : Code) (tc : Nat → ClassId) (D : va_G) (β0 β : Int → Nat) (A : Nat → Prop) (H : Heap) (locs : List Loc) (ls : Array Slot),
    od_St M Z E0 res L st E g p s m args meth c tc D β0 β A H locs ls →
    W p l e (od_rm d E0 res.1) s m args below meth c H locs (E.1.1 - E0.1.1) (E.1.2 - E0.1.2) (MQ below (od_Po tc D β0 E0.1.1 A res) args s (res.1.1.1 - E0.1.1) (res.1.1.2 - E0.1.2) A) (F0 m pc ls (st.map (od_enc β)))
abbrev od_R (d : Nat) (M : od_M) (Z : od_Zt) (E0 : od_E) (res : od_Rs) (pc : Nat) (L : od_L) (st : List od_V) (E : od_E) (g : od_G) : Prop := od_Rq d M Z E0 (od_x res) pc L st E g
def od_Z0 : od_Zt := fun _ _ _ => True
section Rows
variable {M : od_M} {Z : od_Zt} {E0 : od_E} {res : od_Q} {L : od_L} {st st' : List od_V} {E : od_E} {g : od_G} {p : Program} {s : State} {m : MethodId} {args : Array Value} {meth : Method} {c : Code} {tc : Nat → ClassId} {D : va_G} {β0 β : Int → Nat} {A : Nat → Prop} {H : Heap} {locs : List Loc} {ls : Array Slot}
theorem od_St.stk (S : od_St M Z E0 res L st E g p s m args meth c tc D β0 β A H locs ls) (h : ∀ v ∈ st', od_ok E v) : od_St M Z E0 res L st' E g p s m args meth c tc D β0 β A H locs ls :=
  ⟨S.1, S.2.1, ⟨S.2.2.1.1, S.2.2.1.2.1, S.2.2.1.2.2.1, S.2.2.1.2.2.2.1, h, S.2.2.1.2.2.2.2.2⟩, S.2.2.2⟩
theorem od_St.loc {L' : od_L} {ls' : Array Slot} (S : od_St M Z E0 res L st E g p s m args meth c tc D β0 β A H locs ls) (h : ∀ v ∈ st', od_ok E v) (hL : ∀ v : od_V, some v ∈ L' → od_ok E v) (hl : od_lh β ls' M.2.2.2.1 L') : od_St M Z E0 res L' st' E g p s m args meth c tc D β0 β A H locs ls' :=
  ⟨S.1, S.2.1, ⟨S.2.2.1.1, S.2.2.1.2.1, S.2.2.1.2.2.1, S.2.2.1.2.2.2.1, h, hL⟩, hl⟩
theorem od_St.sok (S : od_St M Z E0 res L st E g p s m args meth c tc D β0 β A H locs ls) : ∀ v ∈ st, od_ok E v := S.2.2.1.2.2.2.2.1
theorem od_St.lok (S : od_St M Z E0 res L st E g p s m args meth c tc D β0 β A H locs ls) : ∀ v : od_V, some v ∈ L → od_ok E v := S.2.2.1.2.2.2.2.2
theorem od_St.can (S : od_St M Z E0 res L st E g p s m args meth c tc D β0 β A H locs ls) : od_can E g := S.2.2.1.2.2.2.1
theorem od_St.hx (S : od_St M Z E0 res L st E g p s m args meth c tc D β0 β A H locs ls) : p.tables.exec = Jvm.exec := S.1.1
theorem od_St.hb (S : od_St M Z E0 res L st E g p s m args meth c tc D β0 β A H locs ls) : c.code = M.2.2.1 := S.1.2.1
theorem od_St.hr (S : od_St M Z E0 res L st E g p s m args meth c tc D β0 β A H locs ls) : meth.sig.returnType = M.2.2.2.2 := S.1.2.2.1
theorem od_St.hml (S : od_St M Z E0 res L st E g p s m args meth c tc D β0 β A H locs ls) : c.maxLocals = M.2.2.2.1 := S.1.2.2.2.1
theorem od_St.hown (S : od_St M Z E0 res L st E g p s m args meth c tc D β0 β A H locs ls) : s.vm.findClass M.1 = some m.cls := S.1.2.2.2.2.1
theorem od_St.hts (S : od_St M Z E0 res L st E g p s m args meth c tc D β0 β A H locs ls) : ∀ w ∈ lw_good, w.before args s = true := S.1.2.2.2.2.2.1
theorem od_St.hlk (S : od_St M Z E0 res L st E g p s m args meth c tc D β0 β A H locs ls) : meth.locks = false := S.1.2.2.2.2.2.2.1
theorem od_St.hnm (S : od_St M Z E0 res L st E g p s m args meth c tc D β0 β A H locs ls) : M.2.1.name = "<init>" → meth.name = "<init>" := S.1.2.2.2.2.2.2.2
theorem od_St.hK (S : od_St M Z E0 res L st E g p s m args meth c tc D β0 β A H locs ls) : va_K D vwCl (od_tys tc) s := S.2.1.1
theorem od_St.hP (S : od_St M Z E0 res L st E g p s m args meth c tc D β0 β A H locs ls) : va_P D vwCl (od_ws tc β E g) H := S.2.1.2.1
theorem od_St.hD (S : od_St M Z E0 res L st E g p s m args meth c tc D β0 β A H locs ls) : va_D A (od_ws tc β E g) := S.2.1.2.2.1
theorem od_St.hS (S : od_St M Z E0 res L st E g p s m args meth c tc D β0 β A H locs ls) : va_S A s.heap H locs := S.2.1.2.2.2.1
theorem od_St.hA (S : od_St M Z E0 res L st E g p s m args meth c tc D β0 β A H locs ls) : ∀ q, s.heap.size ≤ q → A q := S.2.1.2.2.2.2.1
theorem od_St.hE (S : od_St M Z E0 res L st E g p s m args meth c tc D β0 β A H locs ls) : od_Ext β A s s.heap := S.2.1.2.2.2.2.2.1
theorem od_St.hl (S : od_St M Z E0 res L st E g p s m args meth c tc D β0 β A H locs ls) : od_lh β ls M.2.2.2.1 L := S.2.2.2
theorem od_ok2 {a b : od_V} (h : ∀ v ∈ a :: b :: st, od_ok E v) : od_ok E a ∧ od_ok E b ∧ ∀ v ∈ st, od_ok E v := ⟨h a (by simp), h b (by simp), fun v hv => h v (by simp [hv])⟩
theorem od_ok1 {a : od_V} (h : ∀ v ∈ a :: st, od_ok E v) : od_ok E a ∧ ∀ v ∈ st, od_ok E v := ⟨h a (by simp), fun v hv => h v (by simp [hv])⟩
theorem od_okc {a : od_V} (h : od_ok E a) (h2 : ∀ v ∈ st, od_ok E v) : ∀ v ∈ a :: st, od_ok E v := fun v hv => by
  rcases List.mem_cons.mp hv with rfl | hv
  · exact h
  · exact h2 v hv
/-- the world behind a write of ours -/
theorem od_St.wr {g' : od_G} {H' : Heap} {locs' : List Loc} (S : od_St M Z E0 res L st E g p s m args meth c tc D β0 β A H locs ls) (h : ∀ v ∈ st', od_ok E v) (hcan : od_can E g') (hP : va_P D vwCl (od_ws tc β E g') H') (hD : va_D A (od_ws tc β E g')) (hS : va_S A s.heap H' locs') : od_St M Z E0 res L st' E g' p s m args meth c tc D β0 β A H' locs' ls :=
  ⟨S.1, ⟨S.2.1.1, hP, hD, hS, S.2.1.2.2.2.2⟩, ⟨S.2.2.1.1, S.2.2.1.2.1, S.2.2.1.2.2.1, hcan, h, S.2.2.1.2.2.2.2.2⟩, S.2.2.2⟩
end Rows
