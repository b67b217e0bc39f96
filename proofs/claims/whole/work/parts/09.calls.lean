def od_ent : List od_V → od_L
  | [] => []
  | v :: t => if v.1 = 1 then some v :: none :: od_ent t else some v :: od_ent t
theorem od_ent_len (β : Int → Nat) (as : List od_V) : (lg_sl (as.map (od_enc β))).length = (od_ent as).length := by
  induction as with
  | nil => rfl
  | cons v t ih =>
    unfold lg_sl at ih ⊢
    rw [List.map_cons, List.flatMap_cons, List.length_append, ih]
    rw [show od_ent (v :: t) = if v.1 = 1 then some v :: none :: od_ent t else some v :: od_ent t from rfl]
    by_cases h : v.1 = 1
    · rw [if_pos h, if_pos (od_cat2 h)]; simp only [List.length_cons, List.length_nil]; omega
    · rw [if_neg h, if_neg (fun q => h ((od_cat β v).mp q))]; simp only [List.length_cons, List.length_nil]; omega
theorem od_ent_in (β : Int → Nat) (as : List od_V) : ∀ (i k : Nat) (v : od_V), (od_ent as)[k]? = some (some v) → (i + k, od_enc β v) ∈ lv_args i (as.map (od_enc β)) := by
  induction as with
  | nil => intro i k v h; simp [od_ent] at h
  | cons w t ih =>
    intro i k v h
    unfold od_ent at h
    rw [List.map_cons]
    unfold lv_args
    by_cases hw : w.1 = 1
    · rw [if_pos hw] at h
      rw [if_pos (od_cat2 hw)]
      match k, h with
      | 0, h => simp at h; subst h; simp
      | 1, h => simp at h
      | k + 2, h =>
        have h1 := ih (i + 2) k v (by simpa using h)
        rw [show i + 2 + k = i + (k + 2) by omega] at h1
        exact List.mem_cons_of_mem _ h1
    · rw [if_neg hw] at h
      rw [if_neg (fun q => hw ((od_cat β w).mp q))]
      match k, h with
      | 0, h => simp at h; subst h; simp
      | k + 1, h =>
        have h1 := ih (i + 1) k v (by simpa using h)
        rw [show i + 1 + k = i + (k + 1) by omega] at h1
        exact List.mem_cons_of_mem _ h1
theorem od_ent_ok {E : od_E} (as : List od_V) (h : ∀ v ∈ as, od_ok E v) : ∀ v : od_V, some v ∈ od_ent as → od_ok E v := by
  induction as with
  | nil => intro v hv; simp [od_ent] at hv
  | cons w t ih =>
    intro v hv
    have h2 := ih (fun v hv => h v (List.mem_cons_of_mem _ hv)) v
    unfold od_ent at hv
    by_cases hw : w.1 = 1
    · rw [if_pos hw] at hv
      simp only [List.mem_cons, reduceCtorEq, false_or, Option.some.injEq] at hv
      rcases hv with rfl | hv
      · exact h _ List.mem_cons_self
      · exact h2 hv
    · rw [if_neg hw] at hv
      simp only [List.mem_cons, Option.some.injEq] at hv
      rcases hv with rfl | hv
      · exact h _ List.mem_cons_self
      · exact h2 hv
def od_pad (n : Nat) (L : od_L) : od_L := L ++ List.replicate (n - L.length) none
/-- a contract, by the walk of the method's body -/
theorem od_cqI {d : Nat} {M : od_M} {as : List od_V} {E : od_E} {g : od_G} {res : od_Q} (hpl : plainName M.2.1.cls = true) (hown : M.2.1.cls = M.1) (hlen : (od_ent as).length ≤ M.2.2.2.1) (hle : od_le E res.1) (k : od_Rq d M od_Z0 E res 0 (od_pad M.2.2.2.1 (od_ent as)) [] E g) : od_Cq d M as E g res := by
  refine ⟨hle, fun hcan hok l tc D β sz => ?_⟩
  refine Met.ofW (cc := M.2.2.1) (maxL := M.2.2.2.1) (ret := M.2.2.2.2) hpl rfl ?_
  intro p e s m args below meth c s₁ B hml hv
  obtain ⟨rfl, hsz, hP, hK, hD, hE⟩ := hv
  subst hsz
  have hts := atoms_spec (ws := od_words M) B.pre
  have hown1 : s.vm.findClass M.1 = some m.cls := by rw [← hown]; exact findClass_of_methodNamed B.named
  rw [lg_entry_eq]
  have hl := lv_entry (as.map (od_enc β)) (n := M.2.2.2.1) (by rw [od_ent_len]; exact hlen)
  generalize (lg_sl (as.map (od_enc β)) ++ List.replicate (M.2.2.2.1 - (lg_sl (as.map (od_enc β))).length) Slot.unset).toArray = ls at hl ⊢
  have h := k p l e s m (as.map (od_enc β)).toArray below meth c tc D β β (va_A (od_ws tc β E g) s.heap.size) s.heap [] ls
    ⟨⟨B.exec, B.bytes, B.returns, hml, hown1, fun w hw => hts w (List.mem_cons_of_mem _ hw), B.notSynchronized, fun hn => (name_of_methodNamed B.named B.method).1.trans hn⟩,
     ⟨hK, hP, hD.self, va_S.rf, fun q h => Or.inr h, hE, trivial, fun _ _ _ _ => trivial⟩,
     ⟨od_le.rf, hle, fun _ _ => rfl, hcan, fun v hv => by simp at hv, fun v hv => ?_⟩,
     ⟨hl.1, hl.2.1, fun i v hv => ?_⟩⟩
  · rw [Nat.sub_self, Nat.sub_self] at h
    exact h
  · rcases List.mem_append.mp hv with hv | hv
    · exact od_ent_ok as hok v hv
    · exact absurd (List.eq_of_mem_replicate hv) (by simp)
  · unfold od_pad at hv
    rw [List.getElem?_append] at hv
    split at hv
    · have h1 := od_ent_in β as 0 i v hv
      rw [Nat.zero_add] at h1
      exact hl.2.2 _ h1
    · rw [List.getElem?_replicate] at hv
      split at hv <;> simp at hv
theorem od_ctI {d : Nat} {M : od_M} {as : List od_V} {E : od_E} {g : od_G} {res : od_Rs} (hpl : plainName M.2.1.cls = true) (hown : M.2.1.cls = M.1) (hlen : (od_ent as).length ≤ M.2.2.2.1) (hle : od_le E res.2.1) (k : od_R d M od_Z0 E res 0 (od_pad M.2.2.2.1 (od_ent as)) [] E g) : od_Ct d M as E g res := od_cqI hpl hown hlen hle k
theorem od_good {M : od_M} (h : od_codeIn M) : GoodIn lw_good (od_words M) := fun w hw => (List.mem_cons.mp hw).elim (fun e => e ▸ ⟨h, good_of_word (lw_gdIn h).2⟩) (fun h2 => ⟨h2, good_of_word (lw_gdIn h2).2⟩)
theorem od_ok_mono {E E' : od_E} (h : E.1.1 ≤ E'.1.1) {v : od_V} (hv : od_ok E v) : od_ok E' v := by
  match v, hv with
  | (0, x), hv => exact hv
  | (1, x), hv => exact hv
  | (n + 2, r), hv =>
    have h1 : r < (E.1.1 : Int) := hv
    show r < (E'.1.1 : Int)
    omega
def od_cats (st : List od_V) : Nat := (st.map fun v => if v.1 = 1 then 2 else 1).sum
theorem od_cats_eq (β : Int → Nat) (st : List od_V) : ((st.map (od_enc β)).map fun v => v.category).sum = od_cats st := by
  unfold od_cats
  rw [List.map_map]
  congr 1
  apply List.map_congr_left
  intro v _
  show (od_enc β v).category = _
  by_cases h : v.1 = 1
  · rw [if_pos h, od_cat2 h]
  · rw [if_neg h, od_cat1 h]
theorem od_blind {tc : Nat → ClassId} {D : va_G} {β : Int → Nat} {sz : Nat} {as : List od_V} {E : od_E} {g : od_G} : FrameBlind (od_Pre tc D β sz as E g) := fun a U g mk q => by
  obtain ⟨q0, q1, q2, q3, q4, q5⟩ := q
  exact ⟨q0, q1, q2, va_K.moved (u := U) (U := U.calling g mk a) (Vm.Alike.refl U.vm) q3, q4, q5.calling g mk a⟩
theorem od_callW {p : Program} {l : Launch} {e : Env} {R : Room} {s : State} {m : MethodId} {args : Array Value} {below : List Frame} {meth : Method} {c : Code} {H : Heap} {locs : List Loc} {cells slots : Nat} {Q : State → Prop} {pc : Nat} {ls : Array Slot} {rest st0 : List Value} {a : Array Value} {A A1 : Nat → Prop} {mc ms n : Nat} {tc : Nat → ClassId} {D : va_G} {β : Int → Nat} {rs : od_Q}
    (hr : va_Run p l e R s m args below meth c H locs cells slots mc ms (F0 m pc ls st0) rest (od_Po tc D β n A1 rs a) A1) (hS : va_S A s.heap H locs) (hA1 : ∀ q, A1 q → A q)
    (kk : ∀ (β' : Int → Nat) (H1 : Heap) (locs1 : List Loc) (r : Option od_V) (g' : od_G), rs.2 r g' → (∀ a : Int, a < (n : Int) → β' a = β a) → va_P D vwCl (od_ws tc β' rs.1 g') H1 → va_D A (od_ws tc β' rs.1 g') → od_can rs.1 g' → (∀ v ∈ r.toList, od_ok rs.1 v) → va_S A s.heap H1 locs1 → W p l e R s m args below meth c H1 locs1 (cells + mc) (slots + ms) Q (F0 m (pc + 3) ls ((r.map (od_enc β')).toList ++ rest))) : W p l e R s m args below meth c H locs cells slots Q (F0 m pc ls st0) := by
  intro T hT X
  obtain ⟨v, st₀, t, T', L, h0, X', hL, e1, e2, ⟨⟨β', r, g', hq, hβ, hv, hP, hD, hcan, hok⟩, hz, hk⟩, stp⟩ := hr T hT X
  cases hv
  rw [h0] at hz hk
  obtain ⟨t2, a1, b1⟩ := kk β' T'.heap (locs ++ L) r g' hq hβ (by rw [e1]; exact hP) (hD.weaken fun _ _ _ h => hA1 _ h) hcan hok
    ⟨Nat.le_trans hS.1 (by rw [e1]; exact hz), fun q h1 h2 => by rw [e1, hk q (Nat.lt_of_lt_of_le h1 hS.1) (fun z => h2 (hA1 q z))]; exact hS.2.1 q h1 h2, fun q hq => by
      rcases List.mem_append.mp hq with h | h
      · exact hS.2.2 q h
      · exact hA1 _ (hL q h)⟩ T' rfl X'
  exact ⟨t2, stp t2 a1, b1⟩
def od_dsc (M : od_M) (n : Nat) : Prop := M.2.1.cls ≠ "java/lang/invoke/MethodHandle" ∧ M.2.1.cls ≠ "java/lang/invoke/VarHandle" ∧ (parseMethodDescriptor M.2.1.desc).map (fun d => d.parameters.length) = some n
/-- an entry of a pool that names a method of class c, called on an object; a static one; a constructor; a nest mate's constructor -/
def od_CV (own : String) (i : Nat) (M : od_M) (c n : Nat) : Prop := Cond.methodLink own i M.2.1 ∈ lw_good ∧ Cond.instanceMethod M.2.1 ∈ lw_good ∧ Cond.selects (od_C c) M.2.1 M.2.1 ∈ lw_good ∧ Cond.initialized M.2.1.cls ∈ lw_good ∧ od_codeIn M ∧ c < 12 ∧ od_dsc M n ∧ M.2.2.2.1 ≤ 40
def od_CS (own : String) (i : Nat) (M : od_M) (n : Nat) : Prop := Cond.methodLink own i M.2.1 ∈ lw_good ∧ Cond.static M.2.1 ∈ lw_good ∧ Cond.initialized M.2.1.cls ∈ lw_good ∧ od_codeIn M ∧ od_dsc M n ∧ M.2.2.2.1 ≤ 40
def od_CI (own : String) (i : Nat) (M : od_M) (n : Nat) : Prop := Cond.methodLink own i M.2.1 ∈ lw_good ∧ Cond.instanceMethod M.2.1 ∈ lw_good ∧ M.2.1.name = "<init>" ∧ M.2.2.2.2 = none ∧ Cond.initialized M.2.1.cls ∈ lw_good ∧ od_codeIn M ∧ od_dsc M n ∧ M.2.2.2.1 ≤ 40
def od_CN (own : String) (i : Nat) (M : od_M) (n : Nat) (host : String) : Prop := Cond.methodLinkNest own i M.2.1 host ∈ od_nest ∧ Cond.instanceMethod M.2.1 ∈ lw_good ∧ M.2.1.name = "<init>" ∧ M.2.2.2.2 = none ∧ Cond.initialized M.2.1.cls ∈ lw_good ∧ od_codeIn M ∧ od_dsc M n ∧ M.2.2.2.1 ≤ 40
section Rows9
variable {d : Nat} {M : od_M} {Z : od_Zt} {E0 : od_E} {res : od_Q} {pc : Nat} {L : od_L} {st : List od_V} {E : od_E} {g : od_G}
theorem od_St.call {rest : List od_V} {r : Option od_V} {E' : od_E} {g' : od_G} {p : Program} {s : State} {m : MethodId} {args : Array Value} {meth : Method} {c : Code} {tc : Nat → ClassId} {D : va_G} {β0 β β' : Int → Nat} {A : Nat → Prop} {H H1 : Heap} {locs locs1 : List Loc} {ls : Array Slot}
    (S : od_St M Z E0 res L st E g p s m args meth c tc D β0 β A H locs ls) (hrest : ∀ v ∈ rest, od_ok E v) (hle1 : od_le E E') (hle : od_le E' res.1) (hβ : ∀ a : Int, a < (E.1.1 : Int) → β' a = β a) (hP : va_P D vwCl (od_ws tc β' E' g') H1) (hD : va_D A (od_ws tc β' E' g')) (hcan : od_can E' g') (hok : ∀ v ∈ r.toList, od_ok E' v) (hS : va_S A s.heap H1 locs1) : od_St M Z E0 res L (r.toList ++ rest) E' g' p s m args meth c tc D β0 β' A H1 locs1 ls := by
  refine ⟨S.1, ⟨S.hK, hP, hD, hS, S.hA, S.hE.ext (fun a ha => hβ a (by omega)), S.2.1.2.2.2.2.2.2.2 β β' (fun a ha => hβ a (by omega)) S.2.1.2.2.2.2.2.2.1, S.2.1.2.2.2.2.2.2.2⟩, ⟨S.2.2.1.1.tr hle1, hle, fun a ha => ?_, hcan, fun v hv => ?_, fun v hv => od_ok_mono hle1.1 (S.lok v hv)⟩, od_lh_ext hβ S.lok S.hl⟩
  · rw [hβ a (by have := S.2.2.1.1.1; omega)]
    exact S.2.2.1.2.2.1 a ha
  · rcases List.mem_append.mp hv with h | h
    · exact hok v h
    · exact od_ok_mono hle1.1 (hrest v h)
theorem r_callVq {d' : Nat} {M' : od_M} {as rest : List od_V} {b : Int} {c : Nat} {i n : Nat} {E' : od_E} {Q' : Option od_V → od_G → Prop} (hd : decode M.2.2.1 pc = .ok (.invokevirtual i, 3)) (hw : od_CV M.1 i M' c n) (hk : (E.2.1 b).1 = c) (hc : od_Cq d' M' ((2, b) :: as) E g (E', Q')) (hn : as.length = n) (hdd : d' + 1 ≤ d) (hst : as.reverse ++ (2, b) :: rest = st) (hcat : od_cats rest ≤ 8) (hle : od_le E' res.1) (kk : ∀ (r : Option od_V) (g' : od_G), Q' r g' → od_Rq d M Z E0 res (pc + 3) L (r.toList ++ rest) E' g') : od_Rq d M Z E0 res pc L st E g := by
  intro p l e s m args below meth c1 tc D β0 β A H locs ls S
  subst hst
  have hsok := S.sok
  obtain ⟨w1, w2, w3, w4, w5, w6, w7, w8⟩ := hw
  have hv := S.can.1 b (by rw [hk]; omega)
  have hb1 : b ≠ -1 := by omega
  have hrest : ∀ v ∈ rest, od_ok E v := fun v hv => hsok v (by simp [hv])
  have has : ∀ v ∈ ((2, b) :: as : List od_V), od_ok E v := fun v hv => hsok v (by simp only [List.mem_cons, List.mem_append, List.mem_reverse] at hv ⊢; grind)
  have hA1 : ∀ q, va_A (od_ws tc β E g) H.size q → A q := fun q h => h.elim (fun ⟨k, e, hk⟩ => S.hD.2 k _ hk) (fun h => S.hA q (Nat.le_trans S.hS.1 h))
  have hM := hc.2 S.can has l tc D β H.size
  have hle1 : od_le E E' := hc.1
  have z1 := S.2.2.1.1
  have hroom : (od_rm d' E E').frames + 1 ≤ (od_rm d E0 res.1).frames ∧ 8 + (M'.2.2.2.1 + 11) + (od_rm d' E E').locals ≤ (od_rm d E0 res.1).locals := by
    show d' + 1 ≤ d ∧ 8 + (M'.2.2.2.1 + 11) + 64 * d' ≤ 64 * d
    omega
  have hcs : (E.1.1 - E0.1.1) + (E'.1.1 - E.1.1) = E'.1.1 - E0.1.1 ∧ (E.1.2 - E0.1.2) + (E'.1.2 - E.1.2) = E'.1.2 - E0.1.2 := by
    have := z1.1; have := z1.2; have := hle1.1; have := hle1.2
    omega
  have hfit : (E.1.1 - E0.1.1) + (E'.1.1 - E.1.1) ≤ (od_rm d E0 res.1).cells ∧ (E.1.2 - E0.1.2) + (E'.1.2 - E.1.2) ≤ (od_rm d E0 res.1).slots := by
    have := hle.1; have := hle.2
    show _ ≤ res.1.1.1 - E0.1.1 ∧ _ ≤ res.1.1.2 - E0.1.2
    omega
  have hpre : ∀ U : State, U.heap = H → s.WarmedH U.vm → od_Pre tc D β H.size ((2, b) :: as) E g (((2, b) :: as : List od_V).map (od_enc β)).toArray U := fun U hU hW => ⟨rfl, by rw [hU], by rw [hU]; exact S.hP, va_K.moved hW.alike S.hK, S.hD.weaken (fun _ _ _ _ => trivial), S.hE.to S.hS hU hW hA1⟩
  have hmap : (((2, b) :: as).map (od_enc β)) = Value.ref (β b) :: as.map (od_enc β) := by rw [List.map_cons, od_ref hb1]
  rw [hmap] at hpre
  have hstk : (as.reverse ++ (2, b) :: rest).map (od_enc β) = (as.map (od_enc β)).reverse ++ Value.ref (β b) :: rest.map (od_enc β) := by rw [List.map_append, List.map_reverse, List.map_cons, od_ref hb1]
  have hrun := va_runV (e := e) (below := below) (meth := meth) (locs := locs) (As := as.map (od_enc β)) (rest := rest.map (od_enc β)) (g := F0 m pc ls ((as.reverse ++ (2, b) :: rest).map (od_enc β))) (C := od_C c) (n := n) ⟨S.hx, S.hb, S.hml, S.hown, S.hts⟩ hM ⟨callB_of n S.hts (od_good w5) rfl rfl rfl (S.hts _ w4) (S.hts _ w1) w7 hroom, S.hts _ w2, S.hts _ w3⟩ ⟨od_blind, va_recv S.hK S.hP (ci := c) (q0 := b.toNat) (od_vw c w6) ((od_ws_at hv.1 hv.2).trans (by rw [od_cell_o w6 hk])), hpre⟩ rfl (by rw [List.length_map]; exact hn) S.hl.1 hstk (lv_room (by rw [od_cats_eq]; exact hcat)) hd hfit
  refine od_callW hrun S.hS hA1 (fun β' H1 locs1 r g' hq1 hβ hP1 hD1 hcan1 hok1 hS1 => ?_)
  have h := kk r g' hq1 p l e s m args below meth c1 tc D β0 β' A H1 locs1 ls (S.call hrest hle1 hle hβ hP1 hD1 hcan1 hok1 hS1)
  rw [hcs.1, hcs.2]
  refine W.eq (g2 := F0 m (pc + 3) ls ((r.toList ++ rest).map (od_enc β'))) ?_ h
  rw [List.map_append, od_map_ext hβ hrest]
  cases r <;> rfl
theorem r_callV {d' : Nat} {M' : od_M} {as rest : List od_V} {b : Int} {c : Nat} {i n : Nat} {r : Option od_V} {E' : od_E} {g' : od_G} (hd : decode M.2.2.1 pc = .ok (.invokevirtual i, 3)) (hw : od_CV M.1 i M' c n) (hk : (E.2.1 b).1 = c) (hc : od_Ct d' M' ((2, b) :: as) E g (r, E', g')) (hn : as.length = n) (hdd : d' + 1 ≤ d) (hst : as.reverse ++ (2, b) :: rest = st) (hcat : od_cats rest ≤ 8) (hle : od_le E' res.1) (kk : od_Rq d M Z E0 res (pc + 3) L (r.toList ++ rest) E' g') : od_Rq d M Z E0 res pc L st E g := r_callVq hd hw hk hc hn hdd hst hcat hle (fun r1 g1 h => by obtain ⟨rfl, rfl⟩ := h; exact kk)
theorem r_callSq {d' : Nat} {M' : od_M} {as rest : List od_V} {i n : Nat} {E' : od_E} {Q' : Option od_V → od_G → Prop} (hd : decode M.2.2.1 pc = .ok (.invokestatic i, 3)) (hw : od_CS M.1 i M' n) (hc : od_Cq d' M' (as) E g (E', Q')) (hn : as.length = n) (hdd : d' + 1 ≤ d) (hst : as.reverse ++ rest = st) (hcat : od_cats rest ≤ 8) (hle : od_le E' res.1) (kk : ∀ (r : Option od_V) (g' : od_G), Q' r g' → od_Rq d M Z E0 res (pc + 3) L (r.toList ++ rest) E' g') : od_Rq d M Z E0 res pc L st E g := by
  intro p l e s m args below meth c1 tc D β0 β A H locs ls S
  subst hst
  have hsok := S.sok
  obtain ⟨w1, w2, w4, w5, w7, w8⟩ := hw
  have hrest : ∀ v ∈ rest, od_ok E v := fun v hv => hsok v (by simp [hv])
  have has : ∀ v ∈ (as : List od_V), od_ok E v := fun v hv => hsok v (by simp only [List.mem_cons, List.mem_append, List.mem_reverse] at hv ⊢; grind)
  have hA1 : ∀ q, va_A (od_ws tc β E g) H.size q → A q := fun q h => h.elim (fun ⟨k, e, hk⟩ => S.hD.2 k _ hk) (fun h => S.hA q (Nat.le_trans S.hS.1 h))
  have hM := hc.2 S.can has l tc D β H.size
  have hle1 : od_le E E' := hc.1
  have z1 := S.2.2.1.1
  have hroom : (od_rm d' E E').frames + 1 ≤ (od_rm d E0 res.1).frames ∧ 8 + (M'.2.2.2.1 + 11) + (od_rm d' E E').locals ≤ (od_rm d E0 res.1).locals := by
    show d' + 1 ≤ d ∧ 8 + (M'.2.2.2.1 + 11) + 64 * d' ≤ 64 * d
    omega
  have hcs : (E.1.1 - E0.1.1) + (E'.1.1 - E.1.1) = E'.1.1 - E0.1.1 ∧ (E.1.2 - E0.1.2) + (E'.1.2 - E.1.2) = E'.1.2 - E0.1.2 := by
    have := z1.1; have := z1.2; have := hle1.1; have := hle1.2
    omega
  have hfit : (E.1.1 - E0.1.1) + (E'.1.1 - E.1.1) ≤ (od_rm d E0 res.1).cells ∧ (E.1.2 - E0.1.2) + (E'.1.2 - E.1.2) ≤ (od_rm d E0 res.1).slots := by
    have := hle.1; have := hle.2
    show _ ≤ res.1.1.1 - E0.1.1 ∧ _ ≤ res.1.1.2 - E0.1.2
    omega
  have hpre : ∀ U : State, U.heap = H → s.WarmedH U.vm → od_Pre tc D β H.size (as) E g ((as : List od_V).map (od_enc β)).toArray U := fun U hU hW => ⟨rfl, by rw [hU], by rw [hU]; exact S.hP, va_K.moved hW.alike S.hK, S.hD.weaken (fun _ _ _ _ => trivial), S.hE.to S.hS hU hW hA1⟩
  have hstk : (as.reverse ++ rest).map (od_enc β) = (as.map (od_enc β)).reverse ++ rest.map (od_enc β) := by rw [List.map_append, List.map_reverse]
  have hrun := va_runS (e := e) (below := below) (meth := meth) (locs := locs) (As := as.map (od_enc β)) (rest := rest.map (od_enc β)) (g := F0 m pc ls ((as.reverse ++ rest).map (od_enc β))) (n := n) ⟨S.hx, S.hb, S.hml, S.hown, S.hts⟩ hM ⟨callB_of n S.hts (od_good w5) rfl rfl rfl (S.hts _ w4) (S.hts _ w1) w7 hroom, S.hts _ w2⟩ ⟨od_blind, hpre⟩ rfl (by rw [List.length_map]; exact hn) S.hl.1 hstk (lv_room (by rw [od_cats_eq]; exact hcat)) hd hfit
  refine od_callW hrun S.hS hA1 (fun β' H1 locs1 r g' hq1 hβ hP1 hD1 hcan1 hok1 hS1 => ?_)
  have h := kk r g' hq1 p l e s m args below meth c1 tc D β0 β' A H1 locs1 ls (S.call hrest hle1 hle hβ hP1 hD1 hcan1 hok1 hS1)
  rw [hcs.1, hcs.2]
  refine W.eq (g2 := F0 m (pc + 3) ls ((r.toList ++ rest).map (od_enc β'))) ?_ h
  rw [List.map_append, od_map_ext hβ hrest]
  cases r <;> rfl
theorem r_callS {d' : Nat} {M' : od_M} {as rest : List od_V} {i n : Nat} {r : Option od_V} {E' : od_E} {g' : od_G} (hd : decode M.2.2.1 pc = .ok (.invokestatic i, 3)) (hw : od_CS M.1 i M' n) (hc : od_Ct d' M' (as) E g (r, E', g')) (hn : as.length = n) (hdd : d' + 1 ≤ d) (hst : as.reverse ++ rest = st) (hcat : od_cats rest ≤ 8) (hle : od_le E' res.1) (kk : od_Rq d M Z E0 res (pc + 3) L (r.toList ++ rest) E' g') : od_Rq d M Z E0 res pc L st E g := r_callSq hd hw hc hn hdd hst hcat hle (fun r1 g1 h => by obtain ⟨rfl, rfl⟩ := h; exact kk)
theorem r_callIq {d' : Nat} {M' : od_M} {as rest : List od_V} {b : Int} {i n : Nat} {E' : od_E} {Q' : Option od_V → od_G → Prop} (hd : decode M.2.2.1 pc = .ok (.invokespecial i, 3)) (hw : od_CI M.1 i M' n) (hk : (E.2.1 b).1 < 12) (hc : od_Cq d' M' ((2, b) :: as) E g (E', Q')) (hn : as.length = n) (hdd : d' + 1 ≤ d) (hst : as.reverse ++ (2, b) :: rest = st) (hcat : od_cats rest ≤ 8) (hle : od_le E' res.1) (kk : ∀ (r : Option od_V) (g' : od_G), Q' r g' → od_Rq d M Z E0 res (pc + 3) L (r.toList ++ rest) E' g') : od_Rq d M Z E0 res pc L st E g := by
  intro p l e s m args below meth c1 tc D β0 β A H locs ls S
  subst hst
  have hsok := S.sok
  obtain ⟨w1, w2, w3, w0, w4, w5, w7, w8⟩ := hw
  have hv := S.can.1 b (by omega)
  have hb1 : b ≠ -1 := by omega
  have hrest : ∀ v ∈ rest, od_ok E v := fun v hv => hsok v (by simp [hv])
  have has : ∀ v ∈ ((2, b) :: as : List od_V), od_ok E v := fun v hv => hsok v (by simp only [List.mem_cons, List.mem_append, List.mem_reverse] at hv ⊢; grind)
  have hA1 : ∀ q, va_A (od_ws tc β E g) H.size q → A q := fun q h => h.elim (fun ⟨k, e, hk⟩ => S.hD.2 k _ hk) (fun h => S.hA q (Nat.le_trans S.hS.1 h))
  have hM := hc.2 S.can has l tc D β H.size
  have hle1 : od_le E E' := hc.1
  have z1 := S.2.2.1.1
  have hroom : (od_rm d' E E').frames + 1 ≤ (od_rm d E0 res.1).frames ∧ 8 + (M'.2.2.2.1 + 11) + (od_rm d' E E').locals ≤ (od_rm d E0 res.1).locals := by
    show d' + 1 ≤ d ∧ 8 + (M'.2.2.2.1 + 11) + 64 * d' ≤ 64 * d
    omega
  have hcs : (E.1.1 - E0.1.1) + (E'.1.1 - E.1.1) = E'.1.1 - E0.1.1 ∧ (E.1.2 - E0.1.2) + (E'.1.2 - E.1.2) = E'.1.2 - E0.1.2 := by
    have := z1.1; have := z1.2; have := hle1.1; have := hle1.2
    omega
  have hfit : (E.1.1 - E0.1.1) + (E'.1.1 - E.1.1) ≤ (od_rm d E0 res.1).cells ∧ (E.1.2 - E0.1.2) + (E'.1.2 - E.1.2) ≤ (od_rm d E0 res.1).slots := by
    have := hle.1; have := hle.2
    show _ ≤ res.1.1.1 - E0.1.1 ∧ _ ≤ res.1.1.2 - E0.1.2
    omega
  have hpre : ∀ U : State, U.heap = H → s.WarmedH U.vm → od_Pre tc D β H.size ((2, b) :: as) E g (((2, b) :: as : List od_V).map (od_enc β)).toArray U := fun U hU hW => ⟨rfl, by rw [hU], by rw [hU]; exact S.hP, va_K.moved hW.alike S.hK, S.hD.weaken (fun _ _ _ _ => trivial), S.hE.to S.hS hU hW hA1⟩
  have hmap : (((2, b) :: as).map (od_enc β)) = Value.ref (β b) :: as.map (od_enc β) := by rw [List.map_cons, od_ref hb1]
  rw [hmap] at hpre
  have hstk : (as.reverse ++ (2, b) :: rest).map (od_enc β) = (as.map (od_enc β)).reverse ++ Value.ref (β b) :: rest.map (od_enc β) := by rw [List.map_append, List.map_reverse, List.map_cons, od_ref hb1]
  have hrun := va_runI (e := e) (below := below) (meth := meth) (locs := locs) (As := as.map (od_enc β)) (rest := rest.map (od_enc β)) (g := F0 m pc ls ((as.reverse ++ (2, b) :: rest).map (od_enc β))) (n := n) ⟨S.hx, S.hb, S.hml, S.hown, S.hts⟩ hM ⟨w0 ▸ callB_of n S.hts (od_good w5) rfl rfl rfl (S.hts _ w4) (S.hts _ w1) w7 hroom, w3, S.hts _ w2⟩ ⟨od_blind, hpre⟩ rfl (by rw [List.length_map]; exact hn) S.hl.1 hstk (lv_room (by rw [od_cats_eq]; exact hcat)) hd hfit
  refine od_callW hrun S.hS hA1 (fun β' H1 locs1 r g' hq1 hβ hP1 hD1 hcan1 hok1 hS1 => ?_)
  have h := kk r g' hq1 p l e s m args below meth c1 tc D β0 β' A H1 locs1 ls (S.call hrest hle1 hle hβ hP1 hD1 hcan1 hok1 hS1)
  rw [hcs.1, hcs.2]
  refine W.eq (g2 := F0 m (pc + 3) ls ((r.toList ++ rest).map (od_enc β'))) ?_ h
  rw [List.map_append, od_map_ext hβ hrest]
  cases r <;> rfl
theorem r_callI {d' : Nat} {M' : od_M} {as rest : List od_V} {b : Int} {i n : Nat} {r : Option od_V} {E' : od_E} {g' : od_G} (hd : decode M.2.2.1 pc = .ok (.invokespecial i, 3)) (hw : od_CI M.1 i M' n) (hk : (E.2.1 b).1 < 12) (hc : od_Ct d' M' ((2, b) :: as) E g (r, E', g')) (hn : as.length = n) (hdd : d' + 1 ≤ d) (hst : as.reverse ++ (2, b) :: rest = st) (hcat : od_cats rest ≤ 8) (hle : od_le E' res.1) (kk : od_Rq d M Z E0 res (pc + 3) L (r.toList ++ rest) E' g') : od_Rq d M Z E0 res pc L st E g := r_callIq hd hw hk hc hn hdd hst hcat hle (fun r1 g1 h => by obtain ⟨rfl, rfl⟩ := h; exact kk)
theorem r_callNq {d' : Nat} {M' : od_M} {as rest : List od_V} {b : Int} {host : String} {i n : Nat} {E' : od_E} {Q' : Option od_V → od_G → Prop} (hd : decode M.2.2.1 pc = .ok (.invokespecial i, 3)) (hw : od_CN M.1 i M' n host) (hk : (E.2.1 b).1 < 12) (hc : od_Cq d' M' ((2, b) :: as) E g (E', Q')) (hn : as.length = n) (hdd : d' + 1 ≤ d) (hst : as.reverse ++ (2, b) :: rest = st) (hcat : od_cats rest ≤ 8) (hle : od_le E' res.1) (kk : ∀ (r : Option od_V) (g' : od_G), Q' r g' → od_Rq d M Z E0 res (pc + 3) L (r.toList ++ rest) E' g') : od_Rq d M Z E0 res pc L st E g := by
  intro p l e s m args below meth c1 tc D β0 β A H locs ls S
  subst hst
  have hsok := S.sok
  obtain ⟨w1, w2, w3, w0, w4, w5, w7, w8⟩ := hw
  have hv := S.can.1 b (by omega)
  have hb1 : b ≠ -1 := by omega
  have hrest : ∀ v ∈ rest, od_ok E v := fun v hv => hsok v (by simp [hv])
  have has : ∀ v ∈ ((2, b) :: as : List od_V), od_ok E v := fun v hv => hsok v (by simp only [List.mem_cons, List.mem_append, List.mem_reverse] at hv ⊢; grind)
  have hA1 : ∀ q, va_A (od_ws tc β E g) H.size q → A q := fun q h => h.elim (fun ⟨k, e, hk⟩ => S.hD.2 k _ hk) (fun h => S.hA q (Nat.le_trans S.hS.1 h))
  have hM := hc.2 S.can has l tc D β H.size
  have hle1 : od_le E E' := hc.1
  have z1 := S.2.2.1.1
  have hroom : (od_rm d' E E').frames + 1 ≤ (od_rm d E0 res.1).frames ∧ 8 + (M'.2.2.2.1 + 11) + (od_rm d' E E').locals ≤ (od_rm d E0 res.1).locals := by
    show d' + 1 ≤ d ∧ 8 + (M'.2.2.2.1 + 11) + 64 * d' ≤ 64 * d
    omega
  have hcs : (E.1.1 - E0.1.1) + (E'.1.1 - E.1.1) = E'.1.1 - E0.1.1 ∧ (E.1.2 - E0.1.2) + (E'.1.2 - E.1.2) = E'.1.2 - E0.1.2 := by
    have := z1.1; have := z1.2; have := hle1.1; have := hle1.2
    omega
  have hfit : (E.1.1 - E0.1.1) + (E'.1.1 - E.1.1) ≤ (od_rm d E0 res.1).cells ∧ (E.1.2 - E0.1.2) + (E'.1.2 - E.1.2) ≤ (od_rm d E0 res.1).slots := by
    have := hle.1; have := hle.2
    show _ ≤ res.1.1.1 - E0.1.1 ∧ _ ≤ res.1.1.2 - E0.1.2
    omega
  have hpre : ∀ U : State, U.heap = H → s.WarmedH U.vm → od_Pre tc D β H.size ((2, b) :: as) E g (((2, b) :: as : List od_V).map (od_enc β)).toArray U := fun U hU hW => ⟨rfl, by rw [hU], by rw [hU]; exact S.hP, va_K.moved hW.alike S.hK, S.hD.weaken (fun _ _ _ _ => trivial), S.hE.to S.hS hU hW hA1⟩
  have hmap : (((2, b) :: as).map (od_enc β)) = Value.ref (β b) :: as.map (od_enc β) := by rw [List.map_cons, od_ref hb1]
  rw [hmap] at hpre
  have hstk : (as.reverse ++ (2, b) :: rest).map (od_enc β) = (as.map (od_enc β)).reverse ++ Value.ref (β b) :: rest.map (od_enc β) := by rw [List.map_append, List.map_reverse, List.map_cons, od_ref hb1]
  have hrun := va_runIN (e := e) (below := below) (meth := meth) (locs := locs) (As := as.map (od_enc β)) (rest := rest.map (od_enc β)) (g := F0 m pc ls ((as.reverse ++ (2, b) :: rest).map (od_enc β))) (n := n) ⟨S.hx, S.hb, S.hml, S.hown, S.hts⟩ hM ⟨w0 ▸ va_cnB n S.hts (od_good w5) rfl rfl rfl (S.hE.2.2.2.2.2.2.2.2.1 _ w1) (S.hts _ w4) w7 hroom, w3, S.hts _ w2⟩ ⟨od_blind, hpre⟩ rfl (by rw [List.length_map]; exact hn) S.hl.1 hstk (lv_room (by rw [od_cats_eq]; exact hcat)) hd hfit
  refine od_callW hrun S.hS hA1 (fun β' H1 locs1 r g' hq1 hβ hP1 hD1 hcan1 hok1 hS1 => ?_)
  have h := kk r g' hq1 p l e s m args below meth c1 tc D β0 β' A H1 locs1 ls (S.call hrest hle1 hle hβ hP1 hD1 hcan1 hok1 hS1)
  rw [hcs.1, hcs.2]
  refine W.eq (g2 := F0 m (pc + 3) ls ((r.toList ++ rest).map (od_enc β'))) ?_ h
  rw [List.map_append, od_map_ext hβ hrest]
  cases r <;> rfl
theorem r_callN {d' : Nat} {M' : od_M} {as rest : List od_V} {b : Int} {host : String} {i n : Nat} {r : Option od_V} {E' : od_E} {g' : od_G} (hd : decode M.2.2.1 pc = .ok (.invokespecial i, 3)) (hw : od_CN M.1 i M' n host) (hk : (E.2.1 b).1 < 12) (hc : od_Ct d' M' ((2, b) :: as) E g (r, E', g')) (hn : as.length = n) (hdd : d' + 1 ≤ d) (hst : as.reverse ++ (2, b) :: rest = st) (hcat : od_cats rest ≤ 8) (hle : od_le E' res.1) (kk : od_Rq d M Z E0 res (pc + 3) L (r.toList ++ rest) E' g') : od_Rq d M Z E0 res pc L st E g := r_callNq hd hw hk hc hn hdd hst hcat hle (fun r1 g1 h => by obtain ⟨rfl, rfl⟩ := h; exact kk)
end Rows9
