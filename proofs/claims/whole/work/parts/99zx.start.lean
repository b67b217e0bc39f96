/-! what is there at the start -/
abbrev lw_fl : List Cond := flatC (Jvm.Cond.and given_1 narrow_1)
theorem lw_fm {w : Cond} (k : Nat) (h : lw_fl[k]? = some w) : w ∈ lw_fl := List.mem_of_getElem? h
def od_ib : List Nat := [23, 44, 68, 108, 148, 158, 169, 184, 197, 212, 228]
def od_sx : List Nat := [74, 75, 160, 161, 178, 179, 184, 185, 198, 199, 204]
abbrev od_tmS (i : Nat) : Term := .string RX3 (od_six.getD i 0)
theorem nt_ex : ∀ i : Nat, i < 11 → lw_fl[od_ib.getD i 0]? = some (Cond.exactly (od_tmS i) "java/lang/String") := by decide +kernel
theorem nt_co : ∀ i : Nat, i < 11 → lw_fl[od_ib.getD i 0 + 1]? = some (Cond.eq (.field (od_tmS i) "java/lang/String" "coder" "B") (.int 0)) := by decide +kernel
theorem nt_ar : ∀ i : Nat, i < 11 → lw_fl[od_ib.getD i 0 + 2]? = some (Cond.arrayOf (.field (od_tmS i) "java/lang/String" "value" "[B") .byte) := by decide +kernel
theorem nt_le : ∀ i : Nat, i < 11 → lw_fl[od_ib.getD i 0 + 3]? = some (Cond.eq (.length (.field (od_tmS i) "java/lang/String" "value" "[B")) (.int (Int32.ofNat (od_len.getD i 0)))) := by decide +kernel
theorem nt_el : ∀ i : Nat, i < 11 → ∀ j : Nat, j < od_len.getD i 0 → lw_fl[od_ib.getD i 0 + 4 + j]? = some (Cond.eq (.elem (.field (od_tmS i) "java/lang/String" "value" "[B") (.int (Int32.ofNat j))) (.int ((od_byt.getD i []).getD j 0))) := by decide +kernel
theorem nt_ne : ∀ j : Nat, j < 11 → ∀ i : Nat, i < j → lw_fl[od_ib.getD j 0 + 4 + od_len.getD j 0 + i]? = some (Cond.not (Cond.eq (od_tmS i) (od_tmS j))) := by decide +kernel
theorem nt_sr : ∀ i : Nat, i < 11 → tables_1_3[od_sx.getD i 0]? = some (Cond.stringRef RX3 (od_six.getD i 0) (od_str.getD i "")) := by decide +kernel
theorem nt_tm : ∀ j : Nat, j < 3 → lw_fl[7 + j]? = some (Cond.eq (.elem (.static RX10 "TERMS_MOST" "[I") (.int (Int32.ofNat j))) (.int (od_tm j))) := by decide +kernel
theorem nt_pr : ∀ j : Nat, j < 5 → lw_fl[18 + j]? = some (Cond.eq (.elem (.static RX4 "PRIMES" "[I") (.int (Int32.ofNat j))) (.int (od_pr j))) := by decide +kernel
theorem vk_S.cong {N : Nat} {len : List Nat} {byt : List (List Int32)} {adK adV adK' adV' : Nat → Nat} {A : Nat → Prop} {U : State} {H : Heap} (h : vk_S N len byt adK adV A U H) (e : ∀ i : Nat, i < N → adK' i = adK i ∧ adV' i = adV i) : vk_S N len byt adK' adV' A U H :=
  ⟨fun i hi => by rw [(e i hi).1, (e i hi).2]; exact h.1 i hi, fun i j hi hj q => h.2 i j hi hj (by rw [(e i hi).1, (e j hj).1] at q; exact q)⟩
theorem od_nest_in : ∀ w ∈ od_nest, w ∈ lw_tbl := by
  intro w hw
  simp only [od_nest, List.mem_cons, List.not_mem_nil, or_false] at hw
  rcases hw with rfl | rfl | rfl | rfl | rfl
  · exact lw_t1 (List.mem_of_getElem? (i := 29) (by decide +kernel))
  · exact lw_t1 (List.mem_of_getElem? (i := 117) (by decide +kernel))
  · exact lw_t1 (List.mem_of_getElem? (i := 146) (by decide +kernel))
  · exact lw_t2 (List.mem_of_getElem? (i := 9) (by decide +kernel))
  · exact lw_t2 (List.mem_of_getElem? (i := 15) (by decide +kernel))
theorem od_nest_on : ∀ w ∈ od_nest, w.onTables = true := by
  intro w hw
  simp only [od_nest, List.mem_cons, List.not_mem_nil, or_false] at hw
  rcases hw with rfl | rfl | rfl | rfl | rfl <;> rfl
theorem ao_X9 : Cond.arrayOver (.object RX9) ∈ lw_tbl := lw_t1 (List.mem_of_getElem? (i := 34) (by decide +kernel))
theorem ao_X6 : Cond.arrayOver (.object RX6) ∈ lw_tbl := lw_t1 (List.mem_of_getElem? (i := 114) (by decide +kernel))
theorem od_ext0 {s : State} {args : Array Value} (hfl : ∀ w ∈ lw_fl, w.before args s = true) (hts : ∀ w ∈ lw_tbl, w.before args s = true) (b : Nat) : ∃ β : Int → Nat, β (-63) = b ∧ od_Ext β (fun q => s.heap.size ≤ q) s s.heap := by
  have hA : ∀ a : Nat, a < s.heap.size → ¬ (fun q : Nat => s.heap.size ≤ q) a := fun a h => Nat.not_le.mpr h
  have hin : ∀ w ∈ lw_good, w.before args s = true := fun w hw => hts w (lw_gdIn hw).1
  obtain ⟨adK, adV, hS, hT⟩ := vk_Sof (N := 11) (tm := od_tmS) (len := od_len) (byt := od_byt) (A := fun q => s.heap.size ≤ q) (by decide +kernel) (fun i hi => hfl _ (lw_fm _ (nt_ex i hi))) (fun i hi => hfl _ (lw_fm _ (nt_co i hi))) (fun i hi => hfl _ (lw_fm _ (nt_ar i hi))) (fun i hi => hfl _ (lw_fm _ (nt_le i hi))) (fun i hi j hj => hfl _ (lw_fm _ (nt_el i hi j hj))) (fun i j hi hj hij => by
    rcases Nat.lt_or_gt_of_ne hij with q | q
    · exact Or.inl (hfl _ (lw_fm _ (nt_ne j hj i q)))
    · exact Or.inr (hfl _ (lw_fm _ (nt_ne i hi j q)))) hA
  obtain ⟨t1, e1, T1⟩ := va_Tof (tm := .static RX10 "TERMS_MOST" "[I") (ty := .int) (N := 3) (f := fun j => .int (od_tm j)) (A := fun q => s.heap.size ≤ q) (by decide) (hfl _ (lw_fm 5 (by decide +kernel))) (va_eqt (hfl _ (lw_fm 6 (by decide +kernel)))) (fun j hj => va_eqt (hfl _ (lw_fm _ (nt_tm j hj)))) hA
  obtain ⟨t2, e2, T2⟩ := va_Tof (tm := .static RX4 "PRIMES" "[I") (ty := .int) (N := 5) (f := fun j => .int (od_pr j)) (A := fun q => s.heap.size ≤ q) (by decide) (hfl _ (lw_fm 16 (by decide +kernel))) (va_eqt (hfl _ (lw_fm 17 (by decide +kernel)))) (fun j hj => va_eqt (hfl _ (lw_fm _ (nt_pr j hj)))) hA
  have Z1 := va_Zref (A := fun q => s.heap.size ≤ q) (hts _ (lw_t3 (List.mem_of_getElem? (i := 21) (by decide +kernel)))) (hin _ inX10) e1 hA
  have Z2 := va_Zref (A := fun q => s.heap.size ≤ q) (hts _ (lw_t4 (List.mem_of_getElem? (i := 235) (by decide +kernel)))) (hin _ inX4) e2 hA
  have Z3 : va_Z RJ0 "COMPACT_STRINGS" "Z" (.int 1) (fun q => s.heap.size ≤ q) s s.heap := va_Zof (hts _ (lw_t3 (List.mem_of_getElem? (i := 89) (by decide +kernel)))) (hin _ inJ0) (va_eqt (hfl _ (lw_fm 10 (by decide +kernel)))) hA
  have Z4 : va_Zq RJ3 "SIOOBE_FORMATTER" "Ljava/util/function/BiFunction;" (fun q => s.heap.size ≤ q) s s.heap := va_Zqof (hts _ (lw_t3 (List.mem_of_getElem? (i := 105) (by decide +kernel)))) (hin _ inJ3) (hfl _ (lw_fm 11 (by decide +kernel))) hA
  obtain ⟨q, Z5⟩ : ∃ q : Nat, od_Fm q (fun q => s.heap.size ≤ q) s s.heap := by
    rcases Z4 with h | ⟨q, h⟩
    · exact ⟨0, Or.inl h⟩
    · exact ⟨q, Or.inr h⟩
  obtain ⟨β, hβ⟩ : ∃ β : Int → Nat, β = fun a => if a = -60 then t1 else if a = -61 then t2 else if a = -62 then q else if a = -63 then b else if a ≤ -30 then adV (-30 - a).toNat else adK (-10 - a).toNat := ⟨_, rfl⟩
  have b60 : β (-60) = t1 := by rw [hβ]; rfl
  have b61 : β (-61) = t2 := by rw [hβ]; rfl
  have b62 : β (-62) = q := by rw [hβ]; rfl
  have b63 : β (-63) = b := by rw [hβ]; rfl
  have bK : ∀ i : Nat, i < 11 → β (-10 - (i : Int)) = adK i := fun i hi => by
    rw [hβ]
    show (if (-10 - (i : Int)) = -60 then t1 else if (-10 - (i : Int)) = -61 then t2 else if (-10 - (i : Int)) = -62 then q else if (-10 - (i : Int)) = -63 then b else if (-10 - (i : Int)) ≤ -30 then adV (-30 - (-10 - (i : Int))).toNat else adK (-10 - (-10 - (i : Int))).toNat) = _
    rw [if_neg (by omega), if_neg (by omega), if_neg (by omega), if_neg (by omega), if_neg (by omega), show (-10 - (-10 - (i : Int))).toNat = i by omega]
  have bV : ∀ i : Nat, i < 11 → β (-30 - (i : Int)) = adV i := fun i hi => by
    rw [hβ]
    show (if (-30 - (i : Int)) = -60 then t1 else if (-30 - (i : Int)) = -61 then t2 else if (-30 - (i : Int)) = -62 then q else if (-30 - (i : Int)) = -63 then b else if (-30 - (i : Int)) ≤ -30 then adV (-30 - (-30 - (i : Int))).toNat else adK (-10 - (-30 - (i : Int))).toNat) = _
    rw [if_neg (by omega), if_neg (by omega), if_neg (by omega), if_neg (by omega), if_pos (by omega), show (-30 - (-30 - (i : Int))).toNat = i by omega]
  refine ⟨β, b63, hS.cong (fun i hi => ⟨bK i hi, bV i hi⟩), fun i hi => ?_, by rw [b60]; exact Z1, by rw [b60]; exact T1, by rw [b61]; exact Z2, by rw [b61]; exact T2, Z3, by rw [b62]; exact Z5, fun w hw => va_Nw.of (od_nest_on w hw) (hts w (od_nest_in w hw)), va_AO.of (hts _ ao_X9), va_AO.of (hts _ ao_X6)⟩
  rw [bK i hi]
  exact vk_R.of (A := args) (hts _ (lw_t3 (List.mem_of_getElem? (nt_sr i hi)))) (hT i hi)
theorem ty_prim {s : State} {args : Array Value} {ty : FieldType} (h : (Cond.arrayClass ty).before args s = true) : ∃ cA : ClassId, ArrOfT s cA ty ∧ s.vm.findClass ("[" ++ ty.toString) = some cA := by
  obtain ⟨c, k, comp, h1, h2, h3⟩ := Cond.arrayClass_spec h
  exact ⟨c, fun n z => ⟨fun k h => (by cases h), k, h2, comp, h3⟩, h1⟩
theorem ty_obj {s : State} {args : Array Value} {C : String} (h : (Cond.arrayOver (.object C)).before args s = true) : ∃ cA : ClassId, ArrOfT s cA (.object C) ∧ va_RA s cA (.object C) := by
  obtain ⟨comp, c, k, h1, h2, h3, h4, h5⟩ := Cond.arrayOver_spec h
  exact ⟨c, fun n z => ⟨fun k h => (by cases h), k, h3, comp, h4⟩, k, comp, h3, h4, h1, h5⟩
theorem od_niG : ∀ c : Nat, c < 12 → Cond.instantiable (od_C c) (od_N c) ∈ lw_good
  | 0, _ => nwX0
  | 1, _ => nwX1
  | 2, _ => nwX2
  | 3, _ => nwX3
  | 4, _ => nwX4
  | 5, _ => nwX5
  | 6, _ => nwX6
  | 7, _ => nwX7
  | 8, _ => nwX8
  | 9, _ => nwX9
  | 10, _ => nwX10
  | 11, _ => nwX11
  | n + 12, h => absurd h (by omega)
theorem od_K0 {s : State} {args : Array Value} (hts : ∀ w ∈ lw_tbl, w.before args s = true) : ∃ (tc : Nat → ClassId) (D : va_G), va_K D vwCl (od_tys tc) s := by
  have hin : ∀ w ∈ lw_good, w.before args s = true := fun w hw => hts w (lw_gdIn hw).1
  have h0 : ∀ c : Nat, ∃ q : ClassId × (Nat → Nat), c < 12 → u_Kn s (od_C c) (od_T c) (od_N c) q.1 q.2 := by
    intro c
    by_cases hc : c < 12
    · obtain ⟨cC, iS, hk⟩ := u_known (C := od_C c) (T := od_T c) (N := od_N c) (n := od_N c) hin (od_hin c hc) (hin _ (od_niG c hc))
      exact ⟨(cC, iS), fun _ => hk⟩
    · exact ⟨(0, fun _ => 0), fun h => absurd h hc⟩
  obtain ⟨F, hF⟩ := Classical.axiomOfChoice h0
  obtain ⟨c0, a0, b0⟩ := ty_prim (hin _ ac_int)
  obtain ⟨c1, a1, b1⟩ := ty_prim (hin _ ac_byte)
  obtain ⟨c2, a2, b2⟩ := ty_prim (hin _ ac_boolean)
  obtain ⟨c3, a3, b3⟩ := ty_prim (hin _ ac_long)
  obtain ⟨c4, a4, b4⟩ := ty_obj (hts _ ao_X9)
  obtain ⟨c5, a5, b5⟩ := ty_obj (hts _ ao_X6)
  refine ⟨fun k => if k = 0 then c0 else if k = 1 then c1 else if k = 2 then c2 else if k = 3 then c3 else if k = 4 then c4 else c5, (fun c => (F c).1, fun c => (F c).2), fun c q hq => ?_, fun k q hq => ?_⟩
  · by_cases hc : c < 12
    · rw [od_vw c hc] at hq
      cases hq
      exact hF c hc
    · rw [List.getElem?_eq_none (by show 12 ≤ c; omega)] at hq
      cases hq
  · match k, hq with
    | 0, hq => cases hq; exact ⟨a0, b0⟩
    | 1, hq => cases hq; exact ⟨a1, b1⟩
    | 2, hq => cases hq; exact ⟨a2, b2⟩
    | 3, hq => cases hq; exact ⟨a3, b3⟩
    | 4, hq => cases hq; exact ⟨a4, b4⟩
    | 5, hq => cases hq; exact ⟨a5, b5⟩
    | k + 6, hq => simp [od_tys] at hq
