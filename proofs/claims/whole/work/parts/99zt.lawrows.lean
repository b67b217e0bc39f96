/-! the law: rows of its own -/
abbrev mL_law : od_M := (RL, yL_law, cL_law, 4, ret)
/-- the script: what was there before, at -63 -/
def od_Zs (N : Nat) (xs : Nat → Int32) : od_Zt := fun β A s => va_X (β (-63)) N xs s s.heap ∧ β (-63) < s.heap.size ∧ ¬ A (β (-63))
section RowsL
variable {d : Nat} {M : od_M} {Z : od_Zt} {E0 : od_E} {res : od_Qz} {u : Nat × Nat} {pc : Nat} {L : od_L} {st : List od_V} {E : od_E} {g : od_G} {N : Nat} {xs : Nat → Int32}
theorem z_sld {i : Int} (hd : decode M.2.2.1 pc = .ok (.iaload, 1)) (hi : 0 ≤ i ∧ i < (N : Int)) (kk : od_Rz d M (od_Zs N xs) E0 res u (pc + 1) L ((0, (xs i.toNat).toInt) :: st) E g) : od_Rz d M (od_Zs N xs) E0 res u pc L ((0, i) :: (2, -63) :: st) E g := by
  intro p l e s m args below meth c1 tc D β0 β A H locs ls S
  have o := od_ok2 S.sok
  obtain ⟨hX, hbl, hbA⟩ := S.2.1.2.2.2.2.2.2.1
  refine W.eq (g2 := F0 m pc ls (.int (Int32.ofInt i) :: .ref (β (-63)) :: st.map (od_enc β))) (by rw [List.map_cons, List.map_cons, od_ref (by omega)]; rfl) ?_
  refine va_sld S.hx S.hb hX hbl hbA S.hS (od_in o.1 hi.1 hi.2) hd ?_
  refine W.eq (g2 := F0 m (pc + 1) ls (((0, (xs i.toNat).toInt) :: st).map (od_enc β))) ?_ ?_
  · rw [od_clamp o.1, List.map_cons]
    show F0 m (pc + 1) ls (Value.int (xs i.toNat) :: _) = F0 m (pc + 1) ls (Value.int (Int32.ofInt (xs i.toNat).toInt) :: _)
    rw [Int32.ofInt_toInt]
  · exact kk p l e s m args below meth c1 tc D β0 β A H locs ls (S.stk (od_okc (od_it _) o.2.2))
theorem z_slen (hd : decode M.2.2.1 pc = .ok (.arraylength, 1)) (hN : N ≤ 3072) (kk : od_Rz d M (od_Zs N xs) E0 res u (pc + 1) L ((0, (N : Int)) :: st) E g) : od_Rz d M (od_Zs N xs) E0 res u pc L ((2, -63) :: st) E g := by
  intro p l e s m args below meth c1 tc D β0 β A H locs ls S
  have o := od_ok1 S.sok
  obtain ⟨hX, hbl, hbA⟩ := S.2.1.2.2.2.2.2.2.1
  refine W.eq (g2 := F0 m pc ls (.ref (β (-63)) :: st.map (od_enc β))) (by rw [List.map_cons, od_ref (by omega)]) ?_
  refine va_slen S.hx S.hb hX hbl hbA S.hS hd ?_
  refine W.eq (g2 := F0 m (pc + 1) ls (((0, (N : Int)) :: st).map (od_enc β))) ?_ ?_
  · rw [List.map_cons]
    show F0 m (pc + 1) ls (Value.int (Int32.ofNat N) :: _) = F0 m (pc + 1) ls (Value.int (Int32.ofInt (N : Int)) :: _)
    rw [Int32.ofInt_eq_ofNat]
  · exact kk p l e s m args below meth c1 tc D β0 β A H locs ls (S.stk (od_okc (by show od_r32 _; unfold od_r32; omega) o.2))
theorem z_new {i c : Nat} (hd : decode M.2.2.1 pc = .ok (.new i, 3)) (hcl : Cond.classLink M.1 i (od_C c) ∈ lw_good) (hni : Cond.instantiable (od_C c) (od_N c) ∈ lw_good) (hin : Cond.initialized (od_C c) ∈ lw_good) (hc : c < 12) (hu : u.1 + 1 ≤ res.1.1 ∧ u.2 + od_N c ≤ res.1.2)
    (kk : od_Rz d M Z E0 res (u.1 + 1, u.2 + od_N c) (pc + 3) L ((2, (E.1.1 : Int)) :: st) (od_nE E c 0 (od_N c)) (od_nG g E.1.1 0)) : od_Rz d M Z E0 res u pc L st E g := by
  intro p l e s m args below meth c1 tc D β0 β A H locs ls S
  have hcan := od_can_new (k := c) (n := 0) (sl := od_N c) (x := 0) S.can ((od_fit_i (by omega)).mpr od_r0)
  refine va_new (D := D) (ci := c) (C := od_C c) (T := od_T c) (N := od_N c) (fs := od_fs β (od_nE E c 0 (od_N c)) (od_nG g E.1.1 0) c E.1.1) S.hx S.hb S.hts (od_hin c hc) (od_ty c) (od_tyok c hc) S.hown (S.hts _ hcl) (S.hts _ hni) (S.hts _ hin) S.hK S.hP S.hD S.hS S.hA (od_vw c hc) (fun j hj => ?_) hu.1 hu.2 hd (fun q H1 hP1 hD1 hS1 => ?_)
  · rw [od_dflt c hc j hj]
    unfold vp_V
    rw [List.getD_eq_getElem?_getD, od_fs_at hj]
    show _ = od_fv β (od_isr c j) (if (E.1.1 : Int) = (E.1.1 : Int) then (-1 : Int) else _) (if (E.1.1 : Int) = (E.1.1 : Int) then (0 : Int) else _)
    rw [if_pos rfl, if_pos rfl]
    unfold od_fv od_rv
    by_cases cr : od_isr c j = true
    · rw [if_pos cr, if_pos cr, if_pos rfl]
    · rw [if_neg cr, if_neg cr]; rfl
  · have hcell : od_cell tc (od_nb β E.1.1 q) (od_nE E c 0 (od_N c)) (od_nG g E.1.1 0) E.1.1 = .inr (c, od_fs β (od_nE E c 0 (od_N c)) (od_nG g E.1.1 0) c E.1.1) := by
      rw [od_cell_o hc (by show (if (E.1.1 : Int) = (E.1.1 : Int) then (c, 0) else _).1 = c; rw [if_pos rfl])]
      unfold od_fs
      congr 2
      refine List.map_congr_left fun j _ => ?_
      show od_fv _ _ (if (E.1.1 : Int) = (E.1.1 : Int) then (-1 : Int) else _) _ = od_fv _ _ (if (E.1.1 : Int) = (E.1.1 : Int) then (-1 : Int) else _) _
      rw [if_pos rfl]
      unfold od_fv od_rv
      split <;> simp
    rw [← hcell, ← od_ws_push S.can] at hP1 hD1
    have S2 := (S.to (res' := od_tt (od_nE E c 0 (od_N c))) od_nE_le).call (r := some (2, (E.1.1 : Int))) S.sok od_nE_le (show od_le (od_nE E c 0 (od_N c)) (od_tt (od_nE E c 0 (od_N c))).1 from od_le.rf) (β' := od_nb β E.1.1 q) (fun a ha => by unfold od_nb; rw [if_neg (by omega)]) hP1 hD1 hcan (fun v hv => by cases hv with | head => (show (E.1.1 : Int) < ((E.1.1 + 1 : Nat) : Int); omega) | tail _ hv => cases hv) hS1
    have w := kk p l e s m args below meth c1 tc D β0 (od_nb β E.1.1 q) A H1 locs ls S2
    refine W.eq (g2 := F0 m (pc + 3) ls (((2, (E.1.1 : Int)) :: st).map (od_enc (od_nb β E.1.1 q)))) ?_ w
    rw [List.map_cons, od_ref (by omega), od_map_ext (E := E) (β := β) (β' := od_nb β E.1.1 q) (fun a ha => by unfold od_nb; rw [if_neg (by omega)]) S.sok]
    unfold od_nb
    rw [if_pos rfl]
/-- the law's locals in its loop -/
abbrev LcL (i : Int) : od_L := [some (2, -63), some (2, 0), some (2, 86), some (0, i)]
def xv (xs : Nat → Int32) (i k : Int) : Int := (xs (i + k).toNat).toInt
theorem z_arg {i k : Int} (d0 : decode mL_law.2.2.1 pc = .ok (.aload_n 0, 1)) (d1 : decode mL_law.2.2.1 (pc + 1) = .ok (.iload_n 3, 1)) (d2 : decode mL_law.2.2.1 (pc + 2) = .ok (.iconst k, 1)) (d3 : decode mL_law.2.2.1 (pc + 3) = .ok (.iadd, 1)) (d4 : decode mL_law.2.2.1 (pc + 4) = .ok (.iaload, 1)) (hk : (Int32.ofInt k).toInt = k) (hk5 : 0 ≤ k ∧ k ≤ 5) (hi : 0 ≤ i ∧ i + 6 ≤ (N : Int) ∧ N ≤ 3072) (kk : od_Rz d mL_law (od_Zs N xs) E0 res u (pc + 5) (LcL i) ((0, xv xs i k) :: st) E g) : od_Rz d mL_law (od_Zs N xs) E0 res u pc (LcL i) st E g := by
  refine z_aload_n d0 rfl ?_
  refine z_iload_n d1 rfl ?_
  refine z_iconst d2 hk ?_
  refine z_iaddE (y := i + k) d3 (od_wI (by omega) (by omega)) ?_
  exact z_sld d4 (by omega) kk
/-- a call of the class, the same call of the reference, the answers compared -/
theorem z_two {i : Int} {dc dm : Nat} {mc mm : od_M} {as : List od_V} {n i1 i2 pc0 pc1 pc2 : Nat} {off : Int} (hE : EW E 0 86) (hP : od_Pr E 0 86 g 0 dc mc ((2, 0) :: as) dm mm ((2, 86) :: as)) (w1 : od_CV RL i1 mc 10 n) (w2 : od_CV RL i2 mm 11 n) (d1 : decode mL_law.2.2.1 pc1 = .ok (.invokevirtual i1, 3)) (d2 : decode mL_law.2.2.1 pc2 = .ok (.invokevirtual i2, 3)) (dq : decode mL_law.2.2.1 (pc2 + 3) = .ok (.if_icmp .eq off, 3)) (ht : ((pc2 + 3 : Nat) : Int) + off = ((1253 : Nat) : Int)) (hn : as.length = n) (hdc : dc + 1 ≤ 61) (hdm : dm + 1 ≤ 61) (hu : u.1 ≤ res.1.1 ∧ u.2 ≤ res.1.2)
    (hpre : od_Rz 61 mL_law (od_Zs N xs) E0 res u pc1 (LcL i) (as.reverse ++ [(2, 0)]) E g → od_Rz 61 mL_law (od_Zs N xs) E0 res u pc0 (LcL i) [] E g)
    (hmid : ∀ (a : Int) (g1 : od_G), od_Rz 61 mL_law (od_Zs N xs) E0 res u pc2 (LcL i) (as.reverse ++ (2, 86) :: [(0, a)]) E g1 → od_Rz 61 mL_law (od_Zs N xs) E0 res u (pc1 + 3) (LcL i) [(0, a)] E g1)
    (kk : ∀ g2 : od_G, Rel2 E 0 86 g2 g2 → od_Rz 61 mL_law (od_Zs N xs) E0 res u 1253 (LcL i) [] E g2) : od_Rz 61 mL_law (od_Zs N xs) E0 res u pc0 (LcL i) [] E g := by
  obtain ⟨Qc, hC, hP⟩ := hP
  have eu : (u.1 + (E.1.1 - E.1.1), u.2 + (E.1.2 - E.1.2)) = u := by rw [Nat.sub_self, Nat.sub_self, Nat.add_zero, Nat.add_zero]
  have hu' : u.1 + (E.1.1 - E.1.1) ≤ res.1.1 ∧ u.2 + (E.1.2 - E.1.2) ≤ res.1.2 := by rw [Nat.sub_self, Nat.sub_self, Nat.add_zero, Nat.add_zero]; exact hu
  refine hpre (z_callVq d1 w1 (oO hE.1) hC hn hdc rfl (by decide) hu' (fun w g1 q => ?_))
  rw [eu]
  obtain ⟨a, ew, Qm, hM, hQ⟩ := hP w g1 q
  subst ew
  refine hmid a g1 (z_callVq (rest := [(0, a)]) d2 w2 (mo_o hE.2.1) hM hn hdm rfl (Nat.le_of_ble_eq_true rfl) hu' (fun w' g2 q' => ?_))
  rw [eu]
  obtain ⟨ew', r2⟩ := hQ w' g2 q'
  subst ew'
  exact z_icmp_eq dq ht (fun _ => kk g2 r2) (fun h => absurd rfl h)
theorem z_two1 {i : Int} {dc dm : Nat} {mc mm : od_M} {as : List od_V} {n i1 i2 pc0 pc1 pc2 : Nat} {off : Int} (hE : EW E 0 86) (hP : od_Pr E 0 86 g 1 dc mc ((2, 0) :: as) dm mm ((2, 86) :: as)) (w1 : od_CV RL i1 mc 10 n) (w2 : od_CV RL i2 mm 11 n) (d1 : decode mL_law.2.2.1 pc1 = .ok (.invokevirtual i1, 3)) (d2 : decode mL_law.2.2.1 pc2 = .ok (.invokevirtual i2, 3)) (dl : decode mL_law.2.2.1 (pc2 + 3) = .ok (.lcmp, 1)) (dq : decode mL_law.2.2.1 (pc2 + 4) = .ok (.ifCond .eq off, 3)) (ht : ((pc2 + 4 : Nat) : Int) + off = ((1253 : Nat) : Int)) (hn : as.length = n) (hdc : dc + 1 ≤ 61) (hdm : dm + 1 ≤ 61) (hu : u.1 ≤ res.1.1 ∧ u.2 ≤ res.1.2)
    (hpre : od_Rz 61 mL_law (od_Zs N xs) E0 res u pc1 (LcL i) (as.reverse ++ [(2, 0)]) E g → od_Rz 61 mL_law (od_Zs N xs) E0 res u pc0 (LcL i) [] E g)
    (hmid : ∀ (a : Int) (g1 : od_G), od_Rz 61 mL_law (od_Zs N xs) E0 res u pc2 (LcL i) (as.reverse ++ (2, 86) :: [(1, a)]) E g1 → od_Rz 61 mL_law (od_Zs N xs) E0 res u (pc1 + 3) (LcL i) [(1, a)] E g1)
    (kk : ∀ g2 : od_G, Rel2 E 0 86 g2 g2 → od_Rz 61 mL_law (od_Zs N xs) E0 res u 1253 (LcL i) [] E g2) : od_Rz 61 mL_law (od_Zs N xs) E0 res u pc0 (LcL i) [] E g := by
  obtain ⟨Qc, hC, hP⟩ := hP
  have eu : (u.1 + (E.1.1 - E.1.1), u.2 + (E.1.2 - E.1.2)) = u := by rw [Nat.sub_self, Nat.sub_self, Nat.add_zero, Nat.add_zero]
  have hu' : u.1 + (E.1.1 - E.1.1) ≤ res.1.1 ∧ u.2 + (E.1.2 - E.1.2) ≤ res.1.2 := by rw [Nat.sub_self, Nat.sub_self, Nat.add_zero, Nat.add_zero]; exact hu
  refine hpre (z_callVq d1 w1 (oO hE.1) hC hn hdc rfl (by decide) hu' (fun w g1 q => ?_))
  rw [eu]
  obtain ⟨a, ew, Qm, hM, hQ⟩ := hP w g1 q
  subst ew
  refine hmid a g1 (z_callVq (rest := [(1, a)]) d2 w2 (mo_o hE.2.1) hM hn hdm rfl (Nat.le_of_ble_eq_true rfl) hu' (fun w' g2 q' => ?_))
  rw [eu]
  obtain ⟨ew', r2⟩ := hQ w' g2 q'
  subst ew'
  refine z_lcmp dl (z_if_eq dq ht (fun _ => kk g2 r2) (fun h => absurd ?_ h))
  unfold od_cmp
  rw [if_neg (Int.lt_irrefl _), if_pos rfl]
/-- law -/
theorem z_twoL {i : Int} {i1 i2 pc0 : Nat} {off : Int} (hE : EW E 0 86) (hP : od_PrL E 0 86 g) (w1 : od_CV RL i1 mX10_law 10 0) (w2 : od_CV RL i2 mX11_law 11 0) (d0 : decode mL_law.2.2.1 pc0 = .ok (.aload_n 1, 1)) (d1 : decode mL_law.2.2.1 (pc0 + 1) = .ok (.invokevirtual i1, 3)) (dm : decode mL_law.2.2.1 (pc0 + 4) = .ok (.aload_n 2, 1)) (d2 : decode mL_law.2.2.1 (pc0 + 5) = .ok (.invokevirtual i2, 3)) (dq : decode mL_law.2.2.1 (pc0 + 8) = .ok (.if_icmp .eq off, 3)) (ht : ((pc0 + 8 : Nat) : Int) + off = ((1253 : Nat) : Int)) (hu : u.1 + 7 ≤ res.1.1 ∧ u.2 + 600 ≤ res.1.2)
    (kk : ∀ (E' : od_E) (g2 : od_G), EW E' 0 86 → Rel2 E' 0 86 g2 g2 → od_Rz 61 mL_law (od_Zs N xs) E0 res (u.1 + 7, u.2 + 600) 1253 (LcL i) [] E' g2) : od_Rz 61 mL_law (od_Zs N xs) E0 res u pc0 (LcL i) [] E g := by
  obtain ⟨Qc, hC, hP⟩ := hP
  refine z_aload_n d0 rfl ?_
  refine z_callVz (rest := []) d1 w1 (oO hE.1) hC rfl (by decide) rfl (by decide) hu (fun E' w g1 q _ => ?_)
  show od_Rz 61 mL_law (od_Zs N xs) E0 res (u.1 + 7, u.2 + 600) (pc0 + 4) (LcL i) (w.toList ++ []) E' g1
  obtain ⟨a, ew, hE', Qm, hM, hQ⟩ := hP E' w g1 q
  subst ew
  refine z_aload_n dm rfl ?_
  refine z_callVq (rest := [(0, a)]) d2 w2 (mo_o hE'.2.1) hM rfl (by decide) rfl (Nat.le_of_ble_eq_true rfl) (by rw [Nat.sub_self, Nat.sub_self, Nat.add_zero, Nat.add_zero]; exact hu) (fun w' g2 q' => ?_)
  rw [Nat.sub_self, Nat.sub_self, Nat.add_zero, Nat.add_zero]
  obtain ⟨ew', r2⟩ := hQ w' g2 q'
  subst ew'
  exact z_icmp_eq dq ht (fun _ => kk E' g2 hE' r2) (fun h => absurd rfl h)
end RowsL
