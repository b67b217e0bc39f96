/-! the law: its beginning -/
def od_g0 : od_G := fun _ _ => 0
def od_gI : od_G := gX11 (od_nG (gX10 (od_nG od_g0 0 0) 0) 86 0) 86
theorem od_EW4 : EW od_E4 0 86 := ⟨od_at, od_mo, by omega, by omega, by rw [od_E4_c]; omega⟩
theorem rf_0 {k : Int} (h6 : ∀ y : Fin 6, od_gI (k + 6) (y.val : Int) = -1) (h8 : ∀ y : Fin 6, od_gI (k + 8) (y.val : Int) = 0) (E : od_E) (lo : Int) : RfR E od_gI k lo := by
  refine ⟨fun y y0 y1 => Or.inl ?_, fun y y0 y1 => Or.inl ?_⟩
  · have z := h6 ⟨y.toNat, by omega⟩
    simp only [show ((y.toNat : Nat) : Int) = y by omega] at z
    exact z
  · have z := h8 ⟨y.toNat, by omega⟩
    simp only [show ((y.toNat : Nat) : Int) = y by omega] at z
    exact z
theorem f6_1 : ∀ y : Fin 6, od_gI (1 + 6) (y.val : Int) = -1 := by decide +kernel
theorem f8_1 : ∀ y : Fin 6, od_gI (1 + 8) (y.val : Int) = 0 := by decide +kernel
theorem f6_29 : ∀ y : Fin 6, od_gI (29 + 6) (y.val : Int) = -1 := by decide +kernel
theorem f8_29 : ∀ y : Fin 6, od_gI (29 + 8) (y.val : Int) = 0 := by decide +kernel
theorem f6_38 : ∀ y : Fin 6, od_gI (38 + 6) (y.val : Int) = -1 := by decide +kernel
theorem f8_38 : ∀ y : Fin 6, od_gI (38 + 8) (y.val : Int) = 0 := by decide +kernel
theorem f_mw : ∀ j : Fin 120, od_gI 92 (j.val : Int) = od_mw (j.val : Int) := by decide +kernel
theorem f_rf : ∀ j : Fin 7, od_gI 85 (j.val : Int) = od_gI 87 (j.val : Int) := by decide +kernel
theorem f_bt : ∀ d : Fin 6, ¬ od_bit 0 (d.val : Int) := by unfold od_bit; decide +kernel
theorem st_0 : StR od_gI 1 (od_gI 88) := by
  have e45 : od_gI 88 45 = 0 := by decide +kernel
  have e46 : od_gI 88 46 = 0 := by decide +kernel
  have e9 : od_gI 1 9 = 0 := by decide +kernel
  unfold StR
  rw [e45, e46, e9]
  refine ⟨⟨by decide +kernel, by omega, by omega⟩, fun d d0 d1 => by omega, ⟨fun d d0 d1 => ?_, by omega, by omega⟩, ⟨by decide +kernel, by decide +kernel, by decide +kernel⟩, ⟨by decide +kernel, by decide +kernel, by decide +kernel⟩, ⟨by decide +kernel, by decide +kernel, by decide +kernel⟩, ⟨by decide +kernel, by decide +kernel⟩, ⟨by decide +kernel, by omega, by omega⟩, fun i i0 i1 => by omega⟩
  have z := f_bt ⟨d.toNat, by omega⟩
  simp only [show ((d.toNat : Nat) : Int) = d by omega] at z
  exact z
theorem rel_0 : Rel2 od_E4 0 86 od_gI od_gI := by
  have e47 : od_gI 88 47 = 0 := by decide +kernel
  have e13 : od_gI 60 1 = 0 := by decide +kernel
  have e49 : od_gI 86 49 = -1 := by decide +kernel
  refine ⟨st_0, ⟨fun _ _ => 0, fun _ => 0, fun _ => 0, fun _ => 0, fun t t0 t1 => ?_⟩, rf_0 f6_1 f8_1 _ _, ⟨by decide +kernel, by decide +kernel⟩, fun k k0 k1 => ?_, PaR.no (by decide +kernel) (by decide +kernel) (by decide +kernel), ⟨⟨rfl, rfl, ?_, fun p p0 p1 => ?_⟩, ⟨fun j j0 j1 => ?_, ?_, ?_, fun j j0 j1 => ?_⟩⟩, ⟨⟨by decide +kernel, by decide +kernel, by decide +kernel, by decide +kernel⟩, fun i i0 i1 => ?_⟩, ⟨?_, ?_, fun d d0 d1 => ?_⟩⟩
  · have t1' : t < od_gI 88 47 := t1
    rw [e47] at t1'
    omega
  · rcases (by omega : k = 0 ∨ k = 1) with rfl | rfl
    · exact ⟨rf_0 f6_29 f8_29 _ _, Or.inl ⟨by decide +kernel, by decide +kernel⟩⟩
    · exact ⟨rf_0 f6_38 f8_38 _ _, Or.inl ⟨by decide +kernel, by decide +kernel⟩⟩
  · show 0 ≤ od_gI 60 1 ∧ od_gI 60 1 ≤ 400
    rw [e13]; omega
  · have p1' : p < od_gI 60 1 := p1
    rw [e13] at p1'
    omega
  · have z := f_mw ⟨j.toNat, by omega⟩
    simp only [show ((j.toNat : Nat) : Int) = j by omega] at z
    exact z
  · decide +kernel
  · show 0 ≤ od_gI 60 1 ∧ od_gI 60 1 ≤ 400
    rw [e13]; omega
  · have p1' : j < od_gI 60 1 := j1
    rw [e13] at p1'
    omega
  · have z := f_rf ⟨i.toNat, by omega⟩
    simp only [show ((i.toNat : Nat) : Int) = i by omega] at z
    exact z
  · show -1 ≤ od_gI 86 49 ∧ od_gI 86 49 ≤ 6
    rw [e49]; omega
  · show od_gI 19 8 = if od_gI 86 49 = -1 then 0 else od_gI 86 49
    rw [e49, if_pos rfl]
    decide +kernel
  · have d1' : d < od_gI 86 49 := d1
    rw [e49] at d1'
    omega
theorem z_start {N : Nat} {xs : Nat → Int32} (hN : N ≤ 3072) : od_Rz 61 mL_law (od_Zs N xs) od_E00 resL (0, 0) 0 [some (2, -63), none, none, none] [] od_E00 od_g0 := by
  refine z_new (c := 10) dL_law_0 clL_7 nwX10 inX10 (by decide) (by decide +kernel) ?_
  show od_Rz 61 mL_law (od_Zs N xs) od_E00 resL (1, 19) 3 [some (2, -63), none, none, none] [(2, 0)] od_E1 (od_nG od_g0 0 0)
  refine z_dup dL_law_3 od_ne2 ?_
  refine z_callIq (as := []) (rest := [(2, 0)]) dL_law_4 ciL_9 (by decide +kernel) (c_X10_init (E := od_E1) (g := od_nG od_g0 0 0) (k := 0) (by decide +kernel) (by decide +kernel) (by omega)) rfl (by decide) rfl (Nat.le_of_ble_eq_true rfl) (by decide +kernel) (fun r g' q => ?_)
  obtain ⟨rfl, rfl⟩ := q
  show od_Rz 61 mL_law (od_Zs N xs) od_E00 resL (1 + (od_E2.1.1 - od_E1.1.1), 19 + (od_E2.1.2 - od_E1.1.2)) 7 [some (2, -63), none, none, none] [(2, 0)] od_E2 (gX10 (od_nG od_g0 0 0) 0)
  refine z_astore_n (L' := [some (2, -63), some (2, 0), none, none]) dL_law_7 (by decide) rfl ?_
  refine z_new (c := 11) dL_law_8 clL_10 nwX11 inX11 (by decide) (by decide +kernel) ?_
  have e2 : (od_E2.1.1 : Int) = 86 := by rw [od_E2_c]; rfl
  rw [e2]
  show od_Rz 61 mL_law (od_Zs N xs) od_E00 resL (1 + (od_E2.1.1 - od_E1.1.1) + 1, 19 + (od_E2.1.2 - od_E1.1.2) + od_N 11) 11 [some (2, -63), some (2, 0), none, none] [(2, 86)] od_E3 (od_nG (gX10 (od_nG od_g0 0 0) 0) 86 0)
  refine z_dup dL_law_11 od_ne2 ?_
  refine z_callIq (as := []) (rest := [(2, 86)]) dL_law_12 ciL_12 (by decide +kernel) (c_X11_init (E := od_E3) (g := od_nG (gX10 (od_nG od_g0 0 0) 0) 86 0) (k := 86) (by decide +kernel) (by decide +kernel) (by omega)) rfl (by decide) rfl (Nat.le_of_ble_eq_true rfl) (by decide +kernel) (fun r g' q => ?_)
  obtain ⟨rfl, rfl⟩ := q
  show od_Rz 61 mL_law (od_Zs N xs) od_E00 resL (1 + (od_E2.1.1 - od_E1.1.1) + 1 + (od_E4.1.1 - od_E3.1.1), 19 + (od_E2.1.2 - od_E1.1.2) + od_N 11 + (od_E4.1.2 - od_E3.1.2)) 15 [some (2, -63), some (2, 0), none, none] [(2, 86)] od_E4 od_gI
  refine z_astore_n (L' := [some (2, -63), some (2, 0), some (2, 86), none]) dL_law_15 (by decide) rfl ?_
  refine z_iconst dL_law_16 li_0 ?_
  refine z_istore_n (L' := LcL 0) dL_law_17 (by decide) rfl ?_
  exact z_loop hN 513 0 _ od_E4 od_gI od_EW4 rel_0 (by omega) (by omega) (by omega) (by decide +kernel)
