/-! OrganDrums: hands -/
theorem cRefuse_b (g : od_G) (k kd d n : Int) (sn : Nat) : -3 ≤ cRefuse g k kd d n sn ∧ cRefuse g k kd d n sn ≤ 0 := by
  have e : ∀ {P : Prop} {x y : Int}, (-3 ≤ x ∧ x ≤ 0) → (-3 ≤ y ∧ y ≤ 0) → -3 ≤ od_ite P x y ∧ od_ite P x y ≤ 0 := fun {P x y} hx hy => by
    by_cases c : P
    · rw [od_ite_t c]; exact hx
    · rw [od_ite_f c]; exact hy
  unfold cRefuse
  exact e (e (by omega) (by omega)) (e (by omega) (e (e (by omega) (by omega)) (by omega)))
theorem cLoud_nn (g : od_G) (k t h : Int) (sn : Nat) : 0 ≤ cLoud g k t h sn := (od_sum_b (m := 9) _ (fun i _ _ => cLd_b g k t h sn i)).1
theorem cChanged_b {g : od_G} {s p k kd d n : Int} {sn : Nat} {v : Int} {g' : od_G} (h : cChanged g s p k kd d n sn v g') (hI : CI g k) (hk : k + 9 ≤ s ∨ s + 4 ≤ k) (hp : k + 9 ≤ p ∨ p + 6 ≤ k) : -6 ≤ v := by
  obtain ⟨g1, f1, ⟨_, hv, _⟩ | ⟨_, _, hv, _⟩ | ⟨hr, h3, hv, _⟩⟩ := h
  · have := cRefuse_b g k kd d n sn; omega
  · have := cLoud_nn (cKeep g1 p k kd) k (cLawOf g k (g k 11)) 0 sn; omega
  · rw [hv]
    unfold cTurn
    split
    · have := od_b_r (cHasPin (cPinG (cKeep g1 p k kd) k d n) k d n)
      show -6 ≤ od_b _
      omega
    · split
      · rename_i c0 c1
        have hb : ¬ cBadNo kd n := fun z => by
          unfold cRefuse at hr
          rw [od_ite_f h3, od_ite_t z] at hr
          omega
        have hh : cHas g k d := Classical.byContradiction fun z => by
          unfold cRefuse at hr
          rw [od_ite_f h3, od_ite_f hb, od_ite_f z] at hr
          omega
        have l := hI.has hh
        have e3 : cKeep g1 p k kd (k + 3) = g (k + 3) := by rw [(cKeep_fr g1 p k kd).row (fun y => by omega), f1.row (fun y => by omega)]
        have e1 : cKeep g1 p k kd (k + 1) = g (k + 1) := by rw [(cKeep_fr g1 p k kd).row (fun y => by omega), f1.row (fun y => by omega)]
        unfold cBadNo at hb
        show -6 ≤ (od_w (cKeep g1 p k kd (k + 3) d + n)).tmod (cKeep g1 p k kd (k + 1) d)
        rw [e3, e1, od_wI (by omega) (by omega)]
        have := Int.tmod_nonneg (g (k + 1) d) (show 0 ≤ g (k + 3) d + n by omega)
        omega
      · have := od_b_r (cStop (cStopG (cKeep g1 p k kd) k d) k d)
        show -6 ≤ od_b _
        omega
def ChM (g : od_G) (o kd d n : Int) (sn : Nat) (w : Option od_V) (g' : od_G) : Prop := ∃ (v : Int) (g1 : od_G), cChanged g (o + 70) (o + 48) (o + 1) kd d n sn v g1 ∧ -6 ≤ v ∧ w = some (0, v) ∧ g' = cSet g1 o v
set_option maxRecDepth 10000 in
theorem c_X10_pin {E : od_E} {g : od_G} {o : Int} (ho : OdAt E o) {cn sn : Nat} (hlaw : LawOk E g (o + 70) (cLawOf g (o + 1) (g (o + 1) 11)) cn sn) (hqt : (cLawOf g (o + 1) (g (o + 1) 11)) ≠ -1 → o + 86 ≤ (cLawOf g (o + 1) (g (o + 1) 11))) (hI : CI g (o + 1)) (h5 : 0 ≤ g (o + 48) 5 ∧ g (o + 48) 5 < 16) (h6 : 0 ≤ g (o + 48) 6 ∧ g (o + 48) 6 ≤ 16) (hH : 0 ≤ g (o + 1 + 5) 0 ∧ g (o + 1 + 5) 0 ≤ 999) (d : Int) (n : Int) : od_Cq 8 mX10_pin [(2, o), (0, d), (0, n)] E g (E, ChM g o 0 d n sn) := by
  have hs1 := oS1 ho
  obtain ⟨hk, r0, r1, r2, r3, r4, r5, r6, r7, a1, a2, a3, a4, a5, a6, a7, a8⟩ := oS1 ho
  have ha1 := oAs ho
  have hka := ha1.1
  have hh1 := oHa ho
  have hkh := hh1.1
  have hp1 := oP1 ho
  obtain ⟨hkp, p0, p1, p2, p3, p4, d1, d2, d3, d4, d5⟩ := oP1 ho
  refine od_cqI pnX10 rfl (Nat.le_of_ble_eq_true rfl) od_le.rf ?_
  show od_Rq 8 mX10_pin od_Z0 E (E, ChM g o 0 d n sn) 0 [some (2, o), some (0, d), some (0, n)] [] E g
  refine r_aload_n dX10_pin_0 rfl ?_
  refine r_aload_n dX10_pin_1 rfl ?_
  refine r_getR dX10_pin_2 fkX10_68 gf10_10 (oO ho) (oR10 ho) ?_
  refine r_aload_n dX10_pin_5 rfl ?_
  refine r_getR dX10_pin_6 fkX10_12 gf10_0 (oO ho) (oR0 ho) ?_
  refine r_aload_n dX10_pin_9 rfl ?_
  refine r_getR dX10_pin_10 fkX10_33 gf10_5 (oO ho) (oR5 ho) ?_
  refine r_iconst dX10_pin_13 li_0 ?_
  refine r_iload_n dX10_pin_14 rfl ?_
  refine r_iload_n dX10_pin_15 rfl ?_
  refine r_callV5p dX10_pin_16 cvX10_222 (by assumption) (c_X1_change ha1 hh1 hs1 (by omega) hlaw (fun d z => (hI.has z).1.1) hp1 (by omega) (by omega) h5 h6 (fun z => by have := hqt z; omega) (fun z => by have := hqt z; omega) hI.1 hH _ _ _) (by decide) (Nat.le_of_ble_eq_true rfl) od_le.rf (fun r16 g16 h16 => ?_)
  obtain ⟨v16, rfl, p16⟩ := h16
  show od_Rq _ _ _ _ _ _ _ ((0, v16) :: _) _ _
  have cb := cChanged_b p16 hI (by omega) (by omega)
  refine r_callV1i dX10_pin_19 cvX10_226 (oO ho) (c_X10_settle ho _ cb) (by decide) (Nat.le_of_ble_eq_true rfl) od_le.rf ?_
  exact r_iretq dX10_pin_22 rfl rfl ⟨_, _, p16, cb, rfl, rfl⟩
set_option maxRecDepth 10000 in
theorem c_X10_shift {E : od_E} {g : od_G} {o : Int} (ho : OdAt E o) {cn sn : Nat} (hlaw : LawOk E g (o + 70) (cLawOf g (o + 1) (g (o + 1) 11)) cn sn) (hqt : (cLawOf g (o + 1) (g (o + 1) 11)) ≠ -1 → o + 86 ≤ (cLawOf g (o + 1) (g (o + 1) 11))) (hI : CI g (o + 1)) (h5 : 0 ≤ g (o + 48) 5 ∧ g (o + 48) 5 < 16) (h6 : 0 ≤ g (o + 48) 6 ∧ g (o + 48) 6 ≤ 16) (hH : 0 ≤ g (o + 1 + 5) 0 ∧ g (o + 1 + 5) 0 ≤ 999) (d : Int) (n : Int) : od_Cq 8 mX10_shift [(2, o), (0, d), (0, n)] E g (E, ChM g o 1 d n sn) := by
  have hs1 := oS1 ho
  obtain ⟨hk, r0, r1, r2, r3, r4, r5, r6, r7, a1, a2, a3, a4, a5, a6, a7, a8⟩ := oS1 ho
  have ha1 := oAs ho
  have hka := ha1.1
  have hh1 := oHa ho
  have hkh := hh1.1
  have hp1 := oP1 ho
  obtain ⟨hkp, p0, p1, p2, p3, p4, d1, d2, d3, d4, d5⟩ := oP1 ho
  refine od_cqI pnX10 rfl (Nat.le_of_ble_eq_true rfl) od_le.rf ?_
  show od_Rq 8 mX10_shift od_Z0 E (E, ChM g o 1 d n sn) 0 [some (2, o), some (0, d), some (0, n)] [] E g
  refine r_aload_n dX10_shift_0 rfl ?_
  refine r_aload_n dX10_shift_1 rfl ?_
  refine r_getR dX10_shift_2 fkX10_68 gf10_10 (oO ho) (oR10 ho) ?_
  refine r_aload_n dX10_shift_5 rfl ?_
  refine r_getR dX10_shift_6 fkX10_12 gf10_0 (oO ho) (oR0 ho) ?_
  refine r_aload_n dX10_shift_9 rfl ?_
  refine r_getR dX10_shift_10 fkX10_33 gf10_5 (oO ho) (oR5 ho) ?_
  refine r_iconst dX10_shift_13 li_1 ?_
  refine r_iload_n dX10_shift_14 rfl ?_
  refine r_iload_n dX10_shift_15 rfl ?_
  refine r_callV5p dX10_shift_16 cvX10_222 (by assumption) (c_X1_change ha1 hh1 hs1 (by omega) hlaw (fun d z => (hI.has z).1.1) hp1 (by omega) (by omega) h5 h6 (fun z => by have := hqt z; omega) (fun z => by have := hqt z; omega) hI.1 hH _ _ _) (by decide) (Nat.le_of_ble_eq_true rfl) od_le.rf (fun r16 g16 h16 => ?_)
  obtain ⟨v16, rfl, p16⟩ := h16
  show od_Rq _ _ _ _ _ _ _ ((0, v16) :: _) _ _
  have cb := cChanged_b p16 hI (by omega) (by omega)
  refine r_callV1i dX10_shift_19 cvX10_226 (oO ho) (c_X10_settle ho _ cb) (by decide) (Nat.le_of_ble_eq_true rfl) od_le.rf ?_
  exact r_iretq dX10_shift_22 rfl rfl ⟨_, _, p16, cb, rfl, rfl⟩
set_option maxRecDepth 10000 in
theorem c_X10_stop {E : od_E} {g : od_G} {o : Int} (ho : OdAt E o) {cn sn : Nat} (hlaw : LawOk E g (o + 70) (cLawOf g (o + 1) (g (o + 1) 11)) cn sn) (hqt : (cLawOf g (o + 1) (g (o + 1) 11)) ≠ -1 → o + 86 ≤ (cLawOf g (o + 1) (g (o + 1) 11))) (hI : CI g (o + 1)) (h5 : 0 ≤ g (o + 48) 5 ∧ g (o + 48) 5 < 16) (h6 : 0 ≤ g (o + 48) 6 ∧ g (o + 48) 6 ≤ 16) (hH : 0 ≤ g (o + 1 + 5) 0 ∧ g (o + 1 + 5) 0 ≤ 999) (d : Int) : od_Cq 8 mX10_stop [(2, o), (0, d)] E g (E, ChM g o 2 d 0 sn) := by
  have hs1 := oS1 ho
  obtain ⟨hk, r0, r1, r2, r3, r4, r5, r6, r7, a1, a2, a3, a4, a5, a6, a7, a8⟩ := oS1 ho
  have ha1 := oAs ho
  have hka := ha1.1
  have hh1 := oHa ho
  have hkh := hh1.1
  have hp1 := oP1 ho
  obtain ⟨hkp, p0, p1, p2, p3, p4, d1, d2, d3, d4, d5⟩ := oP1 ho
  refine od_cqI pnX10 rfl (Nat.le_of_ble_eq_true rfl) od_le.rf ?_
  show od_Rq 8 mX10_stop od_Z0 E (E, ChM g o 2 d 0 sn) 0 [some (2, o), some (0, d)] [] E g
  refine r_aload_n dX10_stop_0 rfl ?_
  refine r_aload_n dX10_stop_1 rfl ?_
  refine r_getR dX10_stop_2 fkX10_68 gf10_10 (oO ho) (oR10 ho) ?_
  refine r_aload_n dX10_stop_5 rfl ?_
  refine r_getR dX10_stop_6 fkX10_12 gf10_0 (oO ho) (oR0 ho) ?_
  refine r_aload_n dX10_stop_9 rfl ?_
  refine r_getR dX10_stop_10 fkX10_33 gf10_5 (oO ho) (oR5 ho) ?_
  refine r_iconst dX10_stop_13 li_2 ?_
  refine r_iload_n dX10_stop_14 rfl ?_
  refine r_iconst dX10_stop_15 li_0 ?_
  refine r_callV5p dX10_stop_16 cvX10_222 (by assumption) (c_X1_change ha1 hh1 hs1 (by omega) hlaw (fun d z => (hI.has z).1.1) hp1 (by omega) (by omega) h5 h6 (fun z => by have := hqt z; omega) (fun z => by have := hqt z; omega) hI.1 hH _ _ _) (by decide) (Nat.le_of_ble_eq_true rfl) od_le.rf (fun r16 g16 h16 => ?_)
  obtain ⟨v16, rfl, p16⟩ := h16
  show od_Rq _ _ _ _ _ _ _ ((0, v16) :: _) _ _
  have cb := cChanged_b p16 hI (by omega) (by omega)
  refine r_callV1i dX10_stop_19 cvX10_226 (oO ho) (c_X10_settle ho _ cb) (by decide) (Nat.le_of_ble_eq_true rfl) od_le.rf ?_
  exact r_iretq dX10_stop_22 rfl rfl ⟨_, _, p16, cb, rfl, rfl⟩
set_option maxRecDepth 10000 in
theorem c_X10_pass {E : od_E} {g : od_G} {o : Int} (ho : OdAt E o) {cn sn : Nat} (hlaw : LawOk E g (o + 70) (cLawOf g (o + 1) (g (o + 1) 11)) cn sn) (hqt : (cLawOf g (o + 1) (g (o + 1) 11)) ≠ -1 → o + 86 ≤ (cLawOf g (o + 1) (g (o + 1) 11))) (hI : CI g (o + 1)) (h5 : 0 ≤ g (o + 48) 5 ∧ g (o + 48) 5 < 16) (h6 : 0 ≤ g (o + 48) 6 ∧ g (o + 48) 6 ≤ 16) (hH : 0 ≤ g (o + 1 + 5) 0 ∧ g (o + 1 + 5) 0 ≤ 999) : od_Cq 8 mX10_pass [(2, o)] E g (E, ChM g o 3 0 0 sn) := by
  have hs1 := oS1 ho
  obtain ⟨hk, r0, r1, r2, r3, r4, r5, r6, r7, a1, a2, a3, a4, a5, a6, a7, a8⟩ := oS1 ho
  have ha1 := oAs ho
  have hka := ha1.1
  have hh1 := oHa ho
  have hkh := hh1.1
  have hp1 := oP1 ho
  obtain ⟨hkp, p0, p1, p2, p3, p4, d1, d2, d3, d4, d5⟩ := oP1 ho
  refine od_cqI pnX10 rfl (Nat.le_of_ble_eq_true rfl) od_le.rf ?_
  show od_Rq 8 mX10_pass od_Z0 E (E, ChM g o 3 0 0 sn) 0 [some (2, o)] [] E g
  refine r_aload_n dX10_pass_0 rfl ?_
  refine r_aload_n dX10_pass_1 rfl ?_
  refine r_getR dX10_pass_2 fkX10_68 gf10_10 (oO ho) (oR10 ho) ?_
  refine r_aload_n dX10_pass_5 rfl ?_
  refine r_getR dX10_pass_6 fkX10_12 gf10_0 (oO ho) (oR0 ho) ?_
  refine r_aload_n dX10_pass_9 rfl ?_
  refine r_getR dX10_pass_10 fkX10_33 gf10_5 (oO ho) (oR5 ho) ?_
  refine r_iconst dX10_pass_13 li_3 ?_
  refine r_iconst dX10_pass_14 li_0 ?_
  refine r_iconst dX10_pass_15 li_0 ?_
  refine r_callV5p dX10_pass_16 cvX10_222 (by assumption) (c_X1_change ha1 hh1 hs1 (by omega) hlaw (fun d z => (hI.has z).1.1) hp1 (by omega) (by omega) h5 h6 (fun z => by have := hqt z; omega) (fun z => by have := hqt z; omega) hI.1 hH _ _ _) (by decide) (Nat.le_of_ble_eq_true rfl) od_le.rf (fun r16 g16 h16 => ?_)
  obtain ⟨v16, rfl, p16⟩ := h16
  show od_Rq _ _ _ _ _ _ _ ((0, v16) :: _) _ _
  have cb := cChanged_b p16 hI (by omega) (by omega)
  refine r_callV1i dX10_pass_19 cvX10_226 (oO ho) (c_X10_settle ho _ cb) (by decide) (Nat.le_of_ble_eq_true rfl) od_le.rf ?_
  exact r_iretq dX10_pass_22 rfl rfl ⟨_, _, p16, cb, rfl, rfl⟩
