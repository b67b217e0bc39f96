/-! the reference: rounds -/
def od_gcd (a b : Int) : Int := ((Nat.gcd a.toNat b.toNat : Nat) : Int)
theorem od_gcd_s {x y : Int} (hx : 0 ≤ x) (hy : 0 < y) : od_gcd y (x.tmod y) = od_gcd x y := by
  unfold od_gcd
  rw [Int.tmod_eq_emod_of_nonneg hx, Int.toNat_emod hx (by omega), Nat.gcd_comm x.toNat, Nat.gcd_rec y.toNat x.toNat, Nat.gcd_comm]
theorem od_gcd_0 {x : Int} (hx : 0 ≤ x) : od_gcd x 0 = x := by
  unfold od_gcd
  rw [show (0 : Int).toNat = 0 from rfl, Nat.gcd_zero_right]
  omega
theorem od_gcd_p {x y : Int} (hx : 1 ≤ x) : 1 ≤ od_gcd x y := by
  unfold od_gcd
  have := Nat.gcd_pos_of_pos_left y.toNat (show 0 < x.toNat by omega)
  omega
theorem od_gl {r l : Int} (h1 : 1 ≤ r) (h2 : r ≤ 27720) (l1 : 1 ≤ l) (l2 : l ≤ 12) : od_w (od_w (r.tdiv (od_gcd r l)) * l) = od_lcm r l := by
  obtain ⟨R, rfl⟩ := Int.eq_ofNat_of_zero_le (show 0 ≤ r by omega)
  obtain ⟨L, rfl⟩ := Int.eq_ofNat_of_zero_le (show 0 ≤ l by omega)
  have hm : Nat.lcm R L ≤ R * L := Nat.lcm_le_mul (by omega) (by omega)
  have hm2 : R * L ≤ R * 12 := Nat.mul_le_mul_left R (by omega)
  have e : R / Nat.gcd R L * L = Nat.lcm R L := by
    unfold Nat.lcm
    rw [Nat.mul_comm R L, Nat.mul_div_assoc L (Nat.gcd_dvd_left R L), Nat.mul_comm]
  have hd : R / Nat.gcd R L ≤ R := Nat.div_le_self _ _
  have hq : ∀ q : Nat, q ≤ R → od_w ((q : Nat) : Int) = (q : Int) := fun q h => od_wI (by omega) (by omega)
  have e1 : od_w (((R : Nat) : Int).tdiv (od_gcd R L)) = ((R / Nat.gcd R L : Nat) : Int) := by
    unfold od_gcd
    rw [Int.tdiv_eq_ediv_of_nonneg (by omega)]
    rw [show ((R : Int).toNat) = R by omega, show ((L : Int).toNat) = L by omega, ← Int.natCast_ediv]
    exact hq _ hd
  rw [e1, ← Int.natCast_mul, e]
  unfold od_lcm
  rw [show ((R : Int).toNat) = R by omega, show ((L : Int).toNat) = L by omega]
  exact od_wI (by omega) (by omega)
noncomputable def mRd (g : od_G) (M : Int) : Int := od_rd (fun e => ¬ mStop g M e) (fun e => g (M + 2) (19 + e)) (g (M + 2) 45).toNat 0 1
set_option maxRecDepth 10000 in
theorem lp_X11_common {E : od_E} {g : od_G} (a b v : Int) : ∀ (m : Nat) (x y : Int) (z : Option od_V), (0 ≤ x ∧ 0 ≤ y ∧ od_gcd x y = v) → (y.toNat) < m → od_R 1 mX11_common od_Z0 E (some (0, v), E, g) 4 [some (0, a), some (0, b), some (0, x), some (0, y), z] [] E g := by
  intro m
  induction m with
  | zero => intro x y z hi hM; exact absurd hM (Nat.not_lt_zero _)
  | succ m ih =>
    intro x y z hi hM
    obtain ⟨hx, hy, hv⟩ := hi
    have hs : 0 < y → od_gcd y (x.tmod y) = v := fun q => (od_gcd_s hx q).trans hv
    have hb : 0 < y → 0 ≤ x.tmod y ∧ x.tmod y < y := fun q => by rw [Int.tmod_eq_emod_of_nonneg hx]; exact ⟨Int.emod_nonneg _ (by omega), Int.emod_lt_of_pos _ q⟩
    refine r_iload_n dX11_common_4 rfl ?_
    refine r_if_eq (tgt := 21) dX11_common_5 rfl (fun c5 => ?_) (fun c5 => ?_)
    · refine r_iload_n dX11_common_21 rfl ?_
      have hy0 : y = 0 := by omega
      exact r_iret dX11_common_22 rfl (by rw [← hv, hy0, od_gcd_0 hx])
    · refine r_iload_n dX11_common_8 rfl ?_
      refine r_iload_n dX11_common_9 rfl ?_
      refine r_irem dX11_common_10 (by first | decide | omega) ?_
      refine r_istore dX11_common_11 (by decide) rfl ?_
      refine r_iload_n dX11_common_13 rfl ?_
      refine r_istore_n dX11_common_14 (by decide) rfl ?_
      refine r_iload dX11_common_15 rfl ?_
      refine r_istore_n dX11_common_17 (by decide) rfl ?_
      refine r_goto (tgt := 4) dX11_common_18 rfl ?_
      have hb1 := hb (by omega)
      exact ih _ _ _ ⟨by omega, by omega, hs (by omega)⟩ (by omega)
set_option maxRecDepth 10000 in
theorem c_X11_common {E : od_E} {g : od_G} (a b : Int) (h : 0 ≤ a ∧ 0 ≤ b) : od_Ct 1 mX11_common [(0, a), (0, b)] E g (some (0, od_gcd a b), E, g) := by
  refine od_ctI pnX11 rfl (Nat.le_of_ble_eq_true rfl) od_le.rf ?_
  show od_R _ _ _ _ _ 0 [some (0, a), some (0, b), none, none, none] [] E g
  refine r_iload_n dX11_common_0 rfl ?_
  refine r_istore_n dX11_common_1 (by decide) rfl ?_
  refine r_iload_n dX11_common_2 rfl ?_
  refine r_istore_n dX11_common_3 (by decide) rfl ?_
  exact lp_X11_common a b _ _ _ _ _ ⟨h.1, h.2, rfl⟩ (Nat.lt_succ_self _)
set_option maxRecDepth 10000 in
theorem lp_X11_round {E : od_E} {g : od_G} {M : Int} (hm : MoAt E M) (hI : MI g M) (v : Int) : ∀ (m : Nat) (r d : Int), (0 ≤ d ∧ d ≤ g (M + 2) 45 ∧ 1 ≤ r ∧ r ∣ 27720 ∧ od_rd (fun e => ¬ mStop g M e) (fun e => g (M + 2) (19 + e)) (g (M + 2) 45 - d).toNat d r = v) → ((g (M + 2) 45 - d).toNat) < m → od_R 2 mX11_round od_Z0 E (some (0, v), E, g) 4 [some (2, M), some (0, r), some (0, d)] [] E g := by
  intro m
  induction m with
  | zero => intro r d hi hM; exact absurd hM (Nat.not_lt_zero _)
  | succ m ih =>
    intro r d hi hM
    obtain ⟨hi0, hi1, hr1, hr2, hv⟩ := hi
    have i45 := hI.1
    have hr3 : r ≤ 27720 := Int.le_of_dvd (by decide) hr2
    have hl : d < g (M + 2) 45 → 1 ≤ g (M + 2) (19 + d) ∧ g (M + 2) (19 + d) ≤ 12 := hI.2 d hi0
    have hgp := od_gcd_p (y := g (M + 2) (19 + d)) hr1
    have eL : d < g (M + 2) 45 → od_w (od_w (r.tdiv (od_gcd r (g (M + 2) (19 + d)))) * g (M + 2) (19 + d)) = od_lcm r (g (M + 2) (19 + d)) := fun q => od_gl hr1 hr3 (hl q).1 (hl q).2
    have hs : d < g (M + 2) 45 → od_rd (fun e => ¬ mStop g M e) (fun e => g (M + 2) (19 + e)) (g (M + 2) 45 - (d + 1)).toNat (d + 1) (od_ite (¬ mStop g M d) (od_lcm r (g (M + 2) (19 + d))) r) = v := fun q => by
      rw [show (g (M + 2) 45 - d).toNat = (g (M + 2) 45 - (d + 1)).toNat + 1 by omega] at hv
      exact hv
    refine r_iload_n dX11_round_4 rfl ?_
    refine r_aload_n dX11_round_5 rfl ?_
    refine r_callV0i dX11_round_6 cvX11_112 (mo_o hm) (c_X11_drumMany hm) (by decide) (Nat.le_of_ble_eq_true rfl) od_le.rf ?_
    refine r_icmp_ge (tgt := 56) dX11_round_9 rfl (fun c9 => ?_) (fun c9 => ?_)
    · refine r_iload_n dX11_round_56 rfl ?_
      exact r_iret dX11_round_57 rfl (by rw [← hv, show (g (M + 2) 45 - d).toNat = 0 by omega]; rfl)
    · refine r_aload_n dX11_round_12 rfl ?_
      refine r_iload_n dX11_round_13 rfl ?_
      refine r_callV1b dX11_round_14 cvX11_335 (mo_o hm) (c_X11_isStopped hm _ (by omega)) (by decide) (Nat.le_of_ble_eq_true rfl) od_le.rf (fun q14 => ?_) (fun q14 => ?_)
      · refine r_if_eq (tgt := 24) dX11_round_17 rfl (fun h => absurd h (by decide)) (fun _ => ?_)
        refine r_iload_n dX11_round_20 rfl ?_
        refine r_goto (tgt := 49) dX11_round_21 rfl ?_
        refine r_istore_n dX11_round_49 (by decide) rfl ?_
        refine r_iincE dX11_round_50 rfl (by decide) (by first | exact eL (by omega) | exact od_w0 (by omega) (by omega) | exact od_wI (by omega) (by omega) | rfl) rfl ?_
        refine r_goto (tgt := 4) dX11_round_53 rfl ?_
        have hs1 := hs (by omega)
        have hl1 := hl (by omega)
        first
        | (rw [od_ite_f (fun z => z q14)] at hs1
           exact ih _ _ ⟨by omega, by omega, hr1, hr2, hs1⟩ (by omega))
        | (rw [od_ite_t q14] at hs1
           exact ih _ _ ⟨by omega, by omega, od_lcm_p hr1 hl1.1, od_lcm_l (by omega) (by omega) (by omega) hr2 (od_d27 hl1.1 hl1.2), hs1⟩ (by omega))
      · refine r_if_eq (tgt := 24) dX11_round_17 rfl (fun _ => ?_) (fun h => absurd h (by decide))
        refine r_iload_n dX11_round_24 rfl ?_
        refine r_iload_n dX11_round_25 rfl ?_
        refine r_aload_n dX11_round_26 rfl ?_
        refine r_getR dX11_round_27 fkX11_28 gf11_2 (mo_o hm) (mo_r2 hm) ?_
        refine r_bipush dX11_round_30 lb_19 ?_
        refine r_iload_n dX11_round_32 rfl ?_
        refine r_iaddE dX11_round_33 (by first | exact eL (by omega) | exact od_w0 (by omega) (by omega) | exact od_wI (by omega) (by omega) | rfl) ?_
        refine r_iald dX11_round_34 (mo_k2 hm) (by omega) rfl ?_
        refine r_callS2i dX11_round_35 csX11_347 (c_X11_common _ _ (by have := hl (by omega); omega)) (by decide) (Nat.le_of_ble_eq_true rfl) od_le.rf ?_
        refine r_idiv dX11_round_38 (by first | decide | omega) ?_
        refine r_aload_n dX11_round_39 rfl ?_
        refine r_getR dX11_round_40 fkX11_28 gf11_2 (mo_o hm) (mo_r2 hm) ?_
        refine r_bipush dX11_round_43 lb_19 ?_
        refine r_iload_n dX11_round_45 rfl ?_
        refine r_iaddE dX11_round_46 (by first | exact eL (by omega) | exact od_w0 (by omega) (by omega) | exact od_wI (by omega) (by omega) | rfl) ?_
        refine r_iald dX11_round_47 (mo_k2 hm) (by omega) rfl ?_
        refine r_imulE dX11_round_48 (by first | exact eL (by omega) | exact od_w0 (by omega) (by omega) | exact od_wI (by omega) (by omega) | rfl) ?_
        refine r_istore_n dX11_round_49 (by decide) rfl ?_
        refine r_iincE dX11_round_50 rfl (by decide) (by first | exact eL (by omega) | exact od_w0 (by omega) (by omega) | exact od_wI (by omega) (by omega) | rfl) rfl ?_
        refine r_goto (tgt := 4) dX11_round_53 rfl ?_
        have hs1 := hs (by omega)
        have hl1 := hl (by omega)
        first
        | (rw [od_ite_f (fun z => z q14)] at hs1
           exact ih _ _ ⟨by omega, by omega, hr1, hr2, hs1⟩ (by omega))
        | (rw [od_ite_t q14] at hs1
           exact ih _ _ ⟨by omega, by omega, od_lcm_p hr1 hl1.1, od_lcm_l (by omega) (by omega) (by omega) hr2 (od_d27 hl1.1 hl1.2), hs1⟩ (by omega))
set_option maxRecDepth 10000 in
theorem c_X11_round {E : od_E} {g : od_G} {M : Int} (hm : MoAt E M) (hI : MI g M) : od_Ct 2 mX11_round [(2, M)] E g (some (0, mRd g M), E, g) := by
  refine od_ctI pnX11 rfl (Nat.le_of_ble_eq_true rfl) od_le.rf ?_
  show od_R _ _ _ _ _ 0 [some (2, M), none, none] [] E g
  refine r_iconst dX11_round_0 li_1 ?_
  refine r_istore_n dX11_round_1 (by decide) rfl ?_
  refine r_iconst dX11_round_2 li_0 ?_
  refine r_istore_n dX11_round_3 (by decide) rfl ?_
  exact lp_X11_round hm hI _ _ _ _ ⟨by omega, hI.1.1, by omega, Int.one_dvd _, by unfold mRd; rw [Int.sub_zero]⟩ (Nat.lt_succ_self _)
