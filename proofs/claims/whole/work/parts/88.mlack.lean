/-! the reference: what lacks at an hour -/
def mLkP (g : od_G) (M s h d : Int) : Prop := mIn s d ∧ ¬ mStrikes g M d h
def mLkB (g : od_G) (M h d : Int) : Prop := g (M + 20) (12 * d + mBeat g M d h) ≠ 0
noncomputable def mLk (g : od_G) (M s h : Int) : Nat → Int
  | 0 => 0
  | n + 1 => if mLk g M s h n = 1000000 then 1000000 else od_ite (mLkP g M s h n) (od_ite (mLkB g M h n) 1000000 (mLk g M s h n + 1)) (mLk g M s h n)
theorem mLk_s (g : od_G) (M s h : Int) {d : Int} (hd : 0 ≤ d) : mLk g M s h (d + 1).toNat = if mLk g M s h d.toNat = 1000000 then 1000000 else od_ite (mLkP g M s h d) (od_ite (mLkB g M h d) 1000000 (mLk g M s h d.toNat + 1)) (mLk g M s h d.toNat) := by
  rw [show (d + 1).toNat = d.toNat + 1 by omega]
  show (if mLk g M s h d.toNat = 1000000 then 1000000 else od_ite (mLkP g M s h (d.toNat : Nat)) (od_ite (mLkB g M h (d.toNat : Nat)) 1000000 (mLk g M s h d.toNat + 1)) (mLk g M s h d.toNat)) = _
  rw [show ((d.toNat : Nat) : Int) = d by omega]
theorem mLk_a (g : od_G) (M s h : Int) {n : Nat} (hn : mLk g M s h n = 1000000) : ∀ m : Nat, mLk g M s h (n + m) = 1000000 := by
  intro m
  induction m with
  | zero => exact hn
  | succ m ih =>
    show (if mLk g M s h (n + m) = 1000000 then 1000000 else _) = _
    rw [if_pos ih]
noncomputable def mLack (g : od_G) (M s h : Int) : Int := mLk g M s h (g (M + 2) 45).toNat
set_option maxRecDepth 10000 in
theorem lp_X11_lacks {E : od_E} {g : od_G} {M : Int} (hm : MoAt E M) (hI : MI g M) (hJ : MJ g M) (s h : Int) (hh : 0 ≤ h ∧ h ≤ 30000) : ∀ (m : Nat) (c d : Int), (0 ≤ d ∧ d ≤ g (M + 2) 45 ∧ (0 ≤ c ∧ c ≤ d) ∧ c = mLk g M s h d.toNat) → ((g (M + 2) 45 - d).toNat) < m → od_R 4 mX11_lacks od_Z0 E (some (0, mLack g M s h), E, g) 5 [some (2, M), some (0, s), some (0, h), some (0, c), some (0, d)] [] E g := by
  intro m
  induction m with
  | zero => intro c d hi hM; exact absurd hM (Nat.not_lt_zero _)
  | succ m ih =>
    intro c d hi hM
    obtain ⟨hi0, hi1, hcb, hc⟩ := hi
    have i45 := hI.1
    have hs := mLk_s g M s h hi0
    have l : d < g (M + 2) 45 → 1 ≤ g (M + 2) (19 + d) ∧ g (M + 2) (19 + d) ≤ 12 := fun z => hI.2 d hi0 z
    have hB : d < g (M + 2) 45 → 0 ≤ mBeat g M d h ∧ mBeat g M d h < g (M + 2) (19 + d) := fun z => mBeat_r hI hJ ⟨hi0, z⟩ hh
    rw [← hc, if_neg (by omega)] at hs
    refine r_iload dX11_lacks_5 rfl ?_
    refine r_aload_n dX11_lacks_7 rfl ?_
    refine r_callV0i dX11_lacks_8 cvX11_112 (mo_o hm) (c_X11_drumMany hm) (by decide) (Nat.le_of_ble_eq_true rfl) od_le.rf ?_
    refine r_icmp_ge (tgt := 81) dX11_lacks_11 rfl (fun c11 => ?_) (fun c11 => ?_)
    · refine r_iload_n dX11_lacks_81 rfl ?_
      exact r_iret dX11_lacks_82 rfl (by unfold mLack; rw [hc, show d = g (M + 2) 45 by omega])
    · refine r_iload_n dX11_lacks_14 rfl ?_
      refine r_iload dX11_lacks_15 rfl ?_
      refine r_callS2b dX11_lacks_17 csX11_116 (c_X11_isIn _ _) (by decide) (Nat.le_of_ble_eq_true rfl) od_le.rf (fun q17 => ?_) (fun q17 => ?_)
      · refine r_if_eq (tgt := 75) dX11_lacks_20 rfl (fun h => absurd h (by decide)) (fun _ => ?_)
        refine r_aload_n dX11_lacks_23 rfl ?_
        refine r_iload dX11_lacks_24 rfl ?_
        refine r_iload_n dX11_lacks_26 rfl ?_
        refine r_callV2b dX11_lacks_27 cvX11_132 (mo_o hm) (c_X11_strikes hm _ (by omega) (l (by omega)).1 _) (by decide) (Nat.le_of_ble_eq_true rfl) od_le.rf (fun q27 => ?_) (fun q27 => ?_)
        · refine r_if_eq (tgt := 36) dX11_lacks_30 rfl (fun h => absurd h (by decide)) (fun _ => ?_)
          refine r_goto (tgt := 75) dX11_lacks_33 rfl ?_
          refine r_iincE dX11_lacks_75 rfl (by decide) (by first | exact od_w0 (by omega) (by omega) | exact od_wI (by omega) (by omega) | rfl) rfl ?_
          refine r_goto (tgt := 5) dX11_lacks_78 rfl ?_
          first
          | (exfalso; omega)
          | (have z : ¬ mIn s d := by assumption
             rw [od_ite_f (fun q => z q.1)] at hs
             exact ih _ _ ⟨by omega, by omega, by omega, hs.symm⟩ (by omega))
          | (have z1 : mIn s d := by assumption
             have z2 : mStrikes g M d h := by assumption
             rw [od_ite_f (fun q => q.2 z2)] at hs
             exact ih _ _ ⟨by omega, by omega, by omega, hs.symm⟩ (by omega))
          | (have z1 : mIn s d := by assumption
             have z2 : ¬ mStrikes g M d h := by assumption
             have z3 : g (M + 20) (12 * d + mBeat g M d h) = 0 := by assumption
             rw [od_ite_t ⟨z1, z2⟩, od_ite_f (fun q => q z3)] at hs
             exact ih _ _ ⟨by omega, by omega, by omega, hs.symm⟩ (by omega))
        · refine r_if_eq (tgt := 36) dX11_lacks_30 rfl (fun _ => ?_) (fun h => absurd h (by decide))
          have hB1 := hB (by omega)
          have hl1 := l (by omega)
          refine r_aload_n dX11_lacks_36 rfl ?_
          refine r_getR dX11_lacks_37 fkX11_87 gf11_39 (mo_o hm) (mo_r39 hm) ?_
          refine r_bipush dX11_lacks_40 lb_12 ?_
          refine r_iload dX11_lacks_42 rfl ?_
          refine r_imulE dX11_lacks_44 (by first | exact od_w0 (by omega) (by omega) | exact od_wI (by omega) (by omega) | rfl) ?_
          refine r_aload_n dX11_lacks_45 rfl ?_
          refine r_iload dX11_lacks_46 rfl ?_
          refine r_iload_n dX11_lacks_48 rfl ?_
          refine r_callV2i dX11_lacks_49 cvX11_338 (mo_o hm) (c_X11_beatOf hm _ (by omega) (l (by omega)).1 _) (by decide) (Nat.le_of_ble_eq_true rfl) od_le.rf ?_
          refine r_iaddE dX11_lacks_52 (by first | exact od_w0 (by omega) (by omega) | exact od_wI (by omega) (by omega) | rfl) ?_
          refine r_zald dX11_lacks_53 (mo_k39 hm) (by omega) rfl ?_
          refine r_if_eq (tgt := 62) dX11_lacks_54 rfl (fun c54 => ?_) (fun c54 => ?_)
          · refine r_iload_n dX11_lacks_62 rfl ?_
            refine r_iconst dX11_lacks_63 li_1 ?_
            refine r_iaddE dX11_lacks_64 (by first | exact od_w0 (by omega) (by omega) | exact od_wI (by omega) (by omega) | rfl) ?_
            refine r_istore_n dX11_lacks_65 (by decide) rfl ?_
            refine r_iload_n dX11_lacks_66 rfl ?_
            refine r_ldc dX11_lacks_67 kcX11_169 lk_X11_169 ?_
            refine r_icmp_lt (tgt := 75) dX11_lacks_69 rfl (fun c69 => ?_) (fun c69 => ?_)
            · refine r_iincE dX11_lacks_75 rfl (by decide) (by first | exact od_w0 (by omega) (by omega) | exact od_wI (by omega) (by omega) | rfl) rfl ?_
              refine r_goto (tgt := 5) dX11_lacks_78 rfl ?_
              first
              | (exfalso; omega)
              | (have z : ¬ mIn s d := by assumption
                 rw [od_ite_f (fun q => z q.1)] at hs
                 exact ih _ _ ⟨by omega, by omega, by omega, hs.symm⟩ (by omega))
              | (have z1 : mIn s d := by assumption
                 have z2 : mStrikes g M d h := by assumption
                 rw [od_ite_f (fun q => q.2 z2)] at hs
                 exact ih _ _ ⟨by omega, by omega, by omega, hs.symm⟩ (by omega))
              | (have z1 : mIn s d := by assumption
                 have z2 : ¬ mStrikes g M d h := by assumption
                 have z3 : g (M + 20) (12 * d + mBeat g M d h) = 0 := by assumption
                 rw [od_ite_t ⟨z1, z2⟩, od_ite_f (fun q => q z3)] at hs
                 exact ih _ _ ⟨by omega, by omega, by omega, hs.symm⟩ (by omega))
            · refine r_ldc dX11_lacks_72 kcX11_169 lk_X11_169 ?_
              first
              | (exfalso; omega)
              | (have z1 : mIn s d := by assumption
                 have z2 : ¬ mStrikes g M d h := by assumption
                 have z3 : g (M + 20) (12 * d + mBeat g M d h) ≠ 0 := by assumption
                 rw [od_ite_t ⟨z1, z2⟩, od_ite_t (show mLkB g M h d from z3)] at hs
                 have za := mLk_a g M s h hs (g (M + 2) 45 - (d + 1)).toNat
                 rw [show (d + 1).toNat + (g (M + 2) 45 - (d + 1)).toNat = (g (M + 2) 45).toNat by omega] at za
                 exact r_iret dX11_lacks_74 rfl (by unfold mLack; rw [za]))
          · refine r_ldc dX11_lacks_57 kcX11_169 lk_X11_169 ?_
            refine r_goto (tgt := 65) dX11_lacks_59 rfl ?_
            refine r_istore_n dX11_lacks_65 (by decide) rfl ?_
            refine r_iload_n dX11_lacks_66 rfl ?_
            refine r_ldc dX11_lacks_67 kcX11_169 lk_X11_169 ?_
            refine r_icmp_lt (tgt := 75) dX11_lacks_69 rfl (fun c69 => ?_) (fun c69 => ?_)
            · refine r_iincE dX11_lacks_75 rfl (by decide) (by first | exact od_w0 (by omega) (by omega) | exact od_wI (by omega) (by omega) | rfl) rfl ?_
              refine r_goto (tgt := 5) dX11_lacks_78 rfl ?_
              first
              | (exfalso; omega)
              | (have z : ¬ mIn s d := by assumption
                 rw [od_ite_f (fun q => z q.1)] at hs
                 exact ih _ _ ⟨by omega, by omega, by omega, hs.symm⟩ (by omega))
              | (have z1 : mIn s d := by assumption
                 have z2 : mStrikes g M d h := by assumption
                 rw [od_ite_f (fun q => q.2 z2)] at hs
                 exact ih _ _ ⟨by omega, by omega, by omega, hs.symm⟩ (by omega))
              | (have z1 : mIn s d := by assumption
                 have z2 : ¬ mStrikes g M d h := by assumption
                 have z3 : g (M + 20) (12 * d + mBeat g M d h) = 0 := by assumption
                 rw [od_ite_t ⟨z1, z2⟩, od_ite_f (fun q => q z3)] at hs
                 exact ih _ _ ⟨by omega, by omega, by omega, hs.symm⟩ (by omega))
            · refine r_ldc dX11_lacks_72 kcX11_169 lk_X11_169 ?_
              first
              | (exfalso; omega)
              | (have z1 : mIn s d := by assumption
                 have z2 : ¬ mStrikes g M d h := by assumption
                 have z3 : g (M + 20) (12 * d + mBeat g M d h) ≠ 0 := by assumption
                 rw [od_ite_t ⟨z1, z2⟩, od_ite_t (show mLkB g M h d from z3)] at hs
                 have za := mLk_a g M s h hs (g (M + 2) 45 - (d + 1)).toNat
                 rw [show (d + 1).toNat + (g (M + 2) 45 - (d + 1)).toNat = (g (M + 2) 45).toNat by omega] at za
                 exact r_iret dX11_lacks_74 rfl (by unfold mLack; rw [za]))
      · refine r_if_eq (tgt := 75) dX11_lacks_20 rfl (fun _ => ?_) (fun h => absurd h (by decide))
        refine r_iincE dX11_lacks_75 rfl (by decide) (by first | exact od_w0 (by omega) (by omega) | exact od_wI (by omega) (by omega) | rfl) rfl ?_
        refine r_goto (tgt := 5) dX11_lacks_78 rfl ?_
        first
        | (exfalso; omega)
        | (have z : ¬ mIn s d := by assumption
           rw [od_ite_f (fun q => z q.1)] at hs
           exact ih _ _ ⟨by omega, by omega, by omega, hs.symm⟩ (by omega))
        | (have z1 : mIn s d := by assumption
           have z2 : mStrikes g M d h := by assumption
           rw [od_ite_f (fun q => q.2 z2)] at hs
           exact ih _ _ ⟨by omega, by omega, by omega, hs.symm⟩ (by omega))
        | (have z1 : mIn s d := by assumption
           have z2 : ¬ mStrikes g M d h := by assumption
           have z3 : g (M + 20) (12 * d + mBeat g M d h) = 0 := by assumption
           rw [od_ite_t ⟨z1, z2⟩, od_ite_f (fun q => q z3)] at hs
           exact ih _ _ ⟨by omega, by omega, by omega, hs.symm⟩ (by omega))
set_option maxRecDepth 10000 in
theorem c_X11_lacks {E : od_E} {g : od_G} {M : Int} (hm : MoAt E M) (hI : MI g M) (hJ : MJ g M) (s h : Int) (hh : 0 ≤ h ∧ h ≤ 30000) : od_Ct 4 mX11_lacks [(2, M), (0, s), (0, h)] E g (some (0, mLack g M s h), E, g) := by
  refine od_ctI pnX11 rfl (Nat.le_of_ble_eq_true rfl) od_le.rf ?_
  show od_R _ _ _ _ _ 0 [some (2, M), some (0, s), some (0, h), none, none] [] E g
  refine r_iconst dX11_lacks_0 li_0 ?_
  refine r_istore_n dX11_lacks_1 (by decide) rfl ?_
  refine r_iconst dX11_lacks_2 li_0 ?_
  refine r_istore dX11_lacks_3 (by decide) rfl ?_
  exact lp_X11_lacks hm hI hJ s h hh _ _ _ ⟨by omega, hI.1.1, by omega, rfl⟩ (Nat.lt_succ_self _)
