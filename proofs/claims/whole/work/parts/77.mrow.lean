/-! the reference: a row of drums -/
def mRt (g : od_G) (M i : Int) : Prop := g (M + 2) 45 < 6 ∧ mCan (g (M + 7) i) (g (M + 7) (i + 1)) (g (M + 7) (i + 2)) (od_and (g (M + 7) (i + 3)) 255)
noncomputable def mRs (s : Int × od_G) (M i : Int) : Int × od_G := od_ip (mRt s.2 M i) (s.1 + 1, mAdds s.2 M (s.2 (M + 7) i) (s.2 (M + 7) (i + 1)) (s.2 (M + 7) (i + 2)) (od_and (s.2 (M + 7) (i + 3)) 255)) (s.1, od_up s.2 M 6 (s.2 M 6 + 1))
noncomputable def mRl (g : od_G) (M : Int) : Nat → Int × od_G
  | 0 => (0, g)
  | k + 1 => mRs (mRl g M k) M (4 * k)
def mR0 (g : od_G) (M : Int) : od_G := od_up (od_up g M 13 0) M 6 (if g M 13 % 4 = 0 then 0 else 1)
noncomputable def mRw (g : od_G) (M : Int) : Int × od_G := od_ip (g M 13 = 0) (-6, mRef (od_up g M 13 0) M (-6)) ((mRl (mR0 g M) M (g M 13 / 4).toNat).1, mSet (mRl (mR0 g M) M (g M 13 / 4).toNat).2 M)
/-- what the loop keeps to -/
def RI (s : Int × od_G) (M k : Int) : Prop := (0 ≤ s.1 ∧ s.1 ≤ k) ∧ (0 ≤ s.2 (M + 2) 45 ∧ s.2 (M + 2) 45 ≤ 6) ∧ (0 ≤ s.2 M 6 ∧ s.2 M 6 ≤ k + 1)
theorem mAdds_M (g : od_G) (M l k a p y : Int) : mAdds g M l k a p M y = g M y := by
  unfold mAdds od_up
  grind
theorem RI_s {s : Int × od_G} {M k i : Int} (h : RI s M k) : RI (mRs s M i) M (k + 1) := by
  obtain ⟨h1, h2, h3⟩ := h
  unfold mRs
  by_cases c : mRt s.2 M i
  · rw [od_ip_t c]
    refine ⟨?_, ?_, ?_⟩
    · show 0 ≤ s.1 + 1 ∧ s.1 + 1 ≤ k + 1
      omega
    · have c1 := c.1
      dsimp only
      rw [mAdds_45]
      omega
    · dsimp only
      rw [mAdds_M]
      omega
  · rw [od_ip_f c]
    refine ⟨?_, ?_, ?_⟩
    · show 0 ≤ s.1 ∧ s.1 ≤ k + 1
      omega
    · dsimp only
      rw [od_upn (by omega)]
      exact h2
    · dsimp only
      rw [od_up_i]
      omega
set_option maxRecDepth 10000 in
theorem lp_X11_row {E : od_E} {g : od_G} {rv : Option od_V} {gr : od_G} {M : Int} (hm : MoAt E M) (n : Int) (hn : 0 ≤ n ∧ n ≤ 400) (hx : (∀ (s : Int × od_G) (i : Int) (x4 x5 : Option od_V), s = mRl g M (n / 4).toNat → od_R 3 mX11_row od_Z0 E (rv, E, gr) 178 [some (2, M), some (0, n), some (0, s.1), some (0, i), x4, x5] [] E s.2)) : ∀ (m : Nat) (k : Nat) (i : Int) (s : Int × od_G) (x4 x5 : Option od_V), (i = 4 * (k : Int) ∧ i ≤ n ∧ s = mRl g M k ∧ RI s M k) → ((n / 4 - k).toNat) < m → od_R 3 mX11_row od_Z0 E (rv, E, gr) 40 [some (2, M), some (0, n), some (0, s.1), some (0, i), x4, x5] [] E s.2 := by
  intro m
  induction m with
  | zero => intro k i s x4 x5 hi hM; exact absurd hM (Nat.not_lt_zero _)
  | succ m ih =>
    intro k i s x4 x5 hi hM
    obtain ⟨hi4, hk, hs, hR⟩ := hi
    have hR' := hR
    obtain ⟨h1, h2, h3⟩ := hR'
    have a0 : s.1 + 0 = s.1 := Int.add_zero _
    have zz : RI (mRs s M (i)) M ((k + 1 : Nat) : Int) := RI_s (i := i) hR
    have zs : mRs s M (i) = mRl g M (k + 1) := by rw [hs, hi4]; rfl
    refine r_iload_n dX11_row_40 rfl ?_
    refine r_iconst dX11_row_41 li_4 ?_
    refine r_iaddE dX11_row_42 (by first | exact od_w0 (by omega) (by omega) | exact od_wI (by omega) (by omega) | rfl) ?_
    refine r_iload_n dX11_row_43 rfl ?_
    refine r_icmp_gt (tgt := 178) dX11_row_44 rfl (fun c44 => ?_) (fun c44 => ?_)
    · exact hx s _ _ _ (by rw [hs]; exact congrArg _ (by omega))
    · refine r_aload_n dX11_row_47 rfl ?_
      refine r_getR dX11_row_48 fkX11_45 gf11_11 (mo_o hm) (mo_r11 hm) ?_
      refine r_iload_n dX11_row_51 rfl ?_
      refine r_iconst dX11_row_52 li_3 ?_
      refine r_iaddE dX11_row_53 (by first | exact od_w0 (by omega) (by omega) | exact od_wI (by omega) (by omega) | rfl) ?_
      refine r_bald dX11_row_54 (mo_k11 hm) (by omega) (by first | exact mAdds_M _ _ _ _ _ _ _ | rfl) ?_
      refine r_sipush dX11_row_55 ls_255 ?_
      refine r_iand dX11_row_58 ?_
      refine r_istore dX11_row_59 (by decide) rfl ?_
      refine r_aload_n dX11_row_61 rfl ?_
      refine r_callV0i dX11_row_62 cvX11_112 (mo_o hm) (c_X11_drumMany hm) (by decide) (Nat.le_of_ble_eq_true rfl) od_le.rf ?_
      refine r_bipush dX11_row_65 lb_6 ?_
      refine r_icmp_ge (tgt := 104) dX11_row_67 rfl (fun c67 => ?_) (fun c67 => ?_)
      · refine r_iconst dX11_row_104 li_0 ?_
        refine r_istore dX11_row_105 (by decide) rfl ?_
        refine r_iload dX11_row_107 rfl ?_
        refine r_if_eq (tgt := 140) dX11_row_109 rfl (fun _ => ?_) (fun h => absurd h (by decide))
        refine r_iload_n dX11_row_140 rfl ?_
        refine r_iload dX11_row_141 rfl ?_
        refine r_if_eq (tgt := 150) dX11_row_143 rfl (fun _ => ?_) (fun h => absurd h (by decide))
        refine r_iconst dX11_row_150 li_0 ?_
        refine r_iaddE dX11_row_151 (by first | exact od_w0 (by omega) (by omega) | exact od_wI (by omega) (by omega) | rfl) ?_
        refine r_istore_n dX11_row_152 (by decide) rfl ?_
        refine r_aload_n dX11_row_153 rfl ?_
        refine r_dup dX11_row_154 (by first | exact od_ne2 | exact od_ne0) ?_
        refine r_getIj (j := 6) rfl dX11_row_155 fkX11_154 gf11_6 (mo_o hm) (by first | exact mAdds_M _ _ _ _ _ _ _ | rfl) ?_
        refine r_iload dX11_row_158 rfl ?_
        refine r_if_eq (tgt := 167) dX11_row_160 rfl (fun _ => ?_) (fun h => absurd h (by decide))
        refine r_iconst dX11_row_167 li_1 ?_
        refine r_iaddE dX11_row_168 (by first | exact od_w0 (by omega) (by omega) | exact od_wI (by omega) (by omega) | rfl) ?_
        refine r_putIj (j := 6) rfl dX11_row_169 fkX11_154 gf11_6 pf11_6 (mo_o hm) ?_
        refine r_iincE dX11_row_172 rfl (by decide) (by first | exact od_w0 (by omega) (by omega) | exact od_wI (by omega) (by omega) | rfl) rfl ?_
        refine r_goto (tgt := 40) dX11_row_175 rfl ?_
        first
        | (have yes : mRt s.2 M (i) := ⟨by omega, by assumption⟩
           have z := fun x4 x5 => ih (k + 1) (i + 4) (mRs s M i) x4 x5 ⟨by omega, by omega, zs, zz⟩ (by omega)
           unfold mRs at z
           rw [od_ip_t yes] at z
           rw [od_up_n (by rw [mAdds_M]; omega)]
           exact z _ _)
        | (have no : ¬ mRt s.2 M (i) := fun q => by first | exact absurd q.2 (by assumption) | (have q1 := q.1; omega)
           have z := fun x4 x5 => ih (k + 1) (i + 4) (mRs s M i) x4 x5 ⟨by omega, by omega, zs, zz⟩ (by omega)
           unfold mRs at z
           rw [od_ip_f no] at z
           rw [a0]
           exact z _ _)
      · refine r_aload_n dX11_row_70 rfl ?_
        refine r_getR dX11_row_71 fkX11_45 gf11_11 (mo_o hm) (mo_r11 hm) ?_
        refine r_iload_n dX11_row_74 rfl ?_
        refine r_bald dX11_row_75 (mo_k11 hm) (by omega) (by first | exact mAdds_M _ _ _ _ _ _ _ | rfl) ?_
        refine r_aload_n dX11_row_76 rfl ?_
        refine r_getR dX11_row_77 fkX11_45 gf11_11 (mo_o hm) (mo_r11 hm) ?_
        refine r_iload_n dX11_row_80 rfl ?_
        refine r_iconst dX11_row_81 li_1 ?_
        refine r_iaddE dX11_row_82 (by first | exact od_w0 (by omega) (by omega) | exact od_wI (by omega) (by omega) | rfl) ?_
        refine r_bald dX11_row_83 (mo_k11 hm) (by omega) (by first | exact mAdds_M _ _ _ _ _ _ _ | rfl) ?_
        refine r_aload_n dX11_row_84 rfl ?_
        refine r_getR dX11_row_85 fkX11_45 gf11_11 (mo_o hm) (mo_r11 hm) ?_
        refine r_iload_n dX11_row_88 rfl ?_
        refine r_iconst dX11_row_89 li_2 ?_
        refine r_iaddE dX11_row_90 (by first | exact od_w0 (by omega) (by omega) | exact od_wI (by omega) (by omega) | rfl) ?_
        refine r_bald dX11_row_91 (mo_k11 hm) (by omega) (by first | exact mAdds_M _ _ _ _ _ _ _ | rfl) ?_
        refine r_iload dX11_row_92 rfl ?_
        refine r_callS4b dX11_row_94 csX11_120 (c_X11_canDrum _ _ _ _) (by decide) (Nat.le_of_ble_eq_true rfl) od_le.rf (fun q94 => ?_) (fun q94 => ?_)
        · refine r_if_eq (tgt := 104) dX11_row_97 rfl (fun h => absurd h (by decide)) (fun _ => ?_)
          refine r_iconst dX11_row_100 li_1 ?_
          refine r_goto (tgt := 105) dX11_row_101 rfl ?_
          refine r_istore dX11_row_105 (by decide) rfl ?_
          refine r_iload dX11_row_107 rfl ?_
          refine r_if_eq (tgt := 140) dX11_row_109 rfl (fun h => absurd h (by decide)) (fun _ => ?_)
          refine r_aload_n dX11_row_112 rfl ?_
          refine r_aload_n dX11_row_113 rfl ?_
          refine r_getR dX11_row_114 fkX11_45 gf11_11 (mo_o hm) (mo_r11 hm) ?_
          refine r_iload_n dX11_row_117 rfl ?_
          refine r_bald dX11_row_118 (mo_k11 hm) (by omega) (by first | exact mAdds_M _ _ _ _ _ _ _ | rfl) ?_
          refine r_aload_n dX11_row_119 rfl ?_
          refine r_getR dX11_row_120 fkX11_45 gf11_11 (mo_o hm) (mo_r11 hm) ?_
          refine r_iload_n dX11_row_123 rfl ?_
          refine r_iconst dX11_row_124 li_1 ?_
          refine r_iaddE dX11_row_125 (by first | exact od_w0 (by omega) (by omega) | exact od_wI (by omega) (by omega) | rfl) ?_
          refine r_bald dX11_row_126 (mo_k11 hm) (by omega) (by first | exact mAdds_M _ _ _ _ _ _ _ | rfl) ?_
          refine r_aload_n dX11_row_127 rfl ?_
          refine r_getR dX11_row_128 fkX11_45 gf11_11 (mo_o hm) (mo_r11 hm) ?_
          refine r_iload_n dX11_row_131 rfl ?_
          refine r_iconst dX11_row_132 li_2 ?_
          refine r_iaddE dX11_row_133 (by first | exact od_w0 (by omega) (by omega) | exact od_wI (by omega) (by omega) | rfl) ?_
          refine r_bald dX11_row_134 (mo_k11 hm) (by omega) (by first | exact mAdds_M _ _ _ _ _ _ _ | rfl) ?_
          refine r_iload dX11_row_135 rfl ?_
          refine r_callV4v dX11_row_137 cvX11_124 (mo_o hm) (c_X11_adds hm (by omega) _ _ _ _) (by decide) (Nat.le_of_ble_eq_true rfl) od_le.rf ?_
          refine r_iload_n dX11_row_140 rfl ?_
          refine r_iload dX11_row_141 rfl ?_
          refine r_if_eq (tgt := 150) dX11_row_143 rfl (fun h => absurd h (by decide)) (fun _ => ?_)
          refine r_iconst dX11_row_146 li_1 ?_
          refine r_goto (tgt := 151) dX11_row_147 rfl ?_
          refine r_iaddE dX11_row_151 (by first | exact od_w0 (by omega) (by omega) | exact od_wI (by omega) (by omega) | rfl) ?_
          refine r_istore_n dX11_row_152 (by decide) rfl ?_
          refine r_aload_n dX11_row_153 rfl ?_
          refine r_dup dX11_row_154 (by first | exact od_ne2 | exact od_ne0) ?_
          refine r_getIj (j := 6) rfl dX11_row_155 fkX11_154 gf11_6 (mo_o hm) (by first | exact mAdds_M _ _ _ _ _ _ _ | rfl) ?_
          refine r_iload dX11_row_158 rfl ?_
          refine r_if_eq (tgt := 167) dX11_row_160 rfl (fun h => absurd h (by decide)) (fun _ => ?_)
          refine r_iconst dX11_row_163 li_0 ?_
          refine r_goto (tgt := 168) dX11_row_164 rfl ?_
          refine r_iaddE dX11_row_168 (by first | exact od_w0 (by omega) (by omega) | exact od_wI (by omega) (by omega) | rfl) ?_
          refine r_putIj (j := 6) rfl dX11_row_169 fkX11_154 gf11_6 pf11_6 (mo_o hm) ?_
          refine r_iincE dX11_row_172 rfl (by decide) (by first | exact od_w0 (by omega) (by omega) | exact od_wI (by omega) (by omega) | rfl) rfl ?_
          refine r_goto (tgt := 40) dX11_row_175 rfl ?_
          first
          | (have yes : mRt s.2 M (i) := ⟨by omega, by assumption⟩
             have z := fun x4 x5 => ih (k + 1) (i + 4) (mRs s M i) x4 x5 ⟨by omega, by omega, zs, zz⟩ (by omega)
             unfold mRs at z
             rw [od_ip_t yes] at z
             rw [od_up_n (by rw [mAdds_M]; omega)]
             exact z _ _)
          | (have no : ¬ mRt s.2 M (i) := fun q => by first | exact absurd q.2 (by assumption) | (have q1 := q.1; omega)
             have z := fun x4 x5 => ih (k + 1) (i + 4) (mRs s M i) x4 x5 ⟨by omega, by omega, zs, zz⟩ (by omega)
             unfold mRs at z
             rw [od_ip_f no] at z
             rw [a0]
             exact z _ _)
        · refine r_if_eq (tgt := 104) dX11_row_97 rfl (fun _ => ?_) (fun h => absurd h (by decide))
          refine r_iconst dX11_row_104 li_0 ?_
          refine r_istore dX11_row_105 (by decide) rfl ?_
          refine r_iload dX11_row_107 rfl ?_
          refine r_if_eq (tgt := 140) dX11_row_109 rfl (fun _ => ?_) (fun h => absurd h (by decide))
          refine r_iload_n dX11_row_140 rfl ?_
          refine r_iload dX11_row_141 rfl ?_
          refine r_if_eq (tgt := 150) dX11_row_143 rfl (fun _ => ?_) (fun h => absurd h (by decide))
          refine r_iconst dX11_row_150 li_0 ?_
          refine r_iaddE dX11_row_151 (by first | exact od_w0 (by omega) (by omega) | exact od_wI (by omega) (by omega) | rfl) ?_
          refine r_istore_n dX11_row_152 (by decide) rfl ?_
          refine r_aload_n dX11_row_153 rfl ?_
          refine r_dup dX11_row_154 (by first | exact od_ne2 | exact od_ne0) ?_
          refine r_getIj (j := 6) rfl dX11_row_155 fkX11_154 gf11_6 (mo_o hm) (by first | exact mAdds_M _ _ _ _ _ _ _ | rfl) ?_
          refine r_iload dX11_row_158 rfl ?_
          refine r_if_eq (tgt := 167) dX11_row_160 rfl (fun _ => ?_) (fun h => absurd h (by decide))
          refine r_iconst dX11_row_167 li_1 ?_
          refine r_iaddE dX11_row_168 (by first | exact od_w0 (by omega) (by omega) | exact od_wI (by omega) (by omega) | rfl) ?_
          refine r_putIj (j := 6) rfl dX11_row_169 fkX11_154 gf11_6 pf11_6 (mo_o hm) ?_
          refine r_iincE dX11_row_172 rfl (by decide) (by first | exact od_w0 (by omega) (by omega) | exact od_wI (by omega) (by omega) | rfl) rfl ?_
          refine r_goto (tgt := 40) dX11_row_175 rfl ?_
          first
          | (have yes : mRt s.2 M (i) := ⟨by omega, by assumption⟩
             have z := fun x4 x5 => ih (k + 1) (i + 4) (mRs s M i) x4 x5 ⟨by omega, by omega, zs, zz⟩ (by omega)
             unfold mRs at z
             rw [od_ip_t yes] at z
             rw [od_up_n (by rw [mAdds_M]; omega)]
             exact z _ _)
          | (have no : ¬ mRt s.2 M (i) := fun q => by first | exact absurd q.2 (by assumption) | (have q1 := q.1; omega)
             have z := fun x4 x5 => ih (k + 1) (i + 4) (mRs s M i) x4 x5 ⟨by omega, by omega, zs, zz⟩ (by omega)
             unfold mRs at z
             rw [od_ip_f no] at z
             rw [a0]
             exact z _ _)
set_option maxRecDepth 10000 in
theorem c_X11_row {E : od_E} {g : od_G} {M : Int} (hm : MoAt E M) (h13 : 0 ≤ g M 13 ∧ g M 13 ≤ 400) (hI : 0 ≤ g (M + 2) 45 ∧ g (M + 2) 45 ≤ 6) : od_Ct 3 mX11_row [(2, M)] E g (some (0, (mRw g M).1), E, (mRw g M).2) := by
  refine od_ctI pnX11 rfl (Nat.le_of_ble_eq_true rfl) od_le.rf ?_
  show od_R _ _ _ _ _ 0 [some (2, M), none, none, none, none, none] [] E g
  refine r_aload_n dX11_row_0 rfl ?_
  refine r_getIj (j := 13) rfl dX11_row_1 fkX11_151 gf11_13 (mo_o hm) rfl ?_
  refine r_istore_n dX11_row_4 (by decide) rfl ?_
  refine r_aload_n dX11_row_5 rfl ?_
  refine r_iconst dX11_row_6 li_0 ?_
  refine r_putIj (j := 13) rfl dX11_row_7 fkX11_151 gf11_13 pf11_13 (mo_o hm) ?_
  refine r_iload_n dX11_row_10 rfl ?_
  refine r_if_ne (tgt := 21) dX11_row_11 rfl (fun c11 => ?_) (fun c11 => ?_)
  · refine r_iconst dX11_row_21 li_0 ?_
    refine r_istore_n dX11_row_22 (by decide) rfl ?_
    refine r_aload_n dX11_row_23 rfl ?_
    refine r_iload_n dX11_row_24 rfl ?_
    refine r_iconst dX11_row_25 li_4 ?_
    refine r_irem dX11_row_26 (by first | decide | omega) ?_
    refine r_if_ne (tgt := 34) dX11_row_27 rfl (fun c27 => ?_) (fun c27 => ?_)
    · refine r_iconst dX11_row_34 li_1 ?_
      refine r_putIj (j := 6) rfl dX11_row_35 fkX11_154 gf11_6 pf11_6 (mo_o hm) ?_
      refine r_iconst dX11_row_38 li_0 ?_
      refine r_istore_n dX11_row_39 (by decide) rfl ?_
      have m4 : (g M 13).tmod 4 = g M 13 % 4 := Int.tmod_eq_emod_of_nonneg h13.1
      suffices hx : (∀ (s : Int × od_G) (i : Int) (x4 x5 : Option od_V), s = mRl (mR0 g M) M (g M 13 / 4).toNat → od_R 3 mX11_row od_Z0 E (some (0, (mRw g M).1), E, (mRw g M).2) 178 [some (2, M), some (0, g M 13), some (0, s.1), some (0, i), x4, x5] [] E s.2) by
        have z := lp_X11_row hm (g M 13) h13 hx _ 0 0 (0, mR0 g M) none none ⟨by omega, by omega, rfl, ⟨⟨by show (0 : Int) ≤ 0; omega, by show (0 : Int) ≤ ((0 : Nat) : Int); omega⟩, by unfold mR0; dsimp only; rw [od_upn (by omega), od_upn (by omega)]; exact hI, by unfold mR0; dsimp only; rw [od_up_i]; split <;> omega⟩⟩ (Nat.lt_succ_self _)
        first
        | (have e1 : od_up (od_up g M 13 0) M 6 0 = mR0 g M := by unfold mR0; rw [if_pos (by omega)]
           rw [e1]; exact z)
        | (have e1 : od_up (od_up g M 13 0) M 6 1 = mR0 g M := by unfold mR0; rw [if_neg (by omega)]
           rw [e1]; exact z)
      intro s i x4 x5 hs
      refine r_aload_n dX11_row_178 rfl ?_
      refine r_iload_n dX11_row_179 rfl ?_
      refine r_callV1i dX11_row_180 cvX11_109 (mo_o hm) (c_X11_settled hm _) (by decide) (Nat.le_of_ble_eq_true rfl) od_le.rf ?_
      exact r_iret dX11_row_183 rfl (by unfold mRw; first | rw [od_ip_t (by assumption)] | rw [od_ip_f (by assumption), ← hs])
    · refine r_iconst dX11_row_30 li_0 ?_
      refine r_goto (tgt := 35) dX11_row_31 rfl ?_
      refine r_putIj (j := 6) rfl dX11_row_35 fkX11_154 gf11_6 pf11_6 (mo_o hm) ?_
      refine r_iconst dX11_row_38 li_0 ?_
      refine r_istore_n dX11_row_39 (by decide) rfl ?_
      have m4 : (g M 13).tmod 4 = g M 13 % 4 := Int.tmod_eq_emod_of_nonneg h13.1
      suffices hx : (∀ (s : Int × od_G) (i : Int) (x4 x5 : Option od_V), s = mRl (mR0 g M) M (g M 13 / 4).toNat → od_R 3 mX11_row od_Z0 E (some (0, (mRw g M).1), E, (mRw g M).2) 178 [some (2, M), some (0, g M 13), some (0, s.1), some (0, i), x4, x5] [] E s.2) by
        have z := lp_X11_row hm (g M 13) h13 hx _ 0 0 (0, mR0 g M) none none ⟨by omega, by omega, rfl, ⟨⟨by show (0 : Int) ≤ 0; omega, by show (0 : Int) ≤ ((0 : Nat) : Int); omega⟩, by unfold mR0; dsimp only; rw [od_upn (by omega), od_upn (by omega)]; exact hI, by unfold mR0; dsimp only; rw [od_up_i]; split <;> omega⟩⟩ (Nat.lt_succ_self _)
        first
        | (have e1 : od_up (od_up g M 13 0) M 6 0 = mR0 g M := by unfold mR0; rw [if_pos (by omega)]
           rw [e1]; exact z)
        | (have e1 : od_up (od_up g M 13 0) M 6 1 = mR0 g M := by unfold mR0; rw [if_neg (by omega)]
           rw [e1]; exact z)
      intro s i x4 x5 hs
      refine r_aload_n dX11_row_178 rfl ?_
      refine r_iload_n dX11_row_179 rfl ?_
      refine r_callV1i dX11_row_180 cvX11_109 (mo_o hm) (c_X11_settled hm _) (by decide) (Nat.le_of_ble_eq_true rfl) od_le.rf ?_
      exact r_iret dX11_row_183 rfl (by unfold mRw; first | rw [od_ip_t (by assumption)] | rw [od_ip_f (by assumption), ← hs])
  · refine r_aload_n dX11_row_14 rfl ?_
    refine r_bipush dX11_row_15 lb_m6 ?_
    refine r_callV1i dX11_row_17 cvX11_106 (mo_o hm) (c_X11_refuses hm _ (by omega)) (by decide) (Nat.le_of_ble_eq_true rfl) od_le.rf ?_
    exact r_iret dX11_row_20 rfl (by unfold mRw; first | rw [od_ip_t (by assumption)] | rw [od_ip_f (by assumption), ← hs])
