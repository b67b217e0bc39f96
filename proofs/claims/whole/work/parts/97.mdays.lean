/-! the reference: days -/
theorem LwF.mv {r r' : Int → Int} {pl : Int → Int} {C : Int} (h : LwF r pl C) (e : ∀ y : Int, 19 ≤ y → r' y = r y) : LwF r' pl C := by
  unfold LwF at h ⊢
  rw [e 48 (by omega)]
  rcases h with h | ⟨h1, h2, h3, h4⟩
  · exact Or.inl h
  · refine Or.inr ⟨h1, ?_, h3, ?_⟩
    · rw [e _ (by omega)]; exact h2
    · have eC : kC r' (400 * r 48) (r' (49 + r 48)) = kC r (400 * r 48) (r (49 + r 48)) := by
        funext i
        unfold kC
        rw [e (49 + r 48) (by omega)]
        by_cases c : 0 ≤ i ∧ i < r (49 + r 48)
        · rw [if_pos c, if_pos c, e _ (by omega)]
        · rw [if_neg c, if_neg c]
      have eV : kV r' (400 * r 48) (r' (49 + r 48)) = kV r (400 * r 48) (r (49 + r 48)) := by
        funext i
        unfold kV
        rw [e (49 + r 48) (by omega)]
        by_cases c : 0 ≤ i ∧ i < r (49 + r 48)
        · rw [if_pos c, if_pos c, e _ (by omega)]
        · rw [if_neg c, if_neg c]
      rw [eC, eV, e _ (by omega)]
      exact h4
theorem MI.mv {g g' : od_G} {M : Int} (h : MI g M) (e : ∀ y : Int, 19 ≤ y → g' (M + 2) y = g (M + 2) y) : MI g' M := by
  unfold MI at h ⊢
  rw [e 45 (by omega)]
  refine ⟨h.1, fun d d0 d1 => ?_⟩
  rw [e _ (by omega)]
  exact h.2 d d0 d1
theorem mHp_hi {g : od_G} {M : Int} {pl : Int → Int} {C : Int} (hI : MI g M) {y : Int} (hy : 19 ≤ y) : mHp g M pl C y = g (M + 2) y := by
  have i45 := hI.1
  unfold mHp mHk
  rw [od_u1_ne (by omega), od_ite_f (by omega), od_ite_f (by omega)]
theorem mHp_18 (g : od_G) (M : Int) (pl : Int → Int) (C : Int) : mHp g M pl C 18 = g (M + 2) 18 + 1 := by
  unfold mHp
  rw [od_u1_at]
theorem mHp_6 {g : od_G} {M : Int} {pl : Int → Int} {C : Int} (hI : MI g M) {d : Int} (d0 : 0 ≤ d) (d1 : d < g (M + 2) 45) : mHp g M pl C (6 + d) = mBeat g M d 1 := by
  have i45 := hI.1
  unfold mHp mHk
  rw [od_u1_ne (by omega), od_ite_f (by omega), od_ite_t (by omega), show 6 + d - 6 = d by omega]
theorem mHp_12 {g : od_G} {M : Int} {pl : Int → Int} {C : Int} (hI : MI g M) {d : Int} (d0 : 0 ≤ d) (d1 : d < g (M + 2) 45) : mHp g M pl C (12 + d) = g (M + 2) (12 + d) := by
  have i45 := hI.1
  unfold mHp mHk
  rw [od_u1_ne (by omega), od_ite_f (by omega), od_ite_f (by omega)]
theorem od_rol {p l n : Int} (h : 0 ≤ p) (hn : 0 ≤ n) (hl : 1 ≤ l) : 0 ≤ (p + n).tmod l ∧ (p + n).tmod l < l := by
  rw [Int.tmod_eq_emod_of_nonneg (by omega)]
  exact ⟨Int.emod_nonneg _ (by omega), Int.emod_lt_of_pos _ (by omega)⟩
theorem MJ_hp {g g' : od_G} {M : Int} {pl : Int → Int} {C : Int} (hI : MI g M) (hJ : MJ g M) (e : g' (M + 2) = mHp g M pl C) : MJ g' M := by
  have i45 := hI.1
  unfold MJ
  intro d d0 d1
  rw [e, mHp_hi hI (by omega)] at d1
  rw [e, mHp_6 hI d0 d1, mHp_12 hI d0 d1, mHp_hi hI (by omega)]
  have z := hJ d d0 d1
  have l := hI.2 d d0 d1
  refine ⟨?_, z.2⟩
  unfold mBeat
  by_cases c : mStop g M d
  · rw [od_ite_t c]; exact z.1
  · rw [od_ite_f c, od_wI (by omega) (by omega)]
    exact od_rol z.1.1 (by omega) l.1
theorem mLoud_54 {g : od_G} {M : Int} (hI : MI g M) (pl : Int → Int) (C h : Int) : 0 ≤ mLoud g M pl C h ∧ mLoud g M pl C h ≤ 54 := by
  have i45 := hI.1
  have z := od_sum_b (m := 9) (g (M + 2) 45).toNat (fun i _ _ => mLd_b g M pl C h i)
  unfold mLoud
  omega
/-- a row of cells, and nothing else -/
def rG (r : Int → Int) : od_G := fun _ => r
noncomputable def od_ir (P : Prop) (x y : Int → Int) : Int → Int := fun i => od_ite P (x i) (y i)
theorem od_ir_t {P : Prop} {x y : Int → Int} (h : P) : od_ir P x y = x := funext fun i => od_ite_t h
theorem od_ir_f {P : Prop} {x y : Int → Int} (h : ¬ P) : od_ir P x y = y := funext fun i => od_ite_f h
def mCnP (r pl : Int → Int) (C d b : Int) : Prop := mBeatL (rG r) 0 d b ∧ (mPin (rG r) 0 d b ∨ ¬ mNow r pl C 2 d b)
noncomputable def mDyP (r pl : Int → Int) (C d b w : Int) : Int → Int := od_ir (w = 0) (od_ir (mCnP r pl C d b) (od_u1 r d (od_xor (r d) (od_shl 1 b))) r) (od_ir (w = 1) (od_u1 r (6 + d) ((r (6 + d) + 1).tmod (r (19 + d)))) (od_u1 r (12 + d) (1 - r (12 + d))))
noncomputable def mDyR (r pl : Int → Int) (C x : Int) : Int → Int := mDyP r pl C ((mDw x).tmod (r 45)) ((mDw (mDw x)).tmod 12) ((mDw (mDw (mDw x))).tmod 3)
/-- so many days: how loud they were together, the row after, the number drawn latest -/
noncomputable def mDys (r0 pl : Int → Int) (C x0 : Int) : Nat → Int × (Int → Int) × Int
  | 0 => (0, r0, x0)
  | n + 1 => if (mDys r0 pl C x0 n).2.1 18 < 999 then ((mDys r0 pl C x0 n).1 + mLoud (rG (mDyR (mDys r0 pl C x0 n).2.1 pl C (mDys r0 pl C x0 n).2.2)) 0 pl C 0, mHp (rG (mDyR (mDys r0 pl C x0 n).2.1 pl C (mDys r0 pl C x0 n).2.2)) 0 pl C, mDw (mDw (mDw (mDys r0 pl C x0 n).2.2))) else mDys r0 pl C x0 n
theorem mDys_s {r0 pl : Int → Int} {C x0 k s x : Int} {r : Int → Int} (hk : 0 ≤ k) (h : mDys r0 pl C x0 k.toNat = (s, r, x)) (h18 : r 18 < 999) : mDys r0 pl C x0 (k + 1).toNat = (s + mLoud (rG (mDyR r pl C x)) 0 pl C 0, mHp (rG (mDyR r pl C x)) 0 pl C, mDw (mDw (mDw x))) := by
  rw [show (k + 1).toNat = k.toNat + 1 by omega]
  unfold mDys
  rw [h]
  exact if_pos h18
theorem mDys_e {r0 pl : Int → Int} {C x0 s x : Int} {r : Int → Int} {k : Nat} (h : mDys r0 pl C x0 k = (s, r, x)) (h18 : ¬ r 18 < 999) : ∀ m : Nat, mDys r0 pl C x0 (k + m) = (s, r, x) := by
  intro m
  induction m with
  | zero => exact h
  | succ m ih =>
    show mDys r0 pl C x0 ((k + m) + 1) = _
    unfold mDys
    rw [ih]
    exact if_neg h18
theorem mDw_tm {x n : Int} (h : 0 ≤ x) (hn : 1 ≤ n) : 0 ≤ (mDw x).tmod n ∧ (mDw x).tmod n < n := by
  have z := mDw_b h
  rw [Int.tmod_eq_emod_of_nonneg z.1]
  exact ⟨Int.emod_nonneg _ (by omega), Int.emod_lt_of_pos _ (by omega)⟩
theorem mHp_r {g : od_G} {M : Int} {r : Int → Int} (e : g (M + 2) = r) (pl : Int → Int) (C : Int) : mHp g M pl C = mHp (rG r) 0 pl C := by subst e; rfl
theorem mLoud_r {g : od_G} {M : Int} {r : Int → Int} (e : g (M + 2) = r) (pl : Int → Int) (C h : Int) : mLoud g M pl C h = mLoud (rG r) 0 pl C h := by subst e; rfl
theorem mCnP_r {g : od_G} {M : Int} {r : Int → Int} (e : g (M + 2) = r) (pl : Int → Int) (C d b : Int) : (mBeatL g M d b ∧ (mPin g M d b ∨ ¬ mNow (g (M + 2)) pl C 2 d b)) = mCnP r pl C d b := by subst e; rfl
theorem mDyP_hi {r pl : Int → Int} {C d b w : Int} (hd : 0 ≤ d ∧ d < 6) {y : Int} (hy : 19 ≤ y ∨ y = 18) : mDyP r pl C d b w y = r y := by
  unfold mDyP
  by_cases c0 : w = 0
  · rw [od_ir_t c0]
    by_cases c1 : mCnP r pl C d b
    · rw [od_ir_t c1, od_u1_ne (by omega)]
    · rw [od_ir_f c1]
  · rw [od_ir_f c0]
    by_cases c1 : w = 1
    · rw [od_ir_t c1, od_u1_ne (by omega)]
    · rw [od_ir_f c1, od_u1_ne (by omega)]
theorem mDyP_J {r pl : Int → Int} {C d b w : Int} (hI : MI (rG r) 0) (hJ : MJ (rG r) 0) (hd : 0 ≤ d ∧ d < r 45) : MJ (rG (mDyP r pl C d b w)) 0 := by
  have i45 := hI.1
  have i45' : 0 ≤ r 45 ∧ r 45 ≤ 6 := i45
  intro e e0 e1
  have e1' : e < mDyP r pl C d b w 45 := e1
  rw [mDyP_hi (by omega) (by omega)] at e1'
  have z := hJ e e0 e1'
  have l := hI.2 e e0 e1'
  have z1 : (0 ≤ r (6 + e) ∧ r (6 + e) < r (19 + e)) ∧ (r (12 + e) = 0 ∨ r (12 + e) = 1) := z
  have l1 : 1 ≤ r (19 + e) ∧ r (19 + e) ≤ 12 := l
  show (0 ≤ mDyP r pl C d b w (6 + e) ∧ mDyP r pl C d b w (6 + e) < mDyP r pl C d b w (19 + e)) ∧ (mDyP r pl C d b w (12 + e) = 0 ∨ mDyP r pl C d b w (12 + e) = 1)
  rw [mDyP_hi (y := 19 + e) (by omega) (by omega)]
  unfold mDyP
  by_cases c0 : w = 0
  · rw [od_ir_t c0]
    by_cases c1 : mCnP r pl C d b
    · rw [od_ir_t c1, od_u1_ne (by omega), od_u1_ne (by omega)]; exact z1
    · rw [od_ir_f c1]; exact z1
  · rw [od_ir_f c0]
    by_cases c1 : w = 1
    · rw [od_ir_t c1]
      rw [od_u1_ne (i := 12 + e) (by omega)]
      refine ⟨?_, z1.2⟩
      by_cases c2 : e = d
      · subst c2
        rw [od_u1_at]
        exact od_rol z1.1.1 (by omega) l1.1
      · rw [od_u1_ne (by omega)]; exact z1.1
    · rw [od_ir_f c1]
      rw [od_u1_ne (i := 6 + e) (by omega)]
      refine ⟨z1.1, ?_⟩
      by_cases c2 : e = d
      · subst c2
        rw [od_u1_at]
        omega
      · rw [od_u1_ne (by omega)]; exact z1.2
def DX (M : Int) : Int → Int → Prop := fun x y => SQ M x y ∨ (x = M ∧ y = 50) ∨ (x = M + 2 ∧ 0 ≤ y ∧ y < 19)
def DyI (g gw : od_G) (M : Int) (pl : Int → Int) (C x0 k s : Int) : Prop := mDys (g (M + 2)) pl C x0 k.toNat = (s, gw (M + 2), gw M 50) ∧ od_fr (DX M) g gw ∧ MJ gw M ∧ (0 ≤ gw M 50 ∧ gw M 50 ≤ 1000003) ∧ (0 ≤ gw (M + 2) 18 ∧ gw (M + 2) 18 ≤ 999) ∧ (0 ≤ s ∧ s ≤ 54 * k)
set_option maxRecDepth 10000 in
theorem lp_X11_dayA {E : od_E} {g : od_G} {Q : Option od_V → od_G → Prop} {M : Int} (hm : MoAt E M) {pl : Int → Int} {C : Int} (hI : MI g M) (hF : LwF (g (M + 2)) pl C) (h45 : g (M + 2) 45 ≠ 0) (x0 n : Int) (hn : n ≤ 60) (hx : ∀ (k s : Int) (x5 x6 x7 : Option od_V) (gw : od_G), (mDys (g (M + 2)) pl C x0 n.toNat).1 = s → (mDys (g (M + 2)) pl C x0 n.toNat).2.1 = gw (M + 2) → od_fr (DX M) g gw → od_Rq 48 mX11_days od_Z0 E (E, Q) 211 [some (2, M), some (0, x0), some (0, n), some (0, s), some (0, k), x5, x6, x7] [] E gw) : ∀ (m : Nat) (k s : Int) (x5 x6 x7 : Option od_V) (gw : od_G), (0 ≤ k ∧ k ≤ n ∧ DyI g gw M pl C x0 k s) → ((n - k).toNat) < m → od_Rq 48 mX11_days od_Z0 E (E, Q) 63 [some (2, M), some (0, x0), some (0, n), some (0, s), some (0, k), x5, x6, x7] [] E gw := by
  intro m
  induction m with
  | zero => intro k s x5 x6 x7 gw hi hM; exact absurd hM (Nat.not_lt_zero _)
  | succ m ih =>
    intro k s x5 x6 x7 gw hi hM
    obtain ⟨hi0, hi1, hD, hfr, hJ, h50, h18, hs⟩ := hi
    have hhi : ∀ y : Int, 19 ≤ y → gw (M + 2) y = g (M + 2) y := fun y hy => hfr _ _ (by unfold DX SQ; omega)
    have hIw := hI.mv hhi
    have hFw := hF.mv hhi
    have i45 := hI.1
    have b1 := mDw_b h50.1
    have b2 := mDw_b b1.1
    have b3 := mDw_b b2.1
    refine r_iload dX11_days_63 rfl ?_
    refine r_iload_n dX11_days_65 rfl ?_
    refine r_icmp_ge (tgt := 211) dX11_days_66 rfl (fun c66 => ?_) (fun c66 => ?_)
    · first
      | (have hk9 : k = n := by omega
         subst hk9
         exact hx k s _ _ _ gw (by rw [hD]) (by rw [hD]) hfr)
      | (have ze := mDys_e hD (by show ¬ gw (M + 2) 18 < 999; omega) (n - k).toNat
         rw [show k.toNat + (n - k).toNat = n.toNat by omega] at ze
         exact hx k s _ _ _ gw (by rw [ze]) (by rw [ze]) hfr)
    · refine r_aload_n dX11_days_69 rfl ?_
      refine r_getR dX11_days_70 fkX11_28 gf11_2 (mo_o hm) (mo_r2 hm) ?_
      refine r_bipush dX11_days_73 lb_18 ?_
      refine r_iald dX11_days_75 (mo_k2 hm) (by omega) (by first | exact e6 | exact e19 | exact e12 | rfl) ?_
      refine r_sipush dX11_days_76 ls_999 ?_
      refine r_icmp_ge (tgt := 211) dX11_days_79 rfl (fun c79 => ?_) (fun c79 => ?_)
      · first
        | (have hk9 : k = n := by omega
           subst hk9
           exact hx k s _ _ _ gw (by rw [hD]) (by rw [hD]) hfr)
        | (have ze := mDys_e hD (by show ¬ gw (M + 2) 18 < 999; omega) (n - k).toNat
           rw [show k.toNat + (n - k).toNat = n.toNat by omega] at ze
           exact hx k s _ _ _ gw (by rw [ze]) (by rw [ze]) hfr)
      · refine r_aload_n dX11_days_82 rfl ?_
        refine r_aload_n dX11_days_83 rfl ?_
        refine r_callV0i dX11_days_84 cvX11_112 (mo_o hm) (c_X11_drumMany hm) (by decide) (Nat.le_of_ble_eq_true rfl) od_le.rf ?_
        refine r_callV1i dX11_days_87 cvX11_474 (mo_o hm) (c_X11_draws hm h50 _ (by rw [hhi 45 (by omega)]; omega)) (by decide) (Nat.le_of_ble_eq_true rfl) od_le.rf ?_
        refine r_istore dX11_days_90 (by decide) rfl ?_
        refine r_aload_n dX11_days_92 rfl ?_
        refine r_bipush dX11_days_93 lb_12 ?_
        refine r_callV1i dX11_days_95 cvX11_474 (mo_o hm) (c_X11_draws hm (by rw [od_up_i]; omega) _ (by omega)) (by decide) (Nat.le_of_ble_eq_true rfl) od_le.rf ?_
        rw [show od_up gw M 50 (mDw (gw M 50)) M 50 = mDw (gw M 50) from od_up_i]
        refine r_istore dX11_days_98 (by decide) rfl ?_
        refine r_aload_n dX11_days_100 rfl ?_
        refine r_iconst dX11_days_101 li_3 ?_
        refine r_callV1i dX11_days_102 cvX11_474 (mo_o hm) (c_X11_draws hm (by rw [od_up_i]; omega) _ (by omega)) (by decide) (Nat.le_of_ble_eq_true rfl) od_le.rf ?_
        rw [show od_up (od_up gw M 50 (mDw (gw M 50))) M 50 (mDw (mDw (gw M 50))) M 50 = mDw (mDw (gw M 50)) from od_up_i]
        refine r_istore dX11_days_105 (by decide) rfl ?_
        obtain ⟨d, hd⟩ : ∃ z, z = (mDw (gw M 50)).tmod (gw (M + 2) 45) := ⟨_, rfl⟩
        obtain ⟨b, hb⟩ : ∃ z, z = (mDw (mDw (gw M 50))).tmod 12 := ⟨_, rfl⟩
        obtain ⟨w, hw⟩ : ∃ z, z = (mDw (mDw (mDw (gw M 50)))).tmod 3 := ⟨_, rfl⟩
        obtain ⟨gd, hgd⟩ : ∃ z, z = od_up (od_up (od_up gw M 50 (mDw (gw M 50))) M 50 (mDw (mDw (gw M 50)))) M 50 (mDw (mDw (mDw (gw M 50)))) := ⟨_, rfl⟩
        rw [← hd, ← hb, ← hw, ← hgd]
        have bd := mDw_tm (n := gw (M + 2) 45) h50.1 (by rw [hhi 45 (by omega)]; omega)
        have bb := mDw_tm (n := 12) b1.1 (by omega)
        have bw := mDw_tm (n := 3) b2.1 (by omega)
        rw [← hd] at bd
        rw [← hb] at bb
        rw [← hw] at bw
        have e2 : gd (M + 2) = gw (M + 2) := by rw [hgd, od_up_ne (by omega), od_up_ne (by omega), od_up_ne (by omega)]
        have e50 : gd M 50 = mDw (mDw (mDw (gw M 50))) := by rw [hgd]; exact od_up_i
        have fd : od_fr (DX M) g gd := by rw [hgd]; exact ((hfr.up (Or.inr (Or.inl ⟨rfl, rfl⟩))).up (Or.inr (Or.inl ⟨rfl, rfl⟩))).up (Or.inr (Or.inl ⟨rfl, rfl⟩))
        have hId := hIw.e e2
        have hFd := hFw.e e2
        have hl := hIw.2 d bd.1 bd.2
        have hJd := hJ d bd.1 bd.2
        have i45w : gw (M + 2) 45 ≤ 6 := by rw [hhi 45 (by omega)]; omega
        have eR : mDyR (gw (M + 2)) pl C (gw M 50) = mDyP (gw (M + 2)) pl C d b w := by unfold mDyR; rw [← hd, ← hb, ← hw]
        have hz := mDys_s hi0 hD (by omega)
        rw [eR] at hz
        have fin : ∀ gp : od_G, gp (M + 2) = mDyP (gw (M + 2)) pl C d b w → gp M 50 = mDw (mDw (mDw (gw M 50))) → od_fr (DX M) g gp → od_Rq 48 mX11_days od_Z0 E (E, Q) 198 [some (2, M), some (0, x0), some (0, n), some (0, s), some (0, k), some (0, d), some (0, b), some (0, w)] [] E gp := by
          intro gp k2 k50 kf
          have kh : ∀ y : Int, 19 ≤ y → gp (M + 2) y = gw (M + 2) y := fun y hy => by rw [k2]; exact mDyP_hi (by omega) (Or.inl hy)
          have k18 : gp (M + 2) 18 = gw (M + 2) 18 := by rw [k2]; exact mDyP_hi (by omega) (Or.inr rfl)
          have hIp := hIw.mv kh
          have hFp := hFw.mv kh
          have hIr : MI (rG (gw (M + 2))) 0 := hIw
          have hJr : MJ (rG (gw (M + 2))) 0 := hJ
          have hJp : MJ gp M := by
            have z := mDyP_J (pl := pl) (C := C) (d := d) (b := b) (w := w) hIr hJr bd
            rw [← k2] at z
            exact z
          have hL := mLoud_54 hIp pl C 0
          refine r_iload_n dX11_days_198 rfl ?_
          refine r_aload_n dX11_days_199 rfl ?_
          refine r_callV0p dX11_days_200 cvX11_359 (mo_o hm) (c_X11_hourPasses hm hIp hFp (by rw [k18]; omega)) (by decide) (Nat.le_of_ble_eq_true rfl) od_le.rf (fun r200 g200 h200 => ?_)
          obtain ⟨rfl, f200, k200⟩ := h200
          show od_Rq _ _ _ _ _ _ _ ((0, mLoud gp M pl C 0) :: _) _ _
          refine r_iaddE dX11_days_203 (by first | exact od_w0 (by omega) (by omega) | exact od_wI (by omega) (by omega) | rfl) ?_
          refine r_istore_n dX11_days_204 (by decide) rfl ?_
          refine r_iincE dX11_days_205 rfl (by decide) (by first | exact od_w0 (by omega) (by omega) | exact od_wI (by omega) (by omega) | rfl) rfl ?_
          refine r_goto (tgt := 63) dX11_days_208 rfl ?_
          refine ih _ _ _ _ _ _ ⟨by omega, by omega, ?_, ?_, ?_, ?_, ?_, by omega⟩ (by omega)
          · rw [hz, k200, mLoud_r k2, mHp_r k2, f200 _ _ (by unfold HQ XQ; omega), k50]
          · refine kf.tr (f200.mo (fun x y z => ?_))
            unfold HQ XQ at z
            unfold DX SQ
            omega
          · exact MJ_hp hIp hJp k200
          · rw [f200 _ _ (by unfold HQ XQ; omega), k50]; omega
          · rw [k200, mHp_18, k18]; omega
        refine r_iload dX11_days_107 rfl ?_
        refine r_if_ne (tgt := 131) dX11_days_109 rfl (fun c109 => ?_) (fun c109 => ?_)
        · refine r_iload dX11_days_131 rfl ?_
          refine r_iconst dX11_days_133 li_1 ?_
          refine r_icmp_ne (tgt := 170) dX11_days_134 rfl (fun c134 => ?_) (fun c134 => ?_)
          · refine r_iload dX11_days_170 rfl ?_
            refine r_iconst dX11_days_172 li_2 ?_
            refine r_icmp_ne (tgt := 198) dX11_days_173 rfl (fun c173 => ?_) (fun c173 => ?_)
            · first
              | (exfalso; omega)
              | (have q := q117
                 rw [mCnP_r e2] at q
                 first
                 | (refine fin _ ?_ ?_ ?_
                    · unfold mTurn
                      rw [od_up_row, f117.row (fun y => by unfold XQ; omega), e2]
                      unfold mDyP
                      rw [od_ir_t (by assumption), od_ir_t q]
                    · unfold mTurn
                      rw [od_upn (by omega), f117 _ _ (by unfold XQ; omega), e50]
                    · exact ((fd.tr (f117.mo (fun _ _ z => Or.inl (XQ_SQ z)))).up (Or.inr (Or.inr ⟨rfl, by omega, by omega⟩))))
                 | (refine fin _ ?_ ?_ ?_
                    · rw [f117.row (fun y => by unfold XQ; omega), e2]
                      unfold mDyP
                      rw [od_ir_t (by assumption), od_ir_f q]
                    · rw [f117 _ _ (by unfold XQ; omega), e50]
                    · exact (fd.tr (f117.mo (fun _ _ z => Or.inl (XQ_SQ z))))))
              | (refine fin _ ?_ ?_ ?_
                 · rw [od_up_row, e2]
                   unfold mDyP
                   rw [od_ir_f (by omega), od_ir_t (by omega)]
                 · rw [od_upn (by omega), e50]
                 · exact fd.up (Or.inr (Or.inr ⟨rfl, by omega, by omega⟩)))
              | (refine fin _ ?_ ?_ ?_
                 · rw [od_up_row, e2]
                   unfold mDyP
                   rw [od_ir_f (by omega), od_ir_f (by omega)]
                 · rw [od_upn (by omega), e50]
                 · exact fd.up (Or.inr (Or.inr ⟨rfl, by omega, by omega⟩)))
            · have e12 : gd (M + 2) (12 + d) = gw (M + 2) (12 + d) := by rw [e2]
              refine r_aload_n dX11_days_176 rfl ?_
              refine r_getR dX11_days_177 fkX11_28 gf11_2 (mo_o hm) (mo_r2 hm) ?_
              refine r_bipush dX11_days_180 lb_12 ?_
              refine r_iload dX11_days_182 rfl ?_
              refine r_iaddE dX11_days_184 (by first | exact od_w0 (by omega) (by omega) | exact od_wI (by omega) (by omega) | rfl) ?_
              refine r_iconst dX11_days_185 li_1 ?_
              refine r_aload_n dX11_days_186 rfl ?_
              refine r_getR dX11_days_187 fkX11_28 gf11_2 (mo_o hm) (mo_r2 hm) ?_
              refine r_bipush dX11_days_190 lb_12 ?_
              refine r_iload dX11_days_192 rfl ?_
              refine r_iaddE dX11_days_194 (by first | exact od_w0 (by omega) (by omega) | exact od_wI (by omega) (by omega) | rfl) ?_
              refine r_iald dX11_days_195 (mo_k2 hm) (by omega) (by first | exact e6 | exact e19 | exact e12 | rfl) ?_
              refine r_isubE dX11_days_196 (by first | exact od_w0 (by omega) (by omega) | exact od_wI (by omega) (by omega) | rfl) ?_
              refine r_iast dX11_days_197 (mo_k2 hm) (by omega) ?_
              first
              | (exfalso; omega)
              | (have q := q117
                 rw [mCnP_r e2] at q
                 first
                 | (refine fin _ ?_ ?_ ?_
                    · unfold mTurn
                      rw [od_up_row, f117.row (fun y => by unfold XQ; omega), e2]
                      unfold mDyP
                      rw [od_ir_t (by assumption), od_ir_t q]
                    · unfold mTurn
                      rw [od_upn (by omega), f117 _ _ (by unfold XQ; omega), e50]
                    · exact ((fd.tr (f117.mo (fun _ _ z => Or.inl (XQ_SQ z)))).up (Or.inr (Or.inr ⟨rfl, by omega, by omega⟩))))
                 | (refine fin _ ?_ ?_ ?_
                    · rw [f117.row (fun y => by unfold XQ; omega), e2]
                      unfold mDyP
                      rw [od_ir_t (by assumption), od_ir_f q]
                    · rw [f117 _ _ (by unfold XQ; omega), e50]
                    · exact (fd.tr (f117.mo (fun _ _ z => Or.inl (XQ_SQ z))))))
              | (refine fin _ ?_ ?_ ?_
                 · rw [od_up_row, e2]
                   unfold mDyP
                   rw [od_ir_f (by omega), od_ir_t (by omega)]
                 · rw [od_upn (by omega), e50]
                 · exact fd.up (Or.inr (Or.inr ⟨rfl, by omega, by omega⟩)))
              | (refine fin _ ?_ ?_ ?_
                 · rw [od_up_row, e2]
                   unfold mDyP
                   rw [od_ir_f (by omega), od_ir_f (by omega)]
                 · rw [od_upn (by omega), e50]
                 · exact fd.up (Or.inr (Or.inr ⟨rfl, by omega, by omega⟩)))
          · have e6 : gd (M + 2) (6 + d) = gw (M + 2) (6 + d) := by rw [e2]
            have e19 : gd (M + 2) (19 + d) = gw (M + 2) (19 + d) := by rw [e2]
            refine r_aload_n dX11_days_137 rfl ?_
            refine r_getR dX11_days_138 fkX11_28 gf11_2 (mo_o hm) (mo_r2 hm) ?_
            refine r_bipush dX11_days_141 lb_6 ?_
            refine r_iload dX11_days_143 rfl ?_
            refine r_iaddE dX11_days_145 (by first | exact od_w0 (by omega) (by omega) | exact od_wI (by omega) (by omega) | rfl) ?_
            refine r_aload_n dX11_days_146 rfl ?_
            refine r_getR dX11_days_147 fkX11_28 gf11_2 (mo_o hm) (mo_r2 hm) ?_
            refine r_bipush dX11_days_150 lb_6 ?_
            refine r_iload dX11_days_152 rfl ?_
            refine r_iaddE dX11_days_154 (by first | exact od_w0 (by omega) (by omega) | exact od_wI (by omega) (by omega) | rfl) ?_
            refine r_iald dX11_days_155 (mo_k2 hm) (by omega) (by first | exact e6 | exact e19 | exact e12 | rfl) ?_
            refine r_iconst dX11_days_156 li_1 ?_
            refine r_iaddE dX11_days_157 (by first | exact od_w0 (by omega) (by omega) | exact od_wI (by omega) (by omega) | rfl) ?_
            refine r_aload_n dX11_days_158 rfl ?_
            refine r_getR dX11_days_159 fkX11_28 gf11_2 (mo_o hm) (mo_r2 hm) ?_
            refine r_bipush dX11_days_162 lb_19 ?_
            refine r_iload dX11_days_164 rfl ?_
            refine r_iaddE dX11_days_166 (by first | exact od_w0 (by omega) (by omega) | exact od_wI (by omega) (by omega) | rfl) ?_
            refine r_iald dX11_days_167 (mo_k2 hm) (by omega) (by first | exact e6 | exact e19 | exact e12 | rfl) ?_
            refine r_irem dX11_days_168 (by first | decide | omega) ?_
            refine r_iast dX11_days_169 (mo_k2 hm) (by omega) ?_
            refine r_iload dX11_days_170 rfl ?_
            refine r_iconst dX11_days_172 li_2 ?_
            refine r_icmp_ne (tgt := 198) dX11_days_173 rfl (fun _ => ?_) (fun h => absurd h (by omega))
            first
            | (exfalso; omega)
            | (have q := q117
               rw [mCnP_r e2] at q
               first
               | (refine fin _ ?_ ?_ ?_
                  · unfold mTurn
                    rw [od_up_row, f117.row (fun y => by unfold XQ; omega), e2]
                    unfold mDyP
                    rw [od_ir_t (by assumption), od_ir_t q]
                  · unfold mTurn
                    rw [od_upn (by omega), f117 _ _ (by unfold XQ; omega), e50]
                  · exact ((fd.tr (f117.mo (fun _ _ z => Or.inl (XQ_SQ z)))).up (Or.inr (Or.inr ⟨rfl, by omega, by omega⟩))))
               | (refine fin _ ?_ ?_ ?_
                  · rw [f117.row (fun y => by unfold XQ; omega), e2]
                    unfold mDyP
                    rw [od_ir_t (by assumption), od_ir_f q]
                  · rw [f117 _ _ (by unfold XQ; omega), e50]
                  · exact (fd.tr (f117.mo (fun _ _ z => Or.inl (XQ_SQ z))))))
            | (refine fin _ ?_ ?_ ?_
               · rw [od_up_row, e2]
                 unfold mDyP
                 rw [od_ir_f (by omega), od_ir_t (by omega)]
               · rw [od_upn (by omega), e50]
               · exact fd.up (Or.inr (Or.inr ⟨rfl, by omega, by omega⟩)))
            | (refine fin _ ?_ ?_ ?_
               · rw [od_up_row, e2]
                 unfold mDyP
                 rw [od_ir_f (by omega), od_ir_f (by omega)]
               · rw [od_upn (by omega), e50]
               · exact fd.up (Or.inr (Or.inr ⟨rfl, by omega, by omega⟩)))
        · refine r_aload_n dX11_days_112 rfl ?_
          refine r_iload dX11_days_113 rfl ?_
          refine r_iload dX11_days_115 rfl ?_
          refine r_callV2g dX11_days_117 cvX11_353 (mo_o hm) (c_X11_canPin hm hId hFd _ (by rw [e2]; exact bd) _) (by decide) (Nat.le_of_ble_eq_true rfl) od_le.rf (fun q117 g117 f117 => ?_) (fun q117 g117 f117 => ?_)
          · refine r_if_eq (tgt := 131) dX11_days_120 rfl (fun h => absurd h (by decide)) (fun _ => ?_)
            refine r_aload_n dX11_days_123 rfl ?_
            refine r_iload dX11_days_124 rfl ?_
            refine r_iload dX11_days_126 rfl ?_
            refine r_callV2v dX11_days_128 cvX11_350 (mo_o hm) (c_X11_turnsPin hm _ (by omega) _) (by decide) (Nat.le_of_ble_eq_true rfl) od_le.rf ?_
            refine r_iload dX11_days_131 rfl ?_
            refine r_iconst dX11_days_133 li_1 ?_
            refine r_icmp_ne (tgt := 170) dX11_days_134 rfl (fun _ => ?_) (fun h => absurd h (by omega))
            refine r_iload dX11_days_170 rfl ?_
            refine r_iconst dX11_days_172 li_2 ?_
            refine r_icmp_ne (tgt := 198) dX11_days_173 rfl (fun _ => ?_) (fun h => absurd h (by omega))
            first
            | (exfalso; omega)
            | (have q := q117
               rw [mCnP_r e2] at q
               first
               | (refine fin _ ?_ ?_ ?_
                  · unfold mTurn
                    rw [od_up_row, f117.row (fun y => by unfold XQ; omega), e2]
                    unfold mDyP
                    rw [od_ir_t (by assumption), od_ir_t q]
                  · unfold mTurn
                    rw [od_upn (by omega), f117 _ _ (by unfold XQ; omega), e50]
                  · exact ((fd.tr (f117.mo (fun _ _ z => Or.inl (XQ_SQ z)))).up (Or.inr (Or.inr ⟨rfl, by omega, by omega⟩))))
               | (refine fin _ ?_ ?_ ?_
                  · rw [f117.row (fun y => by unfold XQ; omega), e2]
                    unfold mDyP
                    rw [od_ir_t (by assumption), od_ir_f q]
                  · rw [f117 _ _ (by unfold XQ; omega), e50]
                  · exact (fd.tr (f117.mo (fun _ _ z => Or.inl (XQ_SQ z))))))
            | (refine fin _ ?_ ?_ ?_
               · rw [od_up_row, e2]
                 unfold mDyP
                 rw [od_ir_f (by omega), od_ir_t (by omega)]
               · rw [od_upn (by omega), e50]
               · exact fd.up (Or.inr (Or.inr ⟨rfl, by omega, by omega⟩)))
            | (refine fin _ ?_ ?_ ?_
               · rw [od_up_row, e2]
                 unfold mDyP
                 rw [od_ir_f (by omega), od_ir_f (by omega)]
               · rw [od_upn (by omega), e50]
               · exact fd.up (Or.inr (Or.inr ⟨rfl, by omega, by omega⟩)))
          · refine r_if_eq (tgt := 131) dX11_days_120 rfl (fun _ => ?_) (fun h => absurd h (by decide))
            refine r_iload dX11_days_131 rfl ?_
            refine r_iconst dX11_days_133 li_1 ?_
            refine r_icmp_ne (tgt := 170) dX11_days_134 rfl (fun _ => ?_) (fun h => absurd h (by omega))
            refine r_iload dX11_days_170 rfl ?_
            refine r_iconst dX11_days_172 li_2 ?_
            refine r_icmp_ne (tgt := 198) dX11_days_173 rfl (fun _ => ?_) (fun h => absurd h (by omega))
            first
            | (exfalso; omega)
            | (have q := q117
               rw [mCnP_r e2] at q
               first
               | (refine fin _ ?_ ?_ ?_
                  · unfold mTurn
                    rw [od_up_row, f117.row (fun y => by unfold XQ; omega), e2]
                    unfold mDyP
                    rw [od_ir_t (by assumption), od_ir_t q]
                  · unfold mTurn
                    rw [od_upn (by omega), f117 _ _ (by unfold XQ; omega), e50]
                  · exact ((fd.tr (f117.mo (fun _ _ z => Or.inl (XQ_SQ z)))).up (Or.inr (Or.inr ⟨rfl, by omega, by omega⟩))))
               | (refine fin _ ?_ ?_ ?_
                  · rw [f117.row (fun y => by unfold XQ; omega), e2]
                    unfold mDyP
                    rw [od_ir_t (by assumption), od_ir_f q]
                  · rw [f117 _ _ (by unfold XQ; omega), e50]
                  · exact (fd.tr (f117.mo (fun _ _ z => Or.inl (XQ_SQ z))))))
            | (refine fin _ ?_ ?_ ?_
               · rw [od_up_row, e2]
                 unfold mDyP
                 rw [od_ir_f (by omega), od_ir_t (by omega)]
               · rw [od_upn (by omega), e50]
               · exact fd.up (Or.inr (Or.inr ⟨rfl, by omega, by omega⟩)))
            | (refine fin _ ?_ ?_ ?_
               · rw [od_up_row, e2]
                 unfold mDyP
                 rw [od_ir_f (by omega), od_ir_f (by omega)]
               · rw [od_upn (by omega), e50]
               · exact fd.up (Or.inr (Or.inr ⟨rfl, by omega, by omega⟩)))
set_option maxRecDepth 10000 in
theorem lp_X11_dayB {E : od_E} {g : od_G} {Q : Option od_V → od_G → Prop} {M : Int} (hm : MoAt E M) (x0 n s : Int) (x5 x6 x7 : Option od_V) (hx : od_Rq 48 mX11_days od_Z0 E (E, Q) 241 [some (2, M), some (0, x0), some (0, n), some (0, s), some (0, 19), x5, x6, x7] [] E (od_cq g (M + 23) 0 (M + 2) 0 19)) : ∀ (m : Nat) (i : Int) (gw : od_G), (0 ≤ i ∧ i ≤ 19 ∧ gw = od_cq g (M + 23) 0 (M + 2) 0 i) → ((19 - i).toNat) < m → od_Rq 48 mX11_days od_Z0 E (E, Q) 214 [some (2, M), some (0, x0), some (0, n), some (0, s), some (0, i), x5, x6, x7] [] E gw := by
  intro m
  induction m with
  | zero => intro i gw hi hM; exact absurd hM (Nat.not_lt_zero _)
  | succ m ih =>
    intro i gw hi hM
    obtain ⟨hi0, hi1, hgw⟩ := hi
    refine r_iload dX11_days_214 rfl ?_
    refine r_bipush dX11_days_216 lb_19 ?_
    refine r_icmp_ge (tgt := 241) dX11_days_218 rfl (fun c218 => ?_) (fun c218 => ?_)
    · have hi9 : i = 19 := by omega
      subst hi9
      rw [hgw]
      exact hx
    · refine r_aload_n dX11_days_221 rfl ?_
      refine r_getR dX11_days_222 fkX11_100 gf11_48 (mo_o hm) (mo_r48 hm) ?_
      refine r_iload dX11_days_225 rfl ?_
      refine r_aload_n dX11_days_227 rfl ?_
      refine r_getR dX11_days_228 fkX11_28 gf11_2 (mo_o hm) (mo_r2 hm) ?_
      refine r_iload dX11_days_231 rfl ?_
      refine r_iald dX11_days_233 (mo_k2 hm) (by omega) rfl ?_
      refine r_iast dX11_days_234 (mo_k48 hm) (by omega) ?_
      refine r_iincE dX11_days_235 rfl (by decide) (by first | exact od_w0 (by omega) (by omega) | exact od_wI (by omega) (by omega) | rfl) rfl ?_
      refine r_goto (tgt := 214) dX11_days_238 rfl ?_
      refine ih _ _ ⟨by omega, by omega, ?_⟩ (by omega)
      rw [← od_cq_s g (a := M + 23) (o := 0) (b := M + 2) (f := 0) hi0 (by omega), Int.zero_add, ← hgw]
theorem od_up_at2 (g : od_G) (a j v x y : Int) : od_up g a j v x y = if x = a ∧ y = j then v else g x y := rfl
def DY (M : Int) : Int → Int → Prop := fun x y => SQ M x y ∨ x = M + 5 ∨ x = M + 23 ∨ (x = M ∧ (y = 0 ∨ y = 49 ∨ y = 50))
def mDok (x0 n : Int) : Prop := mLies x0 0 1000000 ∧ mLies n 1 60
def DyQ (g : od_G) (M : Int) (pl : Int → Int) (C x0 n : Int) (v : Option od_V) (g' : od_G) : Prop :=
  (¬ mDok x0 n ∧ v = some (0, -1) ∧ g' = mRef g M (-1)) ∨ (mDok x0 n ∧ g (M + 2) 45 = 0 ∧ v = some (0, -3) ∧ g' = mRef g M (-3)) ∨
  (mDok x0 n ∧ g (M + 2) 45 ≠ 0 ∧ v = some (0, (mDys (g (M + 2)) pl C x0 n.toNat).1) ∧ od_fr (DY M) g g' ∧ g' M 0 = 0 ∧ g' M 49 = g (M + 2) 45 ∧ ∀ y : Int, 0 ≤ y → y < 19 → g' (M + 23) y = (mDys (g (M + 2)) pl C x0 n.toNat).2.1 y)
set_option maxRecDepth 10000 in
theorem c_X11_days {E : od_E} {g : od_G} {M : Int} (hm : MoAt E M) {pl : Int → Int} {C : Int} (hI : MI g M) (hJ : MJ g M) (hF : LwF (g (M + 2)) pl C) (h18 : 0 ≤ g (M + 2) 18 ∧ g (M + 2) 18 ≤ 999) (x0 n : Int) : od_Cq 48 mX11_days [(2, M), (0, x0), (0, n)] E g (E, DyQ g M pl C x0 n) := by
  refine od_cqI pnX11 rfl (Nat.le_of_ble_eq_true rfl) od_le.rf ?_
  show od_Rq 48 mX11_days od_Z0 E (E, DyQ g M pl C x0 n) 0 [some (2, M), some (0, x0), some (0, n), none, none, none, none, none] [] E g
  refine r_iload_n dX11_days_0 rfl ?_
  refine r_iconst dX11_days_1 li_0 ?_
  refine r_ldc dX11_days_2 kcX11_169 lk_X11_169 ?_
  refine r_callS3b dX11_days_4 csX11_18 (c_X11_lies _ _ _) (by decide) (Nat.le_of_ble_eq_true rfl) od_le.rf (fun q4 => ?_) (fun q4 => ?_)
  · refine r_if_eq (tgt := 20) dX11_days_7 rfl (fun h => absurd h (by decide)) (fun _ => ?_)
    refine r_iload_n dX11_days_10 rfl ?_
    refine r_iconst dX11_days_11 li_1 ?_
    refine r_bipush dX11_days_12 lb_60 ?_
    refine r_callS3b dX11_days_14 csX11_18 (c_X11_lies _ _ _) (by decide) (Nat.le_of_ble_eq_true rfl) od_le.rf (fun q14 => ?_) (fun q14 => ?_)
    · refine r_if_ne (tgt := 26) dX11_days_17 rfl (fun _ => ?_) (fun h => absurd h (by decide))
      refine r_aload_n dX11_days_26 rfl ?_
      refine r_callV0i dX11_days_27 cvX11_112 (mo_o hm) (c_X11_drumMany hm) (by decide) (Nat.le_of_ble_eq_true rfl) od_le.rf ?_
      refine r_if_ne (tgt := 40) dX11_days_30 rfl (fun c30 => ?_) (fun c30 => ?_)
      · refine r_aload_n dX11_days_40 rfl ?_
        refine r_iload_n dX11_days_41 rfl ?_
        refine r_putIj (j := 50) rfl dX11_days_42 fkX11_467 gf11_50 pf11_50 (mo_o hm) ?_
        refine r_aload_n dX11_days_45 rfl ?_
        refine r_aload_n dX11_days_46 rfl ?_
        refine r_callV0i dX11_days_47 cvX11_112 (mo_o hm) (c_X11_drumMany hm) (by decide) (Nat.le_of_ble_eq_true rfl) od_le.rf ?_
        refine r_putIj (j := 49) rfl dX11_days_50 fkX11_103 gf11_49 pf11_49 (mo_o hm) ?_
        refine r_aload_n dX11_days_53 rfl ?_
        refine r_iconst dX11_days_54 li_0 ?_
        refine r_callV1v dX11_days_55 cvX11_428 (mo_o hm) (c_X11_laysAside hm _ (by omega)) (by decide) (Nat.le_of_ble_eq_true rfl) od_le.rf ?_
        refine r_iconst dX11_days_58 li_0 ?_
        refine r_istore_n dX11_days_59 (by decide) rfl ?_
        refine r_iconst dX11_days_60 li_0 ?_
        refine r_istore dX11_days_61 (by decide) rfl ?_
        obtain ⟨g1, hg1⟩ : ∃ z, z = mLay (od_up (od_up g M 50 x0) M 49 (od_up g M 50 x0 (M + 2) 45)) M 0 := ⟨_, rfl⟩
        rw [← hg1]
        rw [od_upn (by omega)] at hg1
        have e1 : g1 (M + 2) = g (M + 2) := by
          rw [hg1]
          funext y
          unfold mLay od_cq
          rw [if_neg (by omega), od_upn (by omega), od_upn (by omega)]
        have e50 : g1 M 50 = x0 := by
          rw [hg1]
          unfold mLay od_cq
          rw [if_neg (by omega), od_up_at, if_neg (by omega)]
          exact od_up_i
        have u4 := q4
        have u14 := q14
        unfold mLies at u4 u14
        refine lp_X11_dayA (g := g1) hm (hI.e e1) (hF.e e1) (by rw [e1]; assumption) x0 n (by omega) (fun kx sx x5 x6 x7 gx hs hr hgx => ?_) _ _ _ _ _ _ _ ⟨by omega, by omega, by rw [e50]; rfl, od_fr.rf, hJ.e e1, by omega, by rw [e1]; exact h18, by omega⟩ (Nat.lt_succ_self _)
        refine r_iconst dX11_days_211 li_0 ?_
        refine r_istore dX11_days_212 (by decide) rfl ?_
        refine lp_X11_dayB (g := gx) hm x0 n sx _ _ _ ?_ _ _ _ ⟨by omega, by omega, (od_cq_0 _ _ _ _ _).symm⟩ (Nat.lt_succ_self _)
        refine r_aload_n dX11_days_241 rfl ?_
        refine r_iconst dX11_days_242 li_0 ?_
        refine r_callV1v dX11_days_243 cvX11_437 (mo_o hm) (c_X11_takesBack hm _ (by omega)) (by decide) (Nat.le_of_ble_eq_true rfl) od_le.rf ?_
        refine r_aload_n dX11_days_246 rfl ?_
        refine r_iload_n dX11_days_247 rfl ?_
        refine r_callV1i dX11_days_248 cvX11_14 (mo_o hm) (c_X11_good hm _) (by decide) (Nat.le_of_ble_eq_true rfl) od_le.rf ?_
        refine r_iretq dX11_days_251 rfl rfl (Or.inr (Or.inr ⟨⟨by assumption, by assumption⟩, by assumption, by rw [e1] at hs; rw [hs], ?_, ?_, ?_, ?_⟩))
        · intro x y hx
          unfold DY SQ at hx
          unfold mGood
          rw [od_up_at2, if_neg (by omega)]
          unfold mTake od_cq
          by_cases c2 : x = M + 2 ∧ 0 ≤ y ∧ y < 19
          · rw [if_pos (by omega), if_neg (by omega), show y - 0 + 19 * 0 = y by omega, hgx _ _ (by unfold DX SQ; omega), hg1]
            unfold mLay od_cq
            rw [if_pos (by omega), od_upn (by omega), od_upn (by omega), c2.1, show y - 19 * 0 + 0 = y by omega]
          · rw [if_neg (by omega), if_neg (by omega), hgx _ _ (by unfold DX SQ; omega), hg1]
            unfold mLay od_cq
            rw [if_neg (by omega), od_up_at2, if_neg (by omega), od_up_at2, if_neg (by omega)]
        · unfold mGood
          exact od_up_i
        · unfold mGood
          rw [od_up_at, if_neg (by omega)]
          unfold mTake od_cq
          rw [if_neg (by omega), if_neg (by omega), hgx _ _ (by unfold DX SQ; omega), hg1]
          unfold mLay od_cq
          rw [if_neg (by omega)]
          exact od_up_i
        · intro y y0 y1
          unfold mGood
          rw [od_upn (by omega)]
          unfold mTake od_cq
          rw [if_neg (by omega), if_pos (by omega), show y - 0 + 0 = y by omega]
          rw [e1] at hr
          rw [hr]
      · refine r_aload_n dX11_days_33 rfl ?_
        refine r_bipush dX11_days_34 lb_m3 ?_
        refine r_callV1i dX11_days_36 cvX11_106 (mo_o hm) (c_X11_refuses hm _ (by omega)) (by decide) (Nat.le_of_ble_eq_true rfl) od_le.rf ?_
        exact r_iretq dX11_days_39 rfl rfl (Or.inr (Or.inl ⟨⟨by assumption, by assumption⟩, by assumption, rfl, rfl⟩))
    · refine r_if_ne (tgt := 26) dX11_days_17 rfl (fun h => absurd h (by decide)) (fun _ => ?_)
      refine r_aload_n dX11_days_20 rfl ?_
      refine r_iconst dX11_days_21 li_m1 ?_
      refine r_callV1i dX11_days_22 cvX11_106 (mo_o hm) (c_X11_refuses hm _ (by omega)) (by decide) (Nat.le_of_ble_eq_true rfl) od_le.rf ?_
      first
      | exact r_iretq dX11_days_25 rfl rfl (Or.inl ⟨fun z => absurd z.2 (by assumption), rfl, rfl⟩)
      | exact r_iretq dX11_days_25 rfl rfl (Or.inl ⟨fun z => absurd z.1 (by assumption), rfl, rfl⟩)
  · refine r_if_eq (tgt := 20) dX11_days_7 rfl (fun _ => ?_) (fun h => absurd h (by decide))
    refine r_aload_n dX11_days_20 rfl ?_
    refine r_iconst dX11_days_21 li_m1 ?_
    refine r_callV1i dX11_days_22 cvX11_106 (mo_o hm) (c_X11_refuses hm _ (by omega)) (by decide) (Nat.le_of_ble_eq_true rfl) od_le.rf ?_
    first
    | exact r_iretq dX11_days_25 rfl rfl (Or.inl ⟨fun z => absurd z.2 (by assumption), rfl, rfl⟩)
    | exact r_iretq dX11_days_25 rfl rfl (Or.inl ⟨fun z => absurd z.1 (by assumption), rfl, rfl⟩)
