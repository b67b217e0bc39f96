/-! the reference works out -/
noncomputable def mPins (g : od_G) (M : Int) (n : Nat) : Int := od_sum (fun d => mOnes (g (M + 2) d) 12) n
noncomputable def mOV (g : od_G) (M k x : Int) : Int := if k = 13 then od_ite (mDr g M x) (mOnes (g (M + 2) x) 12) (-1) else if k = 14 then g (M + 2) 18 else if k = 15 then g M 27 else if k = 16 then g M 28 else if k = 17 then g M 29 else if k = 19 then od_ite (mDr g M x) (g (M + 2) (6 + x)) (-1) else mPins g M (g (M + 2) 45).toNat
/-- what words mean now -/
def EnvL (g : od_G) (M : Int) (w : Int → Int) : Prop := ∀ k : Int, 8 ≤ k → k ≤ 14 → g (M + 12) (k - 8) = w (pIx true k)
def EnvO (g : od_G) (M : Int) (w : Int → Int) : Prop := ∀ k x : Int, 13 ≤ k → k ≤ 19 → (pOf false k = true → 0 ≤ x ∧ x ≤ 5) → mOV g M k x = w (pIx false k + (if pOf false k = true then x else 0))
def EnvOk (g : od_G) (M : Int) (lw : Bool) (w : Int → Int) : Prop := match lw with
  | true => EnvL g M w
  | false => EnvO g M w
/-- a text that is laid, at a base -/
def MEv (g : od_G) (M b N : Int) (c v : Int → Int) (lw : Bool) : Prop := g M 23 = b + N ∧ (0 ≤ b ∧ b ≤ 2400) ∧ (0 ≤ N ∧ N ≤ 400) ∧ (∀ i : Int, 0 ≤ i → i < N → g (M + 2) (56 + (b + i)) = c i ∧ g (M + 2) (2856 + (b + i)) = v i) ∧ (∀ i : Int, N ≤ i → c i = 0) ∧ g M 25 = (if lw = true then 0 else 1)
def EV (g : od_G) (M b N : Int) (c v : Int → Int) (lw : Bool) (w : Int → Int) : Prop := MEv g M b N c v lw ∧ EnvOk g M lw w ∧ (0 ≤ g (M + 2) 45 ∧ g (M + 2) 45 ≤ 6)
def XB (M : Int) : Int → Int → Prop := fun x y => x = M ∧ (y = 22 ∨ y = 24)
theorem mOV_e {g g' : od_G} {M k x : Int} (f : od_fr (XB M) g g') : mOV g' M k x = mOV g M k x := by
  have e2 : g' (M + 2) = g (M + 2) := f.row (fun y => by unfold XB; omega)
  unfold mOV mDr mPins
  rw [e2, f M 27 (by unfold XB; omega), f M 28 (by unfold XB; omega), f M 29 (by unfold XB; omega)]
theorem EV.fr {g g' : od_G} {M b N : Int} {c v : Int → Int} {lw : Bool} {w : Int → Int} (h : EV g M b N c v lw w) (f : od_fr (XB M) g g') : EV g' M b N c v lw w := by
  have e2 : g' (M + 2) = g (M + 2) := f.row (fun y => by unfold XB; omega)
  have e12 : g' (M + 12) = g (M + 12) := f.row (fun y => by unfold XB; omega)
  refine ⟨⟨(f M 23 (by unfold XB; omega)).trans h.1.1, h.1.2.1, h.1.2.2.1, fun i a1 b1 => by rw [e2]; exact h.1.2.2.2.1 i a1 b1, h.1.2.2.2.2.1, (f M 25 (by unfold XB; omega)).trans h.1.2.2.2.2.2⟩, ?_, ?_⟩
  · have q := h.2.1
    cases lw with
    | true =>
      intro k a1 b1
      rw [e12]
      exact q k a1 b1
    | false =>
      intro k x a1 b1 c1
      rw [mOV_e f]
      exact q k x a1 b1 c1
  · rw [e2]; exact h.2.2
theorem EV.lt {g : od_G} {M b N : Int} {c v : Int → Int} {lw : Bool} {w : Int → Int} (h : EV g M b N c v lw w) {i : Int} (hc : c i ≠ 0) : i < N := by
  by_cases z : i < N
  · exact z
  · exact absurd (h.1.2.2.2.2.1 i (by omega)) hc
/-- broken, and what came out -/
def BrQ (lv br br' x : Int) (q : Option Int) : Prop := (br' = 0 ∨ br' = 1) ∧ ((lv = 1 ∧ br = 0 ∧ ((q = none ∧ br' = 1) ∨ (q = some x ∧ br' = 0))) ∨ (¬ (lv = 1 ∧ br = 0) ∧ br' = br))
def EQ (g g' : od_G) (M b : Int) (w : Int → Int) (lv x : Int) (s : pS) (r : pR) : Prop := od_fr (XB M) g g' ∧ g' M 22 = b + r.1.1 ∧ s.1 ≤ r.1.1 ∧ BrQ lv (g M 24) (g' M 24) x (r.2 w)
set_option maxRecDepth 10000 in
theorem c_X11_codeAt {E : od_E} {g : od_G} {M : Int} (hm : MoAt E M) {b N : Int} {c v : Int → Int} {lw : Bool} {w : Int → Int} (hv : EV g M b N c v lw w) (i : Int) (hi : 0 ≤ i) : od_Ct 1 mX11_codeAt [(2, M), (0, b + i)] E g (some (0, c i), E, g) := by
  have hb0 := hv.1.2.1
  have hN0 := hv.1.2.2.1
  have e23 := hv.1.1
  refine od_ctI pnX11 rfl (Nat.le_of_ble_eq_true rfl) od_le.rf ?_
  show od_R _ _ _ _ _ 0 [some (2, M), some (0, b + i)] [] E g
  refine r_iload_n dX11_codeAt_0 rfl ?_
  refine r_aload_n dX11_codeAt_1 rfl ?_
  refine r_getIj (j := 23) rfl dX11_codeAt_2 fkX11_260 gf11_23 (mo_o hm) (by first | exact hv.1.1 | rfl) ?_
  refine r_icmp_ge (tgt := 20) dX11_codeAt_5 rfl (fun c5 => ?_) (fun c5 => ?_)
  · refine r_iconst dX11_codeAt_20 li_0 ?_
    refine r_iret dX11_codeAt_21 rfl ?_
    first
    | rw [hv.1.2.2.2.2.1 i (by omega)]
    | rw [(hv.1.2.2.2.1 i hi (by omega)).1]
  · refine r_aload_n dX11_codeAt_8 rfl ?_
    refine r_getR dX11_codeAt_9 fkX11_28 gf11_2 (mo_o hm) (mo_r2 hm) ?_
    refine r_bipush dX11_codeAt_12 lb_56 ?_
    refine r_iload_n dX11_codeAt_14 rfl ?_
    refine r_iaddE dX11_codeAt_15 (by first | exact od_w0 (by omega) (by omega) | exact od_wI (by omega) (by omega) | rfl) ?_
    refine r_iald dX11_codeAt_16 (mo_k2 hm) (by omega) (by first | exact hv.1.1 | rfl) ?_
    refine r_goto (tgt := 21) dX11_codeAt_17 rfl ?_
    refine r_iret dX11_codeAt_21 rfl ?_
    first
    | rw [hv.1.2.2.2.2.1 i (by omega)]
    | rw [(hv.1.2.2.2.1 i hi (by omega)).1]
set_option maxRecDepth 10000 in
theorem c_X11_passes0 {E : od_E} {g : od_G} {M : Int} (hm : MoAt E M) {b N : Int} {c v : Int → Int} {lw : Bool} {w : Int → Int} (hv : EV g M b N c v lw w) {i : Int} (hi : 0 ≤ i) (hg : g M 22 = b + i) (k : Int) (hk0 : k ≠ 0) : od_Cq (2) mX11_passes0 [(2, M), (0, k)] E g (E, fun o g' => (o = some (0, 1) ∧ c i = k ∧ g' = od_up g M 22 (b + (i + 1))) ∨ (o = some (0, 0) ∧ c i ≠ k ∧ g' = g)) := by
  refine od_cqI pnX11 rfl (Nat.le_of_ble_eq_true rfl) od_le.rf ?_
  show od_Rq (2) mX11_passes0 od_Z0 E (E, fun o g' => (o = some (0, 1) ∧ c i = k ∧ g' = od_up g M 22 (b + (i + 1))) ∨ (o = some (0, 0) ∧ c i ≠ k ∧ g' = g)) 0 [some (2, M), some (0, k), none] [] E g
  refine r_aload_n dX11_passes0_0 rfl ?_
  refine r_aload_n dX11_passes0_1 rfl ?_
  refine r_getIj (j := 22) rfl dX11_passes0_2 fkX11_263 gf11_22 (mo_o hm) hg ?_
  refine r_callV1i dX11_passes0_5 cvX11_266 (mo_o hm) (c_X11_codeAt hm hv i hi) (by decide) (Nat.le_of_ble_eq_true rfl) od_le.rf ?_
  refine r_iload_n dX11_passes0_8 rfl ?_
  refine r_icmp_ne (tgt := 16) dX11_passes0_9 rfl (fun c9 => ?_) (fun c9 => ?_)
  · refine r_iconst dX11_passes0_16 li_0 ?_
    refine r_istore_n dX11_passes0_17 (by decide) rfl ?_
    refine r_iload_n dX11_passes0_18 rfl ?_
    refine r_if_eq (tgt := 32) dX11_passes0_19 rfl (fun _ => ?_) (fun h => absurd h (by decide))
    refine r_iload_n dX11_passes0_32 rfl ?_
    exact r_zretq dX11_passes0_33 rfl od_nz0 rfl (Or.inr ⟨rfl, by assumption, rfl⟩)
  · refine r_iconst dX11_passes0_12 li_1 ?_
    refine r_goto (tgt := 17) dX11_passes0_13 rfl ?_
    refine r_istore_n dX11_passes0_17 (by decide) rfl ?_
    refine r_iload_n dX11_passes0_18 rfl ?_
    refine r_if_eq (tgt := 32) dX11_passes0_19 rfl (fun h => absurd h (by decide)) (fun _ => ?_)
    have hlt := hv.lt (i := i) (by omega)
    have hb0 := hv.1.2.1
    have hN0 := hv.1.2.2.1
    refine r_aload_n dX11_passes0_22 rfl ?_
    refine r_dup dX11_passes0_23 (by first | exact od_ne2 | exact od_ne0) ?_
    refine r_getIj (j := 22) rfl dX11_passes0_24 fkX11_263 gf11_22 (mo_o hm) hg ?_
    refine r_iconst dX11_passes0_27 li_1 ?_
    refine r_iaddE dX11_passes0_28 (by first | exact od_w0 (by omega) (by omega) | exact od_wI (by omega) (by omega) | rfl) ?_
    rw [show b + i + 1 = b + (i + 1) by omega]
    refine r_putIj (j := 22) rfl dX11_passes0_29 fkX11_263 gf11_22 pf11_22 (mo_o hm) ?_
    refine r_iload_n dX11_passes0_32 rfl ?_
    exact r_zretq dX11_passes0_33 rfl od_nz1 rfl (Or.inl ⟨rfl, by assumption, rfl⟩)
noncomputable def mBd (g : od_G) (M x lv : Int) : od_G := if lv = 1 ∧ (1000000000 < x ∨ x < -1000000000) then od_up g M 24 1 else g
theorem mBd_fr (g : od_G) (M x lv : Int) : od_fr (XB M) g (mBd g M x lv) := by
  unfold mBd
  split
  · exact od_fr.rf.up (by unfold XB; omega)
  · exact od_fr.rf
set_option maxRecDepth 10000 in
theorem c_X11_bounded {E : od_E} {g : od_G} {M : Int} (hm : MoAt E M) (x lv : Int) (hl : lv = 0 ∨ lv = 1) : od_Ct 1 mX11_bounded [(2, M), (1, x), (0, lv)] E g (some (1, od_ite (mBd g M x lv M 24 = 0) x 0), E, mBd g M x lv) := by
  refine od_ctI pnX11 rfl (Nat.le_of_ble_eq_true rfl) od_le.rf ?_
  show od_R _ _ _ _ _ 0 [some (2, M), some (1, x), none, some (0, lv)] [] E g
  refine r_iload_n dX11_bounded_0 rfl ?_
  refine r_if_eq (tgt := 25) dX11_bounded_1 rfl (fun c1 => ?_) (fun c1 => ?_)
  · refine r_aload_n dX11_bounded_25 rfl ?_
    refine r_getIj (j := 24) rfl dX11_bounded_26 fkX11_273 gf11_24 (mo_o hm) (by (repeat (first | rewrite [od_upn (by omega)] | rewrite [od_up_at, if_pos (by omega)] | rewrite [od_up_at, if_neg (by omega)])); rfl) ?_
    refine r_if_eq (tgt := 36) dX11_bounded_29 rfl (fun c29 => ?_) (fun c29 => ?_)
    · refine r_lload_n dX11_bounded_36 rfl ?_
      refine r_lret dX11_bounded_37 rfl ?_
      unfold mBd
      first
      | (exfalso; omega)
      | (rw [if_pos ⟨by omega, by omega⟩, od_up_at, if_pos rfl, od_ite_f (by omega)])
      | (rw [if_neg (fun z => by omega), od_ite_t (by omega)])
      | (rw [if_neg (fun z => by omega), od_ite_f (by omega)])
    · refine r_lconst dX11_bounded_32 ll_0 ?_
      refine r_goto (tgt := 37) dX11_bounded_33 rfl ?_
      refine r_lret dX11_bounded_37 rfl ?_
      unfold mBd
      first
      | (exfalso; omega)
      | (rw [if_pos ⟨by omega, by omega⟩, od_up_at, if_pos rfl, od_ite_f (by omega)])
      | (rw [if_neg (fun z => by omega), od_ite_t (by omega)])
      | (rw [if_neg (fun z => by omega), od_ite_f (by omega)])
  · refine r_lload_n dX11_bounded_4 rfl ?_
    refine r_ldc2 dX11_bounded_5 kcX11_269 lk_X11_269 ?_
    refine r_lcmp3 dX11_bounded_8 (fun c8 => ?_) (fun c8 => ?_) (fun c8 => ?_)
    · refine r_if_gt (tgt := 20) dX11_bounded_9 rfl (fun h => absurd h (by decide)) (fun _ => ?_)
      refine r_lload_n dX11_bounded_12 rfl ?_
      refine r_ldc2 dX11_bounded_13 kcX11_271 lk_X11_271 ?_
      refine r_lcmp3 dX11_bounded_16 (fun c16 => ?_) (fun c16 => ?_) (fun c16 => ?_)
      · refine r_if_ge (tgt := 25) dX11_bounded_17 rfl (fun h => absurd h (by decide)) (fun _ => ?_)
        refine r_aload_n dX11_bounded_20 rfl ?_
        refine r_iconst dX11_bounded_21 li_1 ?_
        refine r_putZj (j := 24) rfl dX11_bounded_22 fkX11_273 gf11_24 pf11_24 (by first | exact Or.inl rfl | exact Or.inr rfl | omega | assumption) (mo_o hm) ?_
        refine r_aload_n dX11_bounded_25 rfl ?_
        refine r_getIj (j := 24) rfl dX11_bounded_26 fkX11_273 gf11_24 (mo_o hm) (by (repeat (first | rewrite [od_upn (by omega)] | rewrite [od_up_at, if_pos (by omega)] | rewrite [od_up_at, if_neg (by omega)])); rfl) ?_
        refine r_if_eq (tgt := 36) dX11_bounded_29 rfl (fun c29 => ?_) (fun c29 => ?_)
        · refine r_lload_n dX11_bounded_36 rfl ?_
          refine r_lret dX11_bounded_37 rfl ?_
          unfold mBd
          first
          | (exfalso; omega)
          | (rw [if_pos ⟨by omega, by omega⟩, od_up_at, if_pos rfl, od_ite_f (by omega)])
          | (rw [if_neg (fun z => by omega), od_ite_t (by omega)])
          | (rw [if_neg (fun z => by omega), od_ite_f (by omega)])
        · refine r_lconst dX11_bounded_32 ll_0 ?_
          refine r_goto (tgt := 37) dX11_bounded_33 rfl ?_
          refine r_lret dX11_bounded_37 rfl ?_
          unfold mBd
          first
          | (exfalso; omega)
          | (rw [if_pos ⟨by omega, by omega⟩, od_up_at, if_pos rfl, od_ite_f (by omega)])
          | (rw [if_neg (fun z => by omega), od_ite_t (by omega)])
          | (rw [if_neg (fun z => by omega), od_ite_f (by omega)])
      · refine r_if_ge (tgt := 25) dX11_bounded_17 rfl (fun _ => ?_) (fun h => absurd h (by decide))
        refine r_aload_n dX11_bounded_25 rfl ?_
        refine r_getIj (j := 24) rfl dX11_bounded_26 fkX11_273 gf11_24 (mo_o hm) (by (repeat (first | rewrite [od_upn (by omega)] | rewrite [od_up_at, if_pos (by omega)] | rewrite [od_up_at, if_neg (by omega)])); rfl) ?_
        refine r_if_eq (tgt := 36) dX11_bounded_29 rfl (fun c29 => ?_) (fun c29 => ?_)
        · refine r_lload_n dX11_bounded_36 rfl ?_
          refine r_lret dX11_bounded_37 rfl ?_
          unfold mBd
          first
          | (exfalso; omega)
          | (rw [if_pos ⟨by omega, by omega⟩, od_up_at, if_pos rfl, od_ite_f (by omega)])
          | (rw [if_neg (fun z => by omega), od_ite_t (by omega)])
          | (rw [if_neg (fun z => by omega), od_ite_f (by omega)])
        · refine r_lconst dX11_bounded_32 ll_0 ?_
          refine r_goto (tgt := 37) dX11_bounded_33 rfl ?_
          refine r_lret dX11_bounded_37 rfl ?_
          unfold mBd
          first
          | (exfalso; omega)
          | (rw [if_pos ⟨by omega, by omega⟩, od_up_at, if_pos rfl, od_ite_f (by omega)])
          | (rw [if_neg (fun z => by omega), od_ite_t (by omega)])
          | (rw [if_neg (fun z => by omega), od_ite_f (by omega)])
      · refine r_if_ge (tgt := 25) dX11_bounded_17 rfl (fun _ => ?_) (fun h => absurd h (by decide))
        refine r_aload_n dX11_bounded_25 rfl ?_
        refine r_getIj (j := 24) rfl dX11_bounded_26 fkX11_273 gf11_24 (mo_o hm) (by (repeat (first | rewrite [od_upn (by omega)] | rewrite [od_up_at, if_pos (by omega)] | rewrite [od_up_at, if_neg (by omega)])); rfl) ?_
        refine r_if_eq (tgt := 36) dX11_bounded_29 rfl (fun c29 => ?_) (fun c29 => ?_)
        · refine r_lload_n dX11_bounded_36 rfl ?_
          refine r_lret dX11_bounded_37 rfl ?_
          unfold mBd
          first
          | (exfalso; omega)
          | (rw [if_pos ⟨by omega, by omega⟩, od_up_at, if_pos rfl, od_ite_f (by omega)])
          | (rw [if_neg (fun z => by omega), od_ite_t (by omega)])
          | (rw [if_neg (fun z => by omega), od_ite_f (by omega)])
        · refine r_lconst dX11_bounded_32 ll_0 ?_
          refine r_goto (tgt := 37) dX11_bounded_33 rfl ?_
          refine r_lret dX11_bounded_37 rfl ?_
          unfold mBd
          first
          | (exfalso; omega)
          | (rw [if_pos ⟨by omega, by omega⟩, od_up_at, if_pos rfl, od_ite_f (by omega)])
          | (rw [if_neg (fun z => by omega), od_ite_t (by omega)])
          | (rw [if_neg (fun z => by omega), od_ite_f (by omega)])
    · refine r_if_gt (tgt := 20) dX11_bounded_9 rfl (fun h => absurd h (by decide)) (fun _ => ?_)
      refine r_lload_n dX11_bounded_12 rfl ?_
      refine r_ldc2 dX11_bounded_13 kcX11_271 lk_X11_271 ?_
      refine r_lcmp3 dX11_bounded_16 (fun c16 => ?_) (fun c16 => ?_) (fun c16 => ?_)
      · refine r_if_ge (tgt := 25) dX11_bounded_17 rfl (fun h => absurd h (by decide)) (fun _ => ?_)
        refine r_aload_n dX11_bounded_20 rfl ?_
        refine r_iconst dX11_bounded_21 li_1 ?_
        refine r_putZj (j := 24) rfl dX11_bounded_22 fkX11_273 gf11_24 pf11_24 (by first | exact Or.inl rfl | exact Or.inr rfl | omega | assumption) (mo_o hm) ?_
        refine r_aload_n dX11_bounded_25 rfl ?_
        refine r_getIj (j := 24) rfl dX11_bounded_26 fkX11_273 gf11_24 (mo_o hm) (by (repeat (first | rewrite [od_upn (by omega)] | rewrite [od_up_at, if_pos (by omega)] | rewrite [od_up_at, if_neg (by omega)])); rfl) ?_
        refine r_if_eq (tgt := 36) dX11_bounded_29 rfl (fun c29 => ?_) (fun c29 => ?_)
        · refine r_lload_n dX11_bounded_36 rfl ?_
          refine r_lret dX11_bounded_37 rfl ?_
          unfold mBd
          first
          | (exfalso; omega)
          | (rw [if_pos ⟨by omega, by omega⟩, od_up_at, if_pos rfl, od_ite_f (by omega)])
          | (rw [if_neg (fun z => by omega), od_ite_t (by omega)])
          | (rw [if_neg (fun z => by omega), od_ite_f (by omega)])
        · refine r_lconst dX11_bounded_32 ll_0 ?_
          refine r_goto (tgt := 37) dX11_bounded_33 rfl ?_
          refine r_lret dX11_bounded_37 rfl ?_
          unfold mBd
          first
          | (exfalso; omega)
          | (rw [if_pos ⟨by omega, by omega⟩, od_up_at, if_pos rfl, od_ite_f (by omega)])
          | (rw [if_neg (fun z => by omega), od_ite_t (by omega)])
          | (rw [if_neg (fun z => by omega), od_ite_f (by omega)])
      · refine r_if_ge (tgt := 25) dX11_bounded_17 rfl (fun _ => ?_) (fun h => absurd h (by decide))
        refine r_aload_n dX11_bounded_25 rfl ?_
        refine r_getIj (j := 24) rfl dX11_bounded_26 fkX11_273 gf11_24 (mo_o hm) (by (repeat (first | rewrite [od_upn (by omega)] | rewrite [od_up_at, if_pos (by omega)] | rewrite [od_up_at, if_neg (by omega)])); rfl) ?_
        refine r_if_eq (tgt := 36) dX11_bounded_29 rfl (fun c29 => ?_) (fun c29 => ?_)
        · refine r_lload_n dX11_bounded_36 rfl ?_
          refine r_lret dX11_bounded_37 rfl ?_
          unfold mBd
          first
          | (exfalso; omega)
          | (rw [if_pos ⟨by omega, by omega⟩, od_up_at, if_pos rfl, od_ite_f (by omega)])
          | (rw [if_neg (fun z => by omega), od_ite_t (by omega)])
          | (rw [if_neg (fun z => by omega), od_ite_f (by omega)])
        · refine r_lconst dX11_bounded_32 ll_0 ?_
          refine r_goto (tgt := 37) dX11_bounded_33 rfl ?_
          refine r_lret dX11_bounded_37 rfl ?_
          unfold mBd
          first
          | (exfalso; omega)
          | (rw [if_pos ⟨by omega, by omega⟩, od_up_at, if_pos rfl, od_ite_f (by omega)])
          | (rw [if_neg (fun z => by omega), od_ite_t (by omega)])
          | (rw [if_neg (fun z => by omega), od_ite_f (by omega)])
      · refine r_if_ge (tgt := 25) dX11_bounded_17 rfl (fun _ => ?_) (fun h => absurd h (by decide))
        refine r_aload_n dX11_bounded_25 rfl ?_
        refine r_getIj (j := 24) rfl dX11_bounded_26 fkX11_273 gf11_24 (mo_o hm) (by (repeat (first | rewrite [od_upn (by omega)] | rewrite [od_up_at, if_pos (by omega)] | rewrite [od_up_at, if_neg (by omega)])); rfl) ?_
        refine r_if_eq (tgt := 36) dX11_bounded_29 rfl (fun c29 => ?_) (fun c29 => ?_)
        · refine r_lload_n dX11_bounded_36 rfl ?_
          refine r_lret dX11_bounded_37 rfl ?_
          unfold mBd
          first
          | (exfalso; omega)
          | (rw [if_pos ⟨by omega, by omega⟩, od_up_at, if_pos rfl, od_ite_f (by omega)])
          | (rw [if_neg (fun z => by omega), od_ite_t (by omega)])
          | (rw [if_neg (fun z => by omega), od_ite_f (by omega)])
        · refine r_lconst dX11_bounded_32 ll_0 ?_
          refine r_goto (tgt := 37) dX11_bounded_33 rfl ?_
          refine r_lret dX11_bounded_37 rfl ?_
          unfold mBd
          first
          | (exfalso; omega)
          | (rw [if_pos ⟨by omega, by omega⟩, od_up_at, if_pos rfl, od_ite_f (by omega)])
          | (rw [if_neg (fun z => by omega), od_ite_t (by omega)])
          | (rw [if_neg (fun z => by omega), od_ite_f (by omega)])
    · refine r_if_gt (tgt := 20) dX11_bounded_9 rfl (fun _ => ?_) (fun h => absurd h (by decide))
      refine r_aload_n dX11_bounded_20 rfl ?_
      refine r_iconst dX11_bounded_21 li_1 ?_
      refine r_putZj (j := 24) rfl dX11_bounded_22 fkX11_273 gf11_24 pf11_24 (by first | exact Or.inl rfl | exact Or.inr rfl | omega | assumption) (mo_o hm) ?_
      refine r_aload_n dX11_bounded_25 rfl ?_
      refine r_getIj (j := 24) rfl dX11_bounded_26 fkX11_273 gf11_24 (mo_o hm) (by (repeat (first | rewrite [od_upn (by omega)] | rewrite [od_up_at, if_pos (by omega)] | rewrite [od_up_at, if_neg (by omega)])); rfl) ?_
      refine r_if_eq (tgt := 36) dX11_bounded_29 rfl (fun c29 => ?_) (fun c29 => ?_)
      · refine r_lload_n dX11_bounded_36 rfl ?_
        refine r_lret dX11_bounded_37 rfl ?_
        unfold mBd
        first
        | (exfalso; omega)
        | (rw [if_pos ⟨by omega, by omega⟩, od_up_at, if_pos rfl, od_ite_f (by omega)])
        | (rw [if_neg (fun z => by omega), od_ite_t (by omega)])
        | (rw [if_neg (fun z => by omega), od_ite_f (by omega)])
      · refine r_lconst dX11_bounded_32 ll_0 ?_
        refine r_goto (tgt := 37) dX11_bounded_33 rfl ?_
        refine r_lret dX11_bounded_37 rfl ?_
        unfold mBd
        first
        | (exfalso; omega)
        | (rw [if_pos ⟨by omega, by omega⟩, od_up_at, if_pos rfl, od_ite_f (by omega)])
        | (rw [if_neg (fun z => by omega), od_ite_t (by omega)])
        | (rw [if_neg (fun z => by omega), od_ite_f (by omega)])
theorem BrQ.bin {lv br br1 br2 x y o : Int} {g : od_G} {M : Int} {d e : pD} {w : Int → Int} (hl : lv = 0 ∨ lv = 1) (h1 : BrQ lv br br1 x (d w)) (h2 : BrQ lv br1 br2 y (e w)) (hg : g M 24 = br2) {val : Int} (hval : lv = 1 → br2 = 0 → val = cJoin o x y) : BrQ lv br (mBd g M val lv M 24) (od_ite (mBd g M val lv M 24 = 0) val 0) (pBin o d e w) := by
  have e24 : mBd g M val lv M 24 = if lv = 1 ∧ (1000000000 < val ∨ val < -1000000000) then 1 else br2 := by
    unfold mBd
    split
    · rw [od_up_at, if_pos rfl]
    · exact hg
  rw [e24]
  obtain ⟨b1, h1⟩ := h1
  obtain ⟨b2, h2⟩ := h2
  refine ⟨by split <;> omega, ?_⟩
  rcases h1 with ⟨l1, z1, ⟨n1, y1⟩ | ⟨n1, y1⟩⟩ | ⟨z1, y1⟩
  · refine Or.inl ⟨l1, z1, Or.inl ⟨pBin_n1 n1, ?_⟩⟩
    rcases h2 with h | h
    · omega
    · split <;> omega
  · rcases h2 with ⟨l2, z2, ⟨n2, y2⟩ | ⟨n2, y2⟩⟩ | ⟨z2, y2⟩
    · exact Or.inl ⟨l1, z1, Or.inl ⟨pBin_n2 n1 n2, by split <;> omega⟩⟩
    · refine Or.inl ⟨l1, z1, ?_⟩
      rw [pBin_s n1 n2]
      unfold pJn
      have hv := hval l1 y2
      rw [← hv]
      by_cases hj : 1000000000 < val ∨ val < -1000000000
      · rw [if_pos hj, if_pos ⟨l1, hj⟩]
        exact Or.inl ⟨rfl, rfl⟩
      · rw [if_neg hj, if_neg (fun z => hj z.2), od_ite_t y2]
        exact Or.inr ⟨rfl, y2⟩
    · omega
  · refine Or.inr ⟨z1, ?_⟩
    rcases h2 with h | h
    · omega
    · split
      · rename_i hs
        omega
      · omega
theorem pLoop_fine {c op : Int → Int} {P : pS → pR} {f : Nat} {r : pR} (h : (pLoop c op P f r).1.2.2 = -1) : r.1.2.2 = -1 := by
  by_cases z : r.1.2.2 = -1
  · exact z
  · rw [pLoop_e (fun q => z q.1)] at h
    exact h
theorem pMu_nf {c pl : Int → Int} (hp : ∀ i : Int, 0 ≤ pl i) {k : Int} {s : pS} (h : (pMu c pl k s).2.2 = -1) : s.2.2 = -1 ∧ c s.1 = k := by
  by_cases z : s.2.2 = -1 ∧ c s.1 = k
  · exact z
  · rw [pMu_f z] at h
    exact absurd h (pF_nb (hp _))
theorem mOnes_b (s : Int) : 0 ≤ mOnes s 12 ∧ mOnes s 12 ≤ 12 * 63 := by
  unfold mOnes
  have := od_sum_b (f := fun k => od_and (od_shr s k) 1) (m := 63) 12 (fun i _ _ => od_and1 _)
  omega
set_option maxRecDepth 10000 in
theorem lp_X11_pm {E : od_E} {g : od_G} {M : Int} (hm : MoAt E M) (hI : 0 ≤ g (M + 2) 45 ∧ g (M + 2) 45 ≤ 6) : ∀ (m : Nat) (n d : Int), (0 ≤ d ∧ d ≤ g (M + 2) 45 ∧ n = mPins g M d.toNat) → ((g (M + 2) 45 - d).toNat) < m → od_R 2 mX11_pinMany od_Z0 E (some (0, mPins g M (g (M + 2) 45).toNat), E, g) 4 [some (2, M), some (0, n), some (0, d)] [] E g := by
  intro m
  induction m with
  | zero => intro n d hi hM; exact absurd hM (Nat.not_lt_zero _)
  | succ m ih =>
    intro n d hi hM
    have hb := od_sum_b (f := fun d => mOnes (g (M + 2) d) 12) (m := 756) d.toNat (fun i _ _ => mOnes_b _)
    have hs1 := od_sum_s (fun d => mOnes (g (M + 2) d) 12) hi.1
    have hc1 := mOnes_b (g (M + 2) d)
    unfold mPins at hi ih ⊢
    refine r_iload_n dX11_pinMany_4 rfl ?_
    refine r_aload_n dX11_pinMany_5 rfl ?_
    refine r_callV0i dX11_pinMany_6 cvX11_112 (mo_o hm) (c_X11_drumMany hm) (by decide) (Nat.le_of_ble_eq_true rfl) od_le.rf ?_
    refine r_icmp_ge (tgt := 32) dX11_pinMany_9 rfl (fun c9 => ?_) (fun c9 => ?_)
    · refine r_iload_n dX11_pinMany_32 rfl ?_
      exact r_iret dX11_pinMany_33 rfl (by rw [hi.2.2, show d = g (M + 2) 45 by omega])
    · refine r_iload_n dX11_pinMany_12 rfl ?_
      refine r_aload_n dX11_pinMany_13 rfl ?_
      refine r_getR dX11_pinMany_14 fkX11_28 gf11_2 (mo_o hm) (mo_r2 hm) ?_
      refine r_iconst dX11_pinMany_17 li_0 ?_
      refine r_iload_n dX11_pinMany_18 rfl ?_
      refine r_iaddE dX11_pinMany_19 (by first | exact od_w0 (by omega) (by omega) | exact od_wI (by omega) (by omega) | rfl) ?_
      refine r_iald dX11_pinMany_20 (mo_k2 hm) (by omega) (by (repeat (first | rewrite [od_upn (by omega)] | rewrite [od_up_at, if_pos (by omega)] | rewrite [od_up_at, if_neg (by omega)])); rfl) ?_
      refine r_callS1i dX11_pinMany_21 csX11_299 (c_X11_ones _) (by decide) (Nat.le_of_ble_eq_true rfl) od_le.rf ?_
      refine r_iaddE dX11_pinMany_24 (by first | exact od_w0 (by omega) (by omega) | exact od_wI (by omega) (by omega) | rfl) ?_
      refine r_istore_n dX11_pinMany_25 (by decide) rfl ?_
      refine r_iincE dX11_pinMany_26 rfl (by decide) (by first | exact od_w0 (by omega) (by omega) | exact od_wI (by omega) (by omega) | rfl) rfl ?_
      refine r_goto (tgt := 4) dX11_pinMany_29 rfl ?_
      exact ih _ _ ⟨by omega, by omega, by rw [hs1]; omega⟩ (by omega)
set_option maxRecDepth 10000 in
theorem c_X11_pinMany {E : od_E} {g : od_G} {M : Int} (hm : MoAt E M) (hI : 0 ≤ g (M + 2) 45 ∧ g (M + 2) 45 ≤ 6) : od_Ct 2 mX11_pinMany [(2, M)] E g (some (0, mPins g M (g (M + 2) 45).toNat), E, g) := by
  refine od_ctI pnX11 rfl (Nat.le_of_ble_eq_true rfl) od_le.rf ?_
  show od_R _ _ _ _ _ 0 [some (2, M), none, none] [] E g
  refine r_iconst dX11_pinMany_0 li_0 ?_
  refine r_istore_n dX11_pinMany_1 (by decide) rfl ?_
  refine r_iconst dX11_pinMany_2 li_0 ?_
  refine r_istore_n dX11_pinMany_3 (by decide) rfl ?_
  exact lp_X11_pm hm hI _ _ _ ⟨by omega, by omega, rfl⟩ (Nat.lt_succ_self _)
set_option maxRecDepth 10000 in
theorem c_X11_orderValue {E : od_E} {g : od_G} {M : Int} (hm : MoAt E M) (hI : 0 ≤ g (M + 2) 45 ∧ g (M + 2) 45 ≤ 6) (k x : Int) (hk : 13 ≤ k ∧ k ≤ 19) : od_Ct 3 mX11_orderValue [(2, M), (0, k), (0, x)] E g (some (0, mOV g M k x), E, g) := by
  refine od_ctI pnX11 rfl (Nat.le_of_ble_eq_true rfl) od_le.rf ?_
  show od_R _ _ _ _ _ 0 [some (2, M), some (0, k), some (0, x)] [] E g
  refine r_iload_n dX11_orderValue_0 rfl ?_
  refine r_sw7 (t0 := 44) (t1 := 90) (t2 := 98) (t3 := 103) (t4 := 108) (t5 := 113) (t6 := 68) (td := 113) dX11_orderValue_1 (by decide) rfl rfl rfl rfl rfl rfl rfl rfl (fun c1 => ?_) (fun c1 => ?_) (fun c1 => ?_) (fun c1 => ?_) (fun c1 => ?_) (fun c1 => ?_) (fun c1 => ?_) (fun c1 => ?_)
  · refine r_aload_n dX11_orderValue_44 rfl ?_
    refine r_iload_n dX11_orderValue_45 rfl ?_
    have hdd : mDr g M x → 0 ≤ x ∧ x < 6 := fun z => by unfold mDr mLies at z; omega
    refine r_callV1b dX11_orderValue_46 cvX11_128 (mo_o hm) (c_X11_isDrum hm (by omega) _) (by decide) (Nat.le_of_ble_eq_true rfl) od_le.rf (fun q46 => ?_) (fun q46 => ?_)
    · refine r_if_eq (tgt := 66) dX11_orderValue_49 rfl (fun h => absurd h (by decide)) (fun _ => ?_)
      have hx6 := hdd q46
      refine r_aload_n dX11_orderValue_52 rfl ?_
      refine r_getR dX11_orderValue_53 fkX11_28 gf11_2 (mo_o hm) (mo_r2 hm) ?_
      refine r_iconst dX11_orderValue_56 li_0 ?_
      refine r_iload_n dX11_orderValue_57 rfl ?_
      refine r_iaddE dX11_orderValue_58 (by first | exact od_w0 (by omega) (by omega) | exact od_wI (by omega) (by omega) | rfl) ?_
      refine r_iald dX11_orderValue_59 (mo_k2 hm) (by omega) (by (repeat (first | rewrite [od_upn (by omega)] | rewrite [od_up_at, if_pos (by omega)] | rewrite [od_up_at, if_neg (by omega)])); rfl) ?_
      refine r_callS1i dX11_orderValue_60 csX11_299 (c_X11_ones _) (by decide) (Nat.le_of_ble_eq_true rfl) od_le.rf ?_
      refine r_goto (tgt := 67) dX11_orderValue_63 rfl ?_
      first
      | (exfalso; omega)
      | (refine r_iret dX11_orderValue_67 rfl ?_
         unfold mOV
         (repeat (first | rw [if_pos (by omega)] | rw [if_neg (by omega)]))
         (try first | rw [od_ite_t (by assumption)] | rw [od_ite_f (by assumption)]))
    · refine r_if_eq (tgt := 66) dX11_orderValue_49 rfl (fun _ => ?_) (fun h => absurd h (by decide))
      refine r_iconst dX11_orderValue_66 li_m1 ?_
      first
      | (exfalso; omega)
      | (refine r_iret dX11_orderValue_67 rfl ?_
         unfold mOV
         (repeat (first | rw [if_pos (by omega)] | rw [if_neg (by omega)]))
         (try first | rw [od_ite_t (by assumption)] | rw [od_ite_f (by assumption)]))
  · refine r_aload_n dX11_orderValue_90 rfl ?_
    refine r_getR dX11_orderValue_91 fkX11_28 gf11_2 (mo_o hm) (mo_r2 hm) ?_
    refine r_bipush dX11_orderValue_94 lb_18 ?_
    refine r_iald dX11_orderValue_96 (mo_k2 hm) (by omega) (by (repeat (first | rewrite [od_upn (by omega)] | rewrite [od_up_at, if_pos (by omega)] | rewrite [od_up_at, if_neg (by omega)])); rfl) ?_
    first
    | (exfalso; omega)
    | (refine r_iret dX11_orderValue_97 rfl ?_
       unfold mOV
       (repeat (first | rw [if_pos (by omega)] | rw [if_neg (by omega)]))
       (try first | rw [od_ite_t (by assumption)] | rw [od_ite_f (by assumption)]))
  · refine r_aload_n dX11_orderValue_98 rfl ?_
    refine r_getIj (j := 27) rfl dX11_orderValue_99 fkX11_302 gf11_27 (mo_o hm) (by (repeat (first | rewrite [od_upn (by omega)] | rewrite [od_up_at, if_pos (by omega)] | rewrite [od_up_at, if_neg (by omega)])); rfl) ?_
    first
    | (exfalso; omega)
    | (refine r_iret dX11_orderValue_102 rfl ?_
       unfold mOV
       (repeat (first | rw [if_pos (by omega)] | rw [if_neg (by omega)]))
       (try first | rw [od_ite_t (by assumption)] | rw [od_ite_f (by assumption)]))
  · refine r_aload_n dX11_orderValue_103 rfl ?_
    refine r_getIj (j := 28) rfl dX11_orderValue_104 fkX11_305 gf11_28 (mo_o hm) (by (repeat (first | rewrite [od_upn (by omega)] | rewrite [od_up_at, if_pos (by omega)] | rewrite [od_up_at, if_neg (by omega)])); rfl) ?_
    first
    | (exfalso; omega)
    | (refine r_iret dX11_orderValue_107 rfl ?_
       unfold mOV
       (repeat (first | rw [if_pos (by omega)] | rw [if_neg (by omega)]))
       (try first | rw [od_ite_t (by assumption)] | rw [od_ite_f (by assumption)]))
  · refine r_aload_n dX11_orderValue_108 rfl ?_
    refine r_getIj (j := 29) rfl dX11_orderValue_109 fkX11_308 gf11_29 (mo_o hm) (by (repeat (first | rewrite [od_upn (by omega)] | rewrite [od_up_at, if_pos (by omega)] | rewrite [od_up_at, if_neg (by omega)])); rfl) ?_
    first
    | (exfalso; omega)
    | (refine r_iret dX11_orderValue_112 rfl ?_
       unfold mOV
       (repeat (first | rw [if_pos (by omega)] | rw [if_neg (by omega)]))
       (try first | rw [od_ite_t (by assumption)] | rw [od_ite_f (by assumption)]))
  · refine r_aload_n dX11_orderValue_113 rfl ?_
    refine r_callV0i dX11_orderValue_114 cvX11_311 (mo_o hm) (c_X11_pinMany hm hI) (by decide) (Nat.le_of_ble_eq_true rfl) od_le.rf ?_
    first
    | (exfalso; omega)
    | (refine r_iret dX11_orderValue_117 rfl ?_
       unfold mOV
       (repeat (first | rw [if_pos (by omega)] | rw [if_neg (by omega)]))
       (try first | rw [od_ite_t (by assumption)] | rw [od_ite_f (by assumption)]))
  · refine r_aload_n dX11_orderValue_68 rfl ?_
    refine r_iload_n dX11_orderValue_69 rfl ?_
    have hdd : mDr g M x → 0 ≤ x ∧ x < 6 := fun z => by unfold mDr mLies at z; omega
    refine r_callV1b dX11_orderValue_70 cvX11_128 (mo_o hm) (c_X11_isDrum hm (by omega) _) (by decide) (Nat.le_of_ble_eq_true rfl) od_le.rf (fun q70 => ?_) (fun q70 => ?_)
    · refine r_if_eq (tgt := 88) dX11_orderValue_73 rfl (fun h => absurd h (by decide)) (fun _ => ?_)
      have hx6 := hdd q70
      refine r_aload_n dX11_orderValue_76 rfl ?_
      refine r_getR dX11_orderValue_77 fkX11_28 gf11_2 (mo_o hm) (mo_r2 hm) ?_
      refine r_bipush dX11_orderValue_80 lb_6 ?_
      refine r_iload_n dX11_orderValue_82 rfl ?_
      refine r_iaddE dX11_orderValue_83 (by first | exact od_w0 (by omega) (by omega) | exact od_wI (by omega) (by omega) | rfl) ?_
      refine r_iald dX11_orderValue_84 (mo_k2 hm) (by omega) (by (repeat (first | rewrite [od_upn (by omega)] | rewrite [od_up_at, if_pos (by omega)] | rewrite [od_up_at, if_neg (by omega)])); rfl) ?_
      refine r_goto (tgt := 89) dX11_orderValue_85 rfl ?_
      first
      | (exfalso; omega)
      | (refine r_iret dX11_orderValue_89 rfl ?_
         unfold mOV
         (repeat (first | rw [if_pos (by omega)] | rw [if_neg (by omega)]))
         (try first | rw [od_ite_t (by assumption)] | rw [od_ite_f (by assumption)]))
    · refine r_if_eq (tgt := 88) dX11_orderValue_73 rfl (fun _ => ?_) (fun h => absurd h (by decide))
      refine r_iconst dX11_orderValue_88 li_m1 ?_
      first
      | (exfalso; omega)
      | (refine r_iret dX11_orderValue_89 rfl ?_
         unfold mOV
         (repeat (first | rw [if_pos (by omega)] | rw [if_neg (by omega)]))
         (try first | rw [od_ite_t (by assumption)] | rw [od_ite_f (by assumption)]))
  · refine r_aload_n dX11_orderValue_113 rfl ?_
    refine r_callV0i dX11_orderValue_114 cvX11_311 (mo_o hm) (c_X11_pinMany hm hI) (by decide) (Nat.le_of_ble_eq_true rfl) od_le.rf ?_
    first
    | (exfalso; omega)
    | (refine r_iret dX11_orderValue_117 rfl ?_
       unfold mOV
       (repeat (first | rw [if_pos (by omega)] | rw [if_neg (by omega)]))
       (try first | rw [od_ite_t (by assumption)] | rw [od_ite_f (by assumption)]))
