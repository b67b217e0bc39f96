/-! a street is what the kept row says -/
def DrR (g : od_G) (k : Int) (r : Int → Int) (d : Int) : Prop := g (k + 1) d = r (19 + d) ∧ g (k + 2) d = r (25 + d) ∧ g (k + 3) d = r (6 + d) ∧ g (k + 4) d = r d ∧ (1 ≤ r (19 + d) ∧ r (19 + d) ≤ 12) ∧ (0 ≤ r (6 + d) ∧ r (6 + d) < r (19 + d)) ∧ (r (12 + d) = 0 ∨ r (12 + d) = 1) ∧ (od_bit (g k 9) d ↔ r (12 + d) = 1) ∧ (0 ≤ r (25 + d) ∧ r (25 + d) ≤ 3) ∧ (0 ≤ r d ∧ r d < 4096)
def StR (g : od_G) (k : Int) (r : Int → Int) : Prop := (g k 8 = r 45 ∧ 0 ≤ r 45 ∧ r 45 ≤ 6) ∧ (∀ d : Int, 0 ≤ d → d < r 45 → DrR g k r d) ∧ ((∀ d : Int, r 45 ≤ d → d < 6 → ¬ od_bit (g k 9) d) ∧ 0 ≤ g k 9 ∧ g k 9 < 64) ∧
  (g (k + 5) 0 = r 18 ∧ g (k + 5) 1 = r 43 ∧ g (k + 5) 2 = r 44) ∧ ((0 ≤ r 18 ∧ r 18 ≤ 999) ∧ (0 ≤ r 43 ∧ r 43 ≤ 10) ∧ (0 ≤ r 44 ∧ r 44 ≤ 9)) ∧ (g k 10 = r 47 ∧ 0 ≤ r 47 ∧ r 47 ≤ 6) ∧ (g k 11 = r 48 ∧ (r 48 = -1 ∨ (0 ≤ r 48 ∧ r 48 < r 47))) ∧
  (g k 12 = r 46 ∧ 0 ≤ r 46 ∧ r 46 ≤ 6) ∧ ∀ i : Int, 0 ≤ i → i < r 46 → g (k + 7) i = r (31 + 2 * i) ∧ g (k + 8) i = r (31 + 2 * i + 1) ∧ (0 ≤ r (31 + 2 * i) ∧ r (31 + 2 * i) < 100) ∧ (r (31 + 2 * i + 1) = 0 ∨ r (31 + 2 * i + 1) = 1)
section Street
variable {g gm : od_G} {k M : Int}
theorem StR.MI (h : StR g k (gm (M + 2))) : MI gm M := ⟨⟨h.1.2.1, h.1.2.2⟩, fun d d0 d1 => (h.2.1 d d0 d1).2.2.2.2.1⟩
theorem StR.MJ (h : StR g k (gm (M + 2))) : MJ gm M := fun d d0 d1 => ⟨(h.2.1 d d0 d1).2.2.2.2.2.1, (h.2.1 d d0 d1).2.2.2.2.2.2.1⟩
theorem StR.CI (h : StR g k (gm (M + 2))) : CI g k := by
  refine ⟨by rw [h.1.1]; exact h.1.2, fun d d0 d1 => ?_⟩
  rw [h.1.1] at d1
  have z := h.2.1 d d0 d1
  rw [z.1, z.2.2.1]
  exact ⟨z.2.2.2.2.1, z.2.2.2.2.2.1⟩
theorem StR.has (h : StR g k (gm (M + 2))) (d : Int) : cHas g k d ↔ 0 ≤ d ∧ d < gm (M + 2) 45 := by
  unfold cHas
  rw [h.1.1]
  have := h.1.2
  omega
theorem StR.hasD (h : StR g k (gm (M + 2))) (d : Int) : cHas g k d ↔ mDr gm M d := by
  rw [h.has]
  unfold mDr mLies
  omega
theorem StR.stop (h : StR g k (gm (M + 2))) {d : Int} (hd : 0 ≤ d ∧ d < gm (M + 2) 45) : cStop g k d ↔ mStop gm M d := by
  have z := (h.2.1 d hd.1 hd.2).2.2.2.2.2.2.2.1
  have := h.1.2
  unfold cStop mStop
  rw [← z]
  exact ⟨fun q => q.2.2, fun q => ⟨hd.1, by omega, q⟩⟩
theorem StR.hb (h : StR g k (gm (M + 2))) {d : Int} (hd : 0 ≤ d ∧ d < gm (M + 2) 45) (b : Int) : cHasBeat g k d b ↔ mBeatL gm M d b := by
  have z := h.2.1 d hd.1 hd.2
  unfold cHasBeat mBeatL mLies
  rw [h.has, z.1]
  omega
theorem StR.pin (h : StR g k (gm (M + 2))) {d b : Int} (hd : 0 ≤ d ∧ d < gm (M + 2) 45) (hb : 0 ≤ b ∧ b < gm (M + 2) (19 + d)) : cHasPin g k d b ↔ mPin gm M d b := by
  have z := h.2.1 d hd.1 hd.2
  unfold cHasPin mPin
  rw [h.has, z.1, z.2.2.2.1, mIn_bit]
  exact ⟨fun q => q.2.2.2, fun q => ⟨hd, hb.1, hb.2, q⟩⟩
theorem StR.beat (h : StR g k (gm (M + 2))) {d : Int} (hd : 0 ≤ d ∧ d < gm (M + 2) 45) (x : Int) : cBeatIn g k d x = mBeat gm M d x := by
  have z := h.2.1 d hd.1 hd.2
  unfold cBeatIn mBeat
  rw [od_ite_t ⟨(h.has d).mpr hd, by rw [z.1]; exact z.2.2.2.2.1.1⟩, z.1, z.2.2.1]
  by_cases c : mStop gm M d
  · rw [od_ite_t c, od_ite_t ((h.stop hd).mpr c)]
  · rw [od_ite_f c, od_ite_f (fun q => c ((h.stop hd).mp q))]
theorem StR.beat_b (h : StR g k (gm (M + 2))) {d : Int} (hd : 0 ≤ d ∧ d < gm (M + 2) 45) {x : Int} (hx : 0 ≤ x ∧ x ≤ 100000) : 0 ≤ mBeat gm M d x ∧ mBeat gm M d x < gm (M + 2) (19 + d) := by
  have z := h.2.1 d hd.1 hd.2
  have z5 := z.2.2.2.2.1
  have z6 := z.2.2.2.2.2.1
  unfold mBeat
  by_cases c : mStop gm M d
  · rw [od_ite_t c]; exact z6
  · rw [od_ite_f c, od_wI (by omega) (by omega)]
    exact od_rol z6.1 hx.1 z5.1
theorem StR.strikes (h : StR g k (gm (M + 2))) {d : Int} (hd : 0 ≤ d ∧ d < gm (M + 2) 45) {x : Int} (hx : 0 ≤ x ∧ x ≤ 100000) : cStrikes g k d x ↔ mStrikes gm M d x := by
  unfold cStrikes mStrikes
  rw [h.stop hd, h.beat hd, h.pin hd (h.beat_b hd hx)]
theorem od_rd_cong {P Q : Int → Prop} {L K : Int → Int} : ∀ (f : Nat) (d x : Int), (∀ e : Int, d ≤ e → e < d + f → (P e ↔ Q e) ∧ (P e → L e = K e)) → od_rd P L f d x = od_rd Q K f d x := by
  intro f
  induction f with
  | zero => intro d x _; rfl
  | succ f ih =>
    intro d x hh
    show od_rd P L f (d + 1) (od_ite (P d) (od_lcm x (L d)) x) = od_rd Q K f (d + 1) (od_ite (Q d) (od_lcm x (K d)) x)
    have z := hh d (by omega) (by omega)
    have e : od_ite (P d) (od_lcm x (L d)) x = od_ite (Q d) (od_lcm x (K d)) x := by
      by_cases c : P d
      · rw [od_ite_t c, od_ite_t (z.1.mp c), z.2 c]
      · rw [od_ite_f c, od_ite_f (fun q => c (z.1.mpr q))]
    rw [e]
    exact ih (d + 1) _ (fun y y0 y1 => hh y (by omega) (by omega))
theorem od_rd_more {P : Int → Prop} {L : Int → Int} : ∀ (a b : Nat) (d x : Int), (∀ e : Int, d + a ≤ e → e < d + a + b → ¬ P e) → od_rd P L (a + b) d x = od_rd P L a d x := by
  intro a
  induction a with
  | zero =>
    intro b
    induction b with
    | zero => intro d x _; rfl
    | succ b ih =>
      intro d x hh
      show od_rd P L (0 + b) (d + 1) (od_ite (P d) (od_lcm x (L d)) x) = x
      rw [od_ite_f (hh d (by omega) (by omega)), ih (d + 1) x (fun e e0 e1 => hh e (by omega) (by omega))]
      rfl
  | succ a ih =>
    intro b d x hh
    rw [show a + 1 + b = (a + b) + 1 by omega]
    show od_rd P L (a + b) (d + 1) _ = od_rd P L a (d + 1) _
    exact ih b (d + 1) _ (fun e e0 e1 => hh e (by omega) (by omega))
theorem StR.round (h : StR g k (gm (M + 2))) : cRound g k 0 6 = mRd gm M := by
  have n := h.1.2
  rw [h.CI.rd (by omega)]
  unfold mRd
  rw [show ((6 : Int) - 0).toNat = (gm (M + 2) 45).toNat + (6 - (gm (M + 2) 45).toNat) by omega, od_rd_more _ _ _ _ (fun e e0 e1 q => by have := (h.has e).mp q.1; omega)]
  refine od_rd_cong _ _ _ (fun e e0 e1 => ?_)
  have hd : 0 ≤ e ∧ e < gm (M + 2) 45 := by omega
  refine ⟨?_, fun _ => (h.2.1 e hd.1 hd.2).1⟩
  rw [h.stop hd]
  exact ⟨fun q => q.2, fun q => ⟨(h.has e).mpr hd, q⟩⟩
theorem od_bc_ones : ∀ a : Fin 64, ∀ b : Fin 64, od_bc ((64 * a.val + b.val : Nat) : Int) = (List.range 12).foldl (fun z (i : Nat) => z + od_and (od_shr ((64 * a.val + b.val : Nat) : Int) (i : Int)) 1) 0 := by decide +kernel
theorem mOnes_f (x : Int) : mOnes x 12 = (List.range 12).foldl (fun a (i : Nat) => a + od_and (od_shr x (i : Int)) 1) 0 := rfl
theorem od_bc_o {x : Int} (h : 0 ≤ x ∧ x < 4096) : od_bc x = mOnes x 12 := by
  have z := od_bc_ones ⟨x.toNat / 64, by omega⟩ ⟨x.toNat % 64, by omega⟩
  rw [show ((64 * (x.toNat / 64) + x.toNat % 64 : Nat) : Int) = x by omega] at z
  rw [z, mOnes_f]
theorem StR.how (h : StR g k (gm (M + 2))) : cHow g k (g k 8).toNat = od_sum (fun d => od_b (mStrikes gm M d 0)) (gm (M + 2) 45).toNat := by
  unfold cHow
  rw [h.1.1]
  refine od_sum_c _ (fun i i0 i1 => ?_)
  rw [show (cStrikes g k i 0) = (mStrikes gm M i 0) from propext (h.strikes (by omega) (by omega))]
theorem StR.pins (h : StR g k (gm (M + 2))) : cPins g k (g k 8).toNat = mPins gm M (gm (M + 2) 45).toNat := by
  unfold cPins mPins
  rw [h.1.1]
  refine od_sum_c _ (fun i i0 i1 => ?_)
  have z := h.2.1 i i0 (by omega)
  rw [z.2.2.2.1, od_bc_o z.2.2.2.2.2.2.2.2.2]
end Street
