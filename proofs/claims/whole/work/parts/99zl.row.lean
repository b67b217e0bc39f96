/-! changes: row -/
section Row
variable {E : od_E} {o M : Int} {g gm g' gm' : od_G}
theorem TB.can {t0 t1 t2 t3 b0 b1 b2 b3 : Int} (h0 : TB t0 b0) (h1 : TB t1 b1) (h2 : TB t2 b2) (h3 : TB t3 b3) : (cCanHold b0 b1 b2 b3 ↔ mCan t0 t1 t2 (od_and t3 255)) ∧ (cCanHold b0 b1 b2 b3 → t0 = b0 ∧ t1 = b1 ∧ t2 = b2 ∧ od_and t3 255 = b3) := by
  obtain ⟨a1, a2, _⟩ := h0
  obtain ⟨c1, c2, _⟩ := h1
  obtain ⟨d1, d2, _⟩ := h2
  obtain ⟨_, _, e3⟩ := h3
  rw [e3]
  have k : cCanHold b0 b1 b2 b3 → t0 = b0 ∧ t1 = b1 ∧ t2 = b2 ∧ b3 = b3 := fun q => by
    unfold cCanHold at q
    omega
  refine ⟨⟨fun q => ?_, fun q => ?_⟩, k⟩
  · obtain ⟨k0, k1, k2, _⟩ := k q
    rw [k0, k1, k2]
    exact (can_iff _ _ _ _).mp q
  · have q2 := q
    unfold mCan mLies at q2
    have k0 : t0 = b0 := by omega
    have k1 : t1 = b1 := by omega
    have k2 : t2 = b2 := by omega
    rw [← k0, ← k1, ← k2]
    exact (can_iff _ _ _ _).mpr q
/-- after so many fours -/
def RwI (g gm : od_G) (o M n : Int) (gi : od_G) (c : Int) (mi : od_G) (i : Int) : Prop := StR gi (o + 1) (mi (M + 2)) ∧ (mi (M + 2) 47 = gm (M + 2) 47 ∧ SlE (gm (M + 2)) (mi (M + 2))) ∧ gi (o + 1) 8 = g (o + 1) 8 + c ∧ mi M 6 = (if n % 4 = 0 then 0 else 1) + (i - c) ∧ (∀ x y : Int, x ≠ M + 2 → ¬ (x = M ∧ (y = 6 ∨ y = 13)) → mi x y = gm x y) ∧ mi M 13 = 0 ∧ ∀ x : Int, x < o + 1 ∨ o + 5 < x → gi x = g x
theorem rw_i (hE : EW E o M) (h : Rel2 E o M g gm) : ∀ i : Nat, (i : Int) ≤ gm M 13 / 4 → RwI g gm o M (gm M 13) (cRows g o i) (mRl (mR0 gm M) M i).1 (mRl (mR0 gm M) M i).2 i := by
  have oM := hE.2.2
  obtain ⟨⟨_, _, tn, _⟩, ⟨_, t13, tn2, tb⟩⟩ := h.tp
  intro i
  induction i with
  | zero =>
    intro _
    have e2 : mR0 gm M (M + 2) = gm (M + 2) := by unfold mR0; rw [od_up_ne (by omega), od_up_ne (by omega)]
    refine ⟨by show StR g (o + 1) (mR0 gm M (M + 2)); rw [e2]; exact h.st, by show mR0 gm M (M + 2) 47 = _ ∧ SlE _ (mR0 gm M (M + 2)); rw [e2]; exact ⟨rfl, SlE.rf _⟩, by show g (o + 1) 8 = g (o + 1) 8 + 0; omega, ?_, fun x y x1 x2 => ?_, ?_, fun x _ => rfl⟩
    · show mR0 gm M M 6 = _ + (((0 : Nat) : Int) - 0)
      unfold mR0
      rw [od_up_i]
      omega
    · show mR0 gm M x y = gm x y
      unfold mR0
      rw [od_up_at2, if_neg (by omega), od_up_at2, if_neg (by omega)]
    · show mR0 gm M M 13 = 0
      unfold mR0
      rw [od_up_j (by omega), od_up_i]
  | succ i ih =>
    intro hi
    obtain ⟨s1, s2, s3, s4, s5, s6, s7⟩ := ih (by omega)
    show RwI g gm o M (gm M 13) (cFour (cRows g o i) o (4 * (i : Int))) (mRs (mRl (mR0 gm M) M i) M (4 * i)).1 (mRs (mRl (mR0 gm M) M i) M (4 * i)).2 ((i + 1 : Nat) : Int)
    generalize cRows g o i = gi at *
    generalize mRl (mR0 gm M) M i = mi at *
    have t7 : ∀ y : Int, mi.2 (M + 7) y = gm (M + 7) y := fun y => s5 _ _ (by omega) (by omega)
    have g60 : gi (o + 60) 1 = gm M 13 := by rw [s7 _ (by omega)]; exact t13.symm
    have g61 : gi (o + 60 + 1) = g (o + 60 + 1) := s7 _ (by omega)
    have k := TB.can (tb (4 * i) (by omega) (by omega)) (tb (4 * i + 1) (by omega) (by omega)) (tb (4 * i + 2) (by omega) (by omega)) (tb (4 * i + 3) (by omega) (by omega))
    have n6 := s1.1
    have e : cFok gi o (4 * i) ↔ mRt mi.2 M (4 * i) := by
      unfold cFok mRt
      rw [t7, t7, t7, t7, ← k.1, g60, g61, n6.1]
      constructor
      · intro q; exact ⟨by omega, q.2⟩
      · intro q; exact ⟨by omega, q.2⟩
    unfold cFour mRs
    by_cases c : mRt mi.2 M (4 * i)
    · rw [od_ip_t c, od_ip_t (e.mpr c)]
      have c2 := c
      unfold mRt at c2
      rw [t7, t7, t7, t7, ← k.1] at c2
      obtain ⟨k0, k1, k2, k3⟩ := k.2 c2.2
      rw [t7, t7, t7, t7, k0, k1, k2, k3, g61]
      obtain ⟨a1, a2, a3⟩ := s1.takeM (M := M) (gm := mi.2) c2.1 c2.2
      refine ⟨a1, ⟨a2.trans s2.1, fun y hy => (a3 y hy).trans (s2.2 y hy)⟩, ?_, ?_, fun x y x1 x2 => ?_, ?_, fun x hx => ?_⟩
      · show cTake1 gi (o + 1) _ _ _ _ (o + 1) 8 = g (o + 1) 8 + (mi.1 + 1)
        unfold cTake1
        rw [od_up_i]
        omega
      · show mAdds mi.2 M _ _ _ _ M 6 = _ + (((i + 1 : Nat) : Int) - (mi.1 + 1))
        rw [mAdds_n (by omega), s4]
        omega
      · show mAdds mi.2 M _ _ _ _ x y = _
        rw [mAdds_n x1]
        exact s5 x y x1 x2
      · show mAdds mi.2 M _ _ _ _ M 13 = 0
        rw [mAdds_n (by omega)]
        exact s6
      · show cTake1 gi (o + 1) _ _ _ _ x = _
        rw [cTake1_n (by omega)]
        exact s7 x hx
    · rw [od_ip_f c, od_ip_f (fun q => c (e.mp q))]
      have e2 : od_up mi.2 M 6 (mi.2 M 6 + 1) (M + 2) = mi.2 (M + 2) := od_up_ne (by omega)
      refine ⟨by show StR gi (o + 1) (od_up mi.2 M 6 (mi.2 M 6 + 1) (M + 2)); rw [e2]; exact s1, by show od_up mi.2 M 6 (mi.2 M 6 + 1) (M + 2) 47 = _ ∧ SlE _ (od_up mi.2 M 6 (mi.2 M 6 + 1) (M + 2)); rw [e2]; exact s2, s3, ?_, fun x y x1 x2 => ?_, ?_, s7⟩
      · show od_up mi.2 M 6 (mi.2 M 6 + 1) M 6 = _ + (((i + 1 : Nat) : Int) - mi.1)
        rw [od_up_i, s4]
        omega
      · show od_up mi.2 M 6 (mi.2 M 6 + 1) x y = _
        rw [od_up_at2, if_neg (by omega)]
        exact s5 x y x1 x2
      · show od_up mi.2 M 6 (mi.2 M 6 + 1) M 13 = 0
        rw [od_up_j (by omega)]
        exact s6
theorem k_row (hE : EW E o M) (h : Rel2 E o M g gm) : KR E o M (cRowM g o) (mRw gm M) := by
  have oM := hE.2.2
  have t13 : gm M 13 = g (o + 60) 1 := h.tp.2.2.1
  have tn := h.tp.2.2.2.1
  unfold cRowM mRw
  rw [← t13]
  refine KR.ip Iff.rfl (fun c => ⟨rfl, ?_⟩) (fun c => ?_)
  · rw [od_up_n c.symm]
    exact k_ref hE h (by omega)
  · obtain ⟨s1, s2, s3, s4, s5, s6, s7⟩ := rw_i hE h (gm M 13 / 4).toNat (by omega)
    have en : (((gm M 13 / 4).toNat : Nat) : Int) = gm M 13 / 4 := by omega
    rw [en] at s4
    have eP : (gm M 13 + 3).tdiv 4 = (gm M 13 + 3) / 4 := by rw [Int.tdiv_eq_ediv_of_nonneg (by omega)]
    have eR : cRows g o ((gm M 13 + 3).tdiv 4).toNat = cRows g o (gm M 13 / 4).toNat := by
      rw [eP]
      by_cases c4 : gm M 13 % 4 = 0
      · rw [show (gm M 13 + 3) / 4 = gm M 13 / 4 by omega]
      · rw [show ((gm M 13 + 3) / 4).toNat = (gm M 13 / 4).toNat + 1 by omega]
        show cFour (cRows g o (gm M 13 / 4).toNat) o (4 * (((gm M 13 / 4).toNat : Nat) : Int)) = _
        unfold cFour
        rw [od_ip_f]
        intro q
        unfold cFok at q
        rw [s7 (o + 60) (by omega)] at q
        omega
    rw [eR, eP]
    generalize cRows g o (gm M 13 / 4).toNat = gi at *
    generalize mRl (mR0 gm M) M (gm M 13 / 4).toNat = mi at *
    refine ⟨by show gi (o + 1) 8 - g (o + 1) 8 = mi.1; omega, k_acc (gm := od_up mi.2 M 33 0) hE ?_⟩
    have m2 : od_up mi.2 M 33 0 (M + 2) = mi.2 (M + 2) := od_up_ne (by omega)
    have cn : ∀ x : Int, x ≠ o → x ≠ o + 60 → x ≠ o + 48 → x < o + 1 ∨ o + 5 < x → cClear (od_up (od_up gi o 18 ((gm M 13 + 3) / 4 - (gi (o + 1) 8 - g (o + 1) 8))) (o + 60) 1 0) (o + 48) x = g x := fun x x0 x1 x2 x3 => by
      rw [cClear_n x2, od_up_ne x1, od_up_ne x0]
      exact s7 x x3
    have cs : ∀ x : Int, o + 1 ≤ x → x ≤ o + 9 → cClear (od_up (od_up gi o 18 ((gm M 13 + 3) / 4 - (gi (o + 1) 8 - g (o + 1) 8))) (o + 60) 1 0) (o + 48) x = gi x := fun x x0 x1 => by
      rw [cClear_n (by omega), od_up_ne (by omega), od_up_ne (by omega)]
    have mn : ∀ x y : Int, x ≠ M + 2 → ¬ (x = M ∧ (y = 6 ∨ y = 13 ∨ y = 33)) → od_up mi.2 M 33 0 x y = gm x y := fun x y x0 x1 => by
      rw [od_up_at2, if_neg (by omega)]
      exact s5 x y x0 (by omega)
    have w := h
    obtain ⟨w1, w2, w3, w4, w5, w6, w7, w8, w9⟩ := w
    refine ⟨by rw [m2]; exact s1.cg (fun x x0 x1 => cs x (by omega) (by omega)), ?_, h.rf.c (cn _ (by omega) (by omega) (by omega) (by omega)) (cn _ (by omega) (by omega) (by omega) (by omega)), ?_, fun k k0 k1 => (h.im k k0 k1).c ⟨k0, k1⟩ ⟨by omega, by omega⟩ (fun x hx => cn x (by omega) (by omega) (by omega) (by omega)) (fun y _ _ => mn _ _ (by omega) (by omega)) (mn _ _ (by omega) (by omega)), pa_clear _ _ _ _, ?_, ?_, h.pp.c (by rw [cn (o + 19) (by omega) (by omega) (by omega) (by omega)]) (by rw [cn (o + 19) (by omega) (by omega) (by omega) (by omega)]) (cn _ (by omega) (by omega) (by omega) (by omega)) (cn _ (by omega) (by omega) (by omega) (by omega)) (mn _ _ (by omega) (by omega)) (funext fun y => mn _ _ (by omega) (by omega))⟩
    · rw [m2]
      exact h.ls.c h.n47 (cn _ (by omega) (by omega) (by omega) (by omega)) (fun x hx => cn x (by omega) (by omega) (by omega) (by omega)) s2.1 s2.2
    · unfold cImg
      rw [cn (o + 28) (by omega) (by omega) (by omega) (by omega)]
      exact h.ig
    · refine h.tp.sz (n := 0) (by omega) ?_ (cn _ (by omega) (by omega) (by omega) (by omega)) ?_ (funext fun y => mn _ _ (by omega) (by omega)) (funext fun y => mn _ _ (by omega) (by omega))
      · rw [cClear_n (by omega), od_up_i]
      · rw [od_up_j (by omega)]
        exact s6
    · obtain ⟨f1, f2⟩ := h.fd
      have c0 : ∀ y : Int, y ≠ 18 → cClear (od_up (od_up gi o 18 ((gm M 13 + 3) / 4 - (gi (o + 1) 8 - g (o + 1) 8))) (o + 60) 1 0) (o + 48) o y = g o y := fun y hy => by
        rw [cClear_n (by omega), od_upn (by omega), od_up_j hy, s7 o (by omega)]
      have c18 : cClear (od_up (od_up gi o 18 ((gm M 13 + 3) / 4 - (gi (o + 1) 8 - g (o + 1) 8))) (o + 60) 1 0) (o + 48) o 18 = (gm M 13 + 3) / 4 - (gi (o + 1) 8 - g (o + 1) 8) := by
        rw [cClear_n (by omega), od_upn (by omega), od_up_i]
      refine ⟨⟨?_, ?_, ?_, ?_⟩, fun i i0 i1 => ?_⟩
      · rw [c0 15 (by omega), mn _ _ (by omega) (by omega)]; exact f1.1
      · rw [c0 16 (by omega), mn _ _ (by omega) (by omega)]; exact f1.2.1
      · rw [c0 17 (by omega), mn _ _ (by omega) (by omega)]; exact f1.2.2.1
      · rw [c18, od_up_j (by omega), s4, s3]
        split <;> omega
      · rw [cn (o + 85) (by omega) (by omega) (by omega) (by omega), mn _ _ (by omega) (by omega)]
        exact f2 i i0 i1
theorem cRows_f (g : od_G) (o : Int) : ∀ n : Nat, od_fr (FC o) g (cRows g o n) := by
  intro n
  induction n with
  | zero => exact od_fr.rf
  | succ n ih => exact ih.tr ((cFour_fr _ _ _).mo (fun x y q => by unfold ST1 at q; unfold FC; omega))
theorem mAdds_f {l k a p : Int} : od_fr (FM M) gm (mAdds gm M l k a p) := fun x y hx => by
  unfold FM at hx
  rw [mAdds_n (by omega)]
theorem mRl_f (gm : od_G) (M : Int) : ∀ n : Nat, od_fr (FM M) gm (mRl gm M n).2 := by
  intro n
  induction n with
  | zero => exact od_fr.rf
  | succ n ih =>
    refine ih.tr ?_
    show od_fr (FM M) _ (mRs (mRl gm M n) M (4 * n)).2
    unfold mRs
    exact od_fr.ip mAdds_f (od_fr.rf.up (by unfold FM; omega))
theorem p_row (hE : EW E o M) (hR : Rel2 E o M g g) : od_Pr E o M g 0 3 mX10_row [(2, o)] 3 mX11_row [(2, M)] := by
  refine pr_c hE hR (c_X10_row hE.1 (by rw [hR.st.1.1]; exact hR.st.1.2) hR.tp.1.2.2.1) ?_ (fun g1 r1 => ⟨_, c_X11_row hE.2.1 (by rw [r1.tp.2.2.1]; exact r1.tp.2.2.2.1) r1.st.1.2, ?_, k_row hE r1⟩)
  · unfold cRowM
    exact od_fr.ip (cRef_f od_fr.rf) (cAcc_f (cClear_f (((cRows_f g o _).up (by unfold FC; omega)).up (by unfold FC; omega))))
  · unfold mRw
    refine od_fr.ip (mRef_f (od_fr.rf.up (by unfold FM; omega))) (mSet_f (od_fr.tr ?_ (mRl_f _ M _)))
    unfold mR0
    exact (od_fr.rf.up (by unfold FM; omega)).up (by unfold FM; omega)
end Row
