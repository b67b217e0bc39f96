/-! law: the class, then the reference -/
section Law5
variable {E : od_E} {o M : Int} {g : od_G}
theorem p_law (hE : EW E o M) (hR : Rel2 E o M g g) : od_PrL E o M g := by
  have oM := hE.2.2
  obtain ⟨tp1, tp2⟩ := hR.tp
  obtain ⟨B, hB⟩ : ∃ z, z = g (o + 60 + 1) := ⟨_, rfl⟩
  obtain ⟨n, hn⟩ : ∃ z, z = g (o + 60) 1 := ⟨_, rfl⟩
  rw [← hB, ← hn] at tp1 tp2
  obtain ⟨N, hN⟩ := tok_ex (B := B) (n := n) tp1.2.2.1 (fun p p0 p1 => (tp1.2.2.2 p p0 p1).1)
  have mE : ∀ N', (∀ i : Int, 0 ≤ i → (i < N' ↔ tQ B n (tpl B n i) ≠ 0)) → mErr B n true N' = mErr B n true N := fun N' h => by
    unfold mErr
    rw [pAll_u (tok_u h hN)]
  have n47 := hR.st.2.2.2.2.2.1
  have tM : ∀ g1 : od_G, (∀ x : Int, M ≤ x → x < M + 24 → g1 x = g x) → TpM g1 M B n := fun g1 e => by
    unfold TpM
    rw [e M (by omega) (by omega), e (M + 6) (by omega) (by omega), e (M + 7) (by omega) (by omega)]
    exact tp2
  have fin : ∀ (E' : od_E) (g1 g2 : od_G), EW E' o M → (∀ x : Int, ¬ (M ≤ x ∧ x < M + 24) → g2 x = g1 x) → Rel2 E' o M g1 g2 → Rel2 E' o M g2 g2 := fun E' g1 g2 h f r => r.fr h (fun x hx => f x (fun z => hx (by unfold CS; omega)))
  have r1 : ∀ g1 : od_G, (∀ x : Int, M ≤ x → x < M + 24 → g1 x = g x) → Rel2 E o M g g1 := fun g1 f => hR.fm hE (fun x y hx => by rw [f x (by unfold RS at hx; omega) (by unfold RS at hx; omega)])
  have hC := c_X10_law hE.1 (by omega) (RdA_of hE.1 hN true) tp1 (by rw [n47.1]; exact n47.2)
  refine ⟨_, hC, fun E' w g1 q => ?_⟩
  rcases q with ⟨q10, eE, ew, eg⟩ | ⟨q10, ner, eE, ew, g0, f0, a16, a60, eg⟩ | ⟨q10, er, C, gA, gB, hD, hX, fA, a16, a60, eE, hcp, ew, eg⟩
  · subst eE
    have eM : ∀ x : Int, M ≤ x → x < M + 24 → g1 x = g x := fun x x0 x1 => by
      rw [eg, (cRef_f od_fr.rf).row (a := x) (fun y z => by unfold FC at z; omega), od_up_ne (by omega)]
    refine ⟨_, ew, hE, _, c_X11_law hE.2.1 (tM g1 eM) (by rw [eM (M + 2) (by omega) (by omega)]; exact n47.2), fun w' g2 q' => ?_⟩
    rcases q' with ⟨_, ew', eg'⟩ | ⟨z, _⟩
    · refine ⟨ew', fin E' g1 g2 hE (fun x hx => ?_) ?_⟩
      · rw [eg', (mRef_f od_fr.rf).row (a := x) (fun y z => by unfold FM at z; omega), od_up_ne (by omega)]
      · have y := k_ref hE (k_sz hE (r1 g1 eM) (n := 0) (by have := tp1.2.2.1; omega)) (w := -5) (by omega)
        rw [← eg, ← eg'] at y
        exact y
    · rw [eM (M + 2) (by omega) (by omega)] at z
      omega
  · subst eE
    have eM : ∀ x : Int, M ≤ x → x < M + 24 → g1 x = g x := fun x x0 x1 => by
      rw [eg, (cRef_f od_fr.rf).row (a := x) (fun y z => by unfold FC at z; omega)]
      exact f0.row (fun y z => by unfold LwX XR at z; omega)
    refine ⟨_, ew, hE, _, c_X11_law hE.2.1 (tM g1 eM) (by rw [eM (M + 2) (by omega) (by omega)]; exact n47.2), fun w' g2 q' => ?_⟩
    rcases q' with ⟨z, _⟩ | ⟨_, N', gm1, ⟨fX, b13, b14, hN', _⟩, q'⟩
    · rw [eM (M + 2) (by omega) (by omega)] at z
      omega
    · rw [mE N' hN'] at b14 q'
      rcases q' with ⟨_, ew', eg'⟩ | ⟨z, _⟩
      · refine ⟨ew', fin E' g1 g2 hE (fun x hx => ?_) ?_⟩
        · rw [eg', (mRef_f od_fr.rf).row (a := x) (fun y z => by unfold FM at z; omega)]
          exact fX.row (fun y z => by unfold XE XD at z; omega)
        · have z : Rel2 E' o M g0 gm1 := by
            refine k_rd hE (r1 g1 eM) (fun x a0 a1 a2 => f0.row (fun y q => by unfold LwX XR at q; unfold CS at a2; omega)) (fun y hy => f0 _ _ (by unfold LwX XR; omega)) a60 (fun x y a0 a1 => fX _ _ (fun q => by unfold XE XD at q; unfold RS at a1; omega)) b13 (by rw [a16, b14]) ?_
            rw [f0 _ _ (by unfold LwX XR; omega), fX _ _ (by unfold XE XD; omega)]
            exact (r1 g1 eM).fd.1.2.2.1
          have y := k_ref hE z (w := -6) (by omega)
          rw [← eg, ← eg'] at y
          exact y
      · exact absurd z ner
  · have Cn := hD.1
    have x6 := hX.1
    have x7 := hX.2.1
    have kp : od_kp E E' 0 ((E.1.1 : Int) - 1) := by rw [eE]; exact nX9_kp rfl (by omega)
    have hc : E'.1.1 = E.1.1 + 7 := by
      rw [eE, nX9_c]
      rfl
    have hE' : EW E' o M := ⟨OdAt.x (kp.sub (by omega) (by omega)) hE.1, MoAt.x (kp.sub (by omega) (by omega)) hE.2.1, oM.1, oM.2.1, by omega⟩
    have hTx : TxAt E' (E.1.1 : Int) (gA (o + 63) 6).toNat (gA (o + 63) 7).toNat := by
      rw [eE]
      refine nX9_at ?_ rfl (by omega) (by omega)
      show (if (E.1.1 : Int) = (E.1.1 : Int) then ((9 : Nat), (0 : Nat)) else E.2.1 (E.1.1 : Int)).1 = 9
      rw [if_pos rfl]
    have eM : ∀ x : Int, M ≤ x → x < M + 24 → g1 x = g x := fun x x0 x1 => by
      rw [eg, (cAcc_f od_fr.rf).row (a := x) (fun y z => by unfold FC at z; omega), od_up_ne (by omega), od_up_ne (by omega), hcp.1.row (a := x) (fun y z => by omega)]
      exact fA.row (fun y z => by unfold LwX XR at z; omega)
    have e2 := eM (M + 2) (by omega) (by omega)
    refine ⟨_, ew, hE', _, c_X11_law hE'.2.1 (tM g1 eM) (by rw [e2]; exact n47.2), fun w' g2 q' => ?_⟩
    rcases q' with ⟨z, _⟩ | ⟨_, N', gm1, ⟨fX, b13, b14, hN', hTk⟩, q'⟩
    · rw [e2] at z
      omega
    · rw [mE N' hN'] at b14 q'
      rcases q' with ⟨z, _⟩ | ⟨_, ew', g2m, fL, e49, ek, eg'⟩
      · exact absurd er z
      · rw [e2, ← n47.1] at ew' fL e49 ek eg'
        have q0 : 0 ≤ g (o + 1) 10 := by omega
        refine ⟨ew', fin E' g1 g2 hE' (fun x hx => ?_) ?_⟩
        · rw [eg', (mGood_f od_fr.rf).row (a := x) (fun y z => by unfold FM at z; omega), od_up_ne (by omega), fL.row (a := x) (fun y z => by unfold XL at z; omega)]
          exact fX.row (fun y z => by unfold XE XD at z; omega)
        · have m2 : ∀ y : Int, y ≠ 47 → g2 (M + 2) y = g2m (M + 2) y := fun y hy => by
            rw [eg']
            unfold mGood
            rw [od_upn (by omega), od_up_j hy]
          have m3 : ∀ x y : Int, x ≠ M + 2 → ¬ (x = M ∧ y = 0) → g2 x y = gm1 x y := fun x y hx hy => by
            rw [eg']
            unfold mGood
            rw [od_up_at2, if_neg hy, od_upn hx, fL _ _ (by unfold XL; omega)]
          refine k_law hE hR rfl n47.1 q10 kp hc tp1.2.2.1.1 hN hN' hTk.2.1 hD hX hTx fA a16 a60 hcp eg ?_ ?_ (fun i i0 i1 => ?_) (fun y hy hz => ?_) (fun x y h2 hx h0 x0 x1 => ?_) ?_ ?_ ?_
          · rw [eg']
            unfold mGood
            rw [od_upn (by omega), od_up_i]
          · rw [m2 _ (by omega)]; exact e49
          · rw [m2 _ (by omega), m2 _ (by omega)]; exact ek i i0 i1
          · rw [m2 y hy, fL _ _ (by unfold XL; omega), fX _ _ (by unfold XE XD; omega), e2]
          · rw [m3 x y h2 h0, fX x y hx, eM x x0 x1]
          · rw [eg']; exact od_up_i
          · rw [m3 _ _ (by omega) (by omega), b13]
          · rw [m3 _ _ (by omega) (by omega), b14, er]
end Law5
