/-! law: the call -/
theorem LwR.c1 {g g' : od_G} {T t : Int} {r r' pl : Int → Int} {C : Int} {sn : Nat} (h : LwR g T r t pl C sn) (e : TxEq g g' T) (e49 : r' (49 + t) = r (49 + t)) (er : ∀ i : Int, 0 ≤ i → i < 400 → r' (56 + (400 * t + i)) = r (56 + (400 * t + i)) ∧ r' (2856 + (400 * t + i)) = r (2856 + (400 * t + i))) : LwR g' T r' t pl C sn := by
  have n := h.2.2.1
  have ec : kC r' (400 * t) (r (49 + t)) = kC r (400 * t) (r (49 + t)) := funext fun i => by
    unfold kC
    by_cases c : 0 ≤ i ∧ i < r (49 + t)
    · rw [if_pos c, if_pos c]; exact (er i c.1 (by omega)).1
    · rw [if_neg c, if_neg c]
  have ev : kV r' (400 * t) (r (49 + t)) = kV r (400 * t) (r (49 + t)) := funext fun i => by
    unfold kV
    by_cases c : 0 ≤ i ∧ i < r (49 + t)
    · rw [if_pos c, if_pos c]; exact (er i c.1 (by omega)).2
    · rw [if_neg c, if_neg c]
  have z := h.e e
  unfold LwR at z ⊢
  rw [e49, ec, ev]
  exact z
theorem ex_add {F : Int → (Int → Int) → Int → Nat → Nat → Prop} {q : Int} {pls : Int → Int → Int} {Cs : Int → Int} {cn sn : Int → Nat} {pl : Int → Int} {C : Int} {c s : Nat} (h : ∀ t : Int, 0 ≤ t → t < q → F t (pls t) (Cs t) (cn t) (sn t)) (hn : F q pl C c s) : ∃ (pls : Int → Int → Int) (Cs : Int → Int) (cn sn : Int → Nat), ∀ t : Int, 0 ≤ t → t < q + 1 → F t (pls t) (Cs t) (cn t) (sn t) := by
  refine ⟨fun t => if t = q then pl else pls t, fun t => if t = q then C else Cs t, fun t => if t = q then c else cn t, fun t => if t = q then s else sn t, fun t t0 t1 => ?_⟩
  show F t (if t = q then pl else pls t) (if t = q then C else Cs t) (if t = q then c else cn t) (if t = q then s else sn t)
  by_cases ct : t = q
  · rw [if_pos ct, if_pos ct, if_pos ct, if_pos ct, ct]; exact hn
  · rw [if_neg ct, if_neg ct, if_neg ct, if_neg ct]; exact h t t0 (by omega)
theorem LsR.nw {E E' : od_E} {g g' : od_G} {k lo : Int} {r r' : Int → Int} (h : LsR E g k r lo) (rf : RfR E g k lo) (l0 : 0 ≤ lo) (h6 : r 47 ≤ 6) (hk : od_kp E E' 0 ((E.1.1 : Int) - 1)) (e6 : g' (k + 6) = g (k + 6)) (eT : ∀ x : Int, lo ≤ x → x < (E.1.1 : Int) → g' x = g x) (e47 : r' 47 = r 47) (er : SlE r r') : LsR E' g' k r' lo := by
  obtain ⟨pls, Cs, cn, sn, h⟩ := h
  refine ⟨pls, Cs, cn, sn, fun t t0 t1 => ?_⟩
  rw [e47] at t1
  obtain ⟨a, b, c, d⟩ := h t t0 t1
  rw [e6]
  rcases rf.1 t t0 (by omega) with z | ⟨z1, z2, z3⟩
  · omega
  · have eq : TxEq g g' (g (k + 6) t) := ⟨eT _ (by omega) (by omega), eT _ (by omega) (by omega), eT _ (by omega) (by omega), eT _ (by omega) (by omega), eT _ (by omega) (by omega), eT _ (by omega) (by omega), eT _ (by omega) (by omega)⟩
    exact ⟨a, TxAt.x (hk.sub (by omega) (by omega)) b, by rw [eT _ z1 (by omega)]; exact c, d.c (by omega) eq er⟩
theorem RfR.nw {E E' : od_E} {g g' : od_G} {k lo : Int} (h : RfR E g k lo) (l0 : 0 ≤ lo) (hk : od_kp E E' 0 ((E.1.1 : Int) - 1)) (hc : E.1.1 ≤ E'.1.1) (e6 : g' (k + 6) = g (k + 6)) (e8 : g' (k + 8) = g (k + 8)) : RfR E' g' k lo := (h.x l0 hk hc).c e6 e8
section Law4
variable {E : od_E} {o M : Int} {g gm g' gm' : od_G}
theorem ImR.nw {E' : od_E} {k : Int} (hk : 0 ≤ k ∧ k < 2) (hM : 0 ≤ M) (kp : od_kp E E' 0 ((E.1.1 : Int) - 1)) (hc : E.1.1 ≤ E'.1.1) (h : ImR E g gm o M k) (e : ∀ x : Int, (o + 29 + 9 * k ≤ x ∧ x ≤ o + 29 + 9 * k + 8) ∨ x = o + 47 → g' x = g x) (eT : ∀ x : Int, M + 24 ≤ x → x < (E.1.1 : Int) → g' x = g x) (e3 : gm' (M + 3) = gm (M + 3)) (e4 : gm' (M + 4) = gm (M + 4)) : ImR E' g' gm' o M k := by
  obtain ⟨h1, h2⟩ := h
  unfold ImR
  rw [e3, e4, e (o + 47) (by omega)]
  refine ⟨h1.nw (by omega) kp hc (e _ (by omega)) (e _ (by omega)), ?_⟩
  rcases h2 with h2 | ⟨a, b, c, d⟩
  · exact Or.inl h2
  · exact Or.inr ⟨a, b, c.cg (fun x x0 x1 => e x (by omega)), d.nw h1 (by omega) c.2.2.2.2.2.1.2.2 kp (e _ (by omega)) eT rfl (SlE.rf _)⟩
/-- a law more -/
theorem k_law {E' : od_E} (hE : EW E o M) (hR : Rel2 E o M g g) {gA gB g1 g2 : od_G} {q b C N' n N : Int} {B : Int → Int} (hb : b = (E.1.1 : Int)) (hq : q = g (M + 2) 47) (hq6 : q < 6) (hk : od_kp E E' 0 ((E.1.1 : Int) - 1)) (hc : E'.1.1 = E.1.1 + 7) (hn : 0 ≤ n) (hN : ∀ i : Int, 0 ≤ i → (i < N ↔ tQ B n (tpl B n i) ≠ 0)) (hN' : ∀ i : Int, 0 ≤ i → (i < N' ↔ tQ B n (tpl B n i) ≠ 0)) (bN : 0 ≤ N' ∧ N' ≤ 400) (hD : pDn (tC B n) (tV B n) (tpl B n) true N C) (hX : TxO true gA (o + 63) B n C) (hTx : TxAt E' b (gA (o + 63) 6).toNat (gA (o + 63) 7).toNat) (fA : od_fr (LwX o) g gA) (a16 : gA o 16 = -1) (a60 : gA (o + 60) 1 = 0) (hcp : CpQ gA gB (o + 63) b) (eg : g1 = cAcc (od_up (od_up gB (o + 1 + 6) q b) (o + 1) 10 (q + 1)) o)
    (e47 : g2 (M + 2) 47 = q + 1) (e49 : g2 (M + 2) (49 + q) = N') (ek : ∀ i : Int, 0 ≤ i → i < N' → g2 (M + 2) (56 + 400 * q + i) = tC B n i ∧ g2 (M + 2) (2856 + 400 * q + i) = tV B n i) (er : ∀ y : Int, y ≠ 47 → ¬ (y = 49 + q ∨ (56 + 400 * q ≤ y ∧ y < 456 + 400 * q) ∨ (2856 + 400 * q ≤ y ∧ y < 3256 + 400 * q)) → g2 (M + 2) y = g (M + 2) y) (em : ∀ x y : Int, x ≠ M + 2 → ¬ XE M x y → ¬ (x = M ∧ y = 0) → M ≤ x → x < M + 24 → g2 x y = g x y) (e0 : g2 M 0 = 0) (e13 : g2 M 13 = 0) (e14 : g2 M 14 = -1) : Rel2 E' o M g1 g2 := by
  obtain ⟨hO, hM, o0, oM, hcc⟩ := hE
  have n47 := hR.st.2.2.2.2.2.1
  have C1 : ∀ x : Int, x ≠ o → x ≠ o + 1 → x ≠ o + 7 → g1 x = gB x := fun x a0 a1 a2 => by
    rw [eg]
    unfold cAcc
    rw [od_up_ne a0, od_up_ne a1, od_up_ne (by omega)]
  have C2 : ∀ x : Int, x < b → gB x = gA x := fun x hx => hcp.1.row (fun y z => by omega)
  have C3 : ∀ x : Int, x ≠ o → x ≠ o + 60 → (x < o + 62 ∨ o + 69 < x) → gA x = g x := fun x a0 a1 a2 => fA.row (fun y z => by unfold LwX XR at z; omega)
  have CA : ∀ x : Int, x ≠ o → x ≠ o + 1 → x ≠ o + 7 → x ≠ o + 60 → (x < o + 62 ∨ o + 69 < x) → x < b → g1 x = g x := fun x a0 a1 a2 a3 a4 a5 => by rw [C1 x a0 a1 a2, C2 x a5, C3 x a0 a3 a4]
  have CT : ∀ x : Int, M + 24 ≤ x → x < b → g1 x = g x := fun x x0 x1 => CA x (by omega) (by omega) (by omega) (by omega) (by omega) x1
  have s7 : ∀ y : Int, g1 (o + 1 + 6) y = if y = q then b else g (o + 1 + 6) y := fun y => by
    rw [eg]
    unfold cAcc
    rw [od_upn (by omega), od_upn (by omega), od_up_at, C2 _ (by omega), C3 _ (by omega) (by omega) (by omega)]
  have s1 : ∀ y : Int, y ≠ 10 → g1 (o + 1) y = g (o + 1) y := fun y hy => by
    rw [eg]
    unfold cAcc
    rw [od_upn (by omega), od_up_j hy, od_upn (by omega), C2 _ (by omega), C3 _ (by omega) (by omega) (by omega)]
  have s10 : g1 (o + 1) 10 = q + 1 := by
    rw [eg]
    unfold cAcc
    rw [od_upn (by omega), od_up_i]
  have mr : ∀ x : Int, x = M + 3 ∨ x = M + 4 ∨ x = M + 6 ∨ x = M + 7 ∨ x = M + 14 ∨ x = M + 1 ∨ x = M + 23 → g2 x = g x := fun x hx => funext fun y => em x y (by omega) (by unfold XE XD; omega) (by omega) (by omega) (by omega)
  have m0 : ∀ y : Int, y = 6 ∨ y = 33 ∨ y = 41 ∨ y = 49 → g2 M y = g M y := fun y hy => em M y (by omega) (by unfold XE XD; omega) (by omega) (by omega) (by omega)
  have Cn := hD.1
  have x6 := hX.1
  have x7 := hX.2.1
  have st : StR g1 (o + 1) (g2 (M + 2)) := hR.st.told (by omega) (fun x hx => CA x (by omega) (by omega) (by omega) (by omega) (by omega) (by omega)) s1 (by rw [s10, hq]) (by rw [e47, hq]) (fun y y0 y1 y2 => er y y2 (by omega))
  refine ⟨st, ?_, ⟨fun y y0 y1 => ?_, fun y y0 y1 => ?_⟩, ?_, fun k k0 k1 => (hR.im k k0 k1).nw ⟨k0, k1⟩ (by omega) hk (by omega) (fun x hx => CA x (by omega) (by omega) (by omega) (by omega) (by omega) (by omega)) (fun x x0 x1 => CT x x0 (by omega)) (mr _ (by omega)) (mr _ (by omega)), (hR.pa.cg (fun x x0 x1 => CA x (by omega) (by omega) (by omega) (by omega) (by omega) (by omega))).cm hR.st.1.2.2 (m0 _ (by omega)) (er _ (by omega) (by omega)) (fun d d0 d1 => er _ (by omega) (by omega)) (fun y _ _ => by rw [mr (M + 14) (by omega)]), hR.tp.sz (n := 0) (by have := hR.tp.1.2.2.1; omega) ?_ (CA _ (by omega) (by omega) (by omega) (by omega) (by omega) (by omega)) e13 (mr _ (by omega)) (mr _ (by omega)), ⟨⟨?_, ?_, ?_, ?_⟩, fun i i0 i1 => ?_⟩, hR.pp.c (by rw [CA (o + 19) (by omega) (by omega) (by omega) (by omega) (by omega) (by omega)]) (by rw [CA (o + 19) (by omega) (by omega) (by omega) (by omega) (by omega) (by omega)]) (CA _ (by omega) (by omega) (by omega) (by omega) (by omega) (by omega)) (CA _ (by omega) (by omega) (by omega) (by omega) (by omega) (by omega)) (m0 _ (by omega)) (mr _ (by omega))⟩
  · obtain ⟨pls, Cs, cn, sn, hl⟩ := hR.ls
    have z := ex_add (F := fun t pl C c s => M + 24 ≤ g1 (o + 1 + 6) t ∧ TxAt E' (g1 (o + 1 + 6) t) c s ∧ (0 ≤ g1 (g1 (o + 1 + 6) t) 6 ∧ g1 (g1 (o + 1 + 6) t) 6 ≤ c) ∧ LwR g1 (g1 (o + 1 + 6) t) (g2 (M + 2)) t pl C s) (q := q) (pls := pls) (Cs := Cs) (cn := cn) (sn := sn) (pl := tpl B n) (C := C) (c := (gA (o + 63) 6).toNat) (s := (gA (o + 63) 7).toNat) (fun t t0 t1 => ?_) ?_
    · obtain ⟨pls', Cs', cn', sn', z⟩ := z
      exact ⟨pls', Cs', cn', sn', fun t t0 t1 => z t t0 (by omega)⟩
    · obtain ⟨a, b', c, d⟩ := hl t t0 (by omega)
      show M + 24 ≤ g1 (o + 1 + 6) t ∧ TxAt E' (g1 (o + 1 + 6) t) (cn t) (sn t) ∧ (0 ≤ g1 (g1 (o + 1 + 6) t) 6 ∧ g1 (g1 (o + 1 + 6) t) 6 ≤ cn t) ∧ LwR g1 (g1 (o + 1 + 6) t) (g2 (M + 2)) t (pls t) (Cs t) (sn t)
      rw [s7 t, if_neg (by omega)]
      rcases hR.rf.1 t t0 (by omega) with z | ⟨z1, z2, z3⟩
      · omega
      · have eq : TxEq g g1 (g (o + 1 + 6) t) := ⟨CT _ (by omega) (by omega), CT _ (by omega) (by omega), CT _ (by omega) (by omega), CT _ (by omega) (by omega), CT _ (by omega) (by omega), CT _ (by omega) (by omega), CT _ (by omega) (by omega)⟩
        exact ⟨a, TxAt.x (hk.sub (by omega) (by omega)) b', by rw [CT _ z1 (by omega)]; exact c, d.c1 eq (er _ (by omega) (by omega)) (fun i i0 i1 => ⟨er _ (by omega) (by omega), er _ (by omega) (by omega)⟩)⟩
    · show M + 24 ≤ g1 (o + 1 + 6) q ∧ TxAt E' (g1 (o + 1 + 6) q) _ _ ∧ (0 ≤ g1 (g1 (o + 1 + 6) q) 6 ∧ g1 (g1 (o + 1 + 6) q) 6 ≤ ((gA (o + 63) 6).toNat : Nat)) ∧ LwR g1 (g1 (o + 1 + 6) q) (g2 (M + 2)) q (tpl B n) C _
      rw [s7 q, if_pos rfl]
      have eb : ∀ j : Int, 0 ≤ j → g1 (b + j) = gB (b + j) := fun j j0 => C1 _ (by omega) (by omega) (by omega)
      have eb0 : g1 b = gB b := C1 _ (by omega) (by omega) (by omega)
      obtain ⟨_, p6, p7, pc, ps⟩ := hcp
      refine ⟨by omega, hTx, by rw [eb0, p6]; omega, lw_new hn hN hN' bN hD hX (by omega) e49 ek (by rw [eb0, p6]) (by rw [eb0, p7]) (fun j j0 j1 => ?_) (fun j j0 j1 => ?_)⟩
      · rw [eb 1 (by omega), eb 2 (by omega), eb 3 (by omega), eb 4 (by omega), eb 5 (by omega)]
        exact pc j j0 j1
      · rw [eb 6 (by omega)]
        exact ps j j0 j1
  · rw [s7 y]
    by_cases cy : y = q
    · rw [if_pos cy]
      exact Or.inr ⟨by omega, by omega, hTx.1⟩
    · rw [if_neg cy]
      exact (hR.rf.x (by omega) hk (by omega)).1 y y0 y1
  · rw [CA (o + 1 + 8) (by omega) (by omega) (by omega) (by omega) (by omega) (by omega)]
    exact hR.rf.2 y y0 y1
  · unfold cImg
    rw [CA (o + 28) (by omega) (by omega) (by omega) (by omega) (by omega) (by omega)]
    exact hR.ig
  · rw [C1 _ (by omega) (by omega) (by omega), C2 _ (by omega), a60]
  · rw [e0, eg]; exact od_up_i
  · rw [e14, eg]
    unfold cAcc
    rw [od_up_j (by omega), od_upn (by omega), od_upn (by omega), C2 _ (by omega), a16]
  · rw [m0 41 (by omega), eg]
    unfold cAcc
    rw [od_up_j (by omega), od_upn (by omega), od_upn (by omega), C2 _ (by omega), fA _ _ (by unfold LwX XR; omega)]
    exact hR.fd.1.2.2.1
  · rw [m0 6 (by omega), eg]
    unfold cAcc
    rw [od_up_j (by omega), od_upn (by omega), od_upn (by omega), C2 _ (by omega), fA _ _ (by unfold LwX XR; omega)]
    exact hR.fd.1.2.2.2
  · rw [CA (o + 85) (by omega) (by omega) (by omega) (by omega) (by omega) (by omega), mr (M + 1) (by omega)]
    exact hR.fd.2 i i0 i1
end Law4
