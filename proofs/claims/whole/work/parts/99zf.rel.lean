/-! THE RELATION: what the class keeps is what the reference keeps -/
def RfR (E : od_E) (g : od_G) (k lo : Int) : Prop := (∀ y : Int, 0 ≤ y → y < 6 → g (k + 6) y = -1 ∨ (lo ≤ g (k + 6) y ∧ g (k + 6) y + 6 < (E.1.1 : Int) ∧ (E.2.1 (g (k + 6) y)).1 = 9)) ∧ ∀ y : Int, 0 ≤ y → y < 6 → g (k + 8) y = 0 ∨ g (k + 8) y = 1
def LsR (E : od_E) (g : od_G) (k : Int) (r : Int → Int) (lo : Int) : Prop := ∃ (pls : Int → Int → Int) (Cs : Int → Int) (cn sn : Int → Nat), LwsR E g k r lo pls Cs cn sn
def ImR (E : od_E) (g gm : od_G) (o M k : Int) : Prop := RfR E g (o + 29 + 9 * k) (M + 24) ∧ ((g (o + 47) k = 0 ∧ gm (M + 4) k = 0) ∨ (g (o + 47) k = 1 ∧ gm (M + 4) k = 1 ∧ StR g (o + 29 + 9 * k) (fun y => gm (M + 3) (5656 * k + y)) ∧ LsR E g (o + 29 + 9 * k) (fun y => gm (M + 3) (5656 * k + y)) (M + 24)))
def FdR (g gm : od_G) (o M : Int) : Prop := (g o 15 = gm M 0 ∧ g o 16 = gm M 14 ∧ g o 17 = gm M 41 ∧ g o 18 = gm M 6) ∧ ∀ i : Int, 0 ≤ i → i < 7 → g (o + 85) i = gm (M + 1) i
def PpR (g gm : od_G) (o M : Int) : Prop := (-1 ≤ gm M 49 ∧ gm M 49 ≤ 6) ∧ (g (o + 19) 8 = if gm M 49 = -1 then 0 else gm M 49) ∧ ∀ d : Int, 0 ≤ d → d < gm M 49 → g (o + 19 + 3) d = gm (M + 23) (6 + d) ∧ g (o + 19 + 4) d = gm (M + 23) d ∧ od_b (od_bit (g (o + 19) 9) d) = gm (M + 23) (12 + d)
def TpR (g gm : od_G) (o M : Int) : Prop := TpOk g (o + 60) (g (o + 60 + 1)) (g (o + 60) 1) ∧ TpM gm M (g (o + 60 + 1)) (g (o + 60) 1)
def Rel2 (E : od_E) (o M : Int) (g gm : od_G) : Prop := StR g (o + 1) (gm (M + 2)) ∧ LsR E g (o + 1) (gm (M + 2)) (M + 24) ∧ RfR E g (o + 1) (M + 24) ∧ cImg g o ∧ (∀ k : Int, 0 ≤ k → k < 2 → ImR E g gm o M k) ∧ PaR g (o + 48) gm M ∧ TpR g gm o M ∧ FdR g gm o M ∧ PpR g gm o M
/-- the class's cells that are no part of it; the reference's -/
def CS (o M x : Int) : Prop := (o + 10 ≤ x ∧ x ≤ o + 18) ∨ (o + 54 ≤ x ∧ x ≤ o + 59) ∨ (o + 62 ≤ x ∧ x ≤ o + 84) ∨ (o + 86 ≤ x ∧ x < M + 24) ∨ x < o
def RS (M x y : Int) : Prop := (x = M ∧ y ≠ 0 ∧ y ≠ 6 ∧ y ≠ 13 ∧ y ≠ 14 ∧ y ≠ 33 ∧ y ≠ 41 ∧ y ≠ 49) ∨ x = M + 5 ∨ (M + 8 ≤ x ∧ x ≤ M + 13) ∨ (M + 15 ≤ x ∧ x ≤ M + 22) ∨ (x = M + 14 ∧ ¬ (0 ≤ y ∧ y < 320)) ∨ (x = M + 2 ∧ (y < 0 ∨ y = 55 ∨ (2456 ≤ y ∧ y < 2856) ∨ 5256 ≤ y)) ∨ M + 24 ≤ x ∨ x < M
def EW (E : od_E) (o M : Int) : Prop := OdAt E o ∧ MoAt E M ∧ 0 ≤ o ∧ o + 86 ≤ M ∧ M + 24 ≤ (E.1.1 : Int)
theorem RfR.cRefs {E : od_E} {g : od_G} {k lo : Int} (h : RfR E g k lo) : cRefs E g k := ⟨fun y y0 y1 => (h.1 y y0 y1).elim Or.inl (fun z => Or.inr z.2.2), h.2⟩
theorem RfR.c {E : od_E} {g g' : od_G} {k lo : Int} (h : RfR E g k lo) (e6 : g' (k + 6) = g (k + 6)) (e8 : g' (k + 8) = g (k + 8)) : RfR E g' k lo := by
  unfold RfR
  rw [e6, e8]
  exact h
theorem LsR.c {E : od_E} {g g' : od_G} {k : Int} {r r' : Int → Int} {lo : Int} (h : LsR E g k r lo) (h6 : r 47 ≤ 6) (e6 : g' (k + 6) = g (k + 6)) (eT : ∀ x : Int, lo ≤ x → g' x = g x) (e47 : r' 47 = r 47) (er : SlE r r') : LsR E g' k r' lo := by
  obtain ⟨pls, Cs, cn, sn, h⟩ := h
  exact ⟨pls, Cs, cn, sn, h.c h6 e6 eT e47 er⟩
section Rel
variable {E : od_E} {o M : Int} {g gm g' gm' : od_G}
theorem Rel2.st (h : Rel2 E o M g gm) : StR g (o + 1) (gm (M + 2)) := h.1
theorem Rel2.ls (h : Rel2 E o M g gm) : LsR E g (o + 1) (gm (M + 2)) (M + 24) := h.2.1
theorem Rel2.rf (h : Rel2 E o M g gm) : RfR E g (o + 1) (M + 24) := h.2.2.1
theorem Rel2.ig (h : Rel2 E o M g gm) : cImg g o := h.2.2.2.1
theorem Rel2.im (h : Rel2 E o M g gm) : ∀ k : Int, 0 ≤ k → k < 2 → ImR E g gm o M k := h.2.2.2.2.1
theorem Rel2.pa (h : Rel2 E o M g gm) : PaR g (o + 48) gm M := h.2.2.2.2.2.1
theorem Rel2.tp (h : Rel2 E o M g gm) : TpR g gm o M := h.2.2.2.2.2.2.1
theorem Rel2.fd (h : Rel2 E o M g gm) : FdR g gm o M := h.2.2.2.2.2.2.2.1
theorem Rel2.pp (h : Rel2 E o M g gm) : PpR g gm o M := h.2.2.2.2.2.2.2.2
theorem Rel2.n47 (h : Rel2 E o M g gm) : gm (M + 2) 47 ≤ 6 := h.st.2.2.2.2.2.1.2.2
theorem ImR.c {k : Int} (hk : 0 ≤ k ∧ k < 2) (hoM : 0 ≤ o ∧ o + 86 ≤ M) (h : ImR E g gm o M k) (e : ∀ x : Int, (o + 29 + 9 * k ≤ x ∧ x ≤ o + 29 + 9 * k + 8) ∨ x = o + 47 ∨ M + 24 ≤ x → g' x = g x) (e3 : ∀ y : Int, 0 ≤ y → y < 5656 → gm' (M + 3) (5656 * k + y) = gm (M + 3) (5656 * k + y)) (e4 : gm' (M + 4) k = gm (M + 4) k) : ImR E g' gm' o M k := by
  obtain ⟨h1, h2⟩ := h
  refine ⟨h1.c (e _ (by omega)) (e _ (by omega)), ?_⟩
  rw [e4, e (o + 47) (by omega)]
  rcases h2 with h2 | ⟨a, b, c, d⟩
  · exact Or.inl h2
  · refine Or.inr ⟨a, b, (c.cg (fun x x0 x1 => e x (by omega))).cr (fun y y0 y1 => e3 y y0 (by omega)), d.c c.2.2.2.2.2.1.2.2 (e _ (by omega)) (fun x hx => e x (by omega)) (e3 47 (by omega) (by omega)) (fun y hy => e3 y (by omega) (by omega))⟩
theorem TpR.c (h : TpR g gm o M) (e60 : g' (o + 60) 1 = g (o + 60) 1) (e61 : g' (o + 60 + 1) = g (o + 60 + 1)) (e13 : gm' M 13 = gm M 13) (e6 : gm' (M + 6) = gm (M + 6)) (e7 : gm' (M + 7) = gm (M + 7)) : TpR g' gm' o M := by
  unfold TpR TpOk TpM at h ⊢
  rw [e60, e61, e13, e6, e7]
  exact h
theorem FdR.c (h : FdR g gm o M) (e0 : ∀ y : Int, 15 ≤ y → y ≤ 18 → g' o y = g o y) (e85 : g' (o + 85) = g (o + 85)) (em : ∀ y : Int, y = 0 ∨ y = 6 ∨ y = 14 ∨ y = 41 → gm' M y = gm M y) (e1 : gm' (M + 1) = gm (M + 1)) : FdR g' gm' o M := by
  unfold FdR at h ⊢
  rw [e0 15 (by omega) (by omega), e0 16 (by omega) (by omega), e0 17 (by omega) (by omega), e0 18 (by omega) (by omega), e85, em 0 (by omega), em 6 (by omega), em 14 (by omega), em 41 (by omega), e1]
  exact h
theorem PpR.c (h : PpR g gm o M) (e8 : g' (o + 19) 8 = g (o + 19) 8) (e9 : g' (o + 19) 9 = g (o + 19) 9) (e3 : g' (o + 19 + 3) = g (o + 19 + 3)) (e4 : g' (o + 19 + 4) = g (o + 19 + 4)) (em : gm' M 49 = gm M 49) (e23 : gm' (M + 23) = gm (M + 23)) : PpR g' gm' o M := by
  unfold PpR at h ⊢
  rw [e8, e9, e3, e4, em, e23]
  exact h
theorem Rel2.fr (hE : EW E o M) (h : Rel2 E o M g gm) (e : ∀ x : Int, ¬ CS o M x → g' x = g x) : Rel2 E o M g' gm := by
  obtain ⟨_, _, o0, oM, _⟩ := hE
  refine ⟨h.st.cg (fun x x0 x1 => e x (by unfold CS; omega)), h.ls.c h.n47 (e _ (by unfold CS; omega)) (fun x hx => e x (by unfold CS; omega)) rfl (SlE.rf _), h.rf.c (e _ (by unfold CS; omega)) (e _ (by unfold CS; omega)), ?_, fun k k0 k1 => (h.im k k0 k1).c ⟨k0, k1⟩ ⟨o0, oM⟩ (fun x hx => e x (by unfold CS; omega)) (fun y _ _ => rfl) rfl, h.pa.cg (fun x x0 x1 => e x (by unfold CS; omega)), h.tp.c (by rw [e (o + 60) (by unfold CS; omega)]) (e _ (by unfold CS; omega)) rfl rfl rfl, h.fd.c (fun y _ _ => by rw [e o (by unfold CS; omega)]) (e _ (by unfold CS; omega)) (fun y _ => rfl) rfl, h.pp.c (by rw [e (o + 19) (by unfold CS; omega)]) (by rw [e (o + 19) (by unfold CS; omega)]) (e _ (by unfold CS; omega)) (e _ (by unfold CS; omega)) rfl rfl⟩
  unfold cImg
  rw [e (o + 28) (by unfold CS; omega)]
  exact h.ig
theorem Rel2.fm (hE : EW E o M) (h : Rel2 E o M g gm) (e : ∀ x y : Int, ¬ RS M x y → gm' x y = gm x y) : Rel2 E o M g gm' := by
  obtain ⟨_, _, o0, oM, _⟩ := hE
  refine ⟨h.st.cr (fun y y0 y1 => e _ _ (by unfold RS; omega)), h.ls.c h.n47 rfl (fun x hx => rfl) (e _ _ (by unfold RS; omega)) (fun y hy => e _ _ (by unfold RS; omega)), h.rf, h.ig, fun k k0 k1 => (h.im k k0 k1).c ⟨k0, k1⟩ ⟨o0, oM⟩ (fun x _ => rfl) (fun y _ _ => e _ _ (by unfold RS; omega)) (e _ _ (by unfold RS; omega)), h.pa.cm h.st.1.2.2 (e _ _ (by unfold RS; omega)) (e _ _ (by unfold RS; omega)) (fun d d0 d1 => e _ _ (by unfold RS; omega)) (fun y y0 y1 => e _ _ (by unfold RS; omega)), h.tp.c rfl rfl (e _ _ (by unfold RS; omega)) (funext fun y => e _ _ (by unfold RS; omega)) (funext fun y => e _ _ (by unfold RS; omega)), h.fd.c (fun y _ _ => rfl) rfl (fun y hy => e _ _ (by unfold RS; omega)) (funext fun y => e _ _ (by unfold RS; omega)), h.pp.c rfl rfl rfl rfl (e _ _ (by unfold RS; omega)) (funext fun y => e _ _ (by unfold RS; omega))⟩
/-- a call of the class, and then the same call of the reference -/
def od_Pr (E : od_E) (o M : Int) (g : od_G) (t : Nat) (dc : Nat) (mc : od_M) (ac : List od_V) (dm : Nat) (mm : od_M) (am : List od_V) : Prop :=
  ∃ Qc, od_Cq dc mc ac E g (E, Qc) ∧ ∀ w g1, Qc w g1 → ∃ a : Int, w = some (t, a) ∧ ∃ Qm, od_Cq dm mm am E g1 (E, Qm) ∧ ∀ w' g2, Qm w' g2 → w' = some (t, a) ∧ Rel2 E o M g2 g2
theorem pr_i (hE : EW E o M) {t : Nat} {dc dm : Nat} {mc mm : od_M} {ac am : List od_V} (hR : Rel2 E o M g g) {Qc : Option od_V → od_G → Prop} (hC : od_Cq dc mc ac E g (E, Qc)) (hQ : ∀ w g1, Qc w g1 → (∀ x : Int, M ≤ x → x < M + 24 → g1 x = g x) ∧ (Rel2 E o M g g1 → ∃ a : Int, w = some (t, a) ∧ ∃ Qm, od_Cq dm mm am E g1 (E, Qm) ∧ ∀ w' g2, Qm w' g2 → w' = some (t, a) ∧ (∀ x : Int, ¬ (M ≤ x ∧ x < M + 24) → g2 x = g1 x) ∧ Rel2 E o M g1 g2)) : od_Pr E o M g t dc mc ac dm mm am := by
  refine ⟨Qc, hC, fun w g1 q => ?_⟩
  obtain ⟨f, k⟩ := hQ w g1 q
  have r1 : Rel2 E o M g g1 := hR.fm hE (fun x y hx => by rw [f x (by unfold RS at hx; omega) (by unfold RS at hx; omega)])
  obtain ⟨a, ew, Qm, hM, hm⟩ := k r1
  refine ⟨a, ew, Qm, hM, fun w' g2 q' => ?_⟩
  obtain ⟨e1, f2, r2⟩ := hm w' g2 q'
  obtain ⟨_, _, o0, oM, _⟩ := hE
  exact ⟨e1, r2.fr ⟨by assumption, by assumption, o0, oM, by assumption⟩ (fun x hx => f2 x (fun z => hx (by unfold CS; omega)))⟩
/-- questions -/
theorem pr_q (hE : EW E o M) {t : Nat} {a : Int} {dc dm : Nat} {mc mm : od_M} {ac am : List od_V} (hR : Rel2 E o M g g) {Qc : Option od_V → od_G → Prop} (hC : od_Cq dc mc ac E g (E, Qc)) (hc : ∀ w g1, Qc w g1 → w = some (t, a) ∧ ∀ x : Int, ¬ (CS o M x ∧ (x < M ∨ M + 24 ≤ x)) → g1 x = g x) (hM : ∀ g1, Rel2 E o M g g1 → g1 (M + 2) = g (M + 2) → ∃ Qm, od_Cq dm mm am E g1 (E, Qm) ∧ ∀ w' g2, Qm w' g2 → w' = some (t, a) ∧ ∀ x y : Int, ¬ (RS M x y ∧ M ≤ x ∧ x < M + 24) → g2 x y = g1 x y) : od_Pr E o M g t dc mc ac dm mm am := by
  refine pr_i hE hR hC (fun w g1 q => ?_)
  obtain ⟨ew, f⟩ := hc w g1 q
  refine ⟨fun x x0 x1 => f x (fun z => by omega), fun r1 => ⟨a, ew, ?_⟩⟩
  obtain ⟨Qm, h1, h2⟩ := hM g1 r1 (f _ (fun z => by omega))
  refine ⟨Qm, h1, fun w' g2 q' => ?_⟩
  obtain ⟨e2, f2⟩ := h2 w' g2 q'
  refine ⟨e2, fun x hx => funext fun y => f2 x y (fun z => hx z.2), ?_⟩
  exact (r1.fr hE (fun x hx => f x (fun z => hx z.1))).fm hE (fun x y hx => f2 x y (fun z => hx z.1))
theorem pr_tt (hE : EW E o M) {t : Nat} {a : Int} {dc dm : Nat} {mc mm : od_M} {ac am : List od_V} (hR : Rel2 E o M g g) (hC : od_Ct dc mc ac E g (some (t, a), E, g)) (hM : ∀ g1, Rel2 E o M g g1 → g1 (M + 2) = g (M + 2) → od_Ct dm mm am E g1 (some (t, a), E, g1)) : od_Pr E o M g t dc mc ac dm mm am :=
  pr_q hE hR hC (fun w g1 q => ⟨q.1, fun x _ => by rw [q.2]⟩) (fun g1 r1 e2 => ⟨_, hM g1 r1 e2, fun w' g2 q => ⟨q.1, fun x y _ => by rw [q.2]⟩⟩)
theorem pr_ff (hE : EW E o M) {t : Nat} {a : Int} {dc dm : Nat} {mc mm : od_M} {ac am : List od_V} (hR : Rel2 E o M g g) {Xc Xm : Int → Int → Prop} (hC : od_Cf dc mc ac E g (some (t, a)) Xc) (hXc : ∀ x y : Int, Xc x y → CS o M x ∧ (x < M ∨ M + 24 ≤ x)) (hM : ∀ g1, Rel2 E o M g g1 → g1 (M + 2) = g (M + 2) → od_Cf dm mm am E g1 (some (t, a)) Xm) (hXm : ∀ x y : Int, Xm x y → RS M x y ∧ M ≤ x ∧ x < M + 24) : od_Pr E o M g t dc mc ac dm mm am :=
  pr_q hE hR hC (fun w g1 q => ⟨q.1, fun x hx => q.2.row (fun y z => hx (hXc x y z))⟩) (fun g1 r1 e2 => ⟨_, hM g1 r1 e2, fun w' g2 q => ⟨q.1, fun x y hx => q.2 x y (fun z => hx (hXm x y z))⟩⟩)
/-- the law in force -/
theorem Rel2.law (hE : EW E o M) (h : Rel2 E o M g gm) : ∃ (pl : Int → Int) (C : Int) (cn sn : Nat), LfR g (o + 1) (gm (M + 2)) pl C sn ∧ LawOk E g (o + 70) (cLawOf g (o + 1) (g (o + 1) 11)) cn sn ∧ (cLawOf g (o + 1) (g (o + 1) 11) ≠ -1 → M + 24 ≤ cLawOf g (o + 1) (g (o + 1) 11)) := by
  obtain ⟨pls, Cs, cn, sn, hl⟩ := h.ls
  have n := h.st.2.2.2.2.2.2.1
  have oM := hE.2.2
  have a := hl.at' h.st (by omega) (s := o + 70) (by omega) (n := gm (M + 2) 48) n.2
  have f := hl.f h.st (by omega)
  rw [← n.1] at a
  rw [n.1] at a
  rw [n.1]
  exact ⟨_, _, _, _, f, a.1, a.2⟩
end Rel
