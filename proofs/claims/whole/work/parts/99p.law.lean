/-! OrganDrums: law -/
/-- cells a to b are as they were -/
def od_kp (E E' : od_E) (a b : Int) : Prop := ∀ x : Int, a ≤ x → x ≤ b → E'.2.1 x = E.2.1 x ∧ E'.2.2 x = E.2.2 x
theorem od_kp.sub {E E' : od_E} {a b c d : Int} (h : od_kp E E' a b) (h1 : a ≤ c) (h2 : d ≤ b) : od_kp E E' c d := fun x x0 x1 => h x (by omega) (by omega)
theorem StAt.x {E E' : od_E} {k : Int} (h : od_kp E E' k (k + 8)) (hs : StAt E k) : StAt E' k := by
  unfold StAt at hs ⊢
  rw [(h k (by omega) (by omega)).1, (h k (by omega) (by omega)).2, (h (k + 1) (by omega) (by omega)).1, (h (k + 2) (by omega) (by omega)).1, (h (k + 3) (by omega) (by omega)).1, (h (k + 4) (by omega) (by omega)).1, (h (k + 5) (by omega) (by omega)).1, (h (k + 6) (by omega) (by omega)).1, (h (k + 7) (by omega) (by omega)).1, (h (k + 8) (by omega) (by omega)).1]
  exact hs
theorem PaAt.x {E E' : od_E} {k : Int} (h : od_kp E E' k (k + 5)) (hs : PaAt E k) : PaAt E' k := by
  unfold PaAt at hs ⊢
  rw [(h k (by omega) (by omega)).1, (h k (by omega) (by omega)).2, (h (k + 1) (by omega) (by omega)).1, (h (k + 2) (by omega) (by omega)).1, (h (k + 3) (by omega) (by omega)).1, (h (k + 4) (by omega) (by omega)).1, (h (k + 5) (by omega) (by omega)).1]
  exact hs
theorem TaAt.x {E E' : od_E} {k : Int} (h : od_kp E E' k (k + 1)) (hs : TaAt E k) : TaAt E' k := by
  unfold TaAt at hs ⊢
  rw [(h k (by omega) (by omega)).1, (h k (by omega) (by omega)).2, (h (k + 1) (by omega) (by omega)).1]
  exact hs
theorem TxAt.x {E E' : od_E} {k : Int} {c s : Nat} (h : od_kp E E' k (k + 6)) (hs : TxAt E k c s) : TxAt E' k c s := by
  unfold TxAt at hs ⊢
  rw [(h k (by omega) (by omega)).1, (h k (by omega) (by omega)).2, (h (k + 1) (by omega) (by omega)).1, (h (k + 2) (by omega) (by omega)).1, (h (k + 3) (by omega) (by omega)).1, (h (k + 4) (by omega) (by omega)).1, (h (k + 5) (by omega) (by omega)).1, (h (k + 6) (by omega) (by omega)).1]
  exact hs
theorem OdAt.x {E E' : od_E} {o : Int} (h : od_kp E E' o (o + 85)) (ho : OdAt E o) : OdAt E' o := by
  have h0 := h o (by omega) (by omega)
  refine ⟨by rw [h0.1]; exact ho.1, by rw [h0.2]; exact ho.2.1, ⟨(oS1 ho).x (h.sub (by omega) (by omega)), (oS2 ho).x (h.sub (by omega) (by omega)), (oS3 ho).x (h.sub (by omega) (by omega)), (oS4 ho).x (h.sub (by omega) (by omega)), (oS5 ho).x (h.sub (by omega) (by omega))⟩, ⟨?_, ?_, ?_, ?_⟩, ⟨(oP1 ho).x (h.sub (by omega) (by omega)), (oP2 ho).x (h.sub (by omega) (by omega))⟩, ⟨(oTp ho).x (h.sub (by omega) (by omega)), ?_⟩, ?_, ?_, ?_, ?_⟩
  · rw [(h (o + 28) (by omega) (by omega)).1]; exact oIm ho
  · rw [(h (o + 47) (by omega) (by omega)).1]; exact oIk ho
  · rw [(h (o + 84) (by omega) (by omega)).1]; exact oCh ho
  · rw [(h (o + 85) (by omega) (by omega)).1]; exact oRf ho
  · have z := oRd ho
    have y := h (o + 62) (by omega) (by omega)
    exact ⟨by rw [y.1]; exact z.1, by rw [y.2]; exact z.2.1, by rw [y.2]; exact z.2.2.1, z.2.2.2.1.x (h.sub (by omega) (by omega)), z.2.2.2.2.1.x (h.sub (by omega) (by omega)), z.2.2.2.2.2⟩
  · have z := oAs ho
    have y := h (o + 70) (by omega) (by omega)
    have y1 := h (o + 70 + 1) (by omega) (by omega)
    have y2 := h (o + 70 + 1 + 1) (by omega) (by omega)
    have y3 := h (o + 70 + 3) (by omega) (by omega)
    exact ⟨by rw [y.1]; exact z.1, by rw [y.2]; exact z.2.1, by rw [y.2]; exact z.2.2.1, ⟨by rw [y1.1]; exact z.2.2.2.1.1, by rw [y1.2]; exact z.2.2.2.1.2.1, by rw [y2.1]; exact z.2.2.2.1.2.2⟩, by rw [y3.1]; exact z.2.2.2.2⟩
  · have z := oHa ho
    have y := h (o + 74) (by omega) (by omega)
    exact ⟨by rw [y.1]; exact z.1, by rw [y.2]; exact z.2⟩
  · have z := oRu ho
    have y := h (o + 75) (by omega) (by omega)
    have y1 := h (o + 75 + 1) (by omega) (by omega)
    exact ⟨by rw [y.1]; exact z.1, by rw [y.2]; exact z.2.1, by rw [y.2]; exact z.2.2.1, by rw [y.2]; exact z.2.2.2.1, by rw [y1.1]; exact z.2.2.2.2⟩
  · have z := oRo ho
    unfold RoAt at z ⊢
    rw [(h (o + 77) (by omega) (by omega)).1, (h (o + 77) (by omega) (by omega)).2, (h (o + 77 + 1) (by omega) (by omega)).1, (h (o + 77 + 2) (by omega) (by omega)).1, (h (o + 77 + 3) (by omega) (by omega)).1, (h (o + 77 + 4) (by omega) (by omega)).1, (h (o + 77 + 5) (by omega) (by omega)).1, (h (o + 77 + 6) (by omega) (by omega)).1]
    exact z
theorem MoAt.x {E E' : od_E} {M : Int} (h : od_kp E E' M (M + 23)) (hm : MoAt E M) : MoAt E' M := by
  unfold MoAt at hm ⊢
  rw [(h M (by omega) (by omega)).1, (h M (by omega) (by omega)).2, (h (M + 1) (by omega) (by omega)).1, (h (M + 2) (by omega) (by omega)).1, (h (M + 3) (by omega) (by omega)).1, (h (M + 4) (by omega) (by omega)).1, (h (M + 5) (by omega) (by omega)).1, (h (M + 6) (by omega) (by omega)).1, (h (M + 7) (by omega) (by omega)).1, (h (M + 8) (by omega) (by omega)).1, (h (M + 9) (by omega) (by omega)).1, (h (M + 10) (by omega) (by omega)).1, (h (M + 11) (by omega) (by omega)).1, (h (M + 12) (by omega) (by omega)).1, (h (M + 13) (by omega) (by omega)).1, (h (M + 14) (by omega) (by omega)).1, (h (M + 15) (by omega) (by omega)).1, (h (M + 16) (by omega) (by omega)).1, (h (M + 17) (by omega) (by omega)).1, (h (M + 18) (by omega) (by omega)).1, (h (M + 19) (by omega) (by omega)).1, (h (M + 20) (by omega) (by omega)).1, (h (M + 21) (by omega) (by omega)).1, (h (M + 22) (by omega) (by omega)).1, (h (M + 23) (by omega) (by omega)).1]
  exact hm
/-- what a new text leaves as it was -/
theorem nX9_kp {E : od_E} {b c s a z : Int} (hb : (E.1.1 : Int) = b) (hz : z < b) : od_kp E (nX9 (od_nE E 9 0 8) b c s) a z := fun x x0 x1 => by
  have hE : ((od_nE E 9 0 8).1.1 : Int) = b + 1 := by show ((E.1.1 + 1 : Nat) : Int) = _; omega
  refine ⟨?_, ?_⟩
  · rw [nX9_k hE (by omega), od_nE_o (by omega)]
  · funext j
    rw [nX9_r hE (by omega) (by omega), od_nE_r (by omega)]
def LwX (o : Int) : Int → Int → Prop := fun x y => XR (o + 62) (o + 63) x y ∨ (x = o ∧ y = 16) ∨ (x = o + 60 ∧ y = 1)
def LwM (E : od_E) (g : od_G) (o er : Int) (DN : Int → Prop) (TO : Int → od_G → Prop) (E' : od_E) (w : Option od_V) (g' : od_G) : Prop :=
  (6 ≤ g (o + 1) 10 ∧ E' = E ∧ w = some (0, -5) ∧ g' = cRef (od_up g (o + 60) 1 0) o (-5)) ∨
  (g (o + 1) 10 < 6 ∧ er ≠ -1 ∧ E' = E ∧ w = some (0, -6) ∧ ∃ g1 : od_G, od_fr (LwX o) g g1 ∧ g1 o 16 = er ∧ g1 (o + 60) 1 = 0 ∧ g' = cRef g1 o (-6)) ∨
  (g (o + 1) 10 < 6 ∧ er = -1 ∧ ∃ (C : Int) (g1 g2 : od_G), DN C ∧ TO C g1 ∧ od_fr (LwX o) g g1 ∧ g1 o 16 = -1 ∧ g1 (o + 60) 1 = 0 ∧ E' = nX9 (od_nE E 9 0 8) E.1.1 (g1 (o + 63) 6) (g1 (o + 63) 7) ∧ CpQ g1 g2 (o + 63) E.1.1 ∧ w = some (0, g (o + 1) 10) ∧ g' = cAcc (od_up (od_up g2 (o + 1 + 6) (g (o + 1) 10) E.1.1) (o + 1) 10 (g (o + 1) 10 + 1)) o)
set_option maxRecDepth 20000 in
theorem c_X10_law {E : od_E} {g : od_G} {o : Int} (ho : OdAt E o) (hE : o + 86 ≤ (E.1.1 : Int)) {er : Int} {P : od_G → Prop} {DN : Int → Prop} {TO : Int → od_G → Prop} (hA : RdA E o er 1 P DN TO) (hP : P g) (h10 : 0 ≤ g (o + 1) 10 ∧ g (o + 1) 10 ≤ 6) : od_Cz 40 mX10_law [(2, o)] E g ((7, 600), LwM E g o er DN TO) := by
  have hk := (oS1 ho).1
  have r5 : E.2.2 (o + 1) 5 = o + 1 + 6 := (oS1 ho).2.2.2.2.2.2.1
  have hkt := (oTp ho).1
  have hkr := (oRd ho).1
  have hrt : E.2.2 (o + 62) 0 = o + 63 := (oRd ho).2.1
  have hTx : TxAt E (o + 63) 12 512 := (oRd ho).2.2.2.2.1
  have hkx := hTx.1
  refine od_czI pnX10 rfl (Nat.le_of_ble_eq_true rfl) ?_
  show od_Rz 40 mX10_law od_Z0 E ((7, 600), LwM E g o er DN TO) (0, 0) 0 [some (2, o)] [] E g
  refine z_aload_n dX10_law_0 rfl ?_
  refine z_getR dX10_law_1 fkX10_12 gf10_0 (oO ho) (oR0 ho) ?_
  refine z_getIj (j := 10) rfl dX10_law_4 fkX10_187 gf6_10 hk rfl ?_
  refine z_bipush dX10_law_7 lb_6 ?_
  refine z_icmp_lt (tgt := 27) dX10_law_9 rfl (fun c9 => ?_) (fun c9 => ?_)
  · refine z_aload_n dX10_law_27 rfl ?_
    refine z_aload_n dX10_law_28 rfl ?_
    refine z_getR dX10_law_29 fkX10_52 gf10_8 (oO ho) (oR8 ho) ?_
    refine z_iconst dX10_law_32 li_1 ?_
    refine z_callVq (as := [(0, 1)]) (rest := [(2, o)]) dX10_law_33 cvX10_190 hkr (hA.1 g hP) rfl (by decide) rfl (Nat.le_of_ble_eq_true rfl) ⟨by show 0 + (E.1.1 - E.1.1) ≤ 7; omega, by show 0 + (E.1.2 - E.1.2) ≤ 600; omega⟩ (fun r g33 h33 => ?_)
    obtain ⟨rfl, f33, q33⟩ := h33
    have eF : od_up (od_up g33 o 16 er) (o + 60) 1 0 o 16 = er := by rw [od_upn (by omega), od_up_i]
    by_cases hE1 : er = -1
    · obtain ⟨C, hDN, hTO⟩ := q33 hE1
      have zC := hA.2.2.1 C g33 hDN hTO
      obtain ⟨E2, hE2⟩ : ∃ z, z = nX9 (od_nE E 9 0 8) (E.1.1 : Int) (g33 (o + 63) 6) (g33 (o + 63) 7) := ⟨_, rfl⟩
      have hx := nX9_c (od_nE E 9 0 8) (E.1.1 : Int) (g33 (o + 63) 6) (g33 (o + 63) 7)
      rw [← hE2] at hx
      have x1 : E2.1.1 = E.1.1 + 7 := congrArg Prod.fst hx
      have x2 : E2.1.2 = E.1.2 + 8 + (0 + (g33 (o + 63) 6).toNat + (g33 (o + 63) 6).toNat + (g33 (o + 63) 6).toNat + (g33 (o + 63) 6).toNat + (g33 (o + 63) 6).toNat + (g33 (o + 63) 7).toNat) := congrArg Prod.snd hx
      refine z_sw (E' := E2) (Q := fun w g' => ∃ g1 g2 : od_G, TO C g1 ∧ od_fr (LwX o) g g1 ∧ g1 o 16 = -1 ∧ g1 (o + 60) 1 = 0 ∧ E2 = nX9 (od_nE E 9 0 8) E.1.1 (g1 (o + 63) 6) (g1 (o + 63) 7) ∧ CpQ g1 g2 (o + 63) E.1.1 ∧ w = some (0, g (o + 1) 10) ∧ g' = cAcc (od_up (od_up g2 (o + 1 + 6) (g (o + 1) 10) E.1.1) (o + 1) 10 (g (o + 1) 10 + 1)) o) ⟨by omega, by omega⟩ ⟨⟨by show _ ≤ 0 + (E.1.1 - E.1.1); omega, by show _ ≤ 0 + (E.1.2 - E.1.2); omega⟩, by show 0 + (E.1.1 - E.1.1) + _ ≤ 7; omega, by show 0 + (E.1.2 - E.1.2) + _ ≤ 600; omega⟩ ⟨by show 0 + (E.1.1 - E.1.1) = _; omega, by show 0 + (E.1.2 - E.1.2) = _; omega⟩ (fun r g' q => ?_) ?_
      · obtain ⟨g1, g2, q1, q2, q3, q4, q5, q6, q7, q8⟩ := q
        exact Or.inr (Or.inr ⟨c9, hE1, C, g1, g2, hDN, q1, q2, q3, q4, q5, q6, q7, q8⟩)
      show od_Rq 40 mX10_law od_Z0 E _ 36 [some (2, o)] [(0, er), (2, o)] E g33
      refine r_putIj (j := 16) rfl dX10_law_36 fkX10_100 gf10_16 pf10_16 (oO ho) ?_
      refine r_aload_n dX10_law_39 rfl ?_
      refine r_getR dX10_law_40 fkX10_43 gf10_7 (oO ho) (oR7 ho) ?_
      refine r_iconst dX10_law_43 li_0 ?_
      refine r_putIj (j := 1) rfl dX10_law_44 fkX10_177 gf8_1 pf8_1 (by assumption) ?_
      refine r_aload_n dX10_law_47 rfl ?_
      refine r_getIj (j := 16) rfl dX10_law_48 fkX10_100 gf10_16 (oO ho) (by first | exact eF | exact e10 | exact e10b | exact e10c | rfl) ?_
      refine r_iconst dX10_law_51 li_m1 ?_
      refine r_icmp_eq (tgt := 62) dX10_law_52 rfl (fun c52 => ?_) (fun h => absurd h (by omega))
      obtain ⟨gA, hgA⟩ : ∃ z, z = od_up (od_up g33 o 16 er) (o + 60) 1 0 := ⟨_, rfl⟩
      rw [← hgA]
      have fA : od_fr (LwX o) g gA := by rw [hgA]; exact ((f33.mo (fun x y z => Or.inl z)).up (by omega)).up (by omega)
      have a16 : gA o 16 = -1 := by rw [hgA, od_upn (by omega), od_up_i]; exact hE1
      have a60 : gA (o + 60) 1 = 0 := by rw [hgA, od_up_i]
      have hTOA : TO C gA := hA.2.1 _ _ _ hTO (by rw [hgA]; exact TxEq.of (X := fun x y => (x = o ∧ y = 16) ∨ (x = o + 60 ∧ y = 1)) ((od_fr.rf.up (by omega)).up (by omega)) (fun x y z => by omega))
      have zA := hA.2.2.1 C gA hDN hTOA
      have eA6 : gA (o + 63) 6 = g33 (o + 63) 6 := by rw [hgA, od_upn (by omega), od_upn (by omega)]
      have eA7 : gA (o + 63) 7 = g33 (o + 63) 7 := by rw [hgA, od_upn (by omega), od_upn (by omega)]
      have e10 : gA (o + 1) 10 = g (o + 1) 10 := fA _ _ (by unfold LwX XR; omega)
      have hcp : od_Cq 4 mX9_copied [(2, o + 63)] E gA (E2, fun v g' => v = some (2, (E.1.1 : Int)) ∧ CpQ gA g' (o + 63) E.1.1) := by
        have z := c_X9_copied (g := gA) (b := (E.1.1 : Int)) hTx rfl (by omega) (by omega) (by omega)
        rw [eA6, eA7, ← hE2] at z
        exact z
      refine r_aload_n dX10_law_62 rfl ?_
      refine r_getR dX10_law_63 fkX10_12 gf10_0 (oO ho) (oR0 ho) ?_
      refine r_getR dX10_law_66 fkX10_194 gf6_5 (by assumption) (by assumption) ?_
      refine r_aload_n dX10_law_69 rfl ?_
      refine r_getR dX10_law_70 fkX10_12 gf10_0 (oO ho) (oR0 ho) ?_
      refine r_getIj (j := 10) rfl dX10_law_73 fkX10_187 gf6_10 (by assumption) (by first | exact eF | exact e10 | exact e10b | exact e10c | rfl) ?_
      refine r_aload_n dX10_law_76 rfl ?_
      refine r_getR dX10_law_77 fkX10_52 gf10_8 (oO ho) (oR8 ho) ?_
      refine r_getR dX10_law_80 fkX10_198 gf3_0 (by assumption) (by assumption) ?_
      refine r_callVq (as := []) (rest := [(0, g (o + 1) 10), (2, o + 1 + 6)]) dX10_law_83 cvX10_202 hkx hcp rfl (by decide) rfl (Nat.le_of_ble_eq_true rfl) od_le.rf (fun r83 g83 h83 => ?_)
      have q83 := h83
      obtain ⟨rfl, _⟩ := h83
      show od_Rq _ _ _ _ _ _ _ ((2, (E.1.1 : Int)) :: _) _ _
      have ho : OdAt E2 o := by rw [hE2]; exact OdAt.x (nX9_kp rfl (by omega)) ho
      have hk := (oS1 ho).1
      have a6 : E2.2.1 (o + 1 + 6) = (24, 6) := by
        obtain ⟨hk, r0, r1, r2, r3, r4, r5, r6, r7, a1, a2, a3, a4, a5, a6, a7, a8⟩ := oS1 ho
        exact a6
      have hb9 : (E2.2.1 (E.1.1 : Int)).1 = 9 := by
        rw [hE2]
        have t1 : ((od_nE E 9 0 8).2.1 (E.1.1 : Int)).1 = 9 := by rw [od_nE_k rfl]
        exact (nX9_at t1 (by show ((E.1.1 + 1 : Nat) : Int) = _; omega) (by omega) (by omega)).1
      have f83 : od_fr (fun x _ => (E.1.1 : Int) ≤ x) gA g83 := q83.2.1
      have e10b : od_up g83 (o + 1 + 6) (g (o + 1) 10) (E.1.1 : Int) (o + 1) 10 = g (o + 1) 10 := by rw [od_upn (by omega), f83 _ _ (by omega)]; exact e10
      have e10c : od_up (od_up g83 (o + 1 + 6) (g (o + 1) 10) (E.1.1 : Int)) (o + 1) 10 (g (o + 1) 10 + 1) (o + 1) 10 = g (o + 1) 10 + 1 := od_up_i
      first | refine r_aast24 dX10_law_86 (by assumption) (by omega) (by first | assumption | grind) ?_ | refine r_aast25 dX10_law_86 (by assumption) (by omega) (by first | assumption | grind) ?_
      refine r_aload_n dX10_law_87 rfl ?_
      refine r_getR dX10_law_88 fkX10_12 gf10_0 (oO ho) (oR0 ho) ?_
      refine r_dup dX10_law_91 (by first | exact od_ne2 | exact od_ne0) ?_
      refine r_getIj (j := 10) rfl dX10_law_92 fkX10_187 gf6_10 (by assumption) (by first | exact eF | exact e10 | exact e10b | exact e10c | rfl) ?_
      refine r_iconst dX10_law_95 li_1 ?_
      refine r_iaddE dX10_law_96 (by first | exact od_w0 (by omega) (by omega) | exact od_wI (by omega) (by omega) | rfl) ?_
      refine r_putIj (j := 10) rfl dX10_law_97 fkX10_187 gf6_10 pf6_10 (by assumption) ?_
      refine r_aload_n dX10_law_100 rfl ?_
      refine r_aload_n dX10_law_101 rfl ?_
      refine r_getR dX10_law_102 fkX10_12 gf10_0 (oO ho) (oR0 ho) ?_
      refine r_getIj (j := 10) rfl dX10_law_105 fkX10_187 gf6_10 (by assumption) (by first | exact eF | exact e10 | exact e10b | exact e10c | rfl) ?_
      refine r_iconst dX10_law_108 li_1 ?_
      refine r_isubE dX10_law_109 (by first | exact od_w0 (by omega) (by omega) | exact od_wI (by omega) (by omega) | rfl) ?_
      refine r_callV1i dX10_law_110 cvX10_127 (oO ho) (c_X10_accept ho _) (by decide) (Nat.le_of_ble_eq_true rfl) od_le.rf ?_
      refine r_iretq dX10_law_113 rfl rfl ⟨gA, g83, hTOA, fA, a16, a60, by rw [hE2, eA6, eA7], q83.2, ?_, ?_⟩
      · rw [Int.add_sub_cancel]
      · rfl
    · refine z_sw (E' := E) (Q := fun w g' => w = some (0, -6) ∧ ∃ g1 : od_G, od_fr (LwX o) g g1 ∧ g1 o 16 = er ∧ g1 (o + 60) 1 = 0 ∧ g' = cRef g1 o (-6)) od_le.rf ⟨⟨by show _ ≤ 0 + (E.1.1 - E.1.1); omega, by show _ ≤ 0 + (E.1.2 - E.1.2); omega⟩, by show 0 + (E.1.1 - E.1.1) + _ ≤ 7; omega, by show 0 + (E.1.2 - E.1.2) + _ ≤ 600; omega⟩ ⟨by show 0 + (E.1.1 - E.1.1) = _; omega, by show 0 + (E.1.2 - E.1.2) = _; omega⟩ (fun r g' q => Or.inr (Or.inl ⟨c9, hE1, rfl, q⟩)) ?_
      show od_Rq 40 mX10_law od_Z0 E _ 36 [some (2, o)] [(0, er), (2, o)] E g33
      refine r_putIj (j := 16) rfl dX10_law_36 fkX10_100 gf10_16 pf10_16 (oO ho) ?_
      refine r_aload_n dX10_law_39 rfl ?_
      refine r_getR dX10_law_40 fkX10_43 gf10_7 (oO ho) (oR7 ho) ?_
      refine r_iconst dX10_law_43 li_0 ?_
      refine r_putIj (j := 1) rfl dX10_law_44 fkX10_177 gf8_1 pf8_1 (by assumption) ?_
      refine r_aload_n dX10_law_47 rfl ?_
      refine r_getIj (j := 16) rfl dX10_law_48 fkX10_100 gf10_16 (oO ho) (by exact eF) ?_
      refine r_iconst dX10_law_51 li_m1 ?_
      refine r_icmp_eq (tgt := 62) dX10_law_52 rfl (fun h => absurd h (by omega)) (fun c52 => ?_)
      refine r_aload_n dX10_law_55 rfl ?_
      refine r_bipush dX10_law_56 lb_m6 ?_
      refine r_callV1i dX10_law_58 cvX10_113 (oO ho) (c_X10_refuse ho _ (by omega)) (by decide) (Nat.le_of_ble_eq_true rfl) od_le.rf ?_
      refine r_iretq dX10_law_61 rfl rfl ⟨rfl, _, ?_, ?_, ?_, rfl⟩
      · exact ((f33.mo (fun x y z => Or.inl z)).up (by omega)).up (by omega)
      · rw [od_upn (by omega), od_up_i]
      · rw [od_up_i]
  · refine z_sw (E' := E) (Q := fun w g' => w = some (0, -5) ∧ g' = cRef (od_up g (o + 60) 1 0) o (-5)) od_le.rf ⟨⟨by show _ ≤ 0; omega, by show _ ≤ 0; omega⟩, by show 0 + _ ≤ 7; omega, by show 0 + _ ≤ 600; omega⟩ ⟨by show 0 = _; omega, by show 0 = _; omega⟩ (fun r g' q => Or.inl ⟨c9, rfl, q⟩) ?_
    show od_Rq 40 mX10_law od_Z0 E _ 12 [some (2, o)] [] E g
    refine r_aload_n dX10_law_12 rfl ?_
    refine r_getR dX10_law_13 fkX10_43 gf10_7 (oO ho) (oR7 ho) ?_
    refine r_iconst dX10_law_16 li_0 ?_
    refine r_putIj (j := 1) rfl dX10_law_17 fkX10_177 gf8_1 pf8_1 (by assumption) ?_
    refine r_aload_n dX10_law_20 rfl ?_
    refine r_bipush dX10_law_21 lb_m5 ?_
    refine r_callV1i dX10_law_23 cvX10_113 (oO ho) (c_X10_refuse ho _ (by omega)) (by decide) (Nat.le_of_ble_eq_true rfl) od_le.rf ?_
    exact r_iretq dX10_law_26 rfl rfl ⟨rfl, rfl⟩
