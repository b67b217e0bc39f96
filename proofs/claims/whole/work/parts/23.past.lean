/-! OrganDrums$Past, OrganDrums$Tape -/
def PaAt (E : od_E) (p : Int) : Prop := (E.2.1 p).1 = 2 ∧ E.2.2 p 0 = p + 1 ∧ E.2.2 p 1 = p + 2 ∧ E.2.2 p 2 = p + 3 ∧ E.2.2 p 3 = p + 4 ∧ E.2.2 p 4 = p + 5
  ∧ E.2.1 (p + 1) = (20, 16) ∧ E.2.1 (p + 2) = (20, 16) ∧ E.2.1 (p + 3) = (20, 16) ∧ E.2.1 (p + 4) = (20, 96) ∧ E.2.1 (p + 5) = (20, 96)
def TaAt (E : od_E) (t : Int) : Prop := (E.2.1 t).1 = 8 ∧ E.2.2 t 0 = t + 1 ∧ E.2.1 (t + 1) = (20, 400)
def cClear (g : od_G) (p : Int) : od_G := od_up (od_up g p 5 0) p 6 0
/-- a row of n numbers from another row's place f, to place o -/
def od_cq (g : od_G) (a o b f n : Int) : od_G := fun x y => if x = a ∧ o ≤ y ∧ y < o + n then g b (y - o + f) else g x y
theorem od_cq_0 (g : od_G) (a o b f : Int) : od_cq g a o b f 0 = g := by
  funext x y
  unfold od_cq
  rw [if_neg (by omega)]
theorem od_cq_00 (w : od_G) (a b c d e f g h : Int) : w = od_cq (od_cq w a b c d 0) e f g h 0 := by rw [od_cq_0, od_cq_0]
def cKeepS (g : od_G) (p : Int) : Int := (g p 5 + g p 6).tmod 16
def cKeepT (g : od_G) (p k kd : Int) : od_G := fun x y =>
  if x = p ∧ y = 6 then g p 6 + 1
  else if x = p + 1 ∧ y = cKeepS g p then kd else if x = p + 2 ∧ y = cKeepS g p then g (k + 5) 0 else if x = p + 3 ∧ y = cKeepS g p then g k 9
  else if x = p + 4 ∧ 6 * cKeepS g p ≤ y ∧ y < 6 * cKeepS g p + 6 then g (k + 3) (y - 6 * cKeepS g p)
  else if x = p + 5 ∧ 6 * cKeepS g p ≤ y ∧ y < 6 * cKeepS g p + 6 then g (k + 4) (y - 6 * cKeepS g p) else g x y
def cKeep (g : od_G) (p k kd : Int) : od_G := if 16 ≤ g p 6 then cKeepT (od_up (od_up g p 5 ((g p 5 + 1).tmod 16)) p 6 15) p k kd else cKeepT g p k kd
def cGiveS (g : od_G) (p : Int) : Int := (g p 5 + (g p 6 - 1)).tmod 16
def cGive (g : od_G) (p k : Int) : od_G := fun x y =>
  if x = p ∧ y = 6 then g p 6 - 1 else if x = k + 5 ∧ y = 0 then g (p + 2) (cGiveS g p) else if x = k ∧ y = 9 then g (p + 3) (cGiveS g p)
  else if x = k + 3 ∧ 0 ≤ y ∧ y < 6 then g (p + 4) (y + 6 * cGiveS g p) else if x = k + 4 ∧ 0 ≤ y ∧ y < 6 then g (p + 5) (y + 6 * cGiveS g p) else g x y
theorem od_tm16 {x : Int} (h : 0 ≤ x) : 0 ≤ x.tmod 16 ∧ x.tmod 16 < 16 := ⟨Int.tmod_nonneg 16 h, Int.tmod_lt_of_pos x (by omega)⟩
set_option maxRecDepth 10000 in
theorem c_X2_clear {E : od_E} {g : od_G} {p : Int} (hp : PaAt E p) : od_Ct 1 mX2_clear [(2, p)] E g (none, E, cClear g p) := by
  have hp0 := hp
  obtain ⟨hkp, p0, p1, p2, p3, p4, d1, d2, d3, d4, d5⟩ := hp
  refine od_ctI pnX2 rfl (Nat.le_of_ble_eq_true rfl) od_le.rf ?_
  show od_R _ _ _ _ _ 0 [some (2, p)] [] E g
  refine r_aload_n dX2_clear_0 rfl ?_
  refine r_iconst dX2_clear_1 li_0 ?_
  refine r_putIj (j := 5) rfl dX2_clear_2 fkX2_27 gf2_5 pf2_5 (by assumption) ?_
  refine r_aload_n dX2_clear_5 rfl ?_
  refine r_iconst dX2_clear_6 li_0 ?_
  refine r_putIj (j := 6) rfl dX2_clear_7 fkX2_31 gf2_6 pf2_6 (by assumption) ?_
  exact r_vret dX2_clear_10 rfl (by rfl)
set_option maxRecDepth 10000 in
theorem lp_X2_keep {E : od_E} {g g2 : od_G} {p : Int} (hp : PaAt E p) {k : Int} (hs : StAt E k) (hne : k + 9 ≤ p ∨ p + 6 ≤ k) (kd s : Int) (h0 : 0 ≤ s ∧ s < 16) (hx : g2 = od_cq (od_cq g (p + 4) (6 * s) (k + 3) 0 6) (p + 5) (6 * s) (k + 4) 0 6) : ∀ (m : Nat) (i : Int) (gw : od_G), (0 ≤ i ∧ i ≤ 6 ∧ gw = od_cq (od_cq g (p + 4) (6 * s) (k + 3) 0 i) (p + 5) (6 * s) (k + 4) 0 i) → ((6 - i).toNat) < m → od_R 1 mX2_keep od_Z0 E (none, E, g2) 83 [some (2, p), some (0, kd), some (2, k), some (0, s), some (0, i)] [] E gw := by
  have hp0 := hp
  obtain ⟨hkp, p0, p1, p2, p3, p4, d1, d2, d3, d4, d5⟩ := hp
  have hs0 := hs
  obtain ⟨hk, r0, r1, r2, r3, r4, r5, r6, r7, a1, a2, a3, a4, a5, a6, a7, a8⟩ := hs
  intro m
  induction m with
  | zero => intro i gw hi hM; exact absurd hM (Nat.not_lt_zero _)
  | succ m ih =>
    intro i gw hi hM
    obtain ⟨hi0, hi6, rfl⟩ := hi
    refine r_iload dX2_keep_83 rfl ?_
    refine r_bipush dX2_keep_85 lb_6 ?_
    refine r_icmp_ge (tgt := 134) dX2_keep_87 rfl (fun c87 => ?_) (fun c87 => ?_)
    · exact r_vret dX2_keep_134 rfl (by rw [hx, show i = 6 by omega])
    · refine r_aload_n dX2_keep_90 rfl ?_
      refine r_getR dX2_keep_91 fkX2_21 gf2_3 (by assumption) (by assumption) ?_
      refine r_iload_n dX2_keep_94 rfl ?_
      refine r_bipush dX2_keep_95 lb_6 ?_
      refine r_imulE dX2_keep_97 (by first | exact od_w0 (by omega) (by omega) | exact od_wI (by omega) (by omega) | rfl) ?_
      refine r_iload dX2_keep_98 rfl ?_
      refine r_iaddE dX2_keep_100 (by first | exact od_w0 (by omega) (by omega) | exact od_wI (by omega) (by omega) | rfl) ?_
      refine r_aload_n dX2_keep_101 rfl ?_
      refine r_getR dX2_keep_102 fkX2_41 gf6_2 (by assumption) (by assumption) ?_
      refine r_iload dX2_keep_105 rfl ?_
      refine r_iald dX2_keep_107 (by assumption) (by omega) (by (repeat (first | rewrite [od_upn (by omega)] | rewrite [od_up_at, if_pos (by omega)] | rewrite [od_up_at, if_neg (by omega)])); rfl) ?_
      refine r_iast dX2_keep_108 (by assumption) (by omega) ?_
      refine r_aload_n dX2_keep_109 rfl ?_
      refine r_getR dX2_keep_110 fkX2_24 gf2_4 (by assumption) (by assumption) ?_
      refine r_iload_n dX2_keep_113 rfl ?_
      refine r_bipush dX2_keep_114 lb_6 ?_
      refine r_imulE dX2_keep_116 (by first | exact od_w0 (by omega) (by omega) | exact od_wI (by omega) (by omega) | rfl) ?_
      refine r_iload dX2_keep_117 rfl ?_
      refine r_iaddE dX2_keep_119 (by first | exact od_w0 (by omega) (by omega) | exact od_wI (by omega) (by omega) | rfl) ?_
      refine r_aload_n dX2_keep_120 rfl ?_
      refine r_getR dX2_keep_121 fkX2_42 gf6_3 (by assumption) (by assumption) ?_
      refine r_iload dX2_keep_124 rfl ?_
      refine r_iald dX2_keep_126 (by assumption) (by omega) (by (repeat (first | rewrite [od_upn (by omega)] | rewrite [od_up_at, if_pos (by omega)] | rewrite [od_up_at, if_neg (by omega)])); rfl) ?_
      refine r_iast dX2_keep_127 (by assumption) (by omega) ?_
      refine r_iincE dX2_keep_128 rfl (by decide) (by first | exact od_w0 (by omega) (by omega) | exact od_wI (by omega) (by omega) | rfl) rfl ?_
      refine r_goto (tgt := 83) dX2_keep_131 rfl ?_
      refine ih (i + 1) _ ⟨by omega, by omega, ?_⟩ (by omega)
      clear ih hx hs0 hk r0 r1 r2 r3 r4 r5 r6 r7 a1 a2 a3 a4 a5 a6 a7 a8 hp0 hkp p0 p1 p2 p3 p4 d1 d2 d3 d4 d5
      funext x y
      simp only [od_cq, od_up]
      grind (splits := 40)
set_option maxRecDepth 10000 in
theorem sg_X2_keep {E : od_E} {g : od_G} {p : Int} (hp : PaAt E p) {k : Int} (hs : StAt E k) (hne : k + 9 ≤ p ∨ p + 6 ≤ k) (kd : Int) (h5 : 0 ≤ g p 5 ∧ g p 5 < 16) (h6 : 0 ≤ g p 6 ∧ g p 6 ≤ 15) (L3 L4 : Option od_V) : od_R 1 mX2_keep od_Z0 E (none, E, cKeepT g p k kd) 28 [some (2, p), some (0, kd), some (2, k), L3, L4] [] E g := by
  have hp0 := hp
  obtain ⟨hkp, p0, p1, p2, p3, p4, d1, d2, d3, d4, d5⟩ := hp
  have hs0 := hs
  obtain ⟨hk, r0, r1, r2, r3, r4, r5, r6, r7, a1, a2, a3, a4, a5, a6, a7, a8⟩ := hs
  refine r_aload_n dX2_keep_28 rfl ?_
  refine r_getIj (j := 5) rfl dX2_keep_29 fkX2_27 gf2_5 (by assumption) (by (repeat (first | rewrite [od_upn (by omega)] | rewrite [od_up_at, if_pos (by omega)] | rewrite [od_up_at, if_neg (by omega)])); rfl) ?_
  refine r_aload_n dX2_keep_32 rfl ?_
  refine r_getIj (j := 6) rfl dX2_keep_33 fkX2_31 gf2_6 (by assumption) (by (repeat (first | rewrite [od_upn (by omega)] | rewrite [od_up_at, if_pos (by omega)] | rewrite [od_up_at, if_neg (by omega)])); rfl) ?_
  refine r_iaddE dX2_keep_36 (by first | exact od_w0 (by omega) (by omega) | exact od_wI (by omega) (by omega) | rfl) ?_
  refine r_bipush dX2_keep_37 lb_16 ?_
  refine r_irem dX2_keep_39 (by first | decide | omega) ?_
  have t2 := od_tm16 (x := g p 5 + g p 6) (by omega)
  refine r_istore_n dX2_keep_40 (by decide) rfl ?_
  refine r_aload_n dX2_keep_41 rfl ?_
  refine r_dup dX2_keep_42 (by first | exact od_ne2 | exact od_ne0) ?_
  refine r_getIj (j := 6) rfl dX2_keep_43 fkX2_31 gf2_6 (by assumption) (by (repeat (first | rewrite [od_upn (by omega)] | rewrite [od_up_at, if_pos (by omega)] | rewrite [od_up_at, if_neg (by omega)])); rfl) ?_
  refine r_iconst dX2_keep_46 li_1 ?_
  refine r_iaddE dX2_keep_47 (by first | exact od_w0 (by omega) (by omega) | exact od_wI (by omega) (by omega) | rfl) ?_
  refine r_putIj (j := 6) rfl dX2_keep_48 fkX2_31 gf2_6 pf2_6 (by assumption) ?_
  refine r_aload_n dX2_keep_51 rfl ?_
  refine r_getR dX2_keep_52 fkX2_9 gf2_0 (by assumption) (by assumption) ?_
  refine r_iload_n dX2_keep_55 rfl ?_
  refine r_iload_n dX2_keep_56 rfl ?_
  refine r_iast dX2_keep_57 (by assumption) (by omega) ?_
  refine r_aload_n dX2_keep_58 rfl ?_
  refine r_getR dX2_keep_59 fkX2_15 gf2_1 (by assumption) (by assumption) ?_
  refine r_iload_n dX2_keep_62 rfl ?_
  refine r_aload_n dX2_keep_63 rfl ?_
  refine r_getR dX2_keep_64 fkX2_34 gf6_4 (by assumption) (by assumption) ?_
  refine r_iconst dX2_keep_67 li_0 ?_
  refine r_iald dX2_keep_68 (by assumption) (by omega) (by (repeat (first | rewrite [od_upn (by omega)] | rewrite [od_up_at, if_pos (by omega)] | rewrite [od_up_at, if_neg (by omega)])); rfl) ?_
  refine r_iast dX2_keep_69 (by assumption) (by omega) ?_
  refine r_aload_n dX2_keep_70 rfl ?_
  refine r_getR dX2_keep_71 fkX2_18 gf2_2 (by assumption) (by assumption) ?_
  refine r_iload_n dX2_keep_74 rfl ?_
  refine r_aload_n dX2_keep_75 rfl ?_
  refine r_getIj (j := 9) rfl dX2_keep_76 fkX2_39 gf6_9 (by assumption) (by (repeat (first | rewrite [od_upn (by omega)] | rewrite [od_up_at, if_pos (by omega)] | rewrite [od_up_at, if_neg (by omega)])); rfl) ?_
  refine r_iast dX2_keep_79 (by assumption) (by omega) ?_
  refine r_iconst dX2_keep_80 li_0 ?_
  refine r_istore dX2_keep_81 (by decide) rfl ?_
  exact lp_X2_keep hp0 hs0 hne kd _ (by omega) (by clear hs0 hk r0 r1 r2 r3 r4 r5 r6 r7 a1 a2 a3 a4 a5 a6 a7 a8 hp0 hkp p0 p1 p2 p3 p4 d1 d2 d3 d4 d5; funext x y; simp only [cKeepT, cKeepS, od_cq, od_up]; grind (splits := 60)) _ _ _ ⟨by omega, by omega, od_cq_00 _ _ _ _ _ _ _ _ _⟩ (Nat.lt_succ_self _)
set_option maxRecDepth 10000 in
theorem c_X2_keep {E : od_E} {g : od_G} {p : Int} (hp : PaAt E p) {k : Int} (hs : StAt E k) (hne : k + 9 ≤ p ∨ p + 6 ≤ k) (kd : Int) (h5 : 0 ≤ g p 5 ∧ g p 5 < 16) (h6 : 0 ≤ g p 6 ∧ g p 6 ≤ 16) : od_Ct 1 mX2_keep [(2, p), (0, kd), (2, k)] E g (none, E, cKeep g p k kd) := by
  have hp0 := hp
  obtain ⟨hkp, p0, p1, p2, p3, p4, d1, d2, d3, d4, d5⟩ := hp
  have hs0 := hs
  obtain ⟨hk, r0, r1, r2, r3, r4, r5, r6, r7, a1, a2, a3, a4, a5, a6, a7, a8⟩ := hs
  refine od_ctI pnX2 rfl (Nat.le_of_ble_eq_true rfl) od_le.rf ?_
  show od_R _ _ _ _ _ 0 [some (2, p), some (0, kd), some (2, k), none, none] [] E g
  refine r_aload_n dX2_keep_0 rfl ?_
  refine r_getIj (j := 6) rfl dX2_keep_1 fkX2_31 gf2_6 (by assumption) (by (repeat (first | rewrite [od_upn (by omega)] | rewrite [od_up_at, if_pos (by omega)] | rewrite [od_up_at, if_neg (by omega)])); rfl) ?_
  refine r_bipush dX2_keep_4 lb_16 ?_
  refine r_icmp_lt (tgt := 28) dX2_keep_6 rfl (fun c6 => ?_) (fun c6 => ?_)
  · refine cast ?_ (sg_X2_keep hp0 hs0 hne kd (by omega) (by omega) none none)
    unfold cKeep
    rw [if_neg (by omega)]
  · refine r_aload_n dX2_keep_9 rfl ?_
    refine r_aload_n dX2_keep_10 rfl ?_
    refine r_getIj (j := 5) rfl dX2_keep_11 fkX2_27 gf2_5 (by assumption) (by (repeat (first | rewrite [od_upn (by omega)] | rewrite [od_up_at, if_pos (by omega)] | rewrite [od_up_at, if_neg (by omega)])); rfl) ?_
    refine r_iconst dX2_keep_14 li_1 ?_
    refine r_iaddE dX2_keep_15 (by first | exact od_w0 (by omega) (by omega) | exact od_wI (by omega) (by omega) | rfl) ?_
    refine r_bipush dX2_keep_16 lb_16 ?_
    refine r_irem dX2_keep_18 (by first | decide | omega) ?_
    have t1 := od_tm16 (x := g p 5 + 1) (by omega)
    refine r_putIj (j := 5) rfl dX2_keep_19 fkX2_27 gf2_5 pf2_5 (by assumption) ?_
    refine r_aload_n dX2_keep_22 rfl ?_
    refine r_bipush dX2_keep_23 lb_15 ?_
    refine r_putIj (j := 6) rfl dX2_keep_25 fkX2_31 gf2_6 pf2_6 (by assumption) ?_
    refine cast ?_ (sg_X2_keep (g := od_up (od_up g p 5 ((g p 5 + 1).tmod 16)) p 6 15) hp0 hs0 hne kd (by simp [od_up]; omega) (by simp [od_up]) none none)
    unfold cKeep
    rw [if_pos (by omega)]
set_option maxRecDepth 10000 in
theorem lp_X2_give {E : od_E} {g g2 : od_G} {p : Int} (hp : PaAt E p) {k : Int} (hs : StAt E k) (hne : k + 9 ≤ p ∨ p + 6 ≤ k) (s v : Int) (h0 : 0 ≤ s ∧ s < 16) (hv : v = g (p + 1) s) (hx : g2 = od_cq (od_cq g (k + 3) 0 (p + 4) (6 * s) 6) (k + 4) 0 (p + 5) (6 * s) 6) : ∀ (m : Nat) (i : Int) (gw : od_G), (0 ≤ i ∧ i ≤ 6 ∧ gw = od_cq (od_cq g (k + 3) 0 (p + 4) (6 * s) i) (k + 4) 0 (p + 5) (6 * s) i) → ((6 - i).toNat) < m → od_R 1 mX2_giveBack od_Z0 E (some (0, v), E, g2) 56 [some (2, p), some (2, k), some (0, s), some (0, i)] [] E gw := by
  have hp0 := hp
  obtain ⟨hkp, p0, p1, p2, p3, p4, d1, d2, d3, d4, d5⟩ := hp
  have hs0 := hs
  obtain ⟨hk, r0, r1, r2, r3, r4, r5, r6, r7, a1, a2, a3, a4, a5, a6, a7, a8⟩ := hs
  intro m
  induction m with
  | zero => intro i gw hi hM; exact absurd hM (Nat.not_lt_zero _)
  | succ m ih =>
    intro i gw hi hM
    obtain ⟨hi0, hi6, rfl⟩ := hi
    refine r_iload_n dX2_giveBack_56 rfl ?_
    refine r_bipush dX2_giveBack_57 lb_6 ?_
    refine r_icmp_ge (tgt := 102) dX2_giveBack_59 rfl (fun c59 => ?_) (fun c59 => ?_)
    · refine r_aload_n dX2_giveBack_102 rfl ?_
      refine r_getR dX2_giveBack_103 fkX2_9 gf2_0 (by assumption) (by assumption) ?_
      refine r_iload_n dX2_giveBack_106 rfl ?_
      refine r_iald dX2_giveBack_107 (by assumption) (by omega) (by (repeat (first | rewrite [od_upn (by omega)] | rewrite [od_up_at, if_pos (by omega)] | rewrite [od_up_at, if_neg (by omega)])); rfl) ?_
      exact r_iret dX2_giveBack_108 rfl (by rw [hx, show i = 6 by omega, hv]; simp only [od_cq]; rw [if_neg (by omega), if_neg (by omega)])
    · refine r_aload_n dX2_giveBack_62 rfl ?_
      refine r_getR dX2_giveBack_63 fkX2_41 gf6_2 (by assumption) (by assumption) ?_
      refine r_iload_n dX2_giveBack_66 rfl ?_
      refine r_aload_n dX2_giveBack_67 rfl ?_
      refine r_getR dX2_giveBack_68 fkX2_21 gf2_3 (by assumption) (by assumption) ?_
      refine r_iload_n dX2_giveBack_71 rfl ?_
      refine r_bipush dX2_giveBack_72 lb_6 ?_
      refine r_imulE dX2_giveBack_74 (by first | exact od_w0 (by omega) (by omega) | exact od_wI (by omega) (by omega) | rfl) ?_
      refine r_iload_n dX2_giveBack_75 rfl ?_
      refine r_iaddE dX2_giveBack_76 (by first | exact od_w0 (by omega) (by omega) | exact od_wI (by omega) (by omega) | rfl) ?_
      refine r_iald dX2_giveBack_77 (by assumption) (by omega) (by (repeat (first | rewrite [od_upn (by omega)] | rewrite [od_up_at, if_pos (by omega)] | rewrite [od_up_at, if_neg (by omega)])); rfl) ?_
      refine r_iast dX2_giveBack_78 (by assumption) (by omega) ?_
      refine r_aload_n dX2_giveBack_79 rfl ?_
      refine r_getR dX2_giveBack_80 fkX2_42 gf6_3 (by assumption) (by assumption) ?_
      refine r_iload_n dX2_giveBack_83 rfl ?_
      refine r_aload_n dX2_giveBack_84 rfl ?_
      refine r_getR dX2_giveBack_85 fkX2_24 gf2_4 (by assumption) (by assumption) ?_
      refine r_iload_n dX2_giveBack_88 rfl ?_
      refine r_bipush dX2_giveBack_89 lb_6 ?_
      refine r_imulE dX2_giveBack_91 (by first | exact od_w0 (by omega) (by omega) | exact od_wI (by omega) (by omega) | rfl) ?_
      refine r_iload_n dX2_giveBack_92 rfl ?_
      refine r_iaddE dX2_giveBack_93 (by first | exact od_w0 (by omega) (by omega) | exact od_wI (by omega) (by omega) | rfl) ?_
      refine r_iald dX2_giveBack_94 (by assumption) (by omega) (by (repeat (first | rewrite [od_upn (by omega)] | rewrite [od_up_at, if_pos (by omega)] | rewrite [od_up_at, if_neg (by omega)])); rfl) ?_
      refine r_iast dX2_giveBack_95 (by assumption) (by omega) ?_
      refine r_iincE dX2_giveBack_96 rfl (by decide) (by first | exact od_w0 (by omega) (by omega) | exact od_wI (by omega) (by omega) | rfl) rfl ?_
      refine r_goto (tgt := 56) dX2_giveBack_99 rfl ?_
      refine ih (i + 1) _ ⟨by omega, by omega, ?_⟩ (by omega)
      clear ih hx hs0 hk r0 r1 r2 r3 r4 r5 r6 r7 a1 a2 a3 a4 a5 a6 a7 a8 hp0 hkp p0 p1 p2 p3 p4 d1 d2 d3 d4 d5
      funext x y
      simp only [od_cq, od_up]
      grind (splits := 40)
set_option maxRecDepth 10000 in
theorem c_X2_giveBack {E : od_E} {g : od_G} {p : Int} (hp : PaAt E p) {k : Int} (hs : StAt E k) (hne : k + 9 ≤ p ∨ p + 6 ≤ k) (h5 : 0 ≤ g p 5 ∧ g p 5 < 16) (h6 : 0 < g p 6 ∧ g p 6 ≤ 16) : od_Ct 1 mX2_giveBack [(2, p), (2, k)] E g (some (0, g (p + 1) (cGiveS g p)), E, cGive g p k) := by
  have hp0 := hp
  obtain ⟨hkp, p0, p1, p2, p3, p4, d1, d2, d3, d4, d5⟩ := hp
  have hs0 := hs
  obtain ⟨hk, r0, r1, r2, r3, r4, r5, r6, r7, a1, a2, a3, a4, a5, a6, a7, a8⟩ := hs
  refine od_ctI pnX2 rfl (Nat.le_of_ble_eq_true rfl) od_le.rf ?_
  show od_R _ _ _ _ _ 0 [some (2, p), some (2, k), none, none] [] E g
  refine r_aload_n dX2_giveBack_0 rfl ?_
  refine r_getIj (j := 6) rfl dX2_giveBack_1 fkX2_31 gf2_6 (by assumption) (by first | rw [od_up_at, if_pos rfl] | rw [od_up_at, if_neg (by omega)] | rfl) ?_
  refine r_if_gt (tgt := 9) dX2_giveBack_4 rfl (fun c4 => ?_) (fun c4 => ?_)
  · refine r_aload_n dX2_giveBack_9 rfl ?_
    refine r_dup dX2_giveBack_10 (by first | exact od_ne2 | exact od_ne0) ?_
    refine r_getIj (j := 6) rfl dX2_giveBack_11 fkX2_31 gf2_6 (by assumption) (by first | rw [od_up_at, if_pos rfl] | rw [od_up_at, if_neg (by omega)] | rfl) ?_
    refine r_iconst dX2_giveBack_14 li_1 ?_
    refine r_isubE dX2_giveBack_15 (by first | exact od_w0 (by omega) (by omega) | exact od_wI (by omega) (by omega) | rfl) ?_
    refine r_putIj (j := 6) rfl dX2_giveBack_16 fkX2_31 gf2_6 pf2_6 (by assumption) ?_
    refine r_aload_n dX2_giveBack_19 rfl ?_
    refine r_getIj (j := 5) rfl dX2_giveBack_20 fkX2_27 gf2_5 (by assumption) (by first | rw [od_up_at, if_pos rfl] | rw [od_up_at, if_neg (by omega)] | rfl) ?_
    refine r_aload_n dX2_giveBack_23 rfl ?_
    refine r_getIj (j := 6) rfl dX2_giveBack_24 fkX2_31 gf2_6 (by assumption) (by first | rw [od_up_at, if_pos rfl] | rw [od_up_at, if_neg (by omega)] | rfl) ?_
    refine r_iaddE dX2_giveBack_27 (by first | exact od_w0 (by omega) (by omega) | exact od_wI (by omega) (by omega) | rfl) ?_
    refine r_bipush dX2_giveBack_28 lb_16 ?_
    refine r_irem dX2_giveBack_30 (by first | decide | omega) ?_
    have t2 := od_tm16 (x := g p 5 + (g p 6 - 1)) (by omega)
    refine r_istore_n dX2_giveBack_31 (by decide) rfl ?_
    refine r_aload_n dX2_giveBack_32 rfl ?_
    refine r_getR dX2_giveBack_33 fkX2_34 gf6_4 (by assumption) (by assumption) ?_
    refine r_iconst dX2_giveBack_36 li_0 ?_
    refine r_aload_n dX2_giveBack_37 rfl ?_
    refine r_getR dX2_giveBack_38 fkX2_15 gf2_1 (by assumption) (by assumption) ?_
    refine r_iload_n dX2_giveBack_41 rfl ?_
    refine r_iald dX2_giveBack_42 (by assumption) (by omega) (by first | rw [od_up_at, if_pos rfl] | rw [od_up_at, if_neg (by omega)] | rfl) ?_
    refine r_iast dX2_giveBack_43 (by assumption) (by omega) ?_
    refine r_aload_n dX2_giveBack_44 rfl ?_
    refine r_aload_n dX2_giveBack_45 rfl ?_
    refine r_getR dX2_giveBack_46 fkX2_18 gf2_2 (by assumption) (by assumption) ?_
    refine r_iload_n dX2_giveBack_49 rfl ?_
    refine r_iald dX2_giveBack_50 (by assumption) (by omega) (by first | rw [od_up_at, if_pos rfl] | rw [od_up_at, if_neg (by omega)] | rfl) ?_
    refine r_putIj (j := 9) rfl dX2_giveBack_51 fkX2_39 gf6_9 pf6_9 (by assumption) ?_
    refine r_iconst dX2_giveBack_54 li_0 ?_
    refine r_istore_n dX2_giveBack_55 (by decide) rfl ?_
    exact lp_X2_give hp0 hs0 hne _ _ (by omega) (by unfold cGiveS; simp only [od_up]; rw [if_neg (by omega), if_neg (by omega), if_neg (by omega)]) (by clear hs0 hk r0 r1 r2 r3 r4 r5 r6 r7 a1 a2 a3 a4 a5 a6 a7 a8 hp0 hkp p0 p1 p2 p3 p4 d1 d2 d3 d4 d5; funext x y; simp only [cGive, cGiveS, od_cq, od_up]; grind (splits := 60)) _ _ _ ⟨by omega, by omega, od_cq_00 _ _ _ _ _ _ _ _ _⟩ (Nat.lt_succ_self _)
  · refine r_iconst dX2_giveBack_7 li_m1 ?_
    exact r_iret dX2_giveBack_8 rfl (by exfalso; omega)
