/-! Round.lay -/
theorem od_sum_ab (f : Int → Int) (a : Nat) : ∀ b : Nat, od_sum f (a + b) = od_sum f a + od_sum (fun e => f (e + a)) b := by
  intro b
  induction b with
  | zero => simp [od_sum]
  | succ b ih =>
    rw [show a + (b + 1) = (a + b) + 1 by omega]
    simp only [od_sum]
    rw [ih, show (((a + b : Nat) : Int)) = (b : Int) + (a : Int) by omega]
    omega
theorem od_sum_36 (f : Int → Int) {n : Int} (h : 0 ≤ n) : od_sum f (min n 3).toNat + od_sum (fun e => f (e + 3)) (n - 3).toNat = od_sum f n.toNat := by
  by_cases c : n ≤ 3
  · rw [show min n 3 = n by omega, show (n - 3).toNat = 0 by omega]
    simp [od_sum]
  · rw [show n.toNat = 3 + (n - 3).toNat by omega, od_sum_ab, show (min n 3).toNat = 3 by omega]
    rfl
theorem od_per {a h A L : Int} (ha : 0 ≤ a) (hh : 0 ≤ h) (hA : 1 ≤ A) (hd : L ∣ A) : (a + h.tmod A).tmod L = (a + h).tmod L := by
  have h1 := od_tmb hh hA
  rw [Int.tmod_eq_emod_of_nonneg (a := a + h.tmod A) (by omega), Int.tmod_eq_emod_of_nonneg (a := a + h) (by omega), Int.tmod_eq_emod_of_nonneg hh, Int.add_emod, Int.emod_emod_of_dvd _ hd, ← Int.add_emod]
theorem cBeatIn_u {g : od_G} {k d h : Int} (hI : CI g k) (hh : cHas g k d) (hs : ¬ cStop g k d) (h0 : 0 ≤ h ∧ h ≤ 100000) : cBeatIn g k d h = (g (k + 3) d + h).tmod (g (k + 1) d) := by
  have q := hI.has hh
  unfold cBeatIn
  rw [od_ite_t (by first | exact ⟨hh, by omega⟩ | skip), od_ite_f hs, od_wI (by omega) (by omega)]
/-- what drum e gives to the cell of an hour -/
noncomputable def cF (g : od_G) (k t : Int) (sn : Nat) (ws e h : Int) : Int := od_ite (cStrikes g k e h) (od_shl 1 e + 64 * od_ite (ws = 1) (cSound g k t e (cBeatIn g k e h) sn) 0) 0
theorem cF_s {g : od_G} {k t : Int} {sn : Nat} {ws e h : Int} (hs : cStop g k e) : cF g k t sn ws e h = 0 := by
  unfold cF cStrikes
  rw [od_ite_f (fun z => z.1 hs)]
theorem cF_u {g : od_G} {k t : Int} {sn : Nat} {ws e h : Int} (hs : ¬ cStop g k e) : cF g k t sn ws e h = cCl g k t sn ws e (cBeatIn g k e h) := by
  unfold cF cStrikes cCl
  by_cases c : cHasPin g k e (cBeatIn g k e h)
  · rw [od_ite_t ⟨hs, c⟩, od_ite_t c]
  · rw [od_ite_f (fun z => c z.2), od_ite_f c]
theorem cF_b (g : od_G) (k t : Int) (sn : Nat) (ws h : Int) {e : Int} (he : 0 ≤ e ∧ e < 6) : 0 ≤ cF g k t sn ws e h ∧ cF g k t sn ws e h ≤ 700 := by
  by_cases hs : cStop g k e
  · rw [cF_s hs]; omega
  · rw [cF_u hs]; exact cCl_b g k t sn ws _ he
theorem cF_per {g : od_G} {k t : Int} {sn : Nat} {ws e h A : Int} (hI : CI g k) (h0 : 0 ≤ h ∧ h ≤ 100000) (hA : 1 ≤ A) (hd : cHas g k e → ¬ cStop g k e → g (k + 1) e ∣ A) : cF g k t sn ws e (h.tmod A) = cF g k t sn ws e h := by
  by_cases hs : cStop g k e
  · rw [cF_s hs, cF_s hs]
  · by_cases hh : cHas g k e
    · have h1 := od_tmb h0.1 hA
      have h2 : h.tmod A ≤ h := by
        rcases Int.lt_or_le h A with z | z
        · rw [od_tm_lt h0.1 z]; omega
        · omega
      have := hI.has hh
      rw [cF_u hs, cF_u hs, cBeatIn_u hI hh hs h0, cBeatIn_u hI hh hs (by omega), od_per (by omega) h0.1 hA (hd hh hs)]
    · unfold cF cStrikes cHasPin
      rw [od_ite_f (fun z => hh z.2.1), od_ite_f (fun z => hh z.2.1)]
/-- the strips that are laid -/
def RdQ (g g' : od_G) (q k t : Int) (sn : Nat) (ws : Int) : Prop := g' q 9 = cRound g k 0 6 ∧ (1 ≤ g' q 7 ∧ g' q 7 ≤ 990) ∧ (1 ≤ g' q 8 ∧ g' q 8 ≤ 990) ∧ ∀ h : Int, 0 ≤ h → h ≤ 60000 → g' (q + 1) (h.tmod (g' q 7)) + g' (q + 2) (h.tmod (g' q 8)) = od_sum (fun e => cF g k t sn ws e h) (g k 8).toNat
set_option maxRecDepth 10000 in
theorem lp_X4_lay {E : od_E} {g : od_G} {s : Int} (ha : AsAt E s) {q : Int} (hq : RoAt E q s) {k : Int} (hs : StAt E k) (o1 : k + 9 ≤ s) (o2 : s + 4 ≤ q) {t : Int} {cn sn : Nat} (hlaw : LawOk E g s t cn sn) (hqt : t ≠ -1 → q + 7 ≤ t) (ws : Int) (hws : ws = 0 ∨ ws = 1) (hI : CI g k) : ∀ (m : Nat) (d : Int) (gw : od_G), (0 ≤ d ∧ d ≤ g k 8 ∧ od_fr (fun x _ => x = s + 2 ∨ x = s + 3 ∨ (q ≤ x ∧ x ≤ q + 3)) g gw ∧ (gw q 7 = cRound g k 0 3 ∧ gw q 8 = cRound g k 3 6 ∧ gw q 9 = cRound g k 0 6) ∧ (∀ h : Int, 0 ≤ h → h < cRound g k 0 3 → gw (q + 1) h = od_sum (fun e => cF g k t sn ws e h) (min d 3).toNat) ∧ (∀ h : Int, 0 ≤ h → h < cRound g k 3 6 → gw (q + 2) h = od_sum (fun e => cF g k t sn ws (e + 3) h) (d - 3).toNat)) → ((g k 8 - d).toNat) < m → od_Rq 6 mX4_lay od_Z0 E (E, fun v g' => v = none ∧ od_fr (fun x _ => x = s + 2 ∨ x = s + 3 ∨ (q ≤ x ∧ x ≤ q + 3)) g g' ∧ RdQ g g' q k t sn ws) 69 [some (2, q), some (2, k), some (2, t), some (0, ws), some (0, d)] [] E gw := by
  have ha0 := ha
  obtain ⟨hka, w0, w1, hu, w3⟩ := ha
  have hu7 := hu.1
  have hq0 := hq
  obtain ⟨hkq, qa, qb, qc, qd, qe, qf, qg, l1, l2, l3, l4, l5, l6⟩ := hq
  have hs0 := hs
  obtain ⟨hk, r0, r1, r2, r3, r4, r5, r6, r7, a1, a2, a3, a4, a5, a6, a7, a8⟩ := hs
  intro m
  induction m with
  | zero => intro d gw hi hM; exact absurd hM (Nat.not_lt_zero _)
  | succ m ih =>
    intro d gw hi hM
    obtain ⟨hi0, hi1, hfr, ⟨e7, e8, e9⟩, hA, hB⟩ := hi
    have n8 := hI.1
    have rA := hI.r1 (a := 0) (b := 3) (by omega)
    have rB := hI.r1 (a := 3) (b := 6) (by omega)
    have rA3 := hI.r3 (a := 0) (by omega)
    have rB3 := hI.r3 (a := 3) (by omega)
    have rA4 : cRound g k 0 3 ≤ 990 := rA3
    have rB4 : cRound g k 3 6 ≤ 990 := rB3
    clear rA3 rB3
    have eS : StEq g gw k := StEq.of hfr (fun x y z => by omega)
    have eT : t ≠ -1 → TxEq g gw t := fun z => TxEq.of hfr (fun x y w => by have := hqt z; omega)
    have e0 : gw k = g k := eS.1
    have sA : ∀ h : Int, 0 ≤ od_sum (fun e => cF g k t sn ws e h) (min d 3).toNat ∧ od_sum (fun e => cF g k t sn ws e h) (min d 3).toNat ≤ 2100 := fun h => by
      have := od_sum_b (f := fun e => cF g k t sn ws e h) (m := 700) (min d 3).toNat (fun i i0 i1 => cF_b g k t sn ws h (by omega))
      omega
    have sB : ∀ h : Int, 0 ≤ od_sum (fun e => cF g k t sn ws (e + 3) h) (d - 3).toNat ∧ od_sum (fun e => cF g k t sn ws (e + 3) h) (d - 3).toNat ≤ 2100 := fun h => by
      have := od_sum_b (f := fun e => cF g k t sn ws (e + 3) h) (m := 700) (d - 3).toNat (fun i i0 i1 => cF_b g k t sn ws h (by omega))
      omega
    have tA : ∀ h : Int, d < 3 → od_sum (fun e => cF g k t sn ws e h) (min (d + 1) 3).toNat = od_sum (fun e => cF g k t sn ws e h) (min d 3).toNat + cF g k t sn ws d h := fun h z => by
      rw [show min (d + 1) 3 = d + 1 by omega, show min d 3 = d by omega, od_sum_s _ hi0]
    have tA2 : ∀ h : Int, 3 ≤ d → od_sum (fun e => cF g k t sn ws e h) (min (d + 1) 3).toNat = od_sum (fun e => cF g k t sn ws e h) (min d 3).toNat := fun h z => by
      rw [show min (d + 1) 3 = 3 by omega, show min d 3 = 3 by omega]
    have tB : ∀ h : Int, 3 ≤ d → od_sum (fun e => cF g k t sn ws (e + 3) h) (d + 1 - 3).toNat = od_sum (fun e => cF g k t sn ws (e + 3) h) (d - 3).toNat + cF g k t sn ws d h := fun h z => by
      rw [show d + 1 - 3 = (d - 3) + 1 by omega, od_sum_s _ (by omega), show d - 3 + 3 = d by omega]
    have tB2 : ∀ h : Int, d < 3 → od_sum (fun e => cF g k t sn ws (e + 3) h) (d + 1 - 3).toNat = od_sum (fun e => cF g k t sn ws (e + 3) h) (d - 3).toNat := fun h z => by
      rw [show (d + 1 - 3).toNat = 0 by omega, show (d - 3).toNat = 0 by omega]
    refine r_iload dX4_lay_69 rfl ?_
    refine r_aload_n dX4_lay_71 rfl ?_
    refine r_getIj (j := 8) rfl dX4_lay_72 fkX4_64 gf6_8 (by assumption) (by (repeat (first | rewrite [od_upn (by omega)] | rewrite [od_up_at, if_pos (by omega)] | rewrite [od_up_at, if_neg (by omega)])); rfl) ?_
    rw [e0]
    refine r_icmp_ge (tgt := 148) dX4_lay_75 rfl (fun c75 => ?_) (fun c75 => ?_)
    · refine r_vretq dX4_lay_148 rfl rfl ⟨rfl, hfr, e9, by omega, by omega, fun h h0 h1 => ?_⟩
      have m1 := od_tmb (x := h) (L := cRound g k 0 3) h0 rA.1
      have m2 := od_tmb (x := h) (L := cRound g k 3 6) h0 rB.1
      rw [e7, e8, hA _ m1.1 m1.2, hB _ m2.1 m2.2, show d = g k 8 by omega, ← od_sum_36 _ n8.1]
      congr 1
      · refine od_sum_c _ (fun i i0 i1 => ?_)
        exact cF_per hI (by omega) rA.1 (fun z1 z2 => hI.rv (by omega) (by omega) z1 z2)
      · refine od_sum_c _ (fun i i0 i1 => ?_)
        exact cF_per hI (by omega) rB.1 (fun z1 z2 => hI.rv (by omega) (by omega) z1 z2)
    · refine r_iload dX4_lay_78 rfl ?_
      refine r_bipush dX4_lay_80 lb_6 ?_
      refine r_icmp_ge (tgt := 148) dX4_lay_82 rfl (fun c82 => ?_) (fun c82 => ?_)
      · refine r_vretq dX4_lay_148 rfl rfl ⟨rfl, hfr, e9, by omega, by omega, fun h h0 h1 => ?_⟩
        have m1 := od_tmb (x := h) (L := cRound g k 0 3) h0 rA.1
        have m2 := od_tmb (x := h) (L := cRound g k 3 6) h0 rB.1
        rw [e7, e8, hA _ m1.1 m1.2, hB _ m2.1 m2.2, show d = g k 8 by omega, ← od_sum_36 _ n8.1]
        congr 1
        · refine od_sum_c _ (fun i i0 i1 => ?_)
          exact cF_per hI (by omega) rA.1 (fun z1 z2 => hI.rv (by omega) (by omega) z1 z2)
        · refine od_sum_c _ (fun i i0 i1 => ?_)
          exact cF_per hI (by omega) rB.1 (fun z1 z2 => hI.rv (by omega) (by omega) z1 z2)
      · refine r_aload_n dX4_lay_85 rfl ?_
        refine r_iload dX4_lay_86 rfl ?_
        refine r_callV1b dX4_lay_88 cvX4_67 (by assumption) (c_X6_isStopped (by assumption) _) (by decide) (Nat.le_of_ble_eq_true rfl) od_le.rf (fun q88 => ?_) (fun q88 => ?_)
        · refine r_if_ne (tgt := 142) dX4_lay_91 rfl (fun _ => ?_) (fun h => absurd h (by decide))
          refine r_iincE dX4_lay_142 rfl (by decide) (by first | exact od_w0 (by omega) (by omega) | exact od_wI (by omega) (by omega) | rfl) rfl ?_
          refine r_goto (tgt := 69) dX4_lay_145 rfl ?_
          first
          | (refine ih _ _ ⟨by omega, by omega, hfr, ⟨e7, e8, e9⟩, ?_, ?_⟩ (by omega)
             · intro h h0 h1
               rcases Int.lt_or_le d 3 with z | z
               · rw [tA h z, hA h h0 h1, cF_s ((cStop_e eS d).mp q88)]; omega
               · rw [tA2 h z, hA h h0 h1]
             · intro h h0 h1
               rcases Int.lt_or_le d 3 with z | z
               · rw [tB2 h z, hB h h0 h1]
               · rw [tB h z, hB h h0 h1, cF_s ((cStop_e eS d).mp q88)]; omega)
          | (refine ih _ _ ⟨by omega, by omega, fun x y z => (cDrm_o g100 (Or.inl (by omega))).trans (ff x y z), ⟨(cDrm_o g100 (Or.inl (by omega))).trans (by rw [xq, e7]), (cDrm_o g100 (Or.inl (by omega))).trans (by rw [xq, e8]), (cDrm_o g100 (Or.inl (by omega))).trans (by rw [xq, e9])⟩, ?_, ?_⟩ (by omega)
             · intro h h0 h1
               first
               | (rw [tA h (by omega)]
                  simp only [cDrm]
                  rw [if_pos ⟨trivial, h0, h1⟩, x1, hA h h0 h1, hbt h h0 (by omega)])
               | (rw [tA2 h (by omega), cDrm_o g100 (Or.inl (by omega)), x1, hA h h0 h1])
             · intro h h0 h1
               first
               | (rw [tB2 h (by omega), cDrm_o g100 (Or.inl (by omega)), x2, hB h h0 h1])
               | (rw [tB h (by omega)]
                  simp only [cDrm]
                  rw [if_pos ⟨trivial, h0, h1⟩, x2, hB h h0 h1, hbt h h0 (by omega)]))
        · refine r_if_ne (tgt := 142) dX4_lay_91 rfl (fun h => absurd h (by decide)) (fun _ => ?_)
          have hh : cHas g k d := by unfold cHas; omega
          have ns : ¬ cStop g k d := fun z => q88 ((cStop_e eS d).mpr z)
          have hx := hI.has hh
          refine r_aload_n dX4_lay_94 rfl ?_
          refine r_aload_n dX4_lay_95 rfl ?_
          refine r_iload dX4_lay_96 rfl ?_
          refine r_aload_n dX4_lay_98 rfl ?_
          refine r_iload_n dX4_lay_99 rfl ?_
          refine r_callV4p dX4_lay_100 cvX4_71 (by assumption) (c_X4_setCells (cn := cn) (sn := sn) ha0 hq0 hs0 o1 o2 (hlaw.e eT) (fun z => Or.inr (hqt z)) ws hws d (by omega)) (by decide) (Nat.le_of_ble_eq_true rfl) od_le.rf (fun r100 g100 h100 => ?_)
          obtain ⟨rfl, f100, w100⟩ := h100
          show od_Rq _ _ _ _ _ _ _ [] _ _
          have wx : ∀ b : Int, 0 ≤ b → b < 12 → g100 (q + 3) b = cCl g k t sn ws d b := fun b b0 b1 => (w100 b b0 b1).trans (cCl_e eS eT sn ws d b)
          have x1 : g100 (q + 1) = gw (q + 1) := f100.row (fun y z => by omega)
          have x2 : g100 (q + 2) = gw (q + 2) := f100.row (fun y z => by omega)
          have xq : g100 q = gw q := f100.row (fun y z => by omega)
          have eS1 : StEq g g100 k := eS.tr (StEq.of f100 (fun x y z => by omega))
          have k1 : g100 (k + 1) = g (k + 1) := eS1.2.1
          have k3 : g100 (k + 3) = g (k + 3) := eS1.2.2.2.1
          have ff : od_fr (fun x _ => x = s + 2 ∨ x = s + 3 ∨ (q ≤ x ∧ x ≤ q + 3)) g g100 := hfr.tr (f100.mo (fun x y z => by omega))
          have hcb : ∀ b : Int, 0 ≤ b → b < 12 → 0 ≤ g100 (q + 3) b ∧ g100 (q + 3) b ≤ 1000 := fun b b0 b1 => by
            have := cCl_b g k t sn ws b (d := d) (by omega)
            rw [wx b b0 b1]
            omega
          have hbt : ∀ h : Int, 0 ≤ h → h ≤ 990 → g100 (q + 3) ((g100 (k + 3) d + h).tmod (g100 (k + 1) d)) = cF g k t sn ws d h := fun h h0 h1 => by
            have bb := od_tmb (x := g (k + 3) d + h) (L := g (k + 1) d) (by omega) (by omega)
            rw [k1, k3, wx _ (by omega) (by omega), cF_u ns, cBeatIn_u hI hh ns (by omega)]
          refine r_iload dX4_lay_103 rfl ?_
          refine r_iconst dX4_lay_105 li_3 ?_
          refine r_icmp_ge (tgt := 127) dX4_lay_106 rfl (fun c106 => ?_) (fun c106 => ?_)
          · refine r_aload_n dX4_lay_127 rfl ?_
            refine r_aload_n dX4_lay_128 rfl ?_
            refine r_iload dX4_lay_129 rfl ?_
            refine r_aload_n dX4_lay_131 rfl ?_
            refine r_getR dX4_lay_132 fkX4_15 gf4_2 (by assumption) (by assumption) ?_
            refine r_aload_n dX4_lay_135 rfl ?_
            refine r_getIj (j := 8) rfl dX4_lay_136 fkX4_35 gf4_8 (by assumption) (by (repeat (first | rewrite [od_upn (by omega)] | rewrite [od_up_at, if_pos (by omega)] | rewrite [od_up_at, if_neg (by omega)])); rfl) ?_
            rw [xq, e8]
            refine r_callV4v dX4_lay_139 cvX4_75 (by assumption) (c_X4_layDrum hq0 hs0 o1 o2 d (by omega) l2 (by omega) (by omega) (by rw [k1]; omega) (by rw [k1, k3]; omega) hcb (fun y y0 y1 => by have := sB y; rw [x2, hB y y0 (by omega)]; omega)) (by decide) (Nat.le_of_ble_eq_true rfl) od_le.rf ?_
            refine r_iincE dX4_lay_142 rfl (by decide) (by first | exact od_w0 (by omega) (by omega) | exact od_wI (by omega) (by omega) | rfl) rfl ?_
            refine r_goto (tgt := 69) dX4_lay_145 rfl ?_
            first
            | (refine ih _ _ ⟨by omega, by omega, hfr, ⟨e7, e8, e9⟩, ?_, ?_⟩ (by omega)
               · intro h h0 h1
                 rcases Int.lt_or_le d 3 with z | z
                 · rw [tA h z, hA h h0 h1, cF_s ((cStop_e eS d).mp q88)]; omega
                 · rw [tA2 h z, hA h h0 h1]
               · intro h h0 h1
                 rcases Int.lt_or_le d 3 with z | z
                 · rw [tB2 h z, hB h h0 h1]
                 · rw [tB h z, hB h h0 h1, cF_s ((cStop_e eS d).mp q88)]; omega)
            | (refine ih _ _ ⟨by omega, by omega, fun x y z => (cDrm_o g100 (Or.inl (by omega))).trans (ff x y z), ⟨(cDrm_o g100 (Or.inl (by omega))).trans (by rw [xq, e7]), (cDrm_o g100 (Or.inl (by omega))).trans (by rw [xq, e8]), (cDrm_o g100 (Or.inl (by omega))).trans (by rw [xq, e9])⟩, ?_, ?_⟩ (by omega)
               · intro h h0 h1
                 first
                 | (rw [tA h (by omega)]
                    simp only [cDrm]
                    rw [if_pos ⟨trivial, h0, h1⟩, x1, hA h h0 h1, hbt h h0 (by omega)])
                 | (rw [tA2 h (by omega), cDrm_o g100 (Or.inl (by omega)), x1, hA h h0 h1])
               · intro h h0 h1
                 first
                 | (rw [tB2 h (by omega), cDrm_o g100 (Or.inl (by omega)), x2, hB h h0 h1])
                 | (rw [tB h (by omega)]
                    simp only [cDrm]
                    rw [if_pos ⟨trivial, h0, h1⟩, x2, hB h h0 h1, hbt h h0 (by omega)]))
          · refine r_aload_n dX4_lay_109 rfl ?_
            refine r_aload_n dX4_lay_110 rfl ?_
            refine r_iload dX4_lay_111 rfl ?_
            refine r_aload_n dX4_lay_113 rfl ?_
            refine r_getR dX4_lay_114 fkX4_11 gf4_1 (by assumption) (by assumption) ?_
            refine r_aload_n dX4_lay_117 rfl ?_
            refine r_getIj (j := 7) rfl dX4_lay_118 fkX4_31 gf4_7 (by assumption) (by (repeat (first | rewrite [od_upn (by omega)] | rewrite [od_up_at, if_pos (by omega)] | rewrite [od_up_at, if_neg (by omega)])); rfl) ?_
            rw [xq, e7]
            refine r_callV4v dX4_lay_121 cvX4_75 (by assumption) (c_X4_layDrum hq0 hs0 o1 o2 d (by omega) l1 (by omega) (by omega) (by rw [k1]; omega) (by rw [k1, k3]; omega) hcb (fun y y0 y1 => by have := sA y; rw [x1, hA y y0 (by omega)]; omega)) (by decide) (Nat.le_of_ble_eq_true rfl) od_le.rf ?_
            refine r_goto (tgt := 142) dX4_lay_124 rfl ?_
            refine r_iincE dX4_lay_142 rfl (by decide) (by first | exact od_w0 (by omega) (by omega) | exact od_wI (by omega) (by omega) | rfl) rfl ?_
            refine r_goto (tgt := 69) dX4_lay_145 rfl ?_
            first
            | (refine ih _ _ ⟨by omega, by omega, hfr, ⟨e7, e8, e9⟩, ?_, ?_⟩ (by omega)
               · intro h h0 h1
                 rcases Int.lt_or_le d 3 with z | z
                 · rw [tA h z, hA h h0 h1, cF_s ((cStop_e eS d).mp q88)]; omega
                 · rw [tA2 h z, hA h h0 h1]
               · intro h h0 h1
                 rcases Int.lt_or_le d 3 with z | z
                 · rw [tB2 h z, hB h h0 h1]
                 · rw [tB h z, hB h h0 h1, cF_s ((cStop_e eS d).mp q88)]; omega)
            | (refine ih _ _ ⟨by omega, by omega, fun x y z => (cDrm_o g100 (Or.inl (by omega))).trans (ff x y z), ⟨(cDrm_o g100 (Or.inl (by omega))).trans (by rw [xq, e7]), (cDrm_o g100 (Or.inl (by omega))).trans (by rw [xq, e8]), (cDrm_o g100 (Or.inl (by omega))).trans (by rw [xq, e9])⟩, ?_, ?_⟩ (by omega)
               · intro h h0 h1
                 first
                 | (rw [tA h (by omega)]
                    simp only [cDrm]
                    rw [if_pos ⟨trivial, h0, h1⟩, x1, hA h h0 h1, hbt h h0 (by omega)])
                 | (rw [tA2 h (by omega), cDrm_o g100 (Or.inl (by omega)), x1, hA h h0 h1])
               · intro h h0 h1
                 first
                 | (rw [tB2 h (by omega), cDrm_o g100 (Or.inl (by omega)), x2, hB h h0 h1])
                 | (rw [tB h (by omega)]
                    simp only [cDrm]
                    rw [if_pos ⟨trivial, h0, h1⟩, x2, hB h h0 h1, hbt h h0 (by omega)]))
set_option maxRecDepth 10000 in
theorem c_X4_lay {E : od_E} {g : od_G} {s : Int} (ha : AsAt E s) {q : Int} (hq : RoAt E q s) {k : Int} (hs : StAt E k) (o1 : k + 9 ≤ s) (o2 : s + 4 ≤ q) {t : Int} {cn sn : Nat} (hlaw : LawOk E g s t cn sn) (hqt : t ≠ -1 → q + 7 ≤ t) (ws : Int) (hws : ws = 0 ∨ ws = 1) (hI : CI g k) : od_Cq 6 mX4_lay [(2, q), (2, k), (2, t), (0, ws)] E g (E, fun v g' => v = none ∧ od_fr (fun x _ => x = s + 2 ∨ x = s + 3 ∨ (q ≤ x ∧ x ≤ q + 3)) g g' ∧ RdQ g g' q k t sn ws) := by
  have ha0 := ha
  obtain ⟨hka, w0, w1, hu, w3⟩ := ha
  have hu7 := hu.1
  have hq0 := hq
  obtain ⟨hkq, qa, qb, qc, qd, qe, qf, qg, l1, l2, l3, l4, l5, l6⟩ := hq
  have hs0 := hs
  obtain ⟨hk, r0, r1, r2, r3, r4, r5, r6, r7, a1, a2, a3, a4, a5, a6, a7, a8⟩ := hs
  refine od_cqI pnX4 rfl (Nat.le_of_ble_eq_true rfl) od_le.rf ?_
  show od_Rq 6 mX4_lay od_Z0 E (E, fun v g' => v = none ∧ od_fr (fun x _ => x = s + 2 ∨ x = s + 3 ∨ (q ≤ x ∧ x ≤ q + 3)) g g' ∧ RdQ g g' q k t sn ws) 0 [some (2, q), some (2, k), some (2, t), some (0, ws), none] [] E g
  have n8 := hI.1
  have rA := hI.r1 (a := 0) (b := 3) (by omega)
  have rB := hI.r1 (a := 3) (b := 6) (by omega)
  have rA3 := hI.r3 (a := 0) (by omega)
  have rB3 := hI.r3 (a := 3) (by omega)
  have rA4 : cRound g k 0 3 ≤ 990 := rA3
  have rB4 : cRound g k 3 6 ≤ 990 := rB3
  clear rA3 rB3
  have E1 : ∀ (g' : od_G) (a b : Int), StEq g g' k → cRound g' k a b = cRound g k a b := fun g' a b e => by
    unfold cRound
    generalize (b - a).toNat = f
    generalize (1 : Int) = h
    induction f generalizing a h with
    | zero => rfl
    | succ f ih =>
      simp only [cRoundF]
      rw [ih, propext (cHas_e e a), propext (cStop_e e a), e.2.1]
  refine r_aload_n dX4_lay_0 rfl ?_
  refine r_aload_n dX4_lay_1 rfl ?_
  refine r_iconst dX4_lay_2 li_0 ?_
  refine r_bipush dX4_lay_3 lb_6 ?_
  refine r_callV2i dX4_lay_5 cvX4_49 (by assumption) (c_X6_roundOf (by assumption) _ _ (by omega)) (by decide) (Nat.le_of_ble_eq_true rfl) od_le.rf ?_
  refine r_putIj (j := 9) rfl dX4_lay_8 fkX4_38 gf4_9 pf4_9 (by assumption) ?_
  refine r_aload_n dX4_lay_11 rfl ?_
  refine r_aload_n dX4_lay_12 rfl ?_
  refine r_iconst dX4_lay_13 li_0 ?_
  refine r_iconst dX4_lay_14 li_3 ?_
  refine r_callV2i dX4_lay_15 cvX4_49 (by assumption) (c_X6_roundOf (by assumption) _ _ (by omega)) (by decide) (Nat.le_of_ble_eq_true rfl) od_le.rf ?_
  rw [E1 _ _ _ (StEq.of (od_fr.up (X := (fun x _ => x = s + 2 ∨ x = s + 3 ∨ (q ≤ x ∧ x ≤ q + 3))) (a := q) (j := 9) (v := cRound g k 0 6) od_fr.rf (by omega)) (fun x y z => by omega))]
  refine r_sipush dX4_lay_18 ls_990 ?_
  refine r_mmin dX4_lay_21 lkX4_55 (by decide) (Nat.le_of_ble_eq_true rfl) ?_
  rw [show min (cRound g k 0 3) 990 = cRound g k 0 3 by omega]
  refine r_putIj (j := 7) rfl dX4_lay_24 fkX4_31 gf4_7 pf4_7 (by assumption) ?_
  refine r_aload_n dX4_lay_27 rfl ?_
  refine r_aload_n dX4_lay_28 rfl ?_
  refine r_iconst dX4_lay_29 li_3 ?_
  refine r_bipush dX4_lay_30 lb_6 ?_
  refine r_callV2i dX4_lay_32 cvX4_49 (by assumption) (c_X6_roundOf (by assumption) _ _ (by omega)) (by decide) (Nat.le_of_ble_eq_true rfl) od_le.rf ?_
  rw [E1 _ _ _ (StEq.of (X := (fun x _ => x = s + 2 ∨ x = s + 3 ∨ (q ≤ x ∧ x ≤ q + 3))) ((od_fr.up (a := q) (j := 9) (v := cRound g k 0 6) od_fr.rf (by omega)).up (a := q) (j := 7) (v := cRound g k 0 3) (by omega)) (fun x y z => by omega))]
  refine r_sipush dX4_lay_35 ls_990 ?_
  refine r_mmin dX4_lay_38 lkX4_55 (by decide) (Nat.le_of_ble_eq_true rfl) ?_
  rw [show min (cRound g k 3 6) 990 = cRound g k 3 6 by omega]
  refine r_putIj (j := 8) rfl dX4_lay_41 fkX4_35 gf4_8 pf4_8 (by assumption) ?_
  refine r_aload_n dX4_lay_44 rfl ?_
  refine r_getR dX4_lay_45 fkX4_11 gf4_1 (by assumption) (by assumption) ?_
  refine r_aload_n dX4_lay_48 rfl ?_
  refine r_getIj (j := 7) rfl dX4_lay_49 fkX4_31 gf4_7 (by assumption) (by (repeat (first | rewrite [od_upn (by omega)] | rewrite [od_up_at, if_pos (by omega)] | rewrite [od_up_at, if_neg (by omega)] | (unfold cClr; rewrite [if_neg (by omega)]))); rfl) ?_
  refine r_callS2v dX4_lay_52 csX4_60 (c_X4_clear l1 (by omega) (by decide)) (by decide) (Nat.le_of_ble_eq_true rfl) od_le.rf ?_
  refine r_aload_n dX4_lay_55 rfl ?_
  refine r_getR dX4_lay_56 fkX4_15 gf4_2 (by assumption) (by assumption) ?_
  refine r_aload_n dX4_lay_59 rfl ?_
  refine r_getIj (j := 8) rfl dX4_lay_60 fkX4_35 gf4_8 (by assumption) (by (repeat (first | rewrite [od_upn (by omega)] | rewrite [od_up_at, if_pos (by omega)] | rewrite [od_up_at, if_neg (by omega)] | (unfold cClr; rewrite [if_neg (by omega)]))); rfl) ?_
  refine r_callS2v dX4_lay_63 csX4_60 (c_X4_clear l2 (by omega) (by decide)) (by decide) (Nat.le_of_ble_eq_true rfl) od_le.rf ?_
  refine r_iconst dX4_lay_66 li_0 ?_
  refine r_istore dX4_lay_67 (by decide) rfl ?_
  refine lp_X4_lay ha0 hq0 hs0 o1 o2 hlaw hqt ws hws hI _ _ _ ⟨by omega, by omega, ?_, ⟨?_, ?_, ?_⟩, ?_, ?_⟩ (Nat.lt_succ_self _)
  · intro x y z
    simp only [cClr, od_up]
    rw [if_neg (by omega), if_neg (by omega), if_neg (by omega), if_neg (by omega), if_neg (by omega)]
  · simp only [cClr, od_up]
    rw [if_neg (by omega), if_neg (by omega)]
    simp
  · simp only [cClr, od_up]
    rw [if_neg (by omega), if_neg (by omega)]
    simp
  · simp only [cClr, od_up]
    rw [if_neg (by omega), if_neg (by omega)]
    simp
  · intro h h0 h1
    simp only [cClr]
    rw [if_neg (by omega), if_pos ⟨trivial, h0, by omega⟩]
    rfl
  · intro h h0 h1
    simp only [cClr]
    rw [if_pos ⟨trivial, h0, by omega⟩]
    rfl
