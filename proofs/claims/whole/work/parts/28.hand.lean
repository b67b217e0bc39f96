/-! OrganDrums$Hand -/
def HaAt (E : od_E) (h s : Int) : Prop := (E.2.1 h).1 = 1 ∧ E.2.2 h 0 = s
/-- drum d's numbers and the terms are as they were -/
def DrEq (g g' : od_G) (k d : Int) : Prop := g' k = g k ∧ g' (k + 1) d = g (k + 1) d ∧ g' (k + 2) d = g (k + 2) d ∧ g' (k + 3) d = g (k + 3) d ∧ g' (k + 4) d = g (k + 4) d ∧ g' (k + 5) = g (k + 5)
theorem cHas_d {g g' : od_G} {k d : Int} (h : DrEq g g' k d) : cHas g' k d ↔ cHas g k d := by unfold cHas; rw [h.1]
theorem cStop_d {g g' : od_G} {k d : Int} (h : DrEq g g' k d) : cStop g' k d ↔ cStop g k d := by unfold cStop; rw [h.1]
theorem cHasPin_d {g g' : od_G} {k d : Int} (h : DrEq g g' k d) (b : Int) : cHasPin g' k d b ↔ cHasPin g k d b := by unfold cHasPin; rw [cHas_d h, h.2.1, h.2.2.2.2.1]
theorem cBeatIn_d {g g' : od_G} {k d : Int} (h : DrEq g g' k d) (i : Int) : cBeatIn g' k d i = cBeatIn g k d i := by
  unfold cBeatIn
  rw [propext (cHas_d h), propext (cStop_d h), h.2.1, h.2.2.2.1]
theorem cStrikes_d {g g' : od_G} {k d : Int} (h : DrEq g g' k d) (i : Int) : cStrikes g' k d i ↔ cStrikes g k d i := by unfold cStrikes; rw [cStop_d h, cBeatIn_d h, cHasPin_d h]
theorem cWd_d {g g' : od_G} {k d : Int} (h : DrEq g g' k d) (b : Int) : cWd g' k d b = cWd g k d b := by unfold cWd; rw [h.2.1, h.2.2.1, h.2.2.2.2.1, h.2.2.2.2.2]
theorem cV_d {g g' : od_G} {k t d : Int} (h : DrEq g g' k d) (ht : TxEq g g' t) (b : Int) (sn : Nat) (f : Int) : cV g' k t d b sn f = cV g k t d b sn f := by unfold cV; rw [cWd_d h, ht.2.2.2.2.2.2]
theorem cHolds_d {g g' : od_G} {k t d : Int} (h : DrEq g g' k d) (ht : t ≠ -1 → TxEq g g' t) (b : Int) (sn : Nat) (kd : Int) : cHolds g' k t d b sn kd ↔ cHolds g k t d b sn kd := by
  unfold cHolds
  constructor
  · rintro ⟨q, q2, c, c0, c1, c2, c3⟩
    rw [cHas_d h] at q2
    rw [(ht q).1] at c1
    rw [(ht q).2.1] at c2
    rw [cV_d h (ht q), (ht q).2.2.2.2.2.1] at c3
    exact ⟨q, q2, c, c0, c1, c2, c3⟩
  · rintro ⟨q, q2, c, c0, c1, c2, c3⟩
    rw [← cHas_d h] at q2
    rw [← (ht q).1] at c1
    rw [← (ht q).2.1] at c2
    rw [← cV_d h (ht q), ← (ht q).2.2.2.2.2.1] at c3
    exact ⟨q, q2, c, c0, c1, c2, c3⟩
def cBadNo (kd n : Int) : Prop := (kd = 0 ∧ (n < 0 ∨ 12 ≤ n)) ∨ (kd = 1 ∧ (n < 1 ∨ 12 ≤ n))
/-- why a change can't be; 0: it can -/
noncomputable def cRefuse (g : od_G) (k kd d n : Int) (sn : Nat) : Int :=
  od_ite (kd = 3) (od_ite (999 ≤ g (k + 5) 0) (-3) 0) (od_ite (cBadNo kd n) (-1) (od_ite (cHas g k d) (od_ite (kd = 0 ∧ ¬ cHasPin g k d n ∧ (¬ cHasBeat g k d n ∨ cHolds g k (cLawOf g k (g k 11)) d n sn 2)) (-3) 0) (-2)))
def cPinG (g : od_G) (k d n : Int) : od_G := od_up g (k + 4) d (od_xor (g (k + 4) d) (od_shl 1 n))
def cShiftG (g : od_G) (k d n : Int) : od_G := od_up g (k + 3) d ((od_w (g (k + 3) d + n)).tmod (g (k + 1) d))
def cStopG (g : od_G) (k d : Int) : od_G := od_up g k 9 (od_xor (g k 9) (od_shl 1 d))
noncomputable def cTurn (g : od_G) (k kd d n : Int) : Int × od_G := if kd = 0 then (od_b (cHasPin (cPinG g k d n) k d n), cPinG g k d n) else if kd = 1 then ((od_w (g (k + 3) d + n)).tmod (g (k + 1) d), cShiftG g k d n) else (od_b (cStop (cStopG g k d) k d), cStopG g k d)
set_option maxRecDepth 10000 in
theorem c_X1_refusal {E : od_E} {g : od_G} {s : Int} (ha : AsAt E s) {h : Int} (hh : HaAt E h s) {k : Int} (hs : StAt E k) (hne : k + 9 ≤ s ∨ s + 4 ≤ k) {cn sn : Nat} (hlaw : LawOk E g s (cLawOf g k (g k 11)) cn sn) (kd d n : Int) : od_Cf 5 mX1_refusal [(2, h), (2, k), (0, kd), (0, d), (0, n)] E g (some (0, cRefuse g k kd d n sn)) (fun x _ => x = s + 2 ∨ x = s + 3) := by
  have ha0 := ha
  obtain ⟨hka, w0, w1, hu, w3⟩ := ha
  have hu7 := hu.1
  have hh0 := hh
  obtain ⟨hkh, hh1⟩ := hh
  have hs0 := hs
  obtain ⟨hk, r0, r1, r2, r3, r4, r5, r6, r7, a1, a2, a3, a4, a5, a6, a7, a8⟩ := hs
  refine od_cqI pnX1 rfl (Nat.le_of_ble_eq_true rfl) od_le.rf ?_
  show od_Rf 5 mX1_refusal od_Z0 E (some (0, cRefuse g k kd d n sn)) (fun x _ => x = s + 2 ∨ x = s + 3) g 0 [some (2, h), some (2, k), some (0, kd), some (0, d), some (0, n), none] [] E g
  refine r_iload_n dX1_refusal_0 rfl ?_
  refine r_iconst dX1_refusal_1 li_3 ?_
  refine r_icmp_ne (tgt := 24) dX1_refusal_2 rfl (fun c2 => ?_) (fun c2 => ?_)
  · refine r_iload_n dX1_refusal_24 rfl ?_
    refine r_if_ne (tgt := 40) dX1_refusal_25 rfl (fun c25 => ?_) (fun c25 => ?_)
    · refine r_iload_n dX1_refusal_40 rfl ?_
      refine r_iconst dX1_refusal_41 li_1 ?_
      refine r_icmp_ne (tgt := 60) dX1_refusal_42 rfl (fun c42 => ?_) (fun c42 => ?_)
      · refine r_aload_n dX1_refusal_60 rfl ?_
        refine r_iload_n dX1_refusal_61 rfl ?_
        refine r_callV1b dX1_refusal_62 cvX1_38 (by assumption) (c_X6_has (by assumption) _) (by decide) (Nat.le_of_ble_eq_true rfl) od_le.rf (fun q62 => ?_) (fun q62 => ?_)
        · refine r_if_ne (tgt := 71) dX1_refusal_65 rfl (fun _ => ?_) (fun h => absurd h (by decide))
          refine r_iload_n dX1_refusal_71 rfl ?_
          refine r_if_ne (tgt := 125) dX1_refusal_72 rfl (fun _ => ?_) (fun h => absurd h (by omega))
          refine r_iconst dX1_refusal_125 li_0 ?_
          exact r_iretq dX1_refusal_126 rfl rfl ⟨by unfold cRefuse; first | rw [od_ite_t (by assumption), od_ite_t (by assumption)] | rw [od_ite_t (by assumption), od_ite_f (by omega)] | (rw [od_ite_f (by assumption), od_ite_t (show cBadNo kd n by unfold cBadNo; omega)]) | (rw [od_ite_f (by assumption), od_ite_f (show ¬ cBadNo kd n by unfold cBadNo; omega)]; first | rw [od_ite_f (by assumption)] | (rw [od_ite_t (by assumption)]; first | rw [od_ite_t (by grind)] | rw [od_ite_f (by grind)])), by first | exact od_fr.rf | assumption⟩
        · refine r_if_ne (tgt := 71) dX1_refusal_65 rfl (fun h => absurd h (by decide)) (fun _ => ?_)
          refine r_bipush dX1_refusal_68 lb_m2 ?_
          exact r_iretq dX1_refusal_70 rfl rfl ⟨by unfold cRefuse; first | rw [od_ite_t (by assumption), od_ite_t (by assumption)] | rw [od_ite_t (by assumption), od_ite_f (by omega)] | (rw [od_ite_f (by assumption), od_ite_t (show cBadNo kd n by unfold cBadNo; omega)]) | (rw [od_ite_f (by assumption), od_ite_f (show ¬ cBadNo kd n by unfold cBadNo; omega)]; first | rw [od_ite_f (by assumption)] | (rw [od_ite_t (by assumption)]; first | rw [od_ite_t (by grind)] | rw [od_ite_f (by grind)])), by first | exact od_fr.rf | assumption⟩
      · refine r_iload dX1_refusal_45 rfl ?_
        refine r_iconst dX1_refusal_47 li_1 ?_
        refine r_icmp_lt (tgt := 58) dX1_refusal_48 rfl (fun c48 => ?_) (fun c48 => ?_)
        · refine r_iconst dX1_refusal_58 li_m1 ?_
          exact r_iretq dX1_refusal_59 rfl rfl ⟨by unfold cRefuse; first | rw [od_ite_t (by assumption), od_ite_t (by assumption)] | rw [od_ite_t (by assumption), od_ite_f (by omega)] | (rw [od_ite_f (by assumption), od_ite_t (show cBadNo kd n by unfold cBadNo; omega)]) | (rw [od_ite_f (by assumption), od_ite_f (show ¬ cBadNo kd n by unfold cBadNo; omega)]; first | rw [od_ite_f (by assumption)] | (rw [od_ite_t (by assumption)]; first | rw [od_ite_t (by grind)] | rw [od_ite_f (by grind)])), by first | exact od_fr.rf | assumption⟩
        · refine r_iload dX1_refusal_51 rfl ?_
          refine r_bipush dX1_refusal_53 lb_12 ?_
          refine r_icmp_lt (tgt := 60) dX1_refusal_55 rfl (fun c55 => ?_) (fun c55 => ?_)
          · refine r_aload_n dX1_refusal_60 rfl ?_
            refine r_iload_n dX1_refusal_61 rfl ?_
            refine r_callV1b dX1_refusal_62 cvX1_38 (by assumption) (c_X6_has (by assumption) _) (by decide) (Nat.le_of_ble_eq_true rfl) od_le.rf (fun q62 => ?_) (fun q62 => ?_)
            · refine r_if_ne (tgt := 71) dX1_refusal_65 rfl (fun _ => ?_) (fun h => absurd h (by decide))
              refine r_iload_n dX1_refusal_71 rfl ?_
              refine r_if_ne (tgt := 125) dX1_refusal_72 rfl (fun _ => ?_) (fun h => absurd h (by omega))
              refine r_iconst dX1_refusal_125 li_0 ?_
              exact r_iretq dX1_refusal_126 rfl rfl ⟨by unfold cRefuse; first | rw [od_ite_t (by assumption), od_ite_t (by assumption)] | rw [od_ite_t (by assumption), od_ite_f (by omega)] | (rw [od_ite_f (by assumption), od_ite_t (show cBadNo kd n by unfold cBadNo; omega)]) | (rw [od_ite_f (by assumption), od_ite_f (show ¬ cBadNo kd n by unfold cBadNo; omega)]; first | rw [od_ite_f (by assumption)] | (rw [od_ite_t (by assumption)]; first | rw [od_ite_t (by grind)] | rw [od_ite_f (by grind)])), by first | exact od_fr.rf | assumption⟩
            · refine r_if_ne (tgt := 71) dX1_refusal_65 rfl (fun h => absurd h (by decide)) (fun _ => ?_)
              refine r_bipush dX1_refusal_68 lb_m2 ?_
              exact r_iretq dX1_refusal_70 rfl rfl ⟨by unfold cRefuse; first | rw [od_ite_t (by assumption), od_ite_t (by assumption)] | rw [od_ite_t (by assumption), od_ite_f (by omega)] | (rw [od_ite_f (by assumption), od_ite_t (show cBadNo kd n by unfold cBadNo; omega)]) | (rw [od_ite_f (by assumption), od_ite_f (show ¬ cBadNo kd n by unfold cBadNo; omega)]; first | rw [od_ite_f (by assumption)] | (rw [od_ite_t (by assumption)]; first | rw [od_ite_t (by grind)] | rw [od_ite_f (by grind)])), by first | exact od_fr.rf | assumption⟩
          · refine r_iconst dX1_refusal_58 li_m1 ?_
            exact r_iretq dX1_refusal_59 rfl rfl ⟨by unfold cRefuse; first | rw [od_ite_t (by assumption), od_ite_t (by assumption)] | rw [od_ite_t (by assumption), od_ite_f (by omega)] | (rw [od_ite_f (by assumption), od_ite_t (show cBadNo kd n by unfold cBadNo; omega)]) | (rw [od_ite_f (by assumption), od_ite_f (show ¬ cBadNo kd n by unfold cBadNo; omega)]; first | rw [od_ite_f (by assumption)] | (rw [od_ite_t (by assumption)]; first | rw [od_ite_t (by grind)] | rw [od_ite_f (by grind)])), by first | exact od_fr.rf | assumption⟩
    · refine r_iload dX1_refusal_28 rfl ?_
      refine r_if_lt (tgt := 58) dX1_refusal_30 rfl (fun c30 => ?_) (fun c30 => ?_)
      · refine r_iconst dX1_refusal_58 li_m1 ?_
        exact r_iretq dX1_refusal_59 rfl rfl ⟨by unfold cRefuse; first | rw [od_ite_t (by assumption), od_ite_t (by assumption)] | rw [od_ite_t (by assumption), od_ite_f (by omega)] | (rw [od_ite_f (by assumption), od_ite_t (show cBadNo kd n by unfold cBadNo; omega)]) | (rw [od_ite_f (by assumption), od_ite_f (show ¬ cBadNo kd n by unfold cBadNo; omega)]; first | rw [od_ite_f (by assumption)] | (rw [od_ite_t (by assumption)]; first | rw [od_ite_t (by grind)] | rw [od_ite_f (by grind)])), by first | exact od_fr.rf | assumption⟩
      · refine r_iload dX1_refusal_33 rfl ?_
        refine r_bipush dX1_refusal_35 lb_12 ?_
        refine r_icmp_ge (tgt := 58) dX1_refusal_37 rfl (fun c37 => ?_) (fun c37 => ?_)
        · refine r_iconst dX1_refusal_58 li_m1 ?_
          exact r_iretq dX1_refusal_59 rfl rfl ⟨by unfold cRefuse; first | rw [od_ite_t (by assumption), od_ite_t (by assumption)] | rw [od_ite_t (by assumption), od_ite_f (by omega)] | (rw [od_ite_f (by assumption), od_ite_t (show cBadNo kd n by unfold cBadNo; omega)]) | (rw [od_ite_f (by assumption), od_ite_f (show ¬ cBadNo kd n by unfold cBadNo; omega)]; first | rw [od_ite_f (by assumption)] | (rw [od_ite_t (by assumption)]; first | rw [od_ite_t (by grind)] | rw [od_ite_f (by grind)])), by first | exact od_fr.rf | assumption⟩
        · refine r_iload_n dX1_refusal_40 rfl ?_
          refine r_iconst dX1_refusal_41 li_1 ?_
          refine r_icmp_ne (tgt := 60) dX1_refusal_42 rfl (fun _ => ?_) (fun h => absurd h (by omega))
          refine r_aload_n dX1_refusal_60 rfl ?_
          refine r_iload_n dX1_refusal_61 rfl ?_
          refine r_callV1b dX1_refusal_62 cvX1_38 (by assumption) (c_X6_has (by assumption) _) (by decide) (Nat.le_of_ble_eq_true rfl) od_le.rf (fun q62 => ?_) (fun q62 => ?_)
          · refine r_if_ne (tgt := 71) dX1_refusal_65 rfl (fun _ => ?_) (fun h => absurd h (by decide))
            refine r_iload_n dX1_refusal_71 rfl ?_
            refine r_if_ne (tgt := 125) dX1_refusal_72 rfl (fun h => absurd h (by omega)) (fun _ => ?_)
            refine r_aload_n dX1_refusal_75 rfl ?_
            refine r_iload_n dX1_refusal_76 rfl ?_
            refine r_iload dX1_refusal_77 rfl ?_
            refine r_callV2b dX1_refusal_79 cvX1_42 (by assumption) (c_X6_hasPin (by assumption) _ _) (by decide) (Nat.le_of_ble_eq_true rfl) od_le.rf (fun q79 => ?_) (fun q79 => ?_)
            · refine r_if_ne (tgt := 125) dX1_refusal_82 rfl (fun _ => ?_) (fun h => absurd h (by decide))
              refine r_iconst dX1_refusal_125 li_0 ?_
              exact r_iretq dX1_refusal_126 rfl rfl ⟨by unfold cRefuse; first | rw [od_ite_t (by assumption), od_ite_t (by assumption)] | rw [od_ite_t (by assumption), od_ite_f (by omega)] | (rw [od_ite_f (by assumption), od_ite_t (show cBadNo kd n by unfold cBadNo; omega)]) | (rw [od_ite_f (by assumption), od_ite_f (show ¬ cBadNo kd n by unfold cBadNo; omega)]; first | rw [od_ite_f (by assumption)] | (rw [od_ite_t (by assumption)]; first | rw [od_ite_t (by grind)] | rw [od_ite_f (by grind)])), by first | exact od_fr.rf | assumption⟩
            · refine r_if_ne (tgt := 125) dX1_refusal_82 rfl (fun h => absurd h (by decide)) (fun _ => ?_)
              refine r_aload_n dX1_refusal_85 rfl ?_
              refine r_aload_n dX1_refusal_86 rfl ?_
              refine r_getIj (j := 11) rfl dX1_refusal_87 fkX1_46 gf6_11 (by assumption) (by (repeat (first | rewrite [od_upn (by omega)] | rewrite [od_up_at, if_pos (by omega)] | rewrite [od_up_at, if_neg (by omega)])); rfl) ?_
              refine r_callV1i dX1_refusal_90 cvX1_50 (by assumption) (c_X6_lawOf (by assumption) _) (by decide) (Nat.le_of_ble_eq_true rfl) od_le.rf ?_
              refine r_astore dX1_refusal_93 (by decide) rfl ?_
              refine r_aload_n dX1_refusal_95 rfl ?_
              refine r_iload_n dX1_refusal_96 rfl ?_
              refine r_iload dX1_refusal_97 rfl ?_
              refine r_callV2b dX1_refusal_99 cvX1_54 (by assumption) (c_X6_hasBeat (by assumption) _ _) (by decide) (Nat.le_of_ble_eq_true rfl) od_le.rf (fun q99 => ?_) (fun q99 => ?_)
              · refine r_if_eq (tgt := 122) dX1_refusal_102 rfl (fun h => absurd h (by decide)) (fun _ => ?_)
                refine r_aload_n dX1_refusal_105 rfl ?_
                refine r_getR dX1_refusal_106 fkX1_9 gf1_0 (by assumption) (by assumption) ?_
                refine r_aload_n dX1_refusal_109 rfl ?_
                refine r_aload dX1_refusal_110 rfl ?_
                refine r_iconst dX1_refusal_112 li_2 ?_
                refine r_iload_n dX1_refusal_113 rfl ?_
                refine r_iload dX1_refusal_114 rfl ?_
                refine r_callV5g dX1_refusal_116 cvX1_57 (by assumption) (c_X0_holds (by assumption) (by assumption) (by omega) (by assumption) _ _ _) (by decide) (Nat.le_of_ble_eq_true rfl) od_le.rf (fun q116 g116 f116 => ?_) (fun q116 g116 f116 => ?_)
                · refine r_if_eq (tgt := 125) dX1_refusal_119 rfl (fun h => absurd h (by decide)) (fun _ => ?_)
                  refine r_bipush dX1_refusal_122 lb_m3 ?_
                  exact r_iretq dX1_refusal_124 rfl rfl ⟨by unfold cRefuse; first | rw [od_ite_t (by assumption), od_ite_t (by assumption)] | rw [od_ite_t (by assumption), od_ite_f (by omega)] | (rw [od_ite_f (by assumption), od_ite_t (show cBadNo kd n by unfold cBadNo; omega)]) | (rw [od_ite_f (by assumption), od_ite_f (show ¬ cBadNo kd n by unfold cBadNo; omega)]; first | rw [od_ite_f (by assumption)] | (rw [od_ite_t (by assumption)]; first | rw [od_ite_t (by grind)] | rw [od_ite_f (by grind)])), by first | exact od_fr.rf | assumption⟩
                · refine r_if_eq (tgt := 125) dX1_refusal_119 rfl (fun _ => ?_) (fun h => absurd h (by decide))
                  refine r_iconst dX1_refusal_125 li_0 ?_
                  exact r_iretq dX1_refusal_126 rfl rfl ⟨by unfold cRefuse; first | rw [od_ite_t (by assumption), od_ite_t (by assumption)] | rw [od_ite_t (by assumption), od_ite_f (by omega)] | (rw [od_ite_f (by assumption), od_ite_t (show cBadNo kd n by unfold cBadNo; omega)]) | (rw [od_ite_f (by assumption), od_ite_f (show ¬ cBadNo kd n by unfold cBadNo; omega)]; first | rw [od_ite_f (by assumption)] | (rw [od_ite_t (by assumption)]; first | rw [od_ite_t (by grind)] | rw [od_ite_f (by grind)])), by first | exact od_fr.rf | assumption⟩
              · refine r_if_eq (tgt := 122) dX1_refusal_102 rfl (fun _ => ?_) (fun h => absurd h (by decide))
                refine r_bipush dX1_refusal_122 lb_m3 ?_
                exact r_iretq dX1_refusal_124 rfl rfl ⟨by unfold cRefuse; first | rw [od_ite_t (by assumption), od_ite_t (by assumption)] | rw [od_ite_t (by assumption), od_ite_f (by omega)] | (rw [od_ite_f (by assumption), od_ite_t (show cBadNo kd n by unfold cBadNo; omega)]) | (rw [od_ite_f (by assumption), od_ite_f (show ¬ cBadNo kd n by unfold cBadNo; omega)]; first | rw [od_ite_f (by assumption)] | (rw [od_ite_t (by assumption)]; first | rw [od_ite_t (by grind)] | rw [od_ite_f (by grind)])), by first | exact od_fr.rf | assumption⟩
          · refine r_if_ne (tgt := 71) dX1_refusal_65 rfl (fun h => absurd h (by decide)) (fun _ => ?_)
            refine r_bipush dX1_refusal_68 lb_m2 ?_
            exact r_iretq dX1_refusal_70 rfl rfl ⟨by unfold cRefuse; first | rw [od_ite_t (by assumption), od_ite_t (by assumption)] | rw [od_ite_t (by assumption), od_ite_f (by omega)] | (rw [od_ite_f (by assumption), od_ite_t (show cBadNo kd n by unfold cBadNo; omega)]) | (rw [od_ite_f (by assumption), od_ite_f (show ¬ cBadNo kd n by unfold cBadNo; omega)]; first | rw [od_ite_f (by assumption)] | (rw [od_ite_t (by assumption)]; first | rw [od_ite_t (by grind)] | rw [od_ite_f (by grind)])), by first | exact od_fr.rf | assumption⟩
  · refine r_aload_n dX1_refusal_5 rfl ?_
    refine r_getR dX1_refusal_6 fkX1_32 gf6_4 (by assumption) (by assumption) ?_
    refine r_iconst dX1_refusal_9 li_0 ?_
    refine r_iald dX1_refusal_10 (by assumption) (by omega) (by (repeat (first | rewrite [od_upn (by omega)] | rewrite [od_up_at, if_pos (by omega)] | rewrite [od_up_at, if_neg (by omega)])); rfl) ?_
    refine r_sipush dX1_refusal_11 ls_999 ?_
    refine r_icmp_lt (tgt := 22) dX1_refusal_14 rfl (fun c14 => ?_) (fun c14 => ?_)
    · refine r_iconst dX1_refusal_22 li_0 ?_
      exact r_iretq dX1_refusal_23 rfl rfl ⟨by unfold cRefuse; first | rw [od_ite_t (by assumption), od_ite_t (by assumption)] | rw [od_ite_t (by assumption), od_ite_f (by omega)] | (rw [od_ite_f (by assumption), od_ite_t (show cBadNo kd n by unfold cBadNo; omega)]) | (rw [od_ite_f (by assumption), od_ite_f (show ¬ cBadNo kd n by unfold cBadNo; omega)]; first | rw [od_ite_f (by assumption)] | (rw [od_ite_t (by assumption)]; first | rw [od_ite_t (by grind)] | rw [od_ite_f (by grind)])), by first | exact od_fr.rf | assumption⟩
    · refine r_bipush dX1_refusal_17 lb_m3 ?_
      refine r_goto (tgt := 23) dX1_refusal_19 rfl ?_
      exact r_iretq dX1_refusal_23 rfl rfl ⟨by unfold cRefuse; first | rw [od_ite_t (by assumption), od_ite_t (by assumption)] | rw [od_ite_t (by assumption), od_ite_f (by omega)] | (rw [od_ite_f (by assumption), od_ite_t (show cBadNo kd n by unfold cBadNo; omega)]) | (rw [od_ite_f (by assumption), od_ite_f (show ¬ cBadNo kd n by unfold cBadNo; omega)]; first | rw [od_ite_f (by assumption)] | (rw [od_ite_t (by assumption)]; first | rw [od_ite_t (by grind)] | rw [od_ite_f (by grind)])), by first | exact od_fr.rf | assumption⟩
set_option maxRecDepth 10000 in
theorem c_X1_turn {E : od_E} {g : od_G} {s : Int} (ha : AsAt E s) {h : Int} (hh : HaAt E h s) {k : Int} (hs : StAt E k) (kd d n : Int) (hd : cHas g k d) (hl : 1 ≤ g (k + 1) d) : od_Ct 4 mX1_turn [(2, h), (2, k), (0, kd), (0, d), (0, n)] E g (some (0, (cTurn g k kd d n).1), E, (cTurn g k kd d n).2) := by
  have u0 := hd
  unfold cHas at u0
  have hh0 := hh
  obtain ⟨hkh, hh1⟩ := hh
  have hs0 := hs
  obtain ⟨hk, r0, r1, r2, r3, r4, r5, r6, r7, a1, a2, a3, a4, a5, a6, a7, a8⟩ := hs
  refine od_ctI pnX1 rfl (Nat.le_of_ble_eq_true rfl) od_le.rf ?_
  show od_R _ _ _ _ _ 0 [some (2, h), some (2, k), some (0, kd), some (0, d), some (0, n)] [] E g
  refine r_aload_n dX1_turn_0 rfl ?_
  refine r_iload_n dX1_turn_1 rfl ?_
  refine r_callV1b dX1_turn_2 cvX1_38 (by assumption) (c_X6_has (by assumption) _) (by decide) (Nat.le_of_ble_eq_true rfl) od_le.rf (fun q2 => ?_) (fun q2 => ?_)
  · refine r_if_eq (tgt := 18) dX1_turn_5 rfl (fun h => absurd h (by decide)) (fun _ => ?_)
    refine r_aload_n dX1_turn_8 rfl ?_
    refine r_getR dX1_turn_9 fkX1_63 gf6_0 (by assumption) (by assumption) ?_
    refine r_iload_n dX1_turn_12 rfl ?_
    refine r_iald dX1_turn_13 (by assumption) (by omega) (by (repeat (first | rewrite [od_upn (by omega)] | rewrite [od_up_at, if_pos (by omega)] | rewrite [od_up_at, if_neg (by omega)])); rfl) ?_
    refine r_iconst dX1_turn_14 li_1 ?_
    refine r_icmp_ge (tgt := 21) dX1_turn_15 rfl (fun c15 => ?_) (fun c15 => ?_)
    · refine r_iload_n dX1_turn_21 rfl ?_
      by_cases h0 : kd = 0
      · refine r_look (tgt := 48) (off := 26) dX1_turn_22 (by decide) (by rw [h0]; rfl) rfl ?_
        refine r_aload_n dX1_turn_48 rfl ?_
        refine r_getR dX1_turn_49 fkX1_66 gf6_3 (by assumption) (by assumption) ?_
        refine r_iload_n dX1_turn_52 rfl ?_
        refine r_dup2 dX1_turn_53 (by first | exact od_ne2 | exact od_ne0) (by first | exact od_ne2 | exact od_ne0) ?_
        refine r_iald dX1_turn_54 (by assumption) (by omega) (by (repeat (first | rewrite [od_upn (by omega)] | rewrite [od_up_at, if_pos (by omega)] | rewrite [od_up_at, if_neg (by omega)])); rfl) ?_
        refine r_iconst dX1_turn_55 li_1 ?_
        refine r_iload dX1_turn_56 rfl ?_
        refine r_ishl dX1_turn_58 ?_
        refine r_ixor dX1_turn_59 ?_
        refine r_iast dX1_turn_60 (by assumption) (by omega) ?_
        refine r_aload_n dX1_turn_61 rfl ?_
        refine r_iload_n dX1_turn_62 rfl ?_
        refine r_iload dX1_turn_63 rfl ?_
        refine r_callV2b dX1_turn_65 cvX1_42 (by assumption) (c_X6_hasPin (g := cPinG g k d n) hs0 _ _) (by decide) (Nat.le_of_ble_eq_true rfl) od_le.rf (fun q65 => ?_) (fun q65 => ?_)
        · refine r_if_eq (tgt := 75) dX1_turn_68 rfl (fun h => absurd h (by decide)) (fun _ => ?_)
          refine r_iconst dX1_turn_71 li_1 ?_
          refine r_goto (tgt := 76) dX1_turn_72 rfl ?_
          exact r_iret dX1_turn_76 rfl (by unfold cTurn; first | rw [if_pos h0, od_b_t q65] | rw [if_pos h0, od_b_f q65])
        · refine r_if_eq (tgt := 75) dX1_turn_68 rfl (fun _ => ?_) (fun h => absurd h (by decide))
          refine r_iconst dX1_turn_75 li_0 ?_
          exact r_iret dX1_turn_76 rfl (by unfold cTurn; first | rw [if_pos h0, od_b_t q65] | rw [if_pos h0, od_b_f q65])
      · by_cases h1 : kd = 1
        · refine r_look (tgt := 77) (off := 55) dX1_turn_22 (by decide) (by rw [h1]; rfl) rfl ?_
          refine r_aload_n dX1_turn_77 rfl ?_
          refine r_getR dX1_turn_78 fkX1_69 gf6_2 (by assumption) (by assumption) ?_
          refine r_iload_n dX1_turn_81 rfl ?_
          refine r_aload_n dX1_turn_82 rfl ?_
          refine r_getR dX1_turn_83 fkX1_69 gf6_2 (by assumption) (by assumption) ?_
          refine r_iload_n dX1_turn_86 rfl ?_
          refine r_iald dX1_turn_87 (by assumption) (by omega) (by (repeat (first | rewrite [od_upn (by omega)] | rewrite [od_up_at, if_pos (by omega)] | rewrite [od_up_at, if_neg (by omega)])); rfl) ?_
          refine r_iload dX1_turn_88 rfl ?_
          refine r_iaddE dX1_turn_90 (by first | exact od_w0 (by omega) (by omega) | exact od_wI (by omega) (by omega) | rfl) ?_
          refine r_aload_n dX1_turn_91 rfl ?_
          refine r_getR dX1_turn_92 fkX1_63 gf6_0 (by assumption) (by assumption) ?_
          refine r_iload_n dX1_turn_95 rfl ?_
          refine r_iald dX1_turn_96 (by assumption) (by omega) (by (repeat (first | rewrite [od_upn (by omega)] | rewrite [od_up_at, if_pos (by omega)] | rewrite [od_up_at, if_neg (by omega)])); rfl) ?_
          refine r_irem dX1_turn_97 (by first | decide | omega) ?_
          refine r_iast dX1_turn_98 (by assumption) (by omega) ?_
          refine r_aload_n dX1_turn_99 rfl ?_
          refine r_getR dX1_turn_100 fkX1_69 gf6_2 (by assumption) (by assumption) ?_
          refine r_iload_n dX1_turn_103 rfl ?_
          refine r_iald dX1_turn_104 (by assumption) (by omega) (by (repeat (first | rewrite [od_upn (by omega)] | rewrite [od_up_at, if_pos (by omega)] | rewrite [od_up_at, if_neg (by omega)])); rfl) ?_
          exact r_iret dX1_turn_105 rfl (by unfold cTurn; rw [if_neg h0, if_pos h1]; rfl)
        · refine r_look (tgt := 106) (off := 84) dX1_turn_22 (by decide) (by simp [Op.lookupswitch.offset, h0, h1]; try omega) rfl ?_
          refine r_aload_n dX1_turn_106 rfl ?_
          refine r_dup dX1_turn_107 (by first | exact od_ne2 | exact od_ne0) ?_
          refine r_getIj (j := 9) rfl dX1_turn_108 fkX1_72 gf6_9 (by assumption) (by (repeat (first | rewrite [od_upn (by omega)] | rewrite [od_up_at, if_pos (by omega)] | rewrite [od_up_at, if_neg (by omega)])); rfl) ?_
          refine r_iconst dX1_turn_111 li_1 ?_
          refine r_iload_n dX1_turn_112 rfl ?_
          refine r_ishl dX1_turn_113 ?_
          refine r_ixor dX1_turn_114 ?_
          refine r_putIj (j := 9) rfl dX1_turn_115 fkX1_72 gf6_9 pf6_9 (by assumption) ?_
          refine r_aload_n dX1_turn_118 rfl ?_
          refine r_iload_n dX1_turn_119 rfl ?_
          refine r_callV1b dX1_turn_120 cvX1_75 (by assumption) (c_X6_isStopped (g := cStopG g k d) hs0 _) (by decide) (Nat.le_of_ble_eq_true rfl) od_le.rf (fun q120 => ?_) (fun q120 => ?_)
          · refine r_if_eq (tgt := 130) dX1_turn_123 rfl (fun h => absurd h (by decide)) (fun _ => ?_)
            refine r_iconst dX1_turn_126 li_1 ?_
            refine r_goto (tgt := 131) dX1_turn_127 rfl ?_
            exact r_iret dX1_turn_131 rfl (by unfold cTurn; first | rw [if_neg h0, if_neg h1, od_b_t q120] | rw [if_neg h0, if_neg h1, od_b_f q120])
          · refine r_if_eq (tgt := 130) dX1_turn_123 rfl (fun _ => ?_) (fun h => absurd h (by decide))
            refine r_iconst dX1_turn_130 li_0 ?_
            exact r_iret dX1_turn_131 rfl (by unfold cTurn; first | rw [if_neg h0, if_neg h1, od_b_t q120] | rw [if_neg h0, if_neg h1, od_b_f q120])
    · refine r_bipush dX1_turn_18 lb_m2 ?_
      exfalso; first | omega | exact absurd hd (by assumption)
  · refine r_if_eq (tgt := 18) dX1_turn_5 rfl (fun _ => ?_) (fun h => absurd h (by decide))
    refine r_bipush dX1_turn_18 lb_m2 ?_
    exfalso; first | omega | exact absurd hd (by assumption)
/-- the answer r, and the numbers of g1 but for X -/
def od_Cw (d : Nat) (M : od_M) (as : List od_V) (E : od_E) (g : od_G) (r : Option od_V) (X : Int → Int → Prop) (g1 : od_G) : Prop := od_Cq d M as E g (E, fun v g' => v = r ∧ od_fr X g1 g')
section Rows28
variable {d : Nat} {M : od_M} {Z : od_Zt} {E0 : od_E} {res : od_Q} {pc : Nat} {L : od_L} {st : List od_V} {E : od_E} {g : od_G}
theorem r_callV0x {d' : Nat} {M' : od_M} {b : Int} {c : Nat} {i : Nat} {v : od_V} {X : Int → Int → Prop} {g1 : od_G} (hd : decode M.2.2.1 pc = .ok (.invokevirtual i, 3)) (hw : od_CV M.1 i M' c 0) (hk : (E.2.1 b).1 = c) (hc : od_Cw d' M' [(2, b)] E g (some v) X g1) (hdd : d' + 1 ≤ d) (hcat : od_cats st ≤ 8) (hle : od_le E res.1) (kk : ∀ g' : od_G, od_fr X g1 g' → od_Rq d M Z E0 res (pc + 3) L (v :: st) E g') : od_Rq d M Z E0 res pc L ((2, b) :: st) E g := r_callVq hd hw hk hc rfl hdd rfl hcat hle (fun r1 g1 h => by obtain ⟨rfl, h2⟩ := h; exact kk g1 h2)
theorem r_callV0y {d' : Nat} {M' : od_M} {b : Int} {c : Nat} {i : Nat} {X : Int → Int → Prop} {g1 : od_G} (hd : decode M.2.2.1 pc = .ok (.invokevirtual i, 3)) (hw : od_CV M.1 i M' c 0) (hk : (E.2.1 b).1 = c) (hc : od_Cw d' M' [(2, b)] E g none X g1) (hdd : d' + 1 ≤ d) (hcat : od_cats st ≤ 8) (hle : od_le E res.1) (kk : ∀ g' : od_G, od_fr X g1 g' → od_Rq d M Z E0 res (pc + 3) L st E g') : od_Rq d M Z E0 res pc L ((2, b) :: st) E g := r_callVq hd hw hk hc rfl hdd rfl hcat hle (fun r1 g1 h => by obtain ⟨rfl, h2⟩ := h; exact kk g1 h2)
theorem r_callV1x {d' : Nat} {M' : od_M} {x1 : od_V} {b : Int} {c : Nat} {i : Nat} {v : od_V} {X : Int → Int → Prop} {g1 : od_G} (hd : decode M.2.2.1 pc = .ok (.invokevirtual i, 3)) (hw : od_CV M.1 i M' c 1) (hk : (E.2.1 b).1 = c) (hc : od_Cw d' M' [(2, b), x1] E g (some v) X g1) (hdd : d' + 1 ≤ d) (hcat : od_cats st ≤ 8) (hle : od_le E res.1) (kk : ∀ g' : od_G, od_fr X g1 g' → od_Rq d M Z E0 res (pc + 3) L (v :: st) E g') : od_Rq d M Z E0 res pc L (x1 :: (2, b) :: st) E g := r_callVq hd hw hk hc rfl hdd rfl hcat hle (fun r1 g1 h => by obtain ⟨rfl, h2⟩ := h; exact kk g1 h2)
theorem r_callV1y {d' : Nat} {M' : od_M} {x1 : od_V} {b : Int} {c : Nat} {i : Nat} {X : Int → Int → Prop} {g1 : od_G} (hd : decode M.2.2.1 pc = .ok (.invokevirtual i, 3)) (hw : od_CV M.1 i M' c 1) (hk : (E.2.1 b).1 = c) (hc : od_Cw d' M' [(2, b), x1] E g none X g1) (hdd : d' + 1 ≤ d) (hcat : od_cats st ≤ 8) (hle : od_le E res.1) (kk : ∀ g' : od_G, od_fr X g1 g' → od_Rq d M Z E0 res (pc + 3) L st E g') : od_Rq d M Z E0 res pc L (x1 :: (2, b) :: st) E g := r_callVq hd hw hk hc rfl hdd rfl hcat hle (fun r1 g1 h => by obtain ⟨rfl, h2⟩ := h; exact kk g1 h2)
theorem r_callV2x {d' : Nat} {M' : od_M} {x1 x2 : od_V} {b : Int} {c : Nat} {i : Nat} {v : od_V} {X : Int → Int → Prop} {g1 : od_G} (hd : decode M.2.2.1 pc = .ok (.invokevirtual i, 3)) (hw : od_CV M.1 i M' c 2) (hk : (E.2.1 b).1 = c) (hc : od_Cw d' M' [(2, b), x1, x2] E g (some v) X g1) (hdd : d' + 1 ≤ d) (hcat : od_cats st ≤ 8) (hle : od_le E res.1) (kk : ∀ g' : od_G, od_fr X g1 g' → od_Rq d M Z E0 res (pc + 3) L (v :: st) E g') : od_Rq d M Z E0 res pc L (x2 :: x1 :: (2, b) :: st) E g := r_callVq hd hw hk hc rfl hdd rfl hcat hle (fun r1 g1 h => by obtain ⟨rfl, h2⟩ := h; exact kk g1 h2)
theorem r_callV2y {d' : Nat} {M' : od_M} {x1 x2 : od_V} {b : Int} {c : Nat} {i : Nat} {X : Int → Int → Prop} {g1 : od_G} (hd : decode M.2.2.1 pc = .ok (.invokevirtual i, 3)) (hw : od_CV M.1 i M' c 2) (hk : (E.2.1 b).1 = c) (hc : od_Cw d' M' [(2, b), x1, x2] E g none X g1) (hdd : d' + 1 ≤ d) (hcat : od_cats st ≤ 8) (hle : od_le E res.1) (kk : ∀ g' : od_G, od_fr X g1 g' → od_Rq d M Z E0 res (pc + 3) L st E g') : od_Rq d M Z E0 res pc L (x2 :: x1 :: (2, b) :: st) E g := r_callVq hd hw hk hc rfl hdd rfl hcat hle (fun r1 g1 h => by obtain ⟨rfl, h2⟩ := h; exact kk g1 h2)
theorem r_callV3x {d' : Nat} {M' : od_M} {x1 x2 x3 : od_V} {b : Int} {c : Nat} {i : Nat} {v : od_V} {X : Int → Int → Prop} {g1 : od_G} (hd : decode M.2.2.1 pc = .ok (.invokevirtual i, 3)) (hw : od_CV M.1 i M' c 3) (hk : (E.2.1 b).1 = c) (hc : od_Cw d' M' [(2, b), x1, x2, x3] E g (some v) X g1) (hdd : d' + 1 ≤ d) (hcat : od_cats st ≤ 8) (hle : od_le E res.1) (kk : ∀ g' : od_G, od_fr X g1 g' → od_Rq d M Z E0 res (pc + 3) L (v :: st) E g') : od_Rq d M Z E0 res pc L (x3 :: x2 :: x1 :: (2, b) :: st) E g := r_callVq hd hw hk hc rfl hdd rfl hcat hle (fun r1 g1 h => by obtain ⟨rfl, h2⟩ := h; exact kk g1 h2)
theorem r_callV3y {d' : Nat} {M' : od_M} {x1 x2 x3 : od_V} {b : Int} {c : Nat} {i : Nat} {X : Int → Int → Prop} {g1 : od_G} (hd : decode M.2.2.1 pc = .ok (.invokevirtual i, 3)) (hw : od_CV M.1 i M' c 3) (hk : (E.2.1 b).1 = c) (hc : od_Cw d' M' [(2, b), x1, x2, x3] E g none X g1) (hdd : d' + 1 ≤ d) (hcat : od_cats st ≤ 8) (hle : od_le E res.1) (kk : ∀ g' : od_G, od_fr X g1 g' → od_Rq d M Z E0 res (pc + 3) L st E g') : od_Rq d M Z E0 res pc L (x3 :: x2 :: x1 :: (2, b) :: st) E g := r_callVq hd hw hk hc rfl hdd rfl hcat hle (fun r1 g1 h => by obtain ⟨rfl, h2⟩ := h; exact kk g1 h2)
theorem r_callV4x {d' : Nat} {M' : od_M} {x1 x2 x3 x4 : od_V} {b : Int} {c : Nat} {i : Nat} {v : od_V} {X : Int → Int → Prop} {g1 : od_G} (hd : decode M.2.2.1 pc = .ok (.invokevirtual i, 3)) (hw : od_CV M.1 i M' c 4) (hk : (E.2.1 b).1 = c) (hc : od_Cw d' M' [(2, b), x1, x2, x3, x4] E g (some v) X g1) (hdd : d' + 1 ≤ d) (hcat : od_cats st ≤ 8) (hle : od_le E res.1) (kk : ∀ g' : od_G, od_fr X g1 g' → od_Rq d M Z E0 res (pc + 3) L (v :: st) E g') : od_Rq d M Z E0 res pc L (x4 :: x3 :: x2 :: x1 :: (2, b) :: st) E g := r_callVq hd hw hk hc rfl hdd rfl hcat hle (fun r1 g1 h => by obtain ⟨rfl, h2⟩ := h; exact kk g1 h2)
theorem r_callV4y {d' : Nat} {M' : od_M} {x1 x2 x3 x4 : od_V} {b : Int} {c : Nat} {i : Nat} {X : Int → Int → Prop} {g1 : od_G} (hd : decode M.2.2.1 pc = .ok (.invokevirtual i, 3)) (hw : od_CV M.1 i M' c 4) (hk : (E.2.1 b).1 = c) (hc : od_Cw d' M' [(2, b), x1, x2, x3, x4] E g none X g1) (hdd : d' + 1 ≤ d) (hcat : od_cats st ≤ 8) (hle : od_le E res.1) (kk : ∀ g' : od_G, od_fr X g1 g' → od_Rq d M Z E0 res (pc + 3) L st E g') : od_Rq d M Z E0 res pc L (x4 :: x3 :: x2 :: x1 :: (2, b) :: st) E g := r_callVq hd hw hk hc rfl hdd rfl hcat hle (fun r1 g1 h => by obtain ⟨rfl, h2⟩ := h; exact kk g1 h2)
theorem r_callV5x {d' : Nat} {M' : od_M} {x1 x2 x3 x4 x5 : od_V} {b : Int} {c : Nat} {i : Nat} {v : od_V} {X : Int → Int → Prop} {g1 : od_G} (hd : decode M.2.2.1 pc = .ok (.invokevirtual i, 3)) (hw : od_CV M.1 i M' c 5) (hk : (E.2.1 b).1 = c) (hc : od_Cw d' M' [(2, b), x1, x2, x3, x4, x5] E g (some v) X g1) (hdd : d' + 1 ≤ d) (hcat : od_cats st ≤ 8) (hle : od_le E res.1) (kk : ∀ g' : od_G, od_fr X g1 g' → od_Rq d M Z E0 res (pc + 3) L (v :: st) E g') : od_Rq d M Z E0 res pc L (x5 :: x4 :: x3 :: x2 :: x1 :: (2, b) :: st) E g := r_callVq hd hw hk hc rfl hdd rfl hcat hle (fun r1 g1 h => by obtain ⟨rfl, h2⟩ := h; exact kk g1 h2)
theorem r_callV5y {d' : Nat} {M' : od_M} {x1 x2 x3 x4 x5 : od_V} {b : Int} {c : Nat} {i : Nat} {X : Int → Int → Prop} {g1 : od_G} (hd : decode M.2.2.1 pc = .ok (.invokevirtual i, 3)) (hw : od_CV M.1 i M' c 5) (hk : (E.2.1 b).1 = c) (hc : od_Cw d' M' [(2, b), x1, x2, x3, x4, x5] E g none X g1) (hdd : d' + 1 ≤ d) (hcat : od_cats st ≤ 8) (hle : od_le E res.1) (kk : ∀ g' : od_G, od_fr X g1 g' → od_Rq d M Z E0 res (pc + 3) L st E g') : od_Rq d M Z E0 res pc L (x5 :: x4 :: x3 :: x2 :: x1 :: (2, b) :: st) E g := r_callVq hd hw hk hc rfl hdd rfl hcat hle (fun r1 g1 h => by obtain ⟨rfl, h2⟩ := h; exact kk g1 h2)
theorem r_callV6x {d' : Nat} {M' : od_M} {x1 x2 x3 x4 x5 x6 : od_V} {b : Int} {c : Nat} {i : Nat} {v : od_V} {X : Int → Int → Prop} {g1 : od_G} (hd : decode M.2.2.1 pc = .ok (.invokevirtual i, 3)) (hw : od_CV M.1 i M' c 6) (hk : (E.2.1 b).1 = c) (hc : od_Cw d' M' [(2, b), x1, x2, x3, x4, x5, x6] E g (some v) X g1) (hdd : d' + 1 ≤ d) (hcat : od_cats st ≤ 8) (hle : od_le E res.1) (kk : ∀ g' : od_G, od_fr X g1 g' → od_Rq d M Z E0 res (pc + 3) L (v :: st) E g') : od_Rq d M Z E0 res pc L (x6 :: x5 :: x4 :: x3 :: x2 :: x1 :: (2, b) :: st) E g := r_callVq hd hw hk hc rfl hdd rfl hcat hle (fun r1 g1 h => by obtain ⟨rfl, h2⟩ := h; exact kk g1 h2)
theorem r_callV6y {d' : Nat} {M' : od_M} {x1 x2 x3 x4 x5 x6 : od_V} {b : Int} {c : Nat} {i : Nat} {X : Int → Int → Prop} {g1 : od_G} (hd : decode M.2.2.1 pc = .ok (.invokevirtual i, 3)) (hw : od_CV M.1 i M' c 6) (hk : (E.2.1 b).1 = c) (hc : od_Cw d' M' [(2, b), x1, x2, x3, x4, x5, x6] E g none X g1) (hdd : d' + 1 ≤ d) (hcat : od_cats st ≤ 8) (hle : od_le E res.1) (kk : ∀ g' : od_G, od_fr X g1 g' → od_Rq d M Z E0 res (pc + 3) L st E g') : od_Rq d M Z E0 res pc L (x6 :: x5 :: x4 :: x3 :: x2 :: x1 :: (2, b) :: st) E g := r_callVq hd hw hk hc rfl hdd rfl hcat hle (fun r1 g1 h => by obtain ⟨rfl, h2⟩ := h; exact kk g1 h2)
theorem r_callS0x {d' : Nat} {M' : od_M} {i : Nat} {v : od_V} {X : Int → Int → Prop} {g1 : od_G} (hd : decode M.2.2.1 pc = .ok (.invokestatic i, 3)) (hw : od_CS M.1 i M' 0) (hc : od_Cw d' M' [] E g (some v) X g1) (hdd : d' + 1 ≤ d) (hcat : od_cats st ≤ 8) (hle : od_le E res.1) (kk : ∀ g' : od_G, od_fr X g1 g' → od_Rq d M Z E0 res (pc + 3) L (v :: st) E g') : od_Rq d M Z E0 res pc L (st) E g := r_callSq hd hw hc rfl hdd rfl hcat hle (fun r1 g1 h => by obtain ⟨rfl, h2⟩ := h; exact kk g1 h2)
theorem r_callS0y {d' : Nat} {M' : od_M} {i : Nat} {X : Int → Int → Prop} {g1 : od_G} (hd : decode M.2.2.1 pc = .ok (.invokestatic i, 3)) (hw : od_CS M.1 i M' 0) (hc : od_Cw d' M' [] E g none X g1) (hdd : d' + 1 ≤ d) (hcat : od_cats st ≤ 8) (hle : od_le E res.1) (kk : ∀ g' : od_G, od_fr X g1 g' → od_Rq d M Z E0 res (pc + 3) L st E g') : od_Rq d M Z E0 res pc L (st) E g := r_callSq hd hw hc rfl hdd rfl hcat hle (fun r1 g1 h => by obtain ⟨rfl, h2⟩ := h; exact kk g1 h2)
theorem r_callS1x {d' : Nat} {M' : od_M} {x1 : od_V} {i : Nat} {v : od_V} {X : Int → Int → Prop} {g1 : od_G} (hd : decode M.2.2.1 pc = .ok (.invokestatic i, 3)) (hw : od_CS M.1 i M' 1) (hc : od_Cw d' M' [x1] E g (some v) X g1) (hdd : d' + 1 ≤ d) (hcat : od_cats st ≤ 8) (hle : od_le E res.1) (kk : ∀ g' : od_G, od_fr X g1 g' → od_Rq d M Z E0 res (pc + 3) L (v :: st) E g') : od_Rq d M Z E0 res pc L (x1 :: st) E g := r_callSq hd hw hc rfl hdd rfl hcat hle (fun r1 g1 h => by obtain ⟨rfl, h2⟩ := h; exact kk g1 h2)
theorem r_callS1y {d' : Nat} {M' : od_M} {x1 : od_V} {i : Nat} {X : Int → Int → Prop} {g1 : od_G} (hd : decode M.2.2.1 pc = .ok (.invokestatic i, 3)) (hw : od_CS M.1 i M' 1) (hc : od_Cw d' M' [x1] E g none X g1) (hdd : d' + 1 ≤ d) (hcat : od_cats st ≤ 8) (hle : od_le E res.1) (kk : ∀ g' : od_G, od_fr X g1 g' → od_Rq d M Z E0 res (pc + 3) L st E g') : od_Rq d M Z E0 res pc L (x1 :: st) E g := r_callSq hd hw hc rfl hdd rfl hcat hle (fun r1 g1 h => by obtain ⟨rfl, h2⟩ := h; exact kk g1 h2)
theorem r_callS2x {d' : Nat} {M' : od_M} {x1 x2 : od_V} {i : Nat} {v : od_V} {X : Int → Int → Prop} {g1 : od_G} (hd : decode M.2.2.1 pc = .ok (.invokestatic i, 3)) (hw : od_CS M.1 i M' 2) (hc : od_Cw d' M' [x1, x2] E g (some v) X g1) (hdd : d' + 1 ≤ d) (hcat : od_cats st ≤ 8) (hle : od_le E res.1) (kk : ∀ g' : od_G, od_fr X g1 g' → od_Rq d M Z E0 res (pc + 3) L (v :: st) E g') : od_Rq d M Z E0 res pc L (x2 :: x1 :: st) E g := r_callSq hd hw hc rfl hdd rfl hcat hle (fun r1 g1 h => by obtain ⟨rfl, h2⟩ := h; exact kk g1 h2)
theorem r_callS2y {d' : Nat} {M' : od_M} {x1 x2 : od_V} {i : Nat} {X : Int → Int → Prop} {g1 : od_G} (hd : decode M.2.2.1 pc = .ok (.invokestatic i, 3)) (hw : od_CS M.1 i M' 2) (hc : od_Cw d' M' [x1, x2] E g none X g1) (hdd : d' + 1 ≤ d) (hcat : od_cats st ≤ 8) (hle : od_le E res.1) (kk : ∀ g' : od_G, od_fr X g1 g' → od_Rq d M Z E0 res (pc + 3) L st E g') : od_Rq d M Z E0 res pc L (x2 :: x1 :: st) E g := r_callSq hd hw hc rfl hdd rfl hcat hle (fun r1 g1 h => by obtain ⟨rfl, h2⟩ := h; exact kk g1 h2)
theorem r_callS3x {d' : Nat} {M' : od_M} {x1 x2 x3 : od_V} {i : Nat} {v : od_V} {X : Int → Int → Prop} {g1 : od_G} (hd : decode M.2.2.1 pc = .ok (.invokestatic i, 3)) (hw : od_CS M.1 i M' 3) (hc : od_Cw d' M' [x1, x2, x3] E g (some v) X g1) (hdd : d' + 1 ≤ d) (hcat : od_cats st ≤ 8) (hle : od_le E res.1) (kk : ∀ g' : od_G, od_fr X g1 g' → od_Rq d M Z E0 res (pc + 3) L (v :: st) E g') : od_Rq d M Z E0 res pc L (x3 :: x2 :: x1 :: st) E g := r_callSq hd hw hc rfl hdd rfl hcat hle (fun r1 g1 h => by obtain ⟨rfl, h2⟩ := h; exact kk g1 h2)
theorem r_callS3y {d' : Nat} {M' : od_M} {x1 x2 x3 : od_V} {i : Nat} {X : Int → Int → Prop} {g1 : od_G} (hd : decode M.2.2.1 pc = .ok (.invokestatic i, 3)) (hw : od_CS M.1 i M' 3) (hc : od_Cw d' M' [x1, x2, x3] E g none X g1) (hdd : d' + 1 ≤ d) (hcat : od_cats st ≤ 8) (hle : od_le E res.1) (kk : ∀ g' : od_G, od_fr X g1 g' → od_Rq d M Z E0 res (pc + 3) L st E g') : od_Rq d M Z E0 res pc L (x3 :: x2 :: x1 :: st) E g := r_callSq hd hw hc rfl hdd rfl hcat hle (fun r1 g1 h => by obtain ⟨rfl, h2⟩ := h; exact kk g1 h2)
theorem r_callS4x {d' : Nat} {M' : od_M} {x1 x2 x3 x4 : od_V} {i : Nat} {v : od_V} {X : Int → Int → Prop} {g1 : od_G} (hd : decode M.2.2.1 pc = .ok (.invokestatic i, 3)) (hw : od_CS M.1 i M' 4) (hc : od_Cw d' M' [x1, x2, x3, x4] E g (some v) X g1) (hdd : d' + 1 ≤ d) (hcat : od_cats st ≤ 8) (hle : od_le E res.1) (kk : ∀ g' : od_G, od_fr X g1 g' → od_Rq d M Z E0 res (pc + 3) L (v :: st) E g') : od_Rq d M Z E0 res pc L (x4 :: x3 :: x2 :: x1 :: st) E g := r_callSq hd hw hc rfl hdd rfl hcat hle (fun r1 g1 h => by obtain ⟨rfl, h2⟩ := h; exact kk g1 h2)
theorem r_callS4y {d' : Nat} {M' : od_M} {x1 x2 x3 x4 : od_V} {i : Nat} {X : Int → Int → Prop} {g1 : od_G} (hd : decode M.2.2.1 pc = .ok (.invokestatic i, 3)) (hw : od_CS M.1 i M' 4) (hc : od_Cw d' M' [x1, x2, x3, x4] E g none X g1) (hdd : d' + 1 ≤ d) (hcat : od_cats st ≤ 8) (hle : od_le E res.1) (kk : ∀ g' : od_G, od_fr X g1 g' → od_Rq d M Z E0 res (pc + 3) L st E g') : od_Rq d M Z E0 res pc L (x4 :: x3 :: x2 :: x1 :: st) E g := r_callSq hd hw hc rfl hdd rfl hcat hle (fun r1 g1 h => by obtain ⟨rfl, h2⟩ := h; exact kk g1 h2)
theorem r_callS5x {d' : Nat} {M' : od_M} {x1 x2 x3 x4 x5 : od_V} {i : Nat} {v : od_V} {X : Int → Int → Prop} {g1 : od_G} (hd : decode M.2.2.1 pc = .ok (.invokestatic i, 3)) (hw : od_CS M.1 i M' 5) (hc : od_Cw d' M' [x1, x2, x3, x4, x5] E g (some v) X g1) (hdd : d' + 1 ≤ d) (hcat : od_cats st ≤ 8) (hle : od_le E res.1) (kk : ∀ g' : od_G, od_fr X g1 g' → od_Rq d M Z E0 res (pc + 3) L (v :: st) E g') : od_Rq d M Z E0 res pc L (x5 :: x4 :: x3 :: x2 :: x1 :: st) E g := r_callSq hd hw hc rfl hdd rfl hcat hle (fun r1 g1 h => by obtain ⟨rfl, h2⟩ := h; exact kk g1 h2)
theorem r_callS5y {d' : Nat} {M' : od_M} {x1 x2 x3 x4 x5 : od_V} {i : Nat} {X : Int → Int → Prop} {g1 : od_G} (hd : decode M.2.2.1 pc = .ok (.invokestatic i, 3)) (hw : od_CS M.1 i M' 5) (hc : od_Cw d' M' [x1, x2, x3, x4, x5] E g none X g1) (hdd : d' + 1 ≤ d) (hcat : od_cats st ≤ 8) (hle : od_le E res.1) (kk : ∀ g' : od_G, od_fr X g1 g' → od_Rq d M Z E0 res (pc + 3) L st E g') : od_Rq d M Z E0 res pc L (x5 :: x4 :: x3 :: x2 :: x1 :: st) E g := r_callSq hd hw hc rfl hdd rfl hcat hle (fun r1 g1 h => by obtain ⟨rfl, h2⟩ := h; exact kk g1 h2)
theorem r_callS6x {d' : Nat} {M' : od_M} {x1 x2 x3 x4 x5 x6 : od_V} {i : Nat} {v : od_V} {X : Int → Int → Prop} {g1 : od_G} (hd : decode M.2.2.1 pc = .ok (.invokestatic i, 3)) (hw : od_CS M.1 i M' 6) (hc : od_Cw d' M' [x1, x2, x3, x4, x5, x6] E g (some v) X g1) (hdd : d' + 1 ≤ d) (hcat : od_cats st ≤ 8) (hle : od_le E res.1) (kk : ∀ g' : od_G, od_fr X g1 g' → od_Rq d M Z E0 res (pc + 3) L (v :: st) E g') : od_Rq d M Z E0 res pc L (x6 :: x5 :: x4 :: x3 :: x2 :: x1 :: st) E g := r_callSq hd hw hc rfl hdd rfl hcat hle (fun r1 g1 h => by obtain ⟨rfl, h2⟩ := h; exact kk g1 h2)
theorem r_callS6y {d' : Nat} {M' : od_M} {x1 x2 x3 x4 x5 x6 : od_V} {i : Nat} {X : Int → Int → Prop} {g1 : od_G} (hd : decode M.2.2.1 pc = .ok (.invokestatic i, 3)) (hw : od_CS M.1 i M' 6) (hc : od_Cw d' M' [x1, x2, x3, x4, x5, x6] E g none X g1) (hdd : d' + 1 ≤ d) (hcat : od_cats st ≤ 8) (hle : od_le E res.1) (kk : ∀ g' : od_G, od_fr X g1 g' → od_Rq d M Z E0 res (pc + 3) L st E g') : od_Rq d M Z E0 res pc L (x6 :: x5 :: x4 :: x3 :: x2 :: x1 :: st) E g := r_callSq hd hw hc rfl hdd rfl hcat hle (fun r1 g1 h => by obtain ⟨rfl, h2⟩ := h; exact kk g1 h2)
end Rows28
