/-! OrganDrums$Sums -/
def SuAt (E : od_E) (u : Int) : Prop := (E.2.1 u).1 = 7 ∧ E.2.2 u 0 = u + 1 ∧ E.2.1 (u + 1) = (23, 64)
def cJoin (st a b : Int) : Int :=
  if st = 6 then od_wl (a + b) else if st = 7 then od_wl (a - b) else if st = 8 then od_wl (a * b)
  else if st = 9 then (if b = 0 then -2000000000 else od_wl (a.tdiv b)) else if st = 10 then (if b = 0 then -2000000000 else a.tmod b)
  else if st = 11 then (if a < b then 1 else 0) else if st = 12 then (if b < a then 1 else 0) else if st = 13 then (if a = b then 1 else 0) else -2000000000
set_option maxRecDepth 10000 in
theorem c_X7_join {E : od_E} {g : od_G} (st a b : Int) : od_Ct 1 mX7_join [(0, st), (1, a), (1, b)] E g (some (1, cJoin st a b), E, g) := by
  refine od_ctI pnX7 rfl (Nat.le_of_ble_eq_true rfl) od_le.rf ?_
  show od_R _ _ _ _ _ 0 [some (0, st), some (1, a), none, some (1, b), none] [] E g
  refine r_iload_n dX7_join_0 rfl ?_
  refine r_sw8 (t0 := 48) (t1 := 52) (t2 := 56) (t3 := 60) (t4 := 76) (t5 := 92) (t6 := 104) (t7 := 116) (td := 128) dX7_join_1 (by decide) rfl rfl rfl rfl rfl rfl rfl rfl rfl (fun c1 => ?_) (fun c1 => ?_) (fun c1 => ?_) (fun c1 => ?_) (fun c1 => ?_) (fun c1 => ?_) (fun c1 => ?_) (fun c1 => ?_) (fun c1 => ?_)
  · refine r_lload_n dX7_join_48 rfl ?_
    refine r_lload_n dX7_join_49 rfl ?_
    refine r_laddE dX7_join_50 (by first | exact od_wlI (by omega) (by omega) | rfl) ?_
    exact r_lret dX7_join_51 rfl (by unfold cJoin; grind (splits := 30))
  · refine r_lload_n dX7_join_52 rfl ?_
    refine r_lload_n dX7_join_53 rfl ?_
    refine r_lsubE dX7_join_54 (by first | exact od_wlI (by omega) (by omega) | rfl) ?_
    exact r_lret dX7_join_55 rfl (by unfold cJoin; grind (splits := 30))
  · refine r_lload_n dX7_join_56 rfl ?_
    refine r_lload_n dX7_join_57 rfl ?_
    refine r_lmulE dX7_join_58 (by first | exact od_wlI (by omega) (by omega) | rfl) ?_
    exact r_lret dX7_join_59 rfl (by unfold cJoin; grind (splits := 30))
  · refine r_lload_n dX7_join_60 rfl ?_
    refine r_lconst dX7_join_61 ll_0 ?_
    refine r_lcmp3 dX7_join_62 (fun c62 => ?_) (fun c62 => ?_) (fun c62 => ?_)
    · refine r_if_ne (tgt := 72) dX7_join_63 rfl (fun _ => ?_) (fun h => absurd h (by decide))
      refine r_lload_n dX7_join_72 rfl ?_
      refine r_lload_n dX7_join_73 rfl ?_
      refine r_ldiv dX7_join_74 (by first | decide | omega) ?_
      exact r_lret dX7_join_75 rfl (by unfold cJoin; grind (splits := 30))
    · refine r_if_ne (tgt := 72) dX7_join_63 rfl (fun h => absurd h (by decide)) (fun _ => ?_)
      refine r_ldc2 dX7_join_66 kcX7_24 lk_X7_24 ?_
      refine r_goto (tgt := 75) dX7_join_69 rfl ?_
      exact r_lret dX7_join_75 rfl (by unfold cJoin; grind (splits := 30))
    · refine r_if_ne (tgt := 72) dX7_join_63 rfl (fun _ => ?_) (fun h => absurd h (by decide))
      refine r_lload_n dX7_join_72 rfl ?_
      refine r_lload_n dX7_join_73 rfl ?_
      refine r_ldiv dX7_join_74 (by first | decide | omega) ?_
      exact r_lret dX7_join_75 rfl (by unfold cJoin; grind (splits := 30))
  · refine r_lload_n dX7_join_76 rfl ?_
    refine r_lconst dX7_join_77 ll_0 ?_
    refine r_lcmp3 dX7_join_78 (fun c78 => ?_) (fun c78 => ?_) (fun c78 => ?_)
    · refine r_if_ne (tgt := 88) dX7_join_79 rfl (fun _ => ?_) (fun h => absurd h (by decide))
      refine r_lload_n dX7_join_88 rfl ?_
      refine r_lload_n dX7_join_89 rfl ?_
      refine r_lrem dX7_join_90 (by first | decide | omega) ?_
      exact r_lret dX7_join_91 rfl (by unfold cJoin; grind (splits := 30))
    · refine r_if_ne (tgt := 88) dX7_join_79 rfl (fun h => absurd h (by decide)) (fun _ => ?_)
      refine r_ldc2 dX7_join_82 kcX7_24 lk_X7_24 ?_
      refine r_goto (tgt := 91) dX7_join_85 rfl ?_
      exact r_lret dX7_join_91 rfl (by unfold cJoin; grind (splits := 30))
    · refine r_if_ne (tgt := 88) dX7_join_79 rfl (fun _ => ?_) (fun h => absurd h (by decide))
      refine r_lload_n dX7_join_88 rfl ?_
      refine r_lload_n dX7_join_89 rfl ?_
      refine r_lrem dX7_join_90 (by first | decide | omega) ?_
      exact r_lret dX7_join_91 rfl (by unfold cJoin; grind (splits := 30))
  · refine r_lload_n dX7_join_92 rfl ?_
    refine r_lload_n dX7_join_93 rfl ?_
    refine r_lcmp3 dX7_join_94 (fun c94 => ?_) (fun c94 => ?_) (fun c94 => ?_)
    · refine r_if_ge (tgt := 102) dX7_join_95 rfl (fun h => absurd h (by decide)) (fun _ => ?_)
      refine r_lconst dX7_join_98 ll_1 ?_
      refine r_goto (tgt := 103) dX7_join_99 rfl ?_
      exact r_lret dX7_join_103 rfl (by unfold cJoin; grind (splits := 30))
    · refine r_if_ge (tgt := 102) dX7_join_95 rfl (fun _ => ?_) (fun h => absurd h (by decide))
      refine r_lconst dX7_join_102 ll_0 ?_
      exact r_lret dX7_join_103 rfl (by unfold cJoin; grind (splits := 30))
    · refine r_if_ge (tgt := 102) dX7_join_95 rfl (fun _ => ?_) (fun h => absurd h (by decide))
      refine r_lconst dX7_join_102 ll_0 ?_
      exact r_lret dX7_join_103 rfl (by unfold cJoin; grind (splits := 30))
  · refine r_lload_n dX7_join_104 rfl ?_
    refine r_lload_n dX7_join_105 rfl ?_
    refine r_lcmp3 dX7_join_106 (fun c106 => ?_) (fun c106 => ?_) (fun c106 => ?_)
    · refine r_if_le (tgt := 114) dX7_join_107 rfl (fun _ => ?_) (fun h => absurd h (by decide))
      refine r_lconst dX7_join_114 ll_0 ?_
      exact r_lret dX7_join_115 rfl (by unfold cJoin; grind (splits := 30))
    · refine r_if_le (tgt := 114) dX7_join_107 rfl (fun _ => ?_) (fun h => absurd h (by decide))
      refine r_lconst dX7_join_114 ll_0 ?_
      exact r_lret dX7_join_115 rfl (by unfold cJoin; grind (splits := 30))
    · refine r_if_le (tgt := 114) dX7_join_107 rfl (fun h => absurd h (by decide)) (fun _ => ?_)
      refine r_lconst dX7_join_110 ll_1 ?_
      refine r_goto (tgt := 115) dX7_join_111 rfl ?_
      exact r_lret dX7_join_115 rfl (by unfold cJoin; grind (splits := 30))
  · refine r_lload_n dX7_join_116 rfl ?_
    refine r_lload_n dX7_join_117 rfl ?_
    refine r_lcmp3 dX7_join_118 (fun c118 => ?_) (fun c118 => ?_) (fun c118 => ?_)
    · refine r_if_ne (tgt := 126) dX7_join_119 rfl (fun _ => ?_) (fun h => absurd h (by decide))
      refine r_lconst dX7_join_126 ll_0 ?_
      exact r_lret dX7_join_127 rfl (by unfold cJoin; grind (splits := 30))
    · refine r_if_ne (tgt := 126) dX7_join_119 rfl (fun h => absurd h (by decide)) (fun _ => ?_)
      refine r_lconst dX7_join_122 ll_1 ?_
      refine r_goto (tgt := 127) dX7_join_123 rfl ?_
      exact r_lret dX7_join_127 rfl (by unfold cJoin; grind (splits := 30))
    · refine r_if_ne (tgt := 126) dX7_join_119 rfl (fun _ => ?_) (fun h => absurd h (by decide))
      refine r_lconst dX7_join_126 ll_0 ?_
      exact r_lret dX7_join_127 rfl (by unfold cJoin; grind (splits := 30))
  · refine r_ldc2 dX7_join_128 kcX7_24 lk_X7_24 ?_
    exact r_lret dX7_join_131 rfl (by unfold cJoin; grind (splits := 30))
def od_u1 (s : Int → Int) (j x : Int) : Int → Int := fun i => if i = j then x else s i
theorem od_up_row (g : od_G) (a j x : Int) : od_up g a j x a = od_u1 (g a) j x := funext fun i => od_up_at g a j x i
/-- the steps from a place on, with a stack -/
def cRunF (sr : Int → Int) (n : Int) (wr : Int → Int) (wl : Int) : Nat → Int → Int → (Int → Int) → Int
  | 0, _, top, s => if top = 1 then od_w (s 0) else -2000000000
  | f + 1, place, top, s =>
    if place < 0 ∨ n ≤ place ∨ od_and (sr place) 15 = 0 then (if top = 1 then od_w (s 0) else -2000000000)
    else if od_and (sr place) 15 = 1 ∨ od_and (sr place) 15 = 2 then
      (if 64 ≤ top ∨ (od_and (sr place) 15 = 2 ∧ wl ≤ od_ushr (sr place) 4) then -2000000000 else cRunF sr n wr wl f (place + 1) (top + 1) (od_u1 s top (if od_and (sr place) 15 = 1 then od_ushr (sr place) 4 else wr (od_ushr (sr place) 4))))
    else if od_and (sr place) 15 = 3 ∧ 0 < top then cRunF sr n wr wl f (place + 1) top (od_u1 s (top - 1) (od_wl (1 - s (top - 1))))
    else if (od_and (sr place) 15 = 4 ∨ od_and (sr place) 15 = 5) ∧ 0 < top then
      (if s (top - 1) = (if od_and (sr place) 15 = 4 then 1 else 0) then cRunF sr n wr wl f (od_ushr (sr place) 4) top s else cRunF sr n wr wl f (place + 1) (top - 1) s)
    else if 1 < top then
      (if 1000000000 < cJoin (od_and (sr place) 15) (s (top - 2)) (s (top - 1)) ∨ cJoin (od_and (sr place) 15) (s (top - 2)) (s (top - 1)) < -1000000000 then -2000000000
       else cRunF sr n wr wl f (place + 1) (top - 1) (od_u1 s (top - 2) (cJoin (od_and (sr place) 15) (s (top - 2)) (s (top - 1)))))
    else -2000000000
def cValue (sr : Int → Int) (n : Nat) (fr : Int) (wr : Int → Int) (wl : Nat) (s : Int → Int) : Int := if fr = -1 then 1 else cRunF sr n wr wl n fr 0 s
theorem od_ushr4 (x : Int) : 0 ≤ od_ushr x 4 ∧ od_ushr x 4 < 268435456 := by
  have h := pk_ushr (Int32.ofInt x) (Int32.ofInt 4) 4 (by decide)
  have h2 : (Int32.ofInt x).toBitVec.toNat < 2 ^ 32 := BitVec.isLt _
  unfold od_ushr
  rw [← Int32.toInt_toBitVec, BitVec.toInt_eq_toNat_cond, h]
  have h3 : (Int32.ofInt x).toBitVec.toNat / 2 ^ 4 < 268435456 := by omega
  split <;> omega
theorem od_and15 (x : Int) : 0 ≤ od_and x 15 ∧ od_and x 15 ≤ 63 := od_and_le x 15 (by omega)
set_option maxRecDepth 10000 in
theorem sg_val1 {E : od_E} {gw : od_G} {Q : Option od_V → od_G → Prop} {u : Int} (hu : SuAt E u) {a w : Int} {n wl : Nat} (ha : E.2.1 a = (20, n)) (hw : E.2.1 w = (20, wl)) (hwl : wl < 1000000) (fr top pl i nu : Int) (ht : 0 ≤ top ∧ top ≤ 64) (hnu : 0 ≤ nu ∧ nu < 268435456) (L9 L10 : Option od_V) (hb : 64 ≤ top → Q (some (0, -2000000000)) gw) (hx : top < 64 → od_Rq 2 mX7_value od_Z0 E (E, Q) 289 [some (2, u), some (2, a), some (0, fr), some (2, w), some (0, top + 1), some (0, pl), some (0, i), some (0, 1), some (0, nu), L9, L10] [] E (od_up gw (u + 1) top nu)) : od_Rq 2 mX7_value od_Z0 E (E, Q) 63 [some (2, u), some (2, a), some (0, fr), some (2, w), some (0, top), some (0, pl), some (0, i), some (0, 1), some (0, nu), L9, L10] [] E gw := by
  have hu0 := hu
  obtain ⟨hku, z0, z1⟩ := hu
  refine r_iload dX7_value_63 rfl ?_
  refine r_iconst dX7_value_65 li_1 ?_
  refine r_icmp_eq (tgt := 75) dX7_value_66 rfl (fun _ => ?_) (fun h => absurd h (by omega))
  refine r_iload dX7_value_75 rfl ?_
  refine r_bipush dX7_value_77 lb_64 ?_
  refine r_icmp_ge (tgt := 95) dX7_value_79 rfl (fun c79 => ?_) (fun c79 => ?_)
  · refine r_ldc dX7_value_95 kcX7_15 lk_X7_15 ?_
    exact r_iretq dX7_value_97 rfl rfl (hb (by omega))
  · refine r_iload dX7_value_82 rfl ?_
    refine r_iconst dX7_value_84 li_2 ?_
    refine r_icmp_ne (tgt := 98) dX7_value_85 rfl (fun _ => ?_) (fun h => absurd h (by omega))
    refine r_aload_n dX7_value_98 rfl ?_
    refine r_getR dX7_value_99 fkX7_9 gf7_0 (by assumption) (by assumption) ?_
    refine r_iload dX7_value_102 rfl ?_
    refine r_iload dX7_value_104 rfl ?_
    refine r_iconst dX7_value_106 li_1 ?_
    refine r_icmp_ne (tgt := 116) dX7_value_107 rfl (fun h => absurd h (by omega)) (fun _ => ?_)
    refine r_iload dX7_value_110 rfl ?_
    refine r_i2l dX7_value_112 ?_
    refine r_goto (tgt := 121) dX7_value_113 rfl ?_
    refine r_last dX7_value_121 (by assumption) (by omega) ?_
    refine r_iincE dX7_value_122 rfl (by decide) (by first | exact od_w0 (by omega) (by omega) | exact od_wI (by omega) (by omega) | rfl) rfl ?_
    refine r_goto (tgt := 289) dX7_value_125 rfl ?_
    exact hx (by omega)
set_option maxRecDepth 10000 in
theorem sg_val2 {E : od_E} {gw : od_G} {Q : Option od_V → od_G → Prop} {u : Int} (hu : SuAt E u) {a w : Int} {n wl : Nat} (ha : E.2.1 a = (20, n)) (hw : E.2.1 w = (20, wl)) (hwl : wl < 1000000) (fr top pl i nu : Int) (ht : 0 ≤ top ∧ top ≤ 64) (hnu : 0 ≤ nu ∧ nu < 268435456) (L9 L10 : Option od_V) (hb : (64 ≤ top ∨ wl ≤ nu) → Q (some (0, -2000000000)) gw) (hx : top < 64 → nu < wl → od_Rq 2 mX7_value od_Z0 E (E, Q) 289 [some (2, u), some (2, a), some (0, fr), some (2, w), some (0, top + 1), some (0, pl), some (0, i), some (0, 2), some (0, nu), L9, L10] [] E (od_up gw (u + 1) top (gw w nu))) : od_Rq 2 mX7_value od_Z0 E (E, Q) 63 [some (2, u), some (2, a), some (0, fr), some (2, w), some (0, top), some (0, pl), some (0, i), some (0, 2), some (0, nu), L9, L10] [] E gw := by
  have hu0 := hu
  obtain ⟨hku, z0, z1⟩ := hu
  refine r_iload dX7_value_63 rfl ?_
  refine r_iconst dX7_value_65 li_1 ?_
  refine r_icmp_eq (tgt := 75) dX7_value_66 rfl (fun h => absurd h (by omega)) (fun _ => ?_)
  refine r_iload dX7_value_69 rfl ?_
  refine r_iconst dX7_value_71 li_2 ?_
  refine r_icmp_ne (tgt := 128) dX7_value_72 rfl (fun h => absurd h (by omega)) (fun _ => ?_)
  refine r_iload dX7_value_75 rfl ?_
  refine r_bipush dX7_value_77 lb_64 ?_
  refine r_icmp_ge (tgt := 95) dX7_value_79 rfl (fun c79 => ?_) (fun c79 => ?_)
  · refine r_ldc dX7_value_95 kcX7_15 lk_X7_15 ?_
    exact r_iretq dX7_value_97 rfl rfl (hb (by omega))
  · refine r_iload dX7_value_82 rfl ?_
    refine r_iconst dX7_value_84 li_2 ?_
    refine r_icmp_ne (tgt := 98) dX7_value_85 rfl (fun h => absurd h (by omega)) (fun _ => ?_)
    refine r_iload dX7_value_88 rfl ?_
    refine r_aload_n dX7_value_90 rfl ?_
    first | refine r_len_i dX7_value_91 (by assumption) (by first | decide | omega) ?_ | refine r_len_b dX7_value_91 (by assumption) (by first | decide | omega) ?_ | refine r_len_z dX7_value_91 (by assumption) (by first | decide | omega) ?_ | refine r_len_l dX7_value_91 (by assumption) (by first | decide | omega) ?_
    refine r_icmp_lt (tgt := 98) dX7_value_92 rfl (fun c92 => ?_) (fun c92 => ?_)
    · refine r_aload_n dX7_value_98 rfl ?_
      refine r_getR dX7_value_99 fkX7_9 gf7_0 (by assumption) (by assumption) ?_
      refine r_iload dX7_value_102 rfl ?_
      refine r_iload dX7_value_104 rfl ?_
      refine r_iconst dX7_value_106 li_1 ?_
      refine r_icmp_ne (tgt := 116) dX7_value_107 rfl (fun _ => ?_) (fun h => absurd h (by omega))
      refine r_aload_n dX7_value_116 rfl ?_
      refine r_iload dX7_value_117 rfl ?_
      refine r_iald dX7_value_119 (by assumption) (by omega) (by (repeat (first | rewrite [od_upn (by omega)] | rewrite [od_up_at, if_pos (by omega)] | rewrite [od_up_at, if_neg (by omega)])); rfl) ?_
      refine r_i2l dX7_value_120 ?_
      refine r_last dX7_value_121 (by assumption) (by omega) ?_
      refine r_iincE dX7_value_122 rfl (by decide) (by first | exact od_w0 (by omega) (by omega) | exact od_wI (by omega) (by omega) | rfl) rfl ?_
      refine r_goto (tgt := 289) dX7_value_125 rfl ?_
      exact hx (by omega) (by omega)
    · refine r_ldc dX7_value_95 kcX7_15 lk_X7_15 ?_
      exact r_iretq dX7_value_97 rfl rfl (hb (by omega))
set_option maxRecDepth 10000 in
theorem sg_val3 {E : od_E} {gw : od_G} {Q : Option od_V → od_G → Prop} {u : Int} (hu : SuAt E u) {a w : Int} {n wl : Nat} (ha : E.2.1 a = (20, n)) (hw : E.2.1 w = (20, wl)) (hwl : wl < 1000000) (fr top pl i nu : Int) (ht : 0 ≤ top ∧ top ≤ 64) (hnu : 0 ≤ nu ∧ nu < 268435456) (L9 L10 : Option od_V) (hb : top ≤ 0 → Q (some (0, -2000000000)) gw) (hx : 0 < top → od_Rq 2 mX7_value od_Z0 E (E, Q) 289 [some (2, u), some (2, a), some (0, fr), some (2, w), some (0, top), some (0, pl), some (0, i), some (0, 3), some (0, nu), L9, L10] [] E (od_up gw (u + 1) (top - 1) (od_wl (1 - gw (u + 1) (top - 1))))) : od_Rq 2 mX7_value od_Z0 E (E, Q) 63 [some (2, u), some (2, a), some (0, fr), some (2, w), some (0, top), some (0, pl), some (0, i), some (0, 3), some (0, nu), L9, L10] [] E gw := by
  have hu0 := hu
  obtain ⟨hku, z0, z1⟩ := hu
  refine r_iload dX7_value_63 rfl ?_
  refine r_iconst dX7_value_65 li_1 ?_
  refine r_icmp_eq (tgt := 75) dX7_value_66 rfl (fun h => absurd h (by omega)) (fun _ => ?_)
  refine r_iload dX7_value_69 rfl ?_
  refine r_iconst dX7_value_71 li_2 ?_
  refine r_icmp_ne (tgt := 128) dX7_value_72 rfl (fun _ => ?_) (fun h => absurd h (by omega))
  refine r_iload dX7_value_128 rfl ?_
  refine r_iconst dX7_value_130 li_3 ?_
  refine r_icmp_ne (tgt := 162) dX7_value_131 rfl (fun h => absurd h (by omega)) (fun _ => ?_)
  refine r_iload dX7_value_134 rfl ?_
  refine r_if_le (tgt := 162) dX7_value_136 rfl (fun c136 => ?_) (fun c136 => ?_)
  · refine r_iload dX7_value_162 rfl ?_
    refine r_iconst dX7_value_164 li_4 ?_
    refine r_icmp_eq (tgt := 174) dX7_value_165 rfl (fun h => absurd h (by omega)) (fun _ => ?_)
    refine r_iload dX7_value_168 rfl ?_
    refine r_iconst dX7_value_170 li_5 ?_
    refine r_icmp_ne (tgt := 217) dX7_value_171 rfl (fun _ => ?_) (fun h => absurd h (by omega))
    refine r_iload dX7_value_217 rfl ?_
    refine r_iconst dX7_value_219 li_1 ?_
    refine r_icmp_le (tgt := 286) dX7_value_220 rfl (fun c220 => ?_) (fun c220 => ?_)
    · refine r_ldc dX7_value_286 kcX7_15 lk_X7_15 ?_
      exact r_iretq dX7_value_288 rfl rfl (hb (by omega))
    · exfalso; omega
  · refine r_aload_n dX7_value_139 rfl ?_
    refine r_getR dX7_value_140 fkX7_9 gf7_0 (by assumption) (by assumption) ?_
    refine r_iload dX7_value_143 rfl ?_
    refine r_iconst dX7_value_145 li_1 ?_
    refine r_isubE dX7_value_146 (by first | exact od_w0 (by omega) (by omega) | exact od_wI (by omega) (by omega) | rfl) ?_
    refine r_lconst dX7_value_147 ll_1 ?_
    refine r_aload_n dX7_value_148 rfl ?_
    refine r_getR dX7_value_149 fkX7_9 gf7_0 (by assumption) (by assumption) ?_
    refine r_iload dX7_value_152 rfl ?_
    refine r_iconst dX7_value_154 li_1 ?_
    refine r_isubE dX7_value_155 (by first | exact od_w0 (by omega) (by omega) | exact od_wI (by omega) (by omega) | rfl) ?_
    refine r_lald dX7_value_156 (by assumption) (by omega) (by (repeat (first | rewrite [od_upn (by omega)] | rewrite [od_up_at, if_pos (by omega)] | rewrite [od_up_at, if_neg (by omega)])); rfl) ?_
    refine r_lsubE dX7_value_157 rfl ?_
    refine r_last dX7_value_158 (by assumption) (by omega) ?_
    refine r_goto (tgt := 289) dX7_value_159 rfl ?_
    exact hx (by omega)
set_option maxRecDepth 10000 in
theorem sg_val4 {E : od_E} {gw : od_G} {Q : Option od_V → od_G → Prop} {u : Int} (hu : SuAt E u) {a w : Int} {n wl : Nat} (ha : E.2.1 a = (20, n)) (hw : E.2.1 w = (20, wl)) (hwl : wl < 1000000) (fr top pl i nu : Int) (ht : 0 ≤ top ∧ top ≤ 64) (hnu : 0 ≤ nu ∧ nu < 268435456) (L9 L10 : Option od_V) (hb : top ≤ 0 → Q (some (0, -2000000000)) gw) (hx : 0 < top → gw (u + 1) (top - 1) = 1 → od_Rq 2 mX7_value od_Z0 E (E, Q) 289 [some (2, u), some (2, a), some (0, fr), some (2, w), some (0, top), some (0, nu), some (0, i), some (0, 4), some (0, nu), L9, L10] [] E gw) (hy : 0 < top → gw (u + 1) (top - 1) ≠ 1 → od_Rq 2 mX7_value od_Z0 E (E, Q) 289 [some (2, u), some (2, a), some (0, fr), some (2, w), some (0, top - 1), some (0, pl), some (0, i), some (0, 4), some (0, nu), L9, L10] [] E gw) : od_Rq 2 mX7_value od_Z0 E (E, Q) 63 [some (2, u), some (2, a), some (0, fr), some (2, w), some (0, top), some (0, pl), some (0, i), some (0, 4), some (0, nu), L9, L10] [] E gw := by
  have hu0 := hu
  obtain ⟨hku, z0, z1⟩ := hu
  refine r_iload dX7_value_63 rfl ?_
  refine r_iconst dX7_value_65 li_1 ?_
  refine r_icmp_eq (tgt := 75) dX7_value_66 rfl (fun h => absurd h (by omega)) (fun _ => ?_)
  refine r_iload dX7_value_69 rfl ?_
  refine r_iconst dX7_value_71 li_2 ?_
  refine r_icmp_ne (tgt := 128) dX7_value_72 rfl (fun _ => ?_) (fun h => absurd h (by omega))
  refine r_iload dX7_value_128 rfl ?_
  refine r_iconst dX7_value_130 li_3 ?_
  refine r_icmp_ne (tgt := 162) dX7_value_131 rfl (fun _ => ?_) (fun h => absurd h (by omega))
  refine r_iload dX7_value_162 rfl ?_
  refine r_iconst dX7_value_164 li_4 ?_
  refine r_icmp_eq (tgt := 174) dX7_value_165 rfl (fun _ => ?_) (fun h => absurd h (by omega))
  refine r_iload dX7_value_174 rfl ?_
  refine r_if_le (tgt := 217) dX7_value_176 rfl (fun c176 => ?_) (fun c176 => ?_)
  · refine r_iload dX7_value_217 rfl ?_
    refine r_iconst dX7_value_219 li_1 ?_
    refine r_icmp_le (tgt := 286) dX7_value_220 rfl (fun c220 => ?_) (fun c220 => ?_)
    · refine r_ldc dX7_value_286 kcX7_15 lk_X7_15 ?_
      exact r_iretq dX7_value_288 rfl rfl (hb (by omega))
    · exfalso; omega
  · refine r_aload_n dX7_value_179 rfl ?_
    refine r_getR dX7_value_180 fkX7_9 gf7_0 (by assumption) (by assumption) ?_
    refine r_iload dX7_value_183 rfl ?_
    refine r_iconst dX7_value_185 li_1 ?_
    refine r_isubE dX7_value_186 (by first | exact od_w0 (by omega) (by omega) | exact od_wI (by omega) (by omega) | rfl) ?_
    refine r_lald dX7_value_187 (by assumption) (by omega) (by (repeat (first | rewrite [od_upn (by omega)] | rewrite [od_up_at, if_pos (by omega)] | rewrite [od_up_at, if_neg (by omega)])); rfl) ?_
    refine r_iload dX7_value_188 rfl ?_
    refine r_iconst dX7_value_190 li_4 ?_
    refine r_icmp_ne (tgt := 198) dX7_value_191 rfl (fun h => absurd h (by omega)) (fun _ => ?_)
    refine r_iconst dX7_value_194 li_1 ?_
    refine r_goto (tgt := 199) dX7_value_195 rfl ?_
    refine r_i2l dX7_value_199 ?_
    refine r_lcmp3 dX7_value_200 (fun c200 => ?_) (fun c200 => ?_) (fun c200 => ?_)
    · refine r_if_ne (tgt := 211) dX7_value_201 rfl (fun _ => ?_) (fun h => absurd h (by decide))
      refine r_iincE dX7_value_211 rfl (by decide) (by first | exact od_w0 (by omega) (by omega) | exact od_wI (by omega) (by omega) | rfl) rfl ?_
      refine r_goto (tgt := 289) dX7_value_214 rfl ?_
      rw [show top + -1 = top - 1 by omega]
      exact hy (by omega) (by omega)
    · refine r_if_ne (tgt := 211) dX7_value_201 rfl (fun h => absurd h (by decide)) (fun _ => ?_)
      refine r_iload dX7_value_204 rfl ?_
      refine r_istore dX7_value_206 (by decide) rfl ?_
      refine r_goto (tgt := 289) dX7_value_208 rfl ?_
      exact hx (by omega) (by omega)
    · refine r_if_ne (tgt := 211) dX7_value_201 rfl (fun _ => ?_) (fun h => absurd h (by decide))
      refine r_iincE dX7_value_211 rfl (by decide) (by first | exact od_w0 (by omega) (by omega) | exact od_wI (by omega) (by omega) | rfl) rfl ?_
      refine r_goto (tgt := 289) dX7_value_214 rfl ?_
      rw [show top + -1 = top - 1 by omega]
      exact hy (by omega) (by omega)
set_option maxRecDepth 10000 in
theorem sg_val5 {E : od_E} {gw : od_G} {Q : Option od_V → od_G → Prop} {u : Int} (hu : SuAt E u) {a w : Int} {n wl : Nat} (ha : E.2.1 a = (20, n)) (hw : E.2.1 w = (20, wl)) (hwl : wl < 1000000) (fr top pl i nu : Int) (ht : 0 ≤ top ∧ top ≤ 64) (hnu : 0 ≤ nu ∧ nu < 268435456) (L9 L10 : Option od_V) (hb : top ≤ 0 → Q (some (0, -2000000000)) gw) (hx : 0 < top → gw (u + 1) (top - 1) = 0 → od_Rq 2 mX7_value od_Z0 E (E, Q) 289 [some (2, u), some (2, a), some (0, fr), some (2, w), some (0, top), some (0, nu), some (0, i), some (0, 5), some (0, nu), L9, L10] [] E gw) (hy : 0 < top → gw (u + 1) (top - 1) ≠ 0 → od_Rq 2 mX7_value od_Z0 E (E, Q) 289 [some (2, u), some (2, a), some (0, fr), some (2, w), some (0, top - 1), some (0, pl), some (0, i), some (0, 5), some (0, nu), L9, L10] [] E gw) : od_Rq 2 mX7_value od_Z0 E (E, Q) 63 [some (2, u), some (2, a), some (0, fr), some (2, w), some (0, top), some (0, pl), some (0, i), some (0, 5), some (0, nu), L9, L10] [] E gw := by
  have hu0 := hu
  obtain ⟨hku, z0, z1⟩ := hu
  refine r_iload dX7_value_63 rfl ?_
  refine r_iconst dX7_value_65 li_1 ?_
  refine r_icmp_eq (tgt := 75) dX7_value_66 rfl (fun h => absurd h (by omega)) (fun _ => ?_)
  refine r_iload dX7_value_69 rfl ?_
  refine r_iconst dX7_value_71 li_2 ?_
  refine r_icmp_ne (tgt := 128) dX7_value_72 rfl (fun _ => ?_) (fun h => absurd h (by omega))
  refine r_iload dX7_value_128 rfl ?_
  refine r_iconst dX7_value_130 li_3 ?_
  refine r_icmp_ne (tgt := 162) dX7_value_131 rfl (fun _ => ?_) (fun h => absurd h (by omega))
  refine r_iload dX7_value_162 rfl ?_
  refine r_iconst dX7_value_164 li_4 ?_
  refine r_icmp_eq (tgt := 174) dX7_value_165 rfl (fun h => absurd h (by omega)) (fun _ => ?_)
  refine r_iload dX7_value_168 rfl ?_
  refine r_iconst dX7_value_170 li_5 ?_
  refine r_icmp_ne (tgt := 217) dX7_value_171 rfl (fun h => absurd h (by omega)) (fun _ => ?_)
  refine r_iload dX7_value_174 rfl ?_
  refine r_if_le (tgt := 217) dX7_value_176 rfl (fun c176 => ?_) (fun c176 => ?_)
  · refine r_iload dX7_value_217 rfl ?_
    refine r_iconst dX7_value_219 li_1 ?_
    refine r_icmp_le (tgt := 286) dX7_value_220 rfl (fun c220 => ?_) (fun c220 => ?_)
    · refine r_ldc dX7_value_286 kcX7_15 lk_X7_15 ?_
      exact r_iretq dX7_value_288 rfl rfl (hb (by omega))
    · exfalso; omega
  · refine r_aload_n dX7_value_179 rfl ?_
    refine r_getR dX7_value_180 fkX7_9 gf7_0 (by assumption) (by assumption) ?_
    refine r_iload dX7_value_183 rfl ?_
    refine r_iconst dX7_value_185 li_1 ?_
    refine r_isubE dX7_value_186 (by first | exact od_w0 (by omega) (by omega) | exact od_wI (by omega) (by omega) | rfl) ?_
    refine r_lald dX7_value_187 (by assumption) (by omega) (by (repeat (first | rewrite [od_upn (by omega)] | rewrite [od_up_at, if_pos (by omega)] | rewrite [od_up_at, if_neg (by omega)])); rfl) ?_
    refine r_iload dX7_value_188 rfl ?_
    refine r_iconst dX7_value_190 li_4 ?_
    refine r_icmp_ne (tgt := 198) dX7_value_191 rfl (fun _ => ?_) (fun h => absurd h (by omega))
    refine r_iconst dX7_value_198 li_0 ?_
    refine r_i2l dX7_value_199 ?_
    refine r_lcmp3 dX7_value_200 (fun c200 => ?_) (fun c200 => ?_) (fun c200 => ?_)
    · refine r_if_ne (tgt := 211) dX7_value_201 rfl (fun _ => ?_) (fun h => absurd h (by decide))
      refine r_iincE dX7_value_211 rfl (by decide) (by first | exact od_w0 (by omega) (by omega) | exact od_wI (by omega) (by omega) | rfl) rfl ?_
      refine r_goto (tgt := 289) dX7_value_214 rfl ?_
      rw [show top + -1 = top - 1 by omega]
      exact hy (by omega) (by omega)
    · refine r_if_ne (tgt := 211) dX7_value_201 rfl (fun h => absurd h (by decide)) (fun _ => ?_)
      refine r_iload dX7_value_204 rfl ?_
      refine r_istore dX7_value_206 (by decide) rfl ?_
      refine r_goto (tgt := 289) dX7_value_208 rfl ?_
      exact hx (by omega) (by omega)
    · refine r_if_ne (tgt := 211) dX7_value_201 rfl (fun _ => ?_) (fun h => absurd h (by decide))
      refine r_iincE dX7_value_211 rfl (by decide) (by first | exact od_w0 (by omega) (by omega) | exact od_wI (by omega) (by omega) | rfl) rfl ?_
      refine r_goto (tgt := 289) dX7_value_214 rfl ?_
      rw [show top + -1 = top - 1 by omega]
      exact hy (by omega) (by omega)
set_option maxRecDepth 10000 in
theorem sg_val6 {E : od_E} {gw : od_G} {Q : Option od_V → od_G → Prop} {u : Int} (hu : SuAt E u) {a w : Int} {n wl : Nat} (ha : E.2.1 a = (20, n)) (hw : E.2.1 w = (20, wl)) (hwl : wl < 1000000) (fr top pl i st nu : Int) (ht : 0 ≤ top ∧ top ≤ 64) (hnu : 0 ≤ nu ∧ nu < 268435456) (L9 L10 : Option od_V) (h6 : 6 ≤ st) (hb : (top ≤ 1 ∨ 1000000000 < cJoin st (gw (u + 1) (top - 2)) (gw (u + 1) (top - 1)) ∨ cJoin st (gw (u + 1) (top - 2)) (gw (u + 1) (top - 1)) < -1000000000) → Q (some (0, -2000000000)) gw) (hx : 1 < top → ¬ (1000000000 < cJoin st (gw (u + 1) (top - 2)) (gw (u + 1) (top - 1)) ∨ cJoin st (gw (u + 1) (top - 2)) (gw (u + 1) (top - 1)) < -1000000000) → od_Rq 2 mX7_value od_Z0 E (E, Q) 289 [some (2, u), some (2, a), some (0, fr), some (2, w), some (0, top - 1), some (0, pl), some (0, i), some (0, st), some (0, nu), some (1, cJoin st (gw (u + 1) (top - 2)) (gw (u + 1) (top - 1))), none] [] E (od_up gw (u + 1) (top - 2) (cJoin st (gw (u + 1) (top - 2)) (gw (u + 1) (top - 1))))) : od_Rq 2 mX7_value od_Z0 E (E, Q) 63 [some (2, u), some (2, a), some (0, fr), some (2, w), some (0, top), some (0, pl), some (0, i), some (0, st), some (0, nu), L9, L10] [] E gw := by
  have hu0 := hu
  obtain ⟨hku, z0, z1⟩ := hu
  refine r_iload dX7_value_63 rfl ?_
  refine r_iconst dX7_value_65 li_1 ?_
  refine r_icmp_eq (tgt := 75) dX7_value_66 rfl (fun c66 => ?_) (fun c66 => ?_)
  · exfalso; omega
  · refine r_iload dX7_value_69 rfl ?_
    refine r_iconst dX7_value_71 li_2 ?_
    refine r_icmp_ne (tgt := 128) dX7_value_72 rfl (fun c72 => ?_) (fun c72 => ?_)
    · refine r_iload dX7_value_128 rfl ?_
      refine r_iconst dX7_value_130 li_3 ?_
      refine r_icmp_ne (tgt := 162) dX7_value_131 rfl (fun c131 => ?_) (fun c131 => ?_)
      · refine r_iload dX7_value_162 rfl ?_
        refine r_iconst dX7_value_164 li_4 ?_
        refine r_icmp_eq (tgt := 174) dX7_value_165 rfl (fun c165 => ?_) (fun c165 => ?_)
        · exfalso; omega
        · refine r_iload dX7_value_168 rfl ?_
          refine r_iconst dX7_value_170 li_5 ?_
          refine r_icmp_ne (tgt := 217) dX7_value_171 rfl (fun c171 => ?_) (fun c171 => ?_)
          · refine r_iload dX7_value_217 rfl ?_
            refine r_iconst dX7_value_219 li_1 ?_
            refine r_icmp_le (tgt := 286) dX7_value_220 rfl (fun c220 => ?_) (fun c220 => ?_)
            · refine r_ldc dX7_value_286 kcX7_15 lk_X7_15 ?_
              exact r_iretq dX7_value_288 rfl rfl (hb (by omega))
            · refine r_iload dX7_value_223 rfl ?_
              refine r_aload_n dX7_value_225 rfl ?_
              refine r_getR dX7_value_226 fkX7_9 gf7_0 (by assumption) (by assumption) ?_
              refine r_iload dX7_value_229 rfl ?_
              refine r_iconst dX7_value_231 li_2 ?_
              refine r_isubE dX7_value_232 (by first | exact od_w0 (by omega) (by omega) | exact od_wI (by omega) (by omega) | rfl) ?_
              refine r_lald dX7_value_233 (by assumption) (by omega) (by (repeat (first | rewrite [od_upn (by omega)] | rewrite [od_up_at, if_pos (by omega)] | rewrite [od_up_at, if_neg (by omega)])); rfl) ?_
              refine r_aload_n dX7_value_234 rfl ?_
              refine r_getR dX7_value_235 fkX7_9 gf7_0 (by assumption) (by assumption) ?_
              refine r_iload dX7_value_238 rfl ?_
              refine r_iconst dX7_value_240 li_1 ?_
              refine r_isubE dX7_value_241 (by first | exact od_w0 (by omega) (by omega) | exact od_wI (by omega) (by omega) | rfl) ?_
              refine r_lald dX7_value_242 (by assumption) (by omega) (by (repeat (first | rewrite [od_upn (by omega)] | rewrite [od_up_at, if_pos (by omega)] | rewrite [od_up_at, if_neg (by omega)])); rfl) ?_
              refine r_callS3i dX7_value_243 csX7_16 (c_X7_join _ _ _) (by decide) (Nat.le_of_ble_eq_true rfl) od_le.rf ?_
              refine r_lstore dX7_value_246 (by decide) rfl ?_
              refine r_lload dX7_value_248 rfl ?_
              refine r_ldc2 dX7_value_250 kcX7_20 lk_X7_20 ?_
              refine r_lcmp3 dX7_value_253 (fun c253 => ?_) (fun c253 => ?_) (fun c253 => ?_)
              · refine r_if_gt (tgt := 266) dX7_value_254 rfl (fun h => absurd h (by decide)) (fun _ => ?_)
                refine r_lload dX7_value_257 rfl ?_
                refine r_ldc2 dX7_value_259 kcX7_22 lk_X7_22 ?_
                refine r_lcmp3 dX7_value_262 (fun c262 => ?_) (fun c262 => ?_) (fun c262 => ?_)
                · refine r_if_ge (tgt := 269) dX7_value_263 rfl (fun h => absurd h (by decide)) (fun _ => ?_)
                  refine r_ldc dX7_value_266 kcX7_15 lk_X7_15 ?_
                  exact r_iretq dX7_value_268 rfl rfl (hb (by omega))
                · refine r_if_ge (tgt := 269) dX7_value_263 rfl (fun _ => ?_) (fun h => absurd h (by decide))
                  refine r_iincE dX7_value_269 rfl (by decide) (by first | exact od_w0 (by omega) (by omega) | exact od_wI (by omega) (by omega) | rfl) rfl ?_
                  refine r_aload_n dX7_value_272 rfl ?_
                  refine r_getR dX7_value_273 fkX7_9 gf7_0 (by assumption) (by assumption) ?_
                  refine r_iload dX7_value_276 rfl ?_
                  refine r_iconst dX7_value_278 li_1 ?_
                  refine r_isubE dX7_value_279 (by first | exact od_w0 (by omega) (by omega) | exact od_wI (by omega) (by omega) | rfl) ?_
                  refine r_lload dX7_value_280 rfl ?_
                  refine r_last dX7_value_282 (by assumption) (by omega) ?_
                  refine r_goto (tgt := 289) dX7_value_283 rfl ?_
                  rw [show top + -1 - 1 = top - 2 by omega, show top + -1 = top - 1 by omega]
                  exact hx (by omega) (by omega)
                · refine r_if_ge (tgt := 269) dX7_value_263 rfl (fun _ => ?_) (fun h => absurd h (by decide))
                  refine r_iincE dX7_value_269 rfl (by decide) (by first | exact od_w0 (by omega) (by omega) | exact od_wI (by omega) (by omega) | rfl) rfl ?_
                  refine r_aload_n dX7_value_272 rfl ?_
                  refine r_getR dX7_value_273 fkX7_9 gf7_0 (by assumption) (by assumption) ?_
                  refine r_iload dX7_value_276 rfl ?_
                  refine r_iconst dX7_value_278 li_1 ?_
                  refine r_isubE dX7_value_279 (by first | exact od_w0 (by omega) (by omega) | exact od_wI (by omega) (by omega) | rfl) ?_
                  refine r_lload dX7_value_280 rfl ?_
                  refine r_last dX7_value_282 (by assumption) (by omega) ?_
                  refine r_goto (tgt := 289) dX7_value_283 rfl ?_
                  rw [show top + -1 - 1 = top - 2 by omega, show top + -1 = top - 1 by omega]
                  exact hx (by omega) (by omega)
              · refine r_if_gt (tgt := 266) dX7_value_254 rfl (fun h => absurd h (by decide)) (fun _ => ?_)
                refine r_lload dX7_value_257 rfl ?_
                refine r_ldc2 dX7_value_259 kcX7_22 lk_X7_22 ?_
                refine r_lcmp3 dX7_value_262 (fun c262 => ?_) (fun c262 => ?_) (fun c262 => ?_)
                · refine r_if_ge (tgt := 269) dX7_value_263 rfl (fun h => absurd h (by decide)) (fun _ => ?_)
                  refine r_ldc dX7_value_266 kcX7_15 lk_X7_15 ?_
                  exact r_iretq dX7_value_268 rfl rfl (hb (by omega))
                · refine r_if_ge (tgt := 269) dX7_value_263 rfl (fun _ => ?_) (fun h => absurd h (by decide))
                  refine r_iincE dX7_value_269 rfl (by decide) (by first | exact od_w0 (by omega) (by omega) | exact od_wI (by omega) (by omega) | rfl) rfl ?_
                  refine r_aload_n dX7_value_272 rfl ?_
                  refine r_getR dX7_value_273 fkX7_9 gf7_0 (by assumption) (by assumption) ?_
                  refine r_iload dX7_value_276 rfl ?_
                  refine r_iconst dX7_value_278 li_1 ?_
                  refine r_isubE dX7_value_279 (by first | exact od_w0 (by omega) (by omega) | exact od_wI (by omega) (by omega) | rfl) ?_
                  refine r_lload dX7_value_280 rfl ?_
                  refine r_last dX7_value_282 (by assumption) (by omega) ?_
                  refine r_goto (tgt := 289) dX7_value_283 rfl ?_
                  rw [show top + -1 - 1 = top - 2 by omega, show top + -1 = top - 1 by omega]
                  exact hx (by omega) (by omega)
                · refine r_if_ge (tgt := 269) dX7_value_263 rfl (fun _ => ?_) (fun h => absurd h (by decide))
                  refine r_iincE dX7_value_269 rfl (by decide) (by first | exact od_w0 (by omega) (by omega) | exact od_wI (by omega) (by omega) | rfl) rfl ?_
                  refine r_aload_n dX7_value_272 rfl ?_
                  refine r_getR dX7_value_273 fkX7_9 gf7_0 (by assumption) (by assumption) ?_
                  refine r_iload dX7_value_276 rfl ?_
                  refine r_iconst dX7_value_278 li_1 ?_
                  refine r_isubE dX7_value_279 (by first | exact od_w0 (by omega) (by omega) | exact od_wI (by omega) (by omega) | rfl) ?_
                  refine r_lload dX7_value_280 rfl ?_
                  refine r_last dX7_value_282 (by assumption) (by omega) ?_
                  refine r_goto (tgt := 289) dX7_value_283 rfl ?_
                  rw [show top + -1 - 1 = top - 2 by omega, show top + -1 = top - 1 by omega]
                  exact hx (by omega) (by omega)
              · refine r_if_gt (tgt := 266) dX7_value_254 rfl (fun _ => ?_) (fun h => absurd h (by decide))
                refine r_ldc dX7_value_266 kcX7_15 lk_X7_15 ?_
                exact r_iretq dX7_value_268 rfl rfl (hb (by omega))
          · exfalso; omega
      · exfalso; omega
    · exfalso; omega
set_option maxHeartbeats 8000000 in
set_option maxRecDepth 10000 in
theorem lp_X7_value {E : od_E} {g0 : od_G} {u : Int} (hu : SuAt E u) {a w : Int} {n wl : Nat} (ha : E.2.1 a = (20, n)) (hw : E.2.1 w = (20, wl)) (hn : n < 1000000) (hwl : wl < 1000000) (hau : a ≠ u + 1) (hwu : w ≠ u + 1) (fr v : Int) : ∀ (m : Nat) (i pl top : Int) (gw : od_G) (L7 L8 L9 L10 : Option od_V), (0 ≤ i ∧ i ≤ n ∧ (0 ≤ top ∧ top ≤ 64) ∧ od_fr (fun x _ => x = u + 1) g0 gw ∧ v = cRunF (g0 a) n (g0 w) wl ((n : Int) - i).toNat pl top (gw (u + 1))) → (((n : Int) - i).toNat) < m → od_Rf 2 mX7_value od_Z0 E (some (0, v)) (fun x _ => x = u + 1) g0 16 [some (2, u), some (2, a), some (0, fr), some (2, w), some (0, top), some (0, pl), some (0, i), L7, L8, L9, L10] [] E gw := by
  have hu0 := hu
  obtain ⟨hku, z0, z1⟩ := hu
  intro m
  induction m with
  | zero => intro i pl top gw L7 L8 L9 L10 hi hM; exact absurd hM (Nat.not_lt_zero _)
  | succ m ih =>
    intro i pl top gw L7 L8 L9 L10 hi hM
    obtain ⟨hi0, hin, ht, hfr, hv⟩ := hi
    have ega : gw a = g0 a := hfr.row (fun y h => hau h)
    have egw : gw w = g0 w := hfr.row (fun y h => hwu h)
    have m15 := od_and15 (gw a pl)
    have u4 := od_ushr4 (gw a pl)
    rw [← ega, ← egw] at hv
    have hv1 : i < n → v = cRunF (gw a) n (gw w) wl (((n : Int) - (i + 1)).toNat + 1) pl top (gw (u + 1)) := fun q => by rw [hv, show ((n : Int) - i).toNat = ((n : Int) - (i + 1)).toNat + 1 by omega]
    simp only [cRunF] at hv1
    refine r_iload dX7_value_16 rfl ?_
    refine r_aload_n dX7_value_18 rfl ?_
    first | refine r_len_i dX7_value_19 (by assumption) (by first | decide | omega) ?_ | refine r_len_b dX7_value_19 (by assumption) (by first | decide | omega) ?_ | refine r_len_z dX7_value_19 (by assumption) (by first | decide | omega) ?_ | refine r_len_l dX7_value_19 (by assumption) (by first | decide | omega) ?_
    refine r_icmp_ge (tgt := 295) dX7_value_20 rfl (fun c20 => ?_) (fun c20 => ?_)
    · refine r_iload dX7_value_295 rfl ?_
      refine r_iconst dX7_value_297 li_1 ?_
      refine r_icmp_ne (tgt := 311) dX7_value_298 rfl (fun c298 => ?_) (fun c298 => ?_)
      · refine r_ldc dX7_value_311 kcX7_15 lk_X7_15 ?_
        refine r_iretq dX7_value_313 rfl rfl ⟨?_, hfr⟩
        first
        | (rw [hv1, if_pos (show pl < 0 ∨ (n : Int) ≤ pl ∨ od_and (gw a pl) 15 = 0 by omega)]
           first | rw [if_pos (by omega)] | rw [if_neg (by omega)])
        | (rw [hv, show ((n : Int) - i).toNat = 0 by omega]
           simp only [cRunF]
           first | rw [if_pos (by omega)] | rw [if_neg (by omega)])
      · refine r_aload_n dX7_value_301 rfl ?_
        refine r_getR dX7_value_302 fkX7_9 gf7_0 (by assumption) (by assumption) ?_
        refine r_iconst dX7_value_305 li_0 ?_
        refine r_lald dX7_value_306 (by assumption) (by omega) (by (repeat (first | rewrite [od_upn (by omega)] | rewrite [od_up_at, if_pos (by omega)] | rewrite [od_up_at, if_neg (by omega)])); rfl) ?_
        refine r_l2iE dX7_value_307 (by first | exact od_w0 (by omega) (by omega) | exact od_wI (by omega) (by omega) | rfl) ?_
        refine r_goto (tgt := 313) dX7_value_308 rfl ?_
        refine r_iretq dX7_value_313 rfl rfl ⟨?_, hfr⟩
        first
        | (rw [hv1, if_pos (show pl < 0 ∨ (n : Int) ≤ pl ∨ od_and (gw a pl) 15 = 0 by omega)]
           first | rw [if_pos (by omega)] | rw [if_neg (by omega)])
        | (rw [hv, show ((n : Int) - i).toNat = 0 by omega]
           simp only [cRunF]
           first | rw [if_pos (by omega)] | rw [if_neg (by omega)])
    · replace hv1 := hv1 (by omega)
      refine r_iload dX7_value_23 rfl ?_
      refine r_if_lt (tgt := 295) dX7_value_25 rfl (fun c25 => ?_) (fun c25 => ?_)
      · refine r_iload dX7_value_295 rfl ?_
        refine r_iconst dX7_value_297 li_1 ?_
        refine r_icmp_ne (tgt := 311) dX7_value_298 rfl (fun c298 => ?_) (fun c298 => ?_)
        · refine r_ldc dX7_value_311 kcX7_15 lk_X7_15 ?_
          refine r_iretq dX7_value_313 rfl rfl ⟨?_, hfr⟩
          first
          | (rw [hv1, if_pos (show pl < 0 ∨ (n : Int) ≤ pl ∨ od_and (gw a pl) 15 = 0 by omega)]
             first | rw [if_pos (by omega)] | rw [if_neg (by omega)])
          | (rw [hv, show ((n : Int) - i).toNat = 0 by omega]
             simp only [cRunF]
             first | rw [if_pos (by omega)] | rw [if_neg (by omega)])
        · refine r_aload_n dX7_value_301 rfl ?_
          refine r_getR dX7_value_302 fkX7_9 gf7_0 (by assumption) (by assumption) ?_
          refine r_iconst dX7_value_305 li_0 ?_
          refine r_lald dX7_value_306 (by assumption) (by omega) (by (repeat (first | rewrite [od_upn (by omega)] | rewrite [od_up_at, if_pos (by omega)] | rewrite [od_up_at, if_neg (by omega)])); rfl) ?_
          refine r_l2iE dX7_value_307 (by first | exact od_w0 (by omega) (by omega) | exact od_wI (by omega) (by omega) | rfl) ?_
          refine r_goto (tgt := 313) dX7_value_308 rfl ?_
          refine r_iretq dX7_value_313 rfl rfl ⟨?_, hfr⟩
          first
          | (rw [hv1, if_pos (show pl < 0 ∨ (n : Int) ≤ pl ∨ od_and (gw a pl) 15 = 0 by omega)]
             first | rw [if_pos (by omega)] | rw [if_neg (by omega)])
          | (rw [hv, show ((n : Int) - i).toNat = 0 by omega]
             simp only [cRunF]
             first | rw [if_pos (by omega)] | rw [if_neg (by omega)])
      · refine r_iload dX7_value_28 rfl ?_
        refine r_aload_n dX7_value_30 rfl ?_
        first | refine r_len_i dX7_value_31 (by assumption) (by first | decide | omega) ?_ | refine r_len_b dX7_value_31 (by assumption) (by first | decide | omega) ?_ | refine r_len_z dX7_value_31 (by assumption) (by first | decide | omega) ?_ | refine r_len_l dX7_value_31 (by assumption) (by first | decide | omega) ?_
        refine r_icmp_ge (tgt := 295) dX7_value_32 rfl (fun c32 => ?_) (fun c32 => ?_)
        · refine r_iload dX7_value_295 rfl ?_
          refine r_iconst dX7_value_297 li_1 ?_
          refine r_icmp_ne (tgt := 311) dX7_value_298 rfl (fun c298 => ?_) (fun c298 => ?_)
          · refine r_ldc dX7_value_311 kcX7_15 lk_X7_15 ?_
            refine r_iretq dX7_value_313 rfl rfl ⟨?_, hfr⟩
            first
            | (rw [hv1, if_pos (show pl < 0 ∨ (n : Int) ≤ pl ∨ od_and (gw a pl) 15 = 0 by omega)]
               first | rw [if_pos (by omega)] | rw [if_neg (by omega)])
            | (rw [hv, show ((n : Int) - i).toNat = 0 by omega]
               simp only [cRunF]
               first | rw [if_pos (by omega)] | rw [if_neg (by omega)])
          · refine r_aload_n dX7_value_301 rfl ?_
            refine r_getR dX7_value_302 fkX7_9 gf7_0 (by assumption) (by assumption) ?_
            refine r_iconst dX7_value_305 li_0 ?_
            refine r_lald dX7_value_306 (by assumption) (by omega) (by (repeat (first | rewrite [od_upn (by omega)] | rewrite [od_up_at, if_pos (by omega)] | rewrite [od_up_at, if_neg (by omega)])); rfl) ?_
            refine r_l2iE dX7_value_307 (by first | exact od_w0 (by omega) (by omega) | exact od_wI (by omega) (by omega) | rfl) ?_
            refine r_goto (tgt := 313) dX7_value_308 rfl ?_
            refine r_iretq dX7_value_313 rfl rfl ⟨?_, hfr⟩
            first
            | (rw [hv1, if_pos (show pl < 0 ∨ (n : Int) ≤ pl ∨ od_and (gw a pl) 15 = 0 by omega)]
               first | rw [if_pos (by omega)] | rw [if_neg (by omega)])
            | (rw [hv, show ((n : Int) - i).toNat = 0 by omega]
               simp only [cRunF]
               first | rw [if_pos (by omega)] | rw [if_neg (by omega)])
        · refine r_aload_n dX7_value_35 rfl ?_
          refine r_iload dX7_value_36 rfl ?_
          refine r_iald dX7_value_38 (by assumption) (by omega) (by (repeat (first | rewrite [od_upn (by omega)] | rewrite [od_up_at, if_pos (by omega)] | rewrite [od_up_at, if_neg (by omega)])); rfl) ?_
          refine r_bipush dX7_value_39 lb_15 ?_
          refine r_iand dX7_value_41 ?_
          refine r_istore dX7_value_42 (by decide) rfl ?_
          refine r_aload_n dX7_value_44 rfl ?_
          refine r_iload dX7_value_45 rfl ?_
          refine r_iald dX7_value_47 (by assumption) (by omega) (by (repeat (first | rewrite [od_upn (by omega)] | rewrite [od_up_at, if_pos (by omega)] | rewrite [od_up_at, if_neg (by omega)])); rfl) ?_
          refine r_iconst dX7_value_48 li_4 ?_
          refine r_iushr dX7_value_49 ?_
          refine r_istore dX7_value_50 (by decide) rfl ?_
          refine r_iincE dX7_value_52 rfl (by decide) (by first | exact od_w0 (by omega) (by omega) | exact od_wI (by omega) (by omega) | rfl) rfl ?_
          refine r_iload dX7_value_55 rfl ?_
          refine r_if_ne (tgt := 63) dX7_value_57 rfl (fun c57 => ?_) (fun c57 => ?_)
          · rcases (by omega : od_and (gw a pl) 15 = 1 ∨ od_and (gw a pl) 15 = 2 ∨ od_and (gw a pl) 15 = 3 ∨ od_and (gw a pl) 15 = 4 ∨ od_and (gw a pl) 15 = 5 ∨ 6 ≤ od_and (gw a pl) 15) with h7 | h7 | h7 | h7 | h7 | h7
            · rw [h7]
              refine sg_val1 hu0 ha hw hwl fr top (pl + 1) i (od_ushr (gw a pl) 4) ht u4 _ _ (fun hc => ?_) (fun hc => ?_)
              · exact ⟨by rw [hv1, if_neg (show ¬ (pl < 0 ∨ (n : Int) ≤ pl ∨ od_and (gw a pl) 15 = 0) by omega), if_pos (show od_and (gw a pl) 15 = 1 ∨ od_and (gw a pl) 15 = 2 by omega), if_pos (show 64 ≤ top ∨ (od_and (gw a pl) 15 = 2 ∧ (wl : Int) ≤ od_ushr (gw a pl) 4) by omega)], hfr⟩
              · refine r_iincE dX7_value_289 rfl (by decide) (by first | exact od_w0 (by omega) (by omega) | exact od_wI (by omega) (by omega) | rfl) rfl ?_
                refine r_goto (tgt := 16) dX7_value_292 rfl ?_
                refine ih _ _ _ _ _ _ _ _ ⟨by omega, by omega, by omega, hfr.up rfl, ?_⟩ (by omega)
                rw [← ega, ← egw, hv1, if_neg (show ¬ (pl < 0 ∨ (n : Int) ≤ pl ∨ od_and (gw a pl) 15 = 0) by omega), if_pos (show od_and (gw a pl) 15 = 1 ∨ od_and (gw a pl) 15 = 2 by omega), if_neg (show ¬ (64 ≤ top ∨ (od_and (gw a pl) 15 = 2 ∧ (wl : Int) ≤ od_ushr (gw a pl) 4)) by omega), if_pos h7]
                rw [od_up_row]
            · rw [h7]
              refine sg_val2 hu0 ha hw hwl fr top (pl + 1) i (od_ushr (gw a pl) 4) ht u4 _ _ (fun hc => ?_) (fun hc hc2 => ?_)
              · exact ⟨by rw [hv1, if_neg (show ¬ (pl < 0 ∨ (n : Int) ≤ pl ∨ od_and (gw a pl) 15 = 0) by omega), if_pos (show od_and (gw a pl) 15 = 1 ∨ od_and (gw a pl) 15 = 2 by omega), if_pos (show 64 ≤ top ∨ (od_and (gw a pl) 15 = 2 ∧ (wl : Int) ≤ od_ushr (gw a pl) 4) by omega)], hfr⟩
              · refine r_iincE dX7_value_289 rfl (by decide) (by first | exact od_w0 (by omega) (by omega) | exact od_wI (by omega) (by omega) | rfl) rfl ?_
                refine r_goto (tgt := 16) dX7_value_292 rfl ?_
                refine ih _ _ _ _ _ _ _ _ ⟨by omega, by omega, by omega, hfr.up rfl, ?_⟩ (by omega)
                rw [← ega, ← egw, hv1, if_neg (show ¬ (pl < 0 ∨ (n : Int) ≤ pl ∨ od_and (gw a pl) 15 = 0) by omega), if_pos (show od_and (gw a pl) 15 = 1 ∨ od_and (gw a pl) 15 = 2 by omega), if_neg (show ¬ (64 ≤ top ∨ (od_and (gw a pl) 15 = 2 ∧ (wl : Int) ≤ od_ushr (gw a pl) 4)) by omega), if_neg (show ¬ od_and (gw a pl) 15 = 1 by omega)]
                rw [od_up_row]
            · rw [h7]
              refine sg_val3 hu0 ha hw hwl fr top (pl + 1) i (od_ushr (gw a pl) 4) ht u4 _ _ (fun hc => ?_) (fun hc => ?_)
              · exact ⟨by rw [hv1, if_neg (show ¬ (pl < 0 ∨ (n : Int) ≤ pl ∨ od_and (gw a pl) 15 = 0) by omega), if_neg (show ¬ (od_and (gw a pl) 15 = 1 ∨ od_and (gw a pl) 15 = 2) by omega), if_neg (show ¬ (od_and (gw a pl) 15 = 3 ∧ 0 < top) by omega), if_neg (show ¬ ((od_and (gw a pl) 15 = 4 ∨ od_and (gw a pl) 15 = 5) ∧ 0 < top) by omega), if_neg (show ¬ 1 < top by omega)], hfr⟩
              · refine r_iincE dX7_value_289 rfl (by decide) (by first | exact od_w0 (by omega) (by omega) | exact od_wI (by omega) (by omega) | rfl) rfl ?_
                refine r_goto (tgt := 16) dX7_value_292 rfl ?_
                refine ih _ _ _ _ _ _ _ _ ⟨by omega, by omega, by omega, hfr.up rfl, ?_⟩ (by omega)
                rw [← ega, ← egw, hv1, if_neg (show ¬ (pl < 0 ∨ (n : Int) ≤ pl ∨ od_and (gw a pl) 15 = 0) by omega), if_neg (show ¬ (od_and (gw a pl) 15 = 1 ∨ od_and (gw a pl) 15 = 2) by omega), if_pos (show od_and (gw a pl) 15 = 3 ∧ 0 < top by omega)]
                rw [od_up_row]
            · rw [h7]
              refine sg_val4 hu0 ha hw hwl fr top (pl + 1) i (od_ushr (gw a pl) 4) ht u4 _ _ (fun hc => ?_) (fun hc hc2 => ?_) (fun hc hc2 => ?_)
              · exact ⟨by rw [hv1, if_neg (show ¬ (pl < 0 ∨ (n : Int) ≤ pl ∨ od_and (gw a pl) 15 = 0) by omega), if_neg (show ¬ (od_and (gw a pl) 15 = 1 ∨ od_and (gw a pl) 15 = 2) by omega), if_neg (show ¬ (od_and (gw a pl) 15 = 3 ∧ 0 < top) by omega), if_neg (show ¬ ((od_and (gw a pl) 15 = 4 ∨ od_and (gw a pl) 15 = 5) ∧ 0 < top) by omega), if_neg (show ¬ 1 < top by omega)], hfr⟩
              · refine r_iincE dX7_value_289 rfl (by decide) (by first | exact od_w0 (by omega) (by omega) | exact od_wI (by omega) (by omega) | rfl) rfl ?_
                refine r_goto (tgt := 16) dX7_value_292 rfl ?_
                refine ih _ _ _ _ _ _ _ _ ⟨by omega, by omega, by omega, hfr, ?_⟩ (by omega)
                rw [← ega, ← egw, hv1, if_neg (show ¬ (pl < 0 ∨ (n : Int) ≤ pl ∨ od_and (gw a pl) 15 = 0) by omega), if_neg (show ¬ (od_and (gw a pl) 15 = 1 ∨ od_and (gw a pl) 15 = 2) by omega), if_neg (show ¬ (od_and (gw a pl) 15 = 3 ∧ 0 < top) by omega), if_pos (show (od_and (gw a pl) 15 = 4 ∨ od_and (gw a pl) 15 = 5) ∧ 0 < top by omega), if_pos (show od_and (gw a pl) 15 = 4 by omega), if_pos hc2]
              · refine r_iincE dX7_value_289 rfl (by decide) (by first | exact od_w0 (by omega) (by omega) | exact od_wI (by omega) (by omega) | rfl) rfl ?_
                refine r_goto (tgt := 16) dX7_value_292 rfl ?_
                refine ih _ _ _ _ _ _ _ _ ⟨by omega, by omega, by omega, hfr, ?_⟩ (by omega)
                rw [← ega, ← egw, hv1, if_neg (show ¬ (pl < 0 ∨ (n : Int) ≤ pl ∨ od_and (gw a pl) 15 = 0) by omega), if_neg (show ¬ (od_and (gw a pl) 15 = 1 ∨ od_and (gw a pl) 15 = 2) by omega), if_neg (show ¬ (od_and (gw a pl) 15 = 3 ∧ 0 < top) by omega), if_pos (show (od_and (gw a pl) 15 = 4 ∨ od_and (gw a pl) 15 = 5) ∧ 0 < top by omega), if_pos (show od_and (gw a pl) 15 = 4 by omega), if_neg hc2]
            · rw [h7]
              refine sg_val5 hu0 ha hw hwl fr top (pl + 1) i (od_ushr (gw a pl) 4) ht u4 _ _ (fun hc => ?_) (fun hc hc2 => ?_) (fun hc hc2 => ?_)
              · exact ⟨by rw [hv1, if_neg (show ¬ (pl < 0 ∨ (n : Int) ≤ pl ∨ od_and (gw a pl) 15 = 0) by omega), if_neg (show ¬ (od_and (gw a pl) 15 = 1 ∨ od_and (gw a pl) 15 = 2) by omega), if_neg (show ¬ (od_and (gw a pl) 15 = 3 ∧ 0 < top) by omega), if_neg (show ¬ ((od_and (gw a pl) 15 = 4 ∨ od_and (gw a pl) 15 = 5) ∧ 0 < top) by omega), if_neg (show ¬ 1 < top by omega)], hfr⟩
              · refine r_iincE dX7_value_289 rfl (by decide) (by first | exact od_w0 (by omega) (by omega) | exact od_wI (by omega) (by omega) | rfl) rfl ?_
                refine r_goto (tgt := 16) dX7_value_292 rfl ?_
                refine ih _ _ _ _ _ _ _ _ ⟨by omega, by omega, by omega, hfr, ?_⟩ (by omega)
                rw [← ega, ← egw, hv1, if_neg (show ¬ (pl < 0 ∨ (n : Int) ≤ pl ∨ od_and (gw a pl) 15 = 0) by omega), if_neg (show ¬ (od_and (gw a pl) 15 = 1 ∨ od_and (gw a pl) 15 = 2) by omega), if_neg (show ¬ (od_and (gw a pl) 15 = 3 ∧ 0 < top) by omega), if_pos (show (od_and (gw a pl) 15 = 4 ∨ od_and (gw a pl) 15 = 5) ∧ 0 < top by omega), if_neg (show ¬ od_and (gw a pl) 15 = 4 by omega), if_pos hc2]
              · refine r_iincE dX7_value_289 rfl (by decide) (by first | exact od_w0 (by omega) (by omega) | exact od_wI (by omega) (by omega) | rfl) rfl ?_
                refine r_goto (tgt := 16) dX7_value_292 rfl ?_
                refine ih _ _ _ _ _ _ _ _ ⟨by omega, by omega, by omega, hfr, ?_⟩ (by omega)
                rw [← ega, ← egw, hv1, if_neg (show ¬ (pl < 0 ∨ (n : Int) ≤ pl ∨ od_and (gw a pl) 15 = 0) by omega), if_neg (show ¬ (od_and (gw a pl) 15 = 1 ∨ od_and (gw a pl) 15 = 2) by omega), if_neg (show ¬ (od_and (gw a pl) 15 = 3 ∧ 0 < top) by omega), if_pos (show (od_and (gw a pl) 15 = 4 ∨ od_and (gw a pl) 15 = 5) ∧ 0 < top by omega), if_neg (show ¬ od_and (gw a pl) 15 = 4 by omega), if_neg hc2]
            · skip
              refine sg_val6 hu0 ha hw hwl fr top (pl + 1) i (od_and (gw a pl) 15) (od_ushr (gw a pl) 4) ht u4 _ _ h7 (fun hc => ?_) (fun hc hc2 => ?_)
              · refine ⟨?_, hfr⟩
                rw [hv1, if_neg (show ¬ (pl < 0 ∨ (n : Int) ≤ pl ∨ od_and (gw a pl) 15 = 0) by omega), if_neg (show ¬ (od_and (gw a pl) 15 = 1 ∨ od_and (gw a pl) 15 = 2) by omega), if_neg (show ¬ (od_and (gw a pl) 15 = 3 ∧ 0 < top) by omega), if_neg (show ¬ ((od_and (gw a pl) 15 = 4 ∨ od_and (gw a pl) 15 = 5) ∧ 0 < top) by omega)]
                by_cases hc3 : 1 < top
                · rw [if_pos hc3, if_pos (show (1000000000 < cJoin (od_and (gw a pl) 15) (gw (u + 1) (top - 2)) (gw (u + 1) (top - 1)) ∨ cJoin (od_and (gw a pl) 15) (gw (u + 1) (top - 2)) (gw (u + 1) (top - 1)) < -1000000000) by omega)]
                · rw [if_neg hc3]
              · refine r_iincE dX7_value_289 rfl (by decide) (by first | exact od_w0 (by omega) (by omega) | exact od_wI (by omega) (by omega) | rfl) rfl ?_
                refine r_goto (tgt := 16) dX7_value_292 rfl ?_
                refine ih _ _ _ _ _ _ _ _ ⟨by omega, by omega, by omega, hfr.up rfl, ?_⟩ (by omega)
                rw [← ega, ← egw, hv1, if_neg (show ¬ (pl < 0 ∨ (n : Int) ≤ pl ∨ od_and (gw a pl) 15 = 0) by omega), if_neg (show ¬ (od_and (gw a pl) 15 = 1 ∨ od_and (gw a pl) 15 = 2) by omega), if_neg (show ¬ (od_and (gw a pl) 15 = 3 ∧ 0 < top) by omega), if_neg (show ¬ ((od_and (gw a pl) 15 = 4 ∨ od_and (gw a pl) 15 = 5) ∧ 0 < top) by omega), if_pos hc, if_neg hc2]
                rw [od_up_row]
          · refine r_goto (tgt := 295) dX7_value_60 rfl ?_
            refine r_iload dX7_value_295 rfl ?_
            refine r_iconst dX7_value_297 li_1 ?_
            refine r_icmp_ne (tgt := 311) dX7_value_298 rfl (fun c298 => ?_) (fun c298 => ?_)
            · refine r_ldc dX7_value_311 kcX7_15 lk_X7_15 ?_
              refine r_iretq dX7_value_313 rfl rfl ⟨?_, hfr⟩
              first
              | (rw [hv1, if_pos (show pl < 0 ∨ (n : Int) ≤ pl ∨ od_and (gw a pl) 15 = 0 by omega)]
                 first | rw [if_pos (by omega)] | rw [if_neg (by omega)])
              | (rw [hv, show ((n : Int) - i).toNat = 0 by omega]
                 simp only [cRunF]
                 first | rw [if_pos (by omega)] | rw [if_neg (by omega)])
            · refine r_aload_n dX7_value_301 rfl ?_
              refine r_getR dX7_value_302 fkX7_9 gf7_0 (by assumption) (by assumption) ?_
              refine r_iconst dX7_value_305 li_0 ?_
              refine r_lald dX7_value_306 (by assumption) (by omega) (by (repeat (first | rewrite [od_upn (by omega)] | rewrite [od_up_at, if_pos (by omega)] | rewrite [od_up_at, if_neg (by omega)])); rfl) ?_
              refine r_l2iE dX7_value_307 (by first | exact od_w0 (by omega) (by omega) | exact od_wI (by omega) (by omega) | rfl) ?_
              refine r_goto (tgt := 313) dX7_value_308 rfl ?_
              refine r_iretq dX7_value_313 rfl rfl ⟨?_, hfr⟩
              first
              | (rw [hv1, if_pos (show pl < 0 ∨ (n : Int) ≤ pl ∨ od_and (gw a pl) 15 = 0 by omega)]
                 first | rw [if_pos (by omega)] | rw [if_neg (by omega)])
              | (rw [hv, show ((n : Int) - i).toNat = 0 by omega]
                 simp only [cRunF]
                 first | rw [if_pos (by omega)] | rw [if_neg (by omega)])
set_option maxRecDepth 10000 in
theorem c_X7_value {E : od_E} {g : od_G} {u : Int} (hu : SuAt E u) {a w : Int} {n wl : Nat} (ha : E.2.1 a = (20, n)) (hw : E.2.1 w = (20, wl)) (hn : n < 1000000) (hwl : wl < 1000000) (hau : a ≠ u + 1) (hwu : w ≠ u + 1) (fr : Int) : od_Cf 2 mX7_value [(2, u), (2, a), (0, fr), (2, w)] E g (some (0, cValue (g a) n fr (g w) wl (g (u + 1)))) (fun x _ => x = u + 1) := by
  have hu0 := hu
  obtain ⟨hku, z0, z1⟩ := hu
  refine od_cqI pnX7 rfl (Nat.le_of_ble_eq_true rfl) od_le.rf ?_
  show od_Rf 2 mX7_value od_Z0 E (some (0, cValue (g a) n fr (g w) wl (g (u + 1)))) (fun x _ => x = u + 1) g 0 [some (2, u), some (2, a), some (0, fr), some (2, w), none, none, none, none, none, none, none] [] E g
  refine r_iload_n dX7_value_0 rfl ?_
  refine r_iconst dX7_value_1 li_m1 ?_
  refine r_icmp_ne (tgt := 7) dX7_value_2 rfl (fun c2 => ?_) (fun c2 => ?_)
  · refine r_iconst dX7_value_7 li_0 ?_
    refine r_istore dX7_value_8 (by decide) rfl ?_
    refine r_iload_n dX7_value_10 rfl ?_
    refine r_istore dX7_value_11 (by decide) rfl ?_
    refine r_iconst dX7_value_13 li_0 ?_
    refine r_istore dX7_value_14 (by decide) rfl ?_
    exact lp_X7_value hu0 ha hw hn hwl hau hwu _ _ _ _ _ _ _ _ _ _ _ ⟨by omega, by omega, by omega, od_fr.rf, by unfold cValue; rw [if_neg (by assumption)]; rfl⟩ (Nat.lt_succ_self _)
  · refine r_iconst dX7_value_5 li_1 ?_
    exact r_iretq dX7_value_6 rfl rfl ⟨by unfold cValue; rw [if_pos (by assumption)], od_fr.rf⟩
