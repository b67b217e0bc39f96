/-! Round: quiet, shifts, never -/
theorem od_fst_n {P : Int → Prop} : ∀ (f : Nat) (i : Int), (∀ j : Int, i ≤ j → j < i + f → ¬ P j) → od_fst P f i = -1 := by
  intro f
  induction f with
  | zero => intro i _; rfl
  | succ f ih =>
    intro i h
    simp only [od_fst]
    rw [od_ite_f (h i (by omega) (by omega)), ih (i + 1) (fun j j0 j1 => h j (by omega) (by omega))]
theorem od_fst_y {P : Int → Prop} {s : Int} (hP : P s) : ∀ (f : Nat) (i : Int), i ≤ s → s < i + f → (∀ j : Int, i ≤ j → j < s → ¬ P j) → od_fst P f i = s := by
  intro f
  induction f with
  | zero => intro i a b; omega
  | succ f ih =>
    intro i a b h
    simp only [od_fst]
    by_cases c : i = s
    · rw [od_ite_t (by rw [c]; exact hP), c]
    · rw [od_ite_f (h i (by omega) (by omega)), ih (i + 1) (by omega) (by omega) (fun j j0 j1 => h j (by omega) (by omega))]
noncomputable def cQl (Z : Int → Prop) (h le : Int) : Int := od_ite (Z h) (le + 1) 0
def cQb (H h le : Int) : Int := if h - le + 1 < H then h - le + 1 else h - le + 1 - H
def cQu (H h lo fi le : Int) : Int × Int × Int := if lo < le ∨ (0 < le ∧ le = lo ∧ cQb H h le < fi) then (le, cQb H h le, le) else (lo, fi, le)
/-- the longest quiet so far, its beginning, how long it is quiet now: n hours behind hour s -/
noncomputable def cQn (Z : Int → Prop) (H s : Int) : Nat → Int × Int × Int
  | 0 => (0, -1, 0)
  | n + 1 => cQu H (s + 1 + n) (cQn Z H s n).1 (cQn Z H s n).2.1 (cQl Z (s + 1 + n) (cQn Z H s n).2.2)
noncomputable def cQuiet (Z : Int → Prop) (H w : Int) : Int := if od_fst (fun h => ¬ Z h) H.toNat 0 = -1 then (if w = 0 then H else 0) else if w = 0 then (cQn Z H (od_fst (fun h => ¬ Z h) H.toNat 0) (H - 1).toNat).1 else (cQn Z H (od_fst (fun h => ¬ Z h) H.toNat 0) (H - 1).toNat).2.1
set_option maxRecDepth 10000 in
theorem lp_X4_q2 {E : od_E} {g : od_G} {q s : Int} (hq : RoAt E q s) {H : Int} {C : Int → Int} (hC : RdC g q H C) (w sk : Int) (hk0 : 0 ≤ sk ∧ sk < H) : ∀ (m : Nat) (h lo fi le : Int) (L7 : Option od_V), (sk + 1 ≤ h ∧ h ≤ sk + H ∧ (0 ≤ le ∧ le ≤ h - sk - 1) ∧ (lo, fi, le) = cQn (fun h => cBt C h = 0) H sk (h - sk - 1).toNat) → ((sk + H - h).toNat) < m → od_R 3 mX4_longestQuiet od_Z0 E (some (0, if w = 0 then (cQn (fun h => cBt C h = 0) H sk (H - 1).toNat).1 else (cQn (fun h => cBt C h = 0) H sk (H - 1).toNat).2.1), E, g) 58 [some (2, q), some (0, w), some (0, sk), some (0, lo), some (0, fi), some (0, le), some (0, h), L7] [] E g := by
  have hq0 := hq
  obtain ⟨hkq, qa, qb, qc, qd, qe, qf, qg, l1, l2, l3, l4, l5, l6⟩ := hq
  have hC0 := hC
  obtain ⟨r9, rH, r7, r8, rc, rb⟩ := hC
  intro m
  induction m with
  | zero => intro h lo fi le L7 hi hM; exact absurd hM (Nat.not_lt_zero _)
  | succ m ih =>
    intro h lo fi le L7 hi hM
    obtain ⟨hi0, hi1, hi2, hi3⟩ := hi
    have hs1 : cQn (fun h => cBt C h = 0) H sk (h + 1 - sk - 1).toNat = cQu H h lo fi (cQl (fun h => cBt C h = 0) h le) := by
      rw [show (h + 1 - sk - 1).toNat = (h - sk - 1).toNat + 1 by omega]
      simp only [cQn]
      rw [← hi3, show sk + 1 + (((h - sk - 1).toNat : Nat) : Int) = h by omega]
    refine r_iload dX4_longestQuiet_58 rfl ?_
    refine r_iload_n dX4_longestQuiet_60 rfl ?_
    refine r_aload_n dX4_longestQuiet_61 rfl ?_
    refine r_getIj (j := 9) rfl dX4_longestQuiet_62 fkX4_38 gf4_9 (by assumption) r9 ?_
    refine r_iaddE dX4_longestQuiet_65 (by first | exact od_w0 (by omega) (by omega) | exact od_wI (by omega) (by omega) | rfl) ?_
    refine r_icmp_ge (tgt := 163) dX4_longestQuiet_66 rfl (fun c66 => ?_) (fun c66 => ?_)
    · refine r_iload_n dX4_longestQuiet_163 rfl ?_
      refine r_if_ne (tgt := 171) dX4_longestQuiet_164 rfl (fun c164 => ?_) (fun c164 => ?_)
      · refine r_iload dX4_longestQuiet_171 rfl ?_
        exact r_iret dX4_longestQuiet_173 rfl (by rw [show H - 1 = h - sk - 1 by omega, ← hi3]; first | rw [if_pos (by assumption)] | rw [if_neg (by assumption)])
      · refine r_iload_n dX4_longestQuiet_167 rfl ?_
        refine r_goto (tgt := 173) dX4_longestQuiet_168 rfl ?_
        exact r_iret dX4_longestQuiet_173 rfl (by rw [show H - 1 = h - sk - 1 by omega, ← hi3]; first | rw [if_pos (by assumption)] | rw [if_neg (by assumption)])
    · refine r_aload_n dX4_longestQuiet_69 rfl ?_
      refine r_iload dX4_longestQuiet_70 rfl ?_
      refine r_callV1i dX4_longestQuiet_72 cvX4_99 (by assumption) (c_X4_strikersIn hq0 hC0 _ (by omega)) (by decide) (Nat.le_of_ble_eq_true rfl) od_le.rf ?_
      refine r_if_ne (tgt := 85) dX4_longestQuiet_75 rfl (fun c75 => ?_) (fun c75 => ?_)
      · refine r_iconst dX4_longestQuiet_85 li_0 ?_
        refine r_istore dX4_longestQuiet_86 (by decide) rfl ?_
        refine r_iload dX4_longestQuiet_88 rfl ?_
        refine r_iload dX4_longestQuiet_90 rfl ?_
        refine r_isubE dX4_longestQuiet_92 (by first | exact od_w0 (by omega) (by omega) | exact od_wI (by omega) (by omega) | rfl) ?_
        refine r_iconst dX4_longestQuiet_93 li_1 ?_
        refine r_iaddE dX4_longestQuiet_94 (by first | exact od_w0 (by omega) (by omega) | exact od_wI (by omega) (by omega) | rfl) ?_
        refine r_aload_n dX4_longestQuiet_95 rfl ?_
        refine r_getIj (j := 9) rfl dX4_longestQuiet_96 fkX4_38 gf4_9 (by assumption) r9 ?_
        refine r_icmp_ge (tgt := 112) dX4_longestQuiet_99 rfl (fun c99 => ?_) (fun c99 => ?_)
        · refine r_iload dX4_longestQuiet_112 rfl ?_
          refine r_iload dX4_longestQuiet_114 rfl ?_
          refine r_isubE dX4_longestQuiet_116 (by first | exact od_w0 (by omega) (by omega) | exact od_wI (by omega) (by omega) | rfl) ?_
          refine r_iconst dX4_longestQuiet_117 li_1 ?_
          refine r_iaddE dX4_longestQuiet_118 (by first | exact od_w0 (by omega) (by omega) | exact od_wI (by omega) (by omega) | rfl) ?_
          refine r_aload_n dX4_longestQuiet_119 rfl ?_
          refine r_getIj (j := 9) rfl dX4_longestQuiet_120 fkX4_38 gf4_9 (by assumption) r9 ?_
          refine r_isubE dX4_longestQuiet_123 (by first | exact od_w0 (by omega) (by omega) | exact od_wI (by omega) (by omega) | rfl) ?_
          refine r_istore dX4_longestQuiet_124 (by decide) rfl ?_
          refine r_iload dX4_longestQuiet_126 rfl ?_
          refine r_iload_n dX4_longestQuiet_128 rfl ?_
          refine r_icmp_gt (tgt := 150) dX4_longestQuiet_129 rfl (fun c129 => ?_) (fun c129 => ?_)
          · refine r_iload dX4_longestQuiet_150 rfl ?_
            refine r_istore_n dX4_longestQuiet_152 (by decide) rfl ?_
            refine r_iload dX4_longestQuiet_153 rfl ?_
            refine r_istore dX4_longestQuiet_155 (by decide) rfl ?_
            refine r_iincE dX4_longestQuiet_157 rfl (by decide) (by first | exact od_w0 (by omega) (by omega) | exact od_wI (by omega) (by omega) | rfl) rfl ?_
            refine r_goto (tgt := 58) dX4_longestQuiet_160 rfl ?_
            refine ih _ _ _ _ _ ⟨by omega, by omega, by omega, ?_⟩ (by omega)
            rw [hs1]
            unfold cQl
            first | rw [od_ite_t (by assumption)] | rw [od_ite_f (by assumption)]
            unfold cQu cQb
            first
            | (exfalso; omega)
            | (rw [if_pos c99]; first | rw [if_pos (by omega)] | rw [if_neg (by omega)])
            | (rw [if_neg (Int.not_lt.mpr c99)]; first | rw [if_pos (by omega)] | rw [if_neg (by omega)])
          · refine r_iload dX4_longestQuiet_132 rfl ?_
            refine r_if_le (tgt := 157) dX4_longestQuiet_134 rfl (fun _ => ?_) (fun h => absurd h (by decide))
            refine r_iincE dX4_longestQuiet_157 rfl (by decide) (by first | exact od_w0 (by omega) (by omega) | exact od_wI (by omega) (by omega) | rfl) rfl ?_
            refine r_goto (tgt := 58) dX4_longestQuiet_160 rfl ?_
            refine ih _ _ _ _ _ ⟨by omega, by omega, by omega, ?_⟩ (by omega)
            rw [hs1]
            unfold cQl
            first | rw [od_ite_t (by assumption)] | rw [od_ite_f (by assumption)]
            unfold cQu cQb
            first
            | (exfalso; omega)
            | (rw [if_pos c99]; first | rw [if_pos (by omega)] | rw [if_neg (by omega)])
            | (rw [if_neg (Int.not_lt.mpr c99)]; first | rw [if_pos (by omega)] | rw [if_neg (by omega)])
        · refine r_iload dX4_longestQuiet_102 rfl ?_
          refine r_iload dX4_longestQuiet_104 rfl ?_
          refine r_isubE dX4_longestQuiet_106 (by first | exact od_w0 (by omega) (by omega) | exact od_wI (by omega) (by omega) | rfl) ?_
          refine r_iconst dX4_longestQuiet_107 li_1 ?_
          refine r_iaddE dX4_longestQuiet_108 (by first | exact od_w0 (by omega) (by omega) | exact od_wI (by omega) (by omega) | rfl) ?_
          refine r_goto (tgt := 124) dX4_longestQuiet_109 rfl ?_
          refine r_istore dX4_longestQuiet_124 (by decide) rfl ?_
          refine r_iload dX4_longestQuiet_126 rfl ?_
          refine r_iload_n dX4_longestQuiet_128 rfl ?_
          refine r_icmp_gt (tgt := 150) dX4_longestQuiet_129 rfl (fun c129 => ?_) (fun c129 => ?_)
          · refine r_iload dX4_longestQuiet_150 rfl ?_
            refine r_istore_n dX4_longestQuiet_152 (by decide) rfl ?_
            refine r_iload dX4_longestQuiet_153 rfl ?_
            refine r_istore dX4_longestQuiet_155 (by decide) rfl ?_
            refine r_iincE dX4_longestQuiet_157 rfl (by decide) (by first | exact od_w0 (by omega) (by omega) | exact od_wI (by omega) (by omega) | rfl) rfl ?_
            refine r_goto (tgt := 58) dX4_longestQuiet_160 rfl ?_
            refine ih _ _ _ _ _ ⟨by omega, by omega, by omega, ?_⟩ (by omega)
            rw [hs1]
            unfold cQl
            first | rw [od_ite_t (by assumption)] | rw [od_ite_f (by assumption)]
            unfold cQu cQb
            first
            | (exfalso; omega)
            | (rw [if_pos c99]; first | rw [if_pos (by omega)] | rw [if_neg (by omega)])
            | (rw [if_neg (Int.not_lt.mpr c99)]; first | rw [if_pos (by omega)] | rw [if_neg (by omega)])
          · refine r_iload dX4_longestQuiet_132 rfl ?_
            refine r_if_le (tgt := 157) dX4_longestQuiet_134 rfl (fun _ => ?_) (fun h => absurd h (by decide))
            refine r_iincE dX4_longestQuiet_157 rfl (by decide) (by first | exact od_w0 (by omega) (by omega) | exact od_wI (by omega) (by omega) | rfl) rfl ?_
            refine r_goto (tgt := 58) dX4_longestQuiet_160 rfl ?_
            refine ih _ _ _ _ _ ⟨by omega, by omega, by omega, ?_⟩ (by omega)
            rw [hs1]
            unfold cQl
            first | rw [od_ite_t (by assumption)] | rw [od_ite_f (by assumption)]
            unfold cQu cQb
            first
            | (exfalso; omega)
            | (rw [if_pos c99]; first | rw [if_pos (by omega)] | rw [if_neg (by omega)])
            | (rw [if_neg (Int.not_lt.mpr c99)]; first | rw [if_pos (by omega)] | rw [if_neg (by omega)])
      · refine r_iload dX4_longestQuiet_78 rfl ?_
        refine r_iconst dX4_longestQuiet_80 li_1 ?_
        refine r_iaddE dX4_longestQuiet_81 (by first | exact od_w0 (by omega) (by omega) | exact od_wI (by omega) (by omega) | rfl) ?_
        refine r_goto (tgt := 86) dX4_longestQuiet_82 rfl ?_
        refine r_istore dX4_longestQuiet_86 (by decide) rfl ?_
        refine r_iload dX4_longestQuiet_88 rfl ?_
        refine r_iload dX4_longestQuiet_90 rfl ?_
        refine r_isubE dX4_longestQuiet_92 (by first | exact od_w0 (by omega) (by omega) | exact od_wI (by omega) (by omega) | rfl) ?_
        refine r_iconst dX4_longestQuiet_93 li_1 ?_
        refine r_iaddE dX4_longestQuiet_94 (by first | exact od_w0 (by omega) (by omega) | exact od_wI (by omega) (by omega) | rfl) ?_
        refine r_aload_n dX4_longestQuiet_95 rfl ?_
        refine r_getIj (j := 9) rfl dX4_longestQuiet_96 fkX4_38 gf4_9 (by assumption) r9 ?_
        refine r_icmp_ge (tgt := 112) dX4_longestQuiet_99 rfl (fun c99 => ?_) (fun c99 => ?_)
        · refine r_iload dX4_longestQuiet_112 rfl ?_
          refine r_iload dX4_longestQuiet_114 rfl ?_
          refine r_isubE dX4_longestQuiet_116 (by first | exact od_w0 (by omega) (by omega) | exact od_wI (by omega) (by omega) | rfl) ?_
          refine r_iconst dX4_longestQuiet_117 li_1 ?_
          refine r_iaddE dX4_longestQuiet_118 (by first | exact od_w0 (by omega) (by omega) | exact od_wI (by omega) (by omega) | rfl) ?_
          refine r_aload_n dX4_longestQuiet_119 rfl ?_
          refine r_getIj (j := 9) rfl dX4_longestQuiet_120 fkX4_38 gf4_9 (by assumption) r9 ?_
          refine r_isubE dX4_longestQuiet_123 (by first | exact od_w0 (by omega) (by omega) | exact od_wI (by omega) (by omega) | rfl) ?_
          refine r_istore dX4_longestQuiet_124 (by decide) rfl ?_
          refine r_iload dX4_longestQuiet_126 rfl ?_
          refine r_iload_n dX4_longestQuiet_128 rfl ?_
          refine r_icmp_gt (tgt := 150) dX4_longestQuiet_129 rfl (fun c129 => ?_) (fun c129 => ?_)
          · refine r_iload dX4_longestQuiet_150 rfl ?_
            refine r_istore_n dX4_longestQuiet_152 (by decide) rfl ?_
            refine r_iload dX4_longestQuiet_153 rfl ?_
            refine r_istore dX4_longestQuiet_155 (by decide) rfl ?_
            refine r_iincE dX4_longestQuiet_157 rfl (by decide) (by first | exact od_w0 (by omega) (by omega) | exact od_wI (by omega) (by omega) | rfl) rfl ?_
            refine r_goto (tgt := 58) dX4_longestQuiet_160 rfl ?_
            refine ih _ _ _ _ _ ⟨by omega, by omega, by omega, ?_⟩ (by omega)
            rw [hs1]
            unfold cQl
            first | rw [od_ite_t (by assumption)] | rw [od_ite_f (by assumption)]
            unfold cQu cQb
            first
            | (exfalso; omega)
            | (rw [if_pos c99]; first | rw [if_pos (by omega)] | rw [if_neg (by omega)])
            | (rw [if_neg (Int.not_lt.mpr c99)]; first | rw [if_pos (by omega)] | rw [if_neg (by omega)])
          · refine r_iload dX4_longestQuiet_132 rfl ?_
            refine r_if_le (tgt := 157) dX4_longestQuiet_134 rfl (fun c134 => ?_) (fun c134 => ?_)
            · refine r_iincE dX4_longestQuiet_157 rfl (by decide) (by first | exact od_w0 (by omega) (by omega) | exact od_wI (by omega) (by omega) | rfl) rfl ?_
              refine r_goto (tgt := 58) dX4_longestQuiet_160 rfl ?_
              refine ih _ _ _ _ _ ⟨by omega, by omega, by omega, ?_⟩ (by omega)
              rw [hs1]
              unfold cQl
              first | rw [od_ite_t (by assumption)] | rw [od_ite_f (by assumption)]
              unfold cQu cQb
              first
              | (exfalso; omega)
              | (rw [if_pos c99]; first | rw [if_pos (by omega)] | rw [if_neg (by omega)])
              | (rw [if_neg (Int.not_lt.mpr c99)]; first | rw [if_pos (by omega)] | rw [if_neg (by omega)])
            · refine r_iload dX4_longestQuiet_137 rfl ?_
              refine r_iload_n dX4_longestQuiet_139 rfl ?_
              refine r_icmp_ne (tgt := 157) dX4_longestQuiet_140 rfl (fun c140 => ?_) (fun c140 => ?_)
              · refine r_iincE dX4_longestQuiet_157 rfl (by decide) (by first | exact od_w0 (by omega) (by omega) | exact od_wI (by omega) (by omega) | rfl) rfl ?_
                refine r_goto (tgt := 58) dX4_longestQuiet_160 rfl ?_
                refine ih _ _ _ _ _ ⟨by omega, by omega, by omega, ?_⟩ (by omega)
                rw [hs1]
                unfold cQl
                first | rw [od_ite_t (by assumption)] | rw [od_ite_f (by assumption)]
                unfold cQu cQb
                first
                | (exfalso; omega)
                | (rw [if_pos c99]; first | rw [if_pos (by omega)] | rw [if_neg (by omega)])
                | (rw [if_neg (Int.not_lt.mpr c99)]; first | rw [if_pos (by omega)] | rw [if_neg (by omega)])
              · refine r_iload dX4_longestQuiet_143 rfl ?_
                refine r_iload dX4_longestQuiet_145 rfl ?_
                refine r_icmp_ge (tgt := 157) dX4_longestQuiet_147 rfl (fun c147 => ?_) (fun c147 => ?_)
                · refine r_iincE dX4_longestQuiet_157 rfl (by decide) (by first | exact od_w0 (by omega) (by omega) | exact od_wI (by omega) (by omega) | rfl) rfl ?_
                  refine r_goto (tgt := 58) dX4_longestQuiet_160 rfl ?_
                  refine ih _ _ _ _ _ ⟨by omega, by omega, by omega, ?_⟩ (by omega)
                  rw [hs1]
                  unfold cQl
                  first | rw [od_ite_t (by assumption)] | rw [od_ite_f (by assumption)]
                  unfold cQu cQb
                  first
                  | (exfalso; omega)
                  | (rw [if_pos c99]; first | rw [if_pos (by omega)] | rw [if_neg (by omega)])
                  | (rw [if_neg (Int.not_lt.mpr c99)]; first | rw [if_pos (by omega)] | rw [if_neg (by omega)])
                · refine r_iload dX4_longestQuiet_150 rfl ?_
                  refine r_istore_n dX4_longestQuiet_152 (by decide) rfl ?_
                  refine r_iload dX4_longestQuiet_153 rfl ?_
                  refine r_istore dX4_longestQuiet_155 (by decide) rfl ?_
                  refine r_iincE dX4_longestQuiet_157 rfl (by decide) (by first | exact od_w0 (by omega) (by omega) | exact od_wI (by omega) (by omega) | rfl) rfl ?_
                  refine r_goto (tgt := 58) dX4_longestQuiet_160 rfl ?_
                  refine ih _ _ _ _ _ ⟨by omega, by omega, by omega, ?_⟩ (by omega)
                  rw [hs1]
                  unfold cQl
                  first | rw [od_ite_t (by assumption)] | rw [od_ite_f (by assumption)]
                  unfold cQu cQb
                  first
                  | (exfalso; omega)
                  | (rw [if_pos c99]; first | rw [if_pos (by omega)] | rw [if_neg (by omega)])
                  | (rw [if_neg (Int.not_lt.mpr c99)]; first | rw [if_pos (by omega)] | rw [if_neg (by omega)])
        · refine r_iload dX4_longestQuiet_102 rfl ?_
          refine r_iload dX4_longestQuiet_104 rfl ?_
          refine r_isubE dX4_longestQuiet_106 (by first | exact od_w0 (by omega) (by omega) | exact od_wI (by omega) (by omega) | rfl) ?_
          refine r_iconst dX4_longestQuiet_107 li_1 ?_
          refine r_iaddE dX4_longestQuiet_108 (by first | exact od_w0 (by omega) (by omega) | exact od_wI (by omega) (by omega) | rfl) ?_
          refine r_goto (tgt := 124) dX4_longestQuiet_109 rfl ?_
          refine r_istore dX4_longestQuiet_124 (by decide) rfl ?_
          refine r_iload dX4_longestQuiet_126 rfl ?_
          refine r_iload_n dX4_longestQuiet_128 rfl ?_
          refine r_icmp_gt (tgt := 150) dX4_longestQuiet_129 rfl (fun c129 => ?_) (fun c129 => ?_)
          · refine r_iload dX4_longestQuiet_150 rfl ?_
            refine r_istore_n dX4_longestQuiet_152 (by decide) rfl ?_
            refine r_iload dX4_longestQuiet_153 rfl ?_
            refine r_istore dX4_longestQuiet_155 (by decide) rfl ?_
            refine r_iincE dX4_longestQuiet_157 rfl (by decide) (by first | exact od_w0 (by omega) (by omega) | exact od_wI (by omega) (by omega) | rfl) rfl ?_
            refine r_goto (tgt := 58) dX4_longestQuiet_160 rfl ?_
            refine ih _ _ _ _ _ ⟨by omega, by omega, by omega, ?_⟩ (by omega)
            rw [hs1]
            unfold cQl
            first | rw [od_ite_t (by assumption)] | rw [od_ite_f (by assumption)]
            unfold cQu cQb
            first
            | (exfalso; omega)
            | (rw [if_pos c99]; first | rw [if_pos (by omega)] | rw [if_neg (by omega)])
            | (rw [if_neg (Int.not_lt.mpr c99)]; first | rw [if_pos (by omega)] | rw [if_neg (by omega)])
          · refine r_iload dX4_longestQuiet_132 rfl ?_
            refine r_if_le (tgt := 157) dX4_longestQuiet_134 rfl (fun c134 => ?_) (fun c134 => ?_)
            · refine r_iincE dX4_longestQuiet_157 rfl (by decide) (by first | exact od_w0 (by omega) (by omega) | exact od_wI (by omega) (by omega) | rfl) rfl ?_
              refine r_goto (tgt := 58) dX4_longestQuiet_160 rfl ?_
              refine ih _ _ _ _ _ ⟨by omega, by omega, by omega, ?_⟩ (by omega)
              rw [hs1]
              unfold cQl
              first | rw [od_ite_t (by assumption)] | rw [od_ite_f (by assumption)]
              unfold cQu cQb
              first
              | (exfalso; omega)
              | (rw [if_pos c99]; first | rw [if_pos (by omega)] | rw [if_neg (by omega)])
              | (rw [if_neg (Int.not_lt.mpr c99)]; first | rw [if_pos (by omega)] | rw [if_neg (by omega)])
            · refine r_iload dX4_longestQuiet_137 rfl ?_
              refine r_iload_n dX4_longestQuiet_139 rfl ?_
              refine r_icmp_ne (tgt := 157) dX4_longestQuiet_140 rfl (fun c140 => ?_) (fun c140 => ?_)
              · refine r_iincE dX4_longestQuiet_157 rfl (by decide) (by first | exact od_w0 (by omega) (by omega) | exact od_wI (by omega) (by omega) | rfl) rfl ?_
                refine r_goto (tgt := 58) dX4_longestQuiet_160 rfl ?_
                refine ih _ _ _ _ _ ⟨by omega, by omega, by omega, ?_⟩ (by omega)
                rw [hs1]
                unfold cQl
                first | rw [od_ite_t (by assumption)] | rw [od_ite_f (by assumption)]
                unfold cQu cQb
                first
                | (exfalso; omega)
                | (rw [if_pos c99]; first | rw [if_pos (by omega)] | rw [if_neg (by omega)])
                | (rw [if_neg (Int.not_lt.mpr c99)]; first | rw [if_pos (by omega)] | rw [if_neg (by omega)])
              · refine r_iload dX4_longestQuiet_143 rfl ?_
                refine r_iload dX4_longestQuiet_145 rfl ?_
                refine r_icmp_ge (tgt := 157) dX4_longestQuiet_147 rfl (fun c147 => ?_) (fun c147 => ?_)
                · refine r_iincE dX4_longestQuiet_157 rfl (by decide) (by first | exact od_w0 (by omega) (by omega) | exact od_wI (by omega) (by omega) | rfl) rfl ?_
                  refine r_goto (tgt := 58) dX4_longestQuiet_160 rfl ?_
                  refine ih _ _ _ _ _ ⟨by omega, by omega, by omega, ?_⟩ (by omega)
                  rw [hs1]
                  unfold cQl
                  first | rw [od_ite_t (by assumption)] | rw [od_ite_f (by assumption)]
                  unfold cQu cQb
                  first
                  | (exfalso; omega)
                  | (rw [if_pos c99]; first | rw [if_pos (by omega)] | rw [if_neg (by omega)])
                  | (rw [if_neg (Int.not_lt.mpr c99)]; first | rw [if_pos (by omega)] | rw [if_neg (by omega)])
                · refine r_iload dX4_longestQuiet_150 rfl ?_
                  refine r_istore_n dX4_longestQuiet_152 (by decide) rfl ?_
                  refine r_iload dX4_longestQuiet_153 rfl ?_
                  refine r_istore dX4_longestQuiet_155 (by decide) rfl ?_
                  refine r_iincE dX4_longestQuiet_157 rfl (by decide) (by first | exact od_w0 (by omega) (by omega) | exact od_wI (by omega) (by omega) | rfl) rfl ?_
                  refine r_goto (tgt := 58) dX4_longestQuiet_160 rfl ?_
                  refine ih _ _ _ _ _ ⟨by omega, by omega, by omega, ?_⟩ (by omega)
                  rw [hs1]
                  unfold cQl
                  first | rw [od_ite_t (by assumption)] | rw [od_ite_f (by assumption)]
                  unfold cQu cQb
                  first
                  | (exfalso; omega)
                  | (rw [if_pos c99]; first | rw [if_pos (by omega)] | rw [if_neg (by omega)])
                  | (rw [if_neg (Int.not_lt.mpr c99)]; first | rw [if_pos (by omega)] | rw [if_neg (by omega)])
set_option maxRecDepth 10000 in
theorem lp_X4_q1 {E : od_E} {g : od_G} {q s : Int} (hq : RoAt E q s) {H : Int} {C : Int → Int} (hC : RdC g q H C) (w : Int) : ∀ (m : Nat) (sk : Int), (0 ≤ sk ∧ sk ≤ H ∧ ∀ j : Int, 0 ≤ j → j < sk → cBt C j = 0) → ((H - sk).toNat) < m → od_R 3 mX4_longestQuiet od_Z0 E (some (0, cQuiet (fun h => cBt C h = 0) H w), E, g) 2 [some (2, q), some (0, w), some (0, sk), none, none, none, none, none] [] E g := by
  have hq0 := hq
  obtain ⟨hkq, qa, qb, qc, qd, qe, qf, qg, l1, l2, l3, l4, l5, l6⟩ := hq
  have hC0 := hC
  obtain ⟨r9, rH, r7, r8, rc, rb⟩ := hC
  intro m
  induction m with
  | zero => intro sk hi hM; exact absurd hM (Nat.not_lt_zero _)
  | succ m ih =>
    intro sk hi hM
    obtain ⟨hi0, hi1, hno⟩ := hi
    refine r_iload_n dX4_longestQuiet_2 rfl ?_
    refine r_aload_n dX4_longestQuiet_3 rfl ?_
    refine r_getIj (j := 9) rfl dX4_longestQuiet_4 fkX4_38 gf4_9 (by assumption) r9 ?_
    refine r_icmp_ge (tgt := 24) dX4_longestQuiet_7 rfl (fun c7 => ?_) (fun c7 => ?_)
    · refine r_iload_n dX4_longestQuiet_24 rfl ?_
      refine r_aload_n dX4_longestQuiet_25 rfl ?_
      refine r_getIj (j := 9) rfl dX4_longestQuiet_26 fkX4_38 gf4_9 (by assumption) r9 ?_
      refine r_icmp_lt (tgt := 45) dX4_longestQuiet_29 rfl (fun c29 => ?_) (fun c29 => ?_)
      · refine r_iconst dX4_longestQuiet_45 li_0 ?_
        refine r_istore_n dX4_longestQuiet_46 (by decide) rfl ?_
        refine r_iconst dX4_longestQuiet_47 li_m1 ?_
        refine r_istore dX4_longestQuiet_48 (by decide) rfl ?_
        refine r_iconst dX4_longestQuiet_50 li_0 ?_
        refine r_istore dX4_longestQuiet_51 (by decide) rfl ?_
        refine r_iload_n dX4_longestQuiet_53 rfl ?_
        refine r_iconst dX4_longestQuiet_54 li_1 ?_
        refine r_iaddE dX4_longestQuiet_55 (by first | exact od_w0 (by omega) (by omega) | exact od_wI (by omega) (by omega) | rfl) ?_
        refine r_istore dX4_longestQuiet_56 (by decide) rfl ?_
        first
        | (exfalso; omega)
        | (have hf : od_fst (fun h => ¬ cBt C h = 0) H.toNat 0 = sk := od_fst_y (by assumption) _ _ hi0 (by omega) (fun j j0 j1 z => z (hno j j0 j1))
           unfold cQuiet
           simp only []
           rw [hf, if_neg (by omega)]
           exact lp_X4_q2 hq0 hC0 w sk ⟨by omega, by omega⟩ _ _ _ _ _ _ ⟨by omega, by omega, by omega, by rw [show (sk + 1 - sk - 1).toNat = 0 by omega]; rfl⟩ (Nat.lt_succ_self _))
      · refine r_iload_n dX4_longestQuiet_32 rfl ?_
        refine r_if_ne (tgt := 43) dX4_longestQuiet_33 rfl (fun c33 => ?_) (fun c33 => ?_)
        · refine r_iconst dX4_longestQuiet_43 li_0 ?_
          first
          | (exfalso; omega)
          | (have hf : od_fst (fun h => ¬ cBt C h = 0) H.toNat 0 = -1 := od_fst_n _ _ (fun j j0 j1 z => z (hno j j0 (by omega)))
             refine r_iret dX4_longestQuiet_44 rfl ?_
             unfold cQuiet
             simp only []
             rw [hf, if_pos rfl]
             first | rw [if_pos (by assumption)] | rw [if_neg (by assumption)])
        · refine r_aload_n dX4_longestQuiet_36 rfl ?_
          refine r_getIj (j := 9) rfl dX4_longestQuiet_37 fkX4_38 gf4_9 (by assumption) r9 ?_
          refine r_goto (tgt := 44) dX4_longestQuiet_40 rfl ?_
          first
          | (exfalso; omega)
          | (have hf : od_fst (fun h => ¬ cBt C h = 0) H.toNat 0 = -1 := od_fst_n _ _ (fun j j0 j1 z => z (hno j j0 (by omega)))
             refine r_iret dX4_longestQuiet_44 rfl ?_
             unfold cQuiet
             simp only []
             rw [hf, if_pos rfl]
             first | rw [if_pos (by assumption)] | rw [if_neg (by assumption)])
    · refine r_aload_n dX4_longestQuiet_10 rfl ?_
      refine r_iload_n dX4_longestQuiet_11 rfl ?_
      refine r_callV1i dX4_longestQuiet_12 cvX4_99 (by assumption) (c_X4_strikersIn hq0 hC0 _ (by omega)) (by decide) (Nat.le_of_ble_eq_true rfl) od_le.rf ?_
      refine r_if_ne (tgt := 24) dX4_longestQuiet_15 rfl (fun c15 => ?_) (fun c15 => ?_)
      · refine r_iload_n dX4_longestQuiet_24 rfl ?_
        refine r_aload_n dX4_longestQuiet_25 rfl ?_
        refine r_getIj (j := 9) rfl dX4_longestQuiet_26 fkX4_38 gf4_9 (by assumption) r9 ?_
        refine r_icmp_lt (tgt := 45) dX4_longestQuiet_29 rfl (fun c29 => ?_) (fun c29 => ?_)
        · refine r_iconst dX4_longestQuiet_45 li_0 ?_
          refine r_istore_n dX4_longestQuiet_46 (by decide) rfl ?_
          refine r_iconst dX4_longestQuiet_47 li_m1 ?_
          refine r_istore dX4_longestQuiet_48 (by decide) rfl ?_
          refine r_iconst dX4_longestQuiet_50 li_0 ?_
          refine r_istore dX4_longestQuiet_51 (by decide) rfl ?_
          refine r_iload_n dX4_longestQuiet_53 rfl ?_
          refine r_iconst dX4_longestQuiet_54 li_1 ?_
          refine r_iaddE dX4_longestQuiet_55 (by first | exact od_w0 (by omega) (by omega) | exact od_wI (by omega) (by omega) | rfl) ?_
          refine r_istore dX4_longestQuiet_56 (by decide) rfl ?_
          first
          | (exfalso; omega)
          | (have hf : od_fst (fun h => ¬ cBt C h = 0) H.toNat 0 = sk := od_fst_y (by assumption) _ _ hi0 (by omega) (fun j j0 j1 z => z (hno j j0 j1))
             unfold cQuiet
             simp only []
             rw [hf, if_neg (by omega)]
             exact lp_X4_q2 hq0 hC0 w sk ⟨by omega, by omega⟩ _ _ _ _ _ _ ⟨by omega, by omega, by omega, by rw [show (sk + 1 - sk - 1).toNat = 0 by omega]; rfl⟩ (Nat.lt_succ_self _))
        · refine r_iload_n dX4_longestQuiet_32 rfl ?_
          refine r_if_ne (tgt := 43) dX4_longestQuiet_33 rfl (fun c33 => ?_) (fun c33 => ?_)
          · refine r_iconst dX4_longestQuiet_43 li_0 ?_
            first
            | (exfalso; omega)
            | (have hf : od_fst (fun h => ¬ cBt C h = 0) H.toNat 0 = -1 := od_fst_n _ _ (fun j j0 j1 z => z (hno j j0 (by omega)))
               refine r_iret dX4_longestQuiet_44 rfl ?_
               unfold cQuiet
               simp only []
               rw [hf, if_pos rfl]
               first | rw [if_pos (by assumption)] | rw [if_neg (by assumption)])
          · refine r_aload_n dX4_longestQuiet_36 rfl ?_
            refine r_getIj (j := 9) rfl dX4_longestQuiet_37 fkX4_38 gf4_9 (by assumption) r9 ?_
            refine r_goto (tgt := 44) dX4_longestQuiet_40 rfl ?_
            first
            | (exfalso; omega)
            | (have hf : od_fst (fun h => ¬ cBt C h = 0) H.toNat 0 = -1 := od_fst_n _ _ (fun j j0 j1 z => z (hno j j0 (by omega)))
               refine r_iret dX4_longestQuiet_44 rfl ?_
               unfold cQuiet
               simp only []
               rw [hf, if_pos rfl]
               first | rw [if_pos (by assumption)] | rw [if_neg (by assumption)])
      · refine r_iincE dX4_longestQuiet_18 rfl (by decide) (by first | exact od_w0 (by omega) (by omega) | exact od_wI (by omega) (by omega) | rfl) rfl ?_
        refine r_goto (tgt := 2) dX4_longestQuiet_21 rfl ?_
        exact ih _ ⟨by omega, by omega, fun j j0 j1 => by
          by_cases cj : j = sk
          · rw [cj]; assumption
          · exact hno j j0 (by omega)⟩ (by omega)
set_option maxRecDepth 10000 in
theorem c_X4_longestQuiet {E : od_E} {g : od_G} {q s : Int} (hq : RoAt E q s) {H : Int} {C : Int → Int} (hC : RdC g q H C) (w : Int) : od_Ct 3 mX4_longestQuiet [(2, q), (0, w)] E g (some (0, cQuiet (fun h => cBt C h = 0) H w), E, g) := by
  have hq0 := hq
  obtain ⟨hkq, qa, qb, qc, qd, qe, qf, qg, l1, l2, l3, l4, l5, l6⟩ := hq
  have hC0 := hC
  obtain ⟨r9, rH, r7, r8, rc, rb⟩ := hC
  refine od_ctI pnX4 rfl (Nat.le_of_ble_eq_true rfl) od_le.rf ?_
  show od_R _ _ _ _ _ 0 [some (2, q), some (0, w), none, none, none, none, none, none] [] E g
  refine r_iconst dX4_longestQuiet_0 li_0 ?_
  refine r_istore_n dX4_longestQuiet_1 (by decide) rfl ?_
  exact lp_X4_q1 hq0 hC0 w _ _ ⟨by omega, by omega, fun j j0 j1 => by omega⟩ (Nat.lt_succ_self _)
/-- at how many hours, a drum being at beat b, others strike -/
noncomputable def cMt (C : Int → Int) (H at0 L ot b : Int) : Int := od_sum (fun h => od_b (od_and (cBt C h) ot ≠ 0 ∧ (at0 + h).tmod L = b)) H.toNat
set_option maxRecDepth 10000 in
theorem lp_X4_sm {E : od_E} {g : od_G} {q s : Int} (hq : RoAt E q s) {H : Int} {C : Int → Int} (hC : RdC g q H C) (at0 L ot : Int) (ha : 0 ≤ at0 ∧ at0 ≤ 12) (hL : 1 ≤ L ∧ L ≤ 12) : ∀ (m : Nat) (h : Int) (gw : od_G), (0 ≤ h ∧ h ≤ H ∧ od_fr (fun x _ => x = q + 4) g gw ∧ ∀ b : Int, 0 ≤ b → b < 12 → gw (q + 4) b = od_sum (fun j => od_b (od_and (cBt C j) ot ≠ 0 ∧ (at0 + j).tmod L = b)) h.toNat) → ((H - h).toNat) < m → od_Rq 3 mX4_setMeetings od_Z0 E (E, fun v g' => v = none ∧ od_fr (fun x _ => x = q + 4) g g' ∧ ∀ b : Int, 0 ≤ b → b < 12 → g' (q + 4) b = cMt C H at0 L ot b) 12 [some (2, q), some (0, at0), some (0, L), some (0, ot), some (0, h)] [] E gw := by
  have hq0 := hq
  obtain ⟨hkq, qa, qb, qc, qd, qe, qf, qg, l1, l2, l3, l4, l5, l6⟩ := hq
  have hC0 := hC
  obtain ⟨r9, rH, r7, r8, rc, rb⟩ := hC
  intro m
  induction m with
  | zero => intro h gw hi hM; exact absurd hM (Nat.not_lt_zero _)
  | succ m ih =>
    intro h gw hi hM
    obtain ⟨hi0, hi1, hfr, hw⟩ := hi
    have hCw : RdC gw q H C := hC0.e (hfr.row (fun y z => by omega)) (hfr.row (fun y z => by omega)) (hfr.row (fun y z => by omega))
    have e9 : gw q 9 = H := hCw.1
    have mb := od_tmb (x := at0 + h) (L := L) (by omega) (by omega)
    have hwb := hw ((at0 + h).tmod L) (by omega) (by omega)
    have hsb := od_sum_b (f := (fun j => od_b (od_and (cBt C j) ot ≠ 0 ∧ (at0 + j).tmod L = (at0 + h).tmod L))) (m := 1) h.toNat (fun i _ _ => by have := od_b_01 (od_and (cBt C i) ot ≠ 0 ∧ (at0 + i).tmod L = (at0 + h).tmod L); omega)
    have hs1 : ∀ b : Int, od_sum (fun j => od_b (od_and (cBt C j) ot ≠ 0 ∧ (at0 + j).tmod L = b)) (h + 1).toNat = od_sum (fun j => od_b (od_and (cBt C j) ot ≠ 0 ∧ (at0 + j).tmod L = b)) h.toNat + od_b (od_and (cBt C h) ot ≠ 0 ∧ (at0 + h).tmod L = b) := fun b => od_sum_s _ hi0
    refine r_iload dX4_setMeetings_12 rfl ?_
    refine r_aload_n dX4_setMeetings_14 rfl ?_
    refine r_getIj (j := 9) rfl dX4_setMeetings_15 fkX4_38 gf4_9 (by assumption) (by (repeat (first | rewrite [od_upn (by omega)] | rewrite [od_up_at, if_pos (by omega)] | rewrite [od_up_at, if_neg (by omega)])); rfl) ?_
    rw [e9]
    refine r_icmp_ge (tgt := 67) dX4_setMeetings_18 rfl (fun c18 => ?_) (fun c18 => ?_)
    · exact r_vretq dX4_setMeetings_67 rfl rfl ⟨rfl, hfr, fun b b0 b1 => by unfold cMt; rw [hw b b0 b1, show H = h by omega]⟩
    · refine r_aload_n dX4_setMeetings_21 rfl ?_
      refine r_iload dX4_setMeetings_22 rfl ?_
      refine r_callV1i dX4_setMeetings_24 cvX4_99 (by assumption) (c_X4_strikersIn hq0 hCw _ (by omega)) (by decide) (Nat.le_of_ble_eq_true rfl) od_le.rf ?_
      refine r_iload_n dX4_setMeetings_27 rfl ?_
      refine r_iand dX4_setMeetings_28 ?_
      refine r_if_eq (tgt := 61) dX4_setMeetings_29 rfl (fun c29 => ?_) (fun c29 => ?_)
      · refine r_iincE dX4_setMeetings_61 rfl (by decide) (by first | exact od_w0 (by omega) (by omega) | exact od_wI (by omega) (by omega) | rfl) rfl ?_
        refine r_goto (tgt := 12) dX4_setMeetings_64 rfl ?_
        first
        | (exfalso; omega)
        | (refine ih _ _ ⟨by omega, by omega, hfr, fun b b0 b1 => ?_⟩ (by omega)
           rw [hs1 b, hw b b0 b1, od_b_f (fun z => z.1 (by assumption))]
           omega)
        | (refine ih _ _ ⟨by omega, by omega, hfr.up rfl, fun b b0 b1 => ?_⟩ (by omega)
           rw [hs1 b]
           unfold od_up
           by_cases cb : b = (at0 + h).tmod L
           · rw [if_pos ⟨rfl, cb⟩, od_b_t ⟨by assumption, cb.symm⟩, cb]
           · rw [if_neg (fun z => cb z.2), hw b b0 b1, od_b_f (fun z => cb z.2.symm)]
             omega)
      · refine r_iload_n dX4_setMeetings_32 rfl ?_
        refine r_if_le (tgt := 61) dX4_setMeetings_33 rfl (fun c33 => ?_) (fun c33 => ?_)
        · refine r_iincE dX4_setMeetings_61 rfl (by decide) (by first | exact od_w0 (by omega) (by omega) | exact od_wI (by omega) (by omega) | rfl) rfl ?_
          refine r_goto (tgt := 12) dX4_setMeetings_64 rfl ?_
          first
          | (exfalso; omega)
          | (refine ih _ _ ⟨by omega, by omega, hfr, fun b b0 b1 => ?_⟩ (by omega)
             rw [hs1 b, hw b b0 b1, od_b_f (fun z => z.1 (by assumption))]
             omega)
          | (refine ih _ _ ⟨by omega, by omega, hfr.up rfl, fun b b0 b1 => ?_⟩ (by omega)
             rw [hs1 b]
             unfold od_up
             by_cases cb : b = (at0 + h).tmod L
             · rw [if_pos ⟨rfl, cb⟩, od_b_t ⟨by assumption, cb.symm⟩, cb]
             · rw [if_neg (fun z => cb z.2), hw b b0 b1, od_b_f (fun z => cb z.2.symm)]
               omega)
        · refine r_iload_n dX4_setMeetings_36 rfl ?_
          refine r_bipush dX4_setMeetings_37 lb_12 ?_
          refine r_icmp_gt (tgt := 61) dX4_setMeetings_39 rfl (fun c39 => ?_) (fun c39 => ?_)
          · refine r_iincE dX4_setMeetings_61 rfl (by decide) (by first | exact od_w0 (by omega) (by omega) | exact od_wI (by omega) (by omega) | rfl) rfl ?_
            refine r_goto (tgt := 12) dX4_setMeetings_64 rfl ?_
            first
            | (exfalso; omega)
            | (refine ih _ _ ⟨by omega, by omega, hfr, fun b b0 b1 => ?_⟩ (by omega)
               rw [hs1 b, hw b b0 b1, od_b_f (fun z => z.1 (by assumption))]
               omega)
            | (refine ih _ _ ⟨by omega, by omega, hfr.up rfl, fun b b0 b1 => ?_⟩ (by omega)
               rw [hs1 b]
               unfold od_up
               by_cases cb : b = (at0 + h).tmod L
               · rw [if_pos ⟨rfl, cb⟩, od_b_t ⟨by assumption, cb.symm⟩, cb]
               · rw [if_neg (fun z => cb z.2), hw b b0 b1, od_b_f (fun z => cb z.2.symm)]
                 omega)
          · refine r_iload_n dX4_setMeetings_42 rfl ?_
            refine r_if_lt (tgt := 61) dX4_setMeetings_43 rfl (fun c43 => ?_) (fun c43 => ?_)
            · refine r_iincE dX4_setMeetings_61 rfl (by decide) (by first | exact od_w0 (by omega) (by omega) | exact od_wI (by omega) (by omega) | rfl) rfl ?_
              refine r_goto (tgt := 12) dX4_setMeetings_64 rfl ?_
              first
              | (exfalso; omega)
              | (refine ih _ _ ⟨by omega, by omega, hfr, fun b b0 b1 => ?_⟩ (by omega)
                 rw [hs1 b, hw b b0 b1, od_b_f (fun z => z.1 (by assumption))]
                 omega)
              | (refine ih _ _ ⟨by omega, by omega, hfr.up rfl, fun b b0 b1 => ?_⟩ (by omega)
                 rw [hs1 b]
                 unfold od_up
                 by_cases cb : b = (at0 + h).tmod L
                 · rw [if_pos ⟨rfl, cb⟩, od_b_t ⟨by assumption, cb.symm⟩, cb]
                 · rw [if_neg (fun z => cb z.2), hw b b0 b1, od_b_f (fun z => cb z.2.symm)]
                   omega)
            · refine r_aload_n dX4_setMeetings_46 rfl ?_
              refine r_getR dX4_setMeetings_47 fkX4_21 gf4_4 (by assumption) (by assumption) ?_
              refine r_iload_n dX4_setMeetings_50 rfl ?_
              refine r_iload dX4_setMeetings_51 rfl ?_
              refine r_iaddE dX4_setMeetings_53 (by first | exact od_w0 (by omega) (by omega) | exact od_wI (by omega) (by omega) | rfl) ?_
              refine r_iload_n dX4_setMeetings_54 rfl ?_
              refine r_irem dX4_setMeetings_55 (by first | decide | omega) ?_
              refine r_dup2 dX4_setMeetings_56 (by first | exact od_ne2 | exact od_ne0) (by first | exact od_ne2 | exact od_ne0) ?_
              refine r_iald dX4_setMeetings_57 (by assumption) (by omega) (by (repeat (first | rewrite [od_upn (by omega)] | rewrite [od_up_at, if_pos (by omega)] | rewrite [od_up_at, if_neg (by omega)])); rfl) ?_
              rw [hwb]
              refine r_iconst dX4_setMeetings_58 li_1 ?_
              refine r_iaddE dX4_setMeetings_59 (by first | exact od_w0 (by omega) (by omega) | exact od_wI (by omega) (by omega) | rfl) ?_
              refine r_iast dX4_setMeetings_60 (by assumption) (by omega) ?_
              refine r_iincE dX4_setMeetings_61 rfl (by decide) (by first | exact od_w0 (by omega) (by omega) | exact od_wI (by omega) (by omega) | rfl) rfl ?_
              refine r_goto (tgt := 12) dX4_setMeetings_64 rfl ?_
              first
              | (exfalso; omega)
              | (refine ih _ _ ⟨by omega, by omega, hfr, fun b b0 b1 => ?_⟩ (by omega)
                 rw [hs1 b, hw b b0 b1, od_b_f (fun z => z.1 (by assumption))]
                 omega)
              | (refine ih _ _ ⟨by omega, by omega, hfr.up rfl, fun b b0 b1 => ?_⟩ (by omega)
                 rw [hs1 b]
                 unfold od_up
                 by_cases cb : b = (at0 + h).tmod L
                 · rw [if_pos ⟨rfl, cb⟩, od_b_t ⟨by assumption, cb.symm⟩, cb]
                 · rw [if_neg (fun z => cb z.2), hw b b0 b1, od_b_f (fun z => cb z.2.symm)]
                   omega)
set_option maxRecDepth 10000 in
theorem c_X4_setMeetings {E : od_E} {g : od_G} {q s : Int} (hq : RoAt E q s) {H : Int} {C : Int → Int} (hC : RdC g q H C) (at0 L ot : Int) (ha : 0 ≤ at0 ∧ at0 ≤ 12) (hL : 1 ≤ L ∧ L ≤ 12) : od_Cq 3 mX4_setMeetings [(2, q), (0, at0), (0, L), (0, ot)] E g (E, fun v g' => v = none ∧ od_fr (fun x _ => x = q + 4) g g' ∧ ∀ b : Int, 0 ≤ b → b < 12 → g' (q + 4) b = cMt C H at0 L ot b) := by
  have hq0 := hq
  obtain ⟨hkq, qa, qb, qc, qd, qe, qf, qg, l1, l2, l3, l4, l5, l6⟩ := hq
  have hC0 := hC
  obtain ⟨r9, rH, r7, r8, rc, rb⟩ := hC
  refine od_cqI pnX4 rfl (Nat.le_of_ble_eq_true rfl) od_le.rf ?_
  show od_Rq 3 mX4_setMeetings od_Z0 E (E, fun v g' => v = none ∧ od_fr (fun x _ => x = q + 4) g g' ∧ ∀ b : Int, 0 ≤ b → b < 12 → g' (q + 4) b = cMt C H at0 L ot b) 0 [some (2, q), some (0, at0), some (0, L), some (0, ot), none] [] E g
  refine r_aload_n dX4_setMeetings_0 rfl ?_
  refine r_getR dX4_setMeetings_1 fkX4_21 gf4_4 (by assumption) (by assumption) ?_
  refine r_bipush dX4_setMeetings_4 lb_12 ?_
  refine r_callS2v dX4_setMeetings_6 csX4_60 (c_X4_clear (by assumption) (by omega) (by decide)) (by decide) (Nat.le_of_ble_eq_true rfl) od_le.rf ?_
  refine r_iconst dX4_setMeetings_9 li_0 ?_
  refine r_istore dX4_setMeetings_10 (by decide) rfl ?_
  refine lp_X4_sm hq0 hC0 at0 L ot ha hL _ _ _ ⟨by omega, by omega, ?_, ?_⟩ (Nat.lt_succ_self _)
  · intro x y z
    unfold cClr
    rw [if_neg (fun w => z w.1)]
  · intro b b0 b1
    unfold cClr
    rw [if_pos ⟨rfl, b0, b1⟩]
    rfl
noncomputable def cTm (g : od_G) (k d : Int) (Mt : Int → Int) (L sh : Int) : Int := od_sum (fun b => od_ite (¬ cStop g k d ∧ cHasPin g k d ((b + sh).tmod L)) (Mt b) 0) L.toNat
/-- the best of the first n shifts and its times; none: -1 -/
def cBs (wm : Int) (T : Int → Int) : Nat → Int × Int
  | 0 => (-1, 0)
  | n + 1 => if (cBs wm T n).1 = -1 ∨ (wm ≠ 0 ∧ (cBs wm T n).2 < T n) ∨ (wm = 0 ∧ T n < (cBs wm T n).2) then ((n : Int), T n) else cBs wm T n
set_option maxRecDepth 10000 in
theorem lp_X4_b2 {E : od_E} {g : od_G} {q s : Int} (hq : RoAt E q s) {H : Int} {C : Int → Int} (hC : RdC g q H C) {k : Int} (hs : StAt E k) (o1 : k + 9 ≤ q) (hI : CI g k) (d wm w : Int) (hh : cHas g k d) {gw : od_G} (hfr : od_fr (fun x _ => x = q + 4) g gw) (hm : ∀ b : Int, 0 ≤ b → b < 12 → gw (q + 4) b = (cMt C H (g (k + 3) d) (g (k + 1) d) (od_w (63 - od_shl 1 d))) b) (sh : Int) (hsh : 0 ≤ sh ∧ sh < g (k + 1) d) (bs bt : Int) (hx2 : ∀ n b : Int, n = (cTm g k d (cMt C H (g (k + 3) d) (g (k + 1) d) (od_w (63 - od_shl 1 d))) (g (k + 1) d)) sh → od_Rq 4 mX4_bestShift od_Z0 E (E, fun v g' => v = some (0, if w = 0 then (cBs wm (cTm g k d (cMt C H (g (k + 3) d) (g (k + 1) d) (od_w (63 - od_shl 1 d))) (g (k + 1) d)) (g (k + 1) d).toNat).1 else (cBs wm (cTm g k d (cMt C H (g (k + 3) d) (g (k + 1) d) (od_w (63 - od_shl 1 d))) (g (k + 1) d)) (g (k + 1) d).toNat).2) ∧ od_fr (fun x _ => x = q + 4) g g') 124 [some (2, q), some (2, k), some (0, d), some (0, wm), some (0, w), some (0, g (k + 1) d), some (0, bs), some (0, bt), some (0, sh), some (0, n), some (0, b)] [] E gw) : ∀ (m : Nat) (b n : Int), (0 ≤ b ∧ b ≤ g (k + 1) d ∧ n = od_sum (fun b => od_ite (¬ cStop g k d ∧ cHasPin g k d ((b + sh).tmod (g (k + 1) d))) ((cMt C H (g (k + 3) d) (g (k + 1) d) (od_w (63 - od_shl 1 d))) b) 0) b.toNat) → ((g (k + 1) d - b).toNat) < m → od_Rq 4 mX4_bestShift od_Z0 E (E, fun v g' => v = some (0, if w = 0 then (cBs wm (cTm g k d (cMt C H (g (k + 3) d) (g (k + 1) d) (od_w (63 - od_shl 1 d))) (g (k + 1) d)) (g (k + 1) d).toNat).1 else (cBs wm (cTm g k d (cMt C H (g (k + 3) d) (g (k + 1) d) (od_w (63 - od_shl 1 d))) (g (k + 1) d)) (g (k + 1) d).toNat).2) ∧ od_fr (fun x _ => x = q + 4) g g') 75 [some (2, q), some (2, k), some (0, d), some (0, wm), some (0, w), some (0, g (k + 1) d), some (0, bs), some (0, bt), some (0, sh), some (0, n), some (0, b)] [] E gw := by
  have hq0 := hq
  obtain ⟨hkq, qa, qb, qc, qd, qe, qf, qg, l1, l2, l3, l4, l5, l6⟩ := hq
  have hC0 := hC
  obtain ⟨r9, rH, r7, r8, rc, rb⟩ := hC
  have hs0 := hs
  obtain ⟨hk, r0, r1, r2, r3, r4, r5, r6, r7, a1, a2, a3, a4, a5, a6, a7, a8⟩ := hs
  have eS : StEq g gw k := StEq.of hfr (fun x y z => by omega)
  have hx := hI.has hh
  have mtb : ∀ b : Int, 0 ≤ (cMt C H (g (k + 3) d) (g (k + 1) d) (od_w (63 - od_shl 1 d))) b ∧ (cMt C H (g (k + 3) d) (g (k + 1) d) (od_w (63 - od_shl 1 d))) b ≤ 27720 := fun b => by
    unfold cMt
    have := od_sum_b (f := fun h => od_b (od_and (cBt C h) (od_w (63 - od_shl 1 d)) ≠ 0 ∧ (g (k + 3) d + h).tmod (g (k + 1) d) = b)) (m := 1) H.toNat (fun i _ _ => by have := od_b_01 (od_and (cBt C i) (od_w (63 - od_shl 1 d)) ≠ 0 ∧ (g (k + 3) d + i).tmod (g (k + 1) d) = b); omega)
    omega
  intro m
  induction m with
  | zero => intro b n hi hM; exact absurd hM (Nat.not_lt_zero _)
  | succ m ih =>
    intro b n hi hM
    obtain ⟨hi0, hi1, hn⟩ := hi
    have hsb := od_sum_b (f := (fun b => od_ite (¬ cStop g k d ∧ cHasPin g k d ((b + sh).tmod (g (k + 1) d))) ((cMt C H (g (k + 3) d) (g (k + 1) d) (od_w (63 - od_shl 1 d))) b) 0)) (m := 27720) b.toNat (fun i _ _ => by
      have := mtb i
      by_cases c : ¬ cStop g k d ∧ cHasPin g k d ((i + sh).tmod (g (k + 1) d))
      · rw [od_ite_t c]; omega
      · rw [od_ite_f c]; omega)
    have hs1 := od_sum_s (fun b => od_ite (¬ cStop g k d ∧ cHasPin g k d ((b + sh).tmod (g (k + 1) d))) ((cMt C H (g (k + 3) d) (g (k + 1) d) (od_w (63 - od_shl 1 d))) b) 0) hi0
    have mb := mtb b
    have hmb : b < 12 → gw (q + 4) b = (cMt C H (g (k + 3) d) (g (k + 1) d) (od_w (63 - od_shl 1 d))) b := fun z => hm b hi0 z
    refine r_iload dX4_bestShift_75 rfl ?_
    refine r_iload dX4_bestShift_77 rfl ?_
    refine r_icmp_ge (tgt := 124) dX4_bestShift_79 rfl (fun c79 => ?_) (fun c79 => ?_)
    · refine hx2 _ _ ?_
      unfold cTm
      rw [hn, show g (k + 1) d = b by omega]
    · refine r_aload_n dX4_bestShift_82 rfl ?_
      refine r_iload_n dX4_bestShift_83 rfl ?_
      refine r_callV1b dX4_bestShift_84 cvX4_67 (by assumption) (c_X6_isStopped (by assumption) _) (by decide) (Nat.le_of_ble_eq_true rfl) od_le.rf (fun q84 => ?_) (fun q84 => ?_)
      · refine r_if_ne (tgt := 118) dX4_bestShift_87 rfl (fun _ => ?_) (fun h => absurd h (by decide))
        refine r_iincE dX4_bestShift_118 rfl (by decide) (by first | exact od_w0 (by omega) (by omega) | exact od_wI (by omega) (by omega) | rfl) rfl ?_
        refine r_goto (tgt := 75) dX4_bestShift_121 rfl ?_
        refine ih _ _ ⟨by omega, by omega, ?_⟩ (by omega)
        rw [hs1]
        first
        | (rw [od_ite_t ⟨fun z => q84 ((cStop_e eS d).mpr z), (cHasPin_e eS d _).mp q100⟩]; omega)
        | (rw [od_ite_f (fun z => q100 ((cHasPin_e eS d _).mpr z.2))]; omega)
        | (rw [od_ite_f (fun z => z.1 ((cStop_e eS d).mp q84))]; omega)
      · refine r_if_ne (tgt := 118) dX4_bestShift_87 rfl (fun h => absurd h (by decide)) (fun _ => ?_)
        refine r_aload_n dX4_bestShift_90 rfl ?_
        refine r_iload_n dX4_bestShift_91 rfl ?_
        refine r_iload dX4_bestShift_92 rfl ?_
        refine r_iload dX4_bestShift_94 rfl ?_
        refine r_iaddE dX4_bestShift_96 (by first | exact od_w0 (by omega) (by omega) | exact od_wI (by omega) (by omega) | rfl) ?_
        refine r_iload dX4_bestShift_97 rfl ?_
        refine r_irem dX4_bestShift_99 (by first | decide | omega) ?_
        refine r_callV2b dX4_bestShift_100 cvX4_79 (by assumption) (c_X6_hasPin (by assumption) _ _) (by decide) (Nat.le_of_ble_eq_true rfl) od_le.rf (fun q100 => ?_) (fun q100 => ?_)
        · refine r_if_eq (tgt := 118) dX4_bestShift_103 rfl (fun h => absurd h (by decide)) (fun _ => ?_)
          refine r_iload dX4_bestShift_106 rfl ?_
          refine r_aload_n dX4_bestShift_108 rfl ?_
          refine r_getR dX4_bestShift_109 fkX4_21 gf4_4 (by assumption) (by assumption) ?_
          refine r_iload dX4_bestShift_112 rfl ?_
          refine r_iald dX4_bestShift_114 (by assumption) (by omega) (by (repeat (first | rewrite [od_upn (by omega)] | rewrite [od_up_at, if_pos (by omega)] | rewrite [od_up_at, if_neg (by omega)])); rfl) ?_
          rw [hmb (by omega)]
          refine r_iaddE dX4_bestShift_115 (by first | exact od_w0 (by omega) (by omega) | exact od_wI (by omega) (by omega) | rfl) ?_
          refine r_istore dX4_bestShift_116 (by decide) rfl ?_
          refine r_iincE dX4_bestShift_118 rfl (by decide) (by first | exact od_w0 (by omega) (by omega) | exact od_wI (by omega) (by omega) | rfl) rfl ?_
          refine r_goto (tgt := 75) dX4_bestShift_121 rfl ?_
          refine ih _ _ ⟨by omega, by omega, ?_⟩ (by omega)
          rw [hs1]
          first
          | (rw [od_ite_t ⟨fun z => q84 ((cStop_e eS d).mpr z), (cHasPin_e eS d _).mp q100⟩]; omega)
          | (rw [od_ite_f (fun z => q100 ((cHasPin_e eS d _).mpr z.2))]; omega)
          | (rw [od_ite_f (fun z => z.1 ((cStop_e eS d).mp q84))]; omega)
        · refine r_if_eq (tgt := 118) dX4_bestShift_103 rfl (fun _ => ?_) (fun h => absurd h (by decide))
          refine r_iincE dX4_bestShift_118 rfl (by decide) (by first | exact od_w0 (by omega) (by omega) | exact od_wI (by omega) (by omega) | rfl) rfl ?_
          refine r_goto (tgt := 75) dX4_bestShift_121 rfl ?_
          refine ih _ _ ⟨by omega, by omega, ?_⟩ (by omega)
          rw [hs1]
          first
          | (rw [od_ite_t ⟨fun z => q84 ((cStop_e eS d).mpr z), (cHasPin_e eS d _).mp q100⟩]; omega)
          | (rw [od_ite_f (fun z => q100 ((cHasPin_e eS d _).mpr z.2))]; omega)
          | (rw [od_ite_f (fun z => z.1 ((cStop_e eS d).mp q84))]; omega)
set_option maxRecDepth 10000 in
theorem lp_X4_b1 {E : od_E} {g : od_G} {q s : Int} (hq : RoAt E q s) {H : Int} {C : Int → Int} (hC : RdC g q H C) {k : Int} (hs : StAt E k) (o1 : k + 9 ≤ q) (hI : CI g k) (d wm w : Int) (hh : cHas g k d) {gw : od_G} (hfr : od_fr (fun x _ => x = q + 4) g gw) (hm : ∀ b : Int, 0 ≤ b → b < 12 → gw (q + 4) b = (cMt C H (g (k + 3) d) (g (k + 1) d) (od_w (63 - od_shl 1 d))) b) : ∀ (m : Nat) (sh bs bt : Int) (L9 L10 : Option od_V), (0 ≤ sh ∧ sh ≤ g (k + 1) d ∧ (bs, bt) = cBs wm (cTm g k d (cMt C H (g (k + 3) d) (g (k + 1) d) (od_w (63 - od_shl 1 d))) (g (k + 1) d)) sh.toNat) → ((g (k + 1) d - sh).toNat) < m → od_Rq 4 mX4_bestShift od_Z0 E (E, fun v g' => v = some (0, if w = 0 then (cBs wm (cTm g k d (cMt C H (g (k + 3) d) (g (k + 1) d) (od_w (63 - od_shl 1 d))) (g (k + 1) d)) (g (k + 1) d).toNat).1 else (cBs wm (cTm g k d (cMt C H (g (k + 3) d) (g (k + 1) d) (od_w (63 - od_shl 1 d))) (g (k + 1) d)) (g (k + 1) d).toNat).2) ∧ od_fr (fun x _ => x = q + 4) g g') 62 [some (2, q), some (2, k), some (0, d), some (0, wm), some (0, w), some (0, g (k + 1) d), some (0, bs), some (0, bt), some (0, sh), L9, L10] [] E gw := by
  have hq0 := hq
  obtain ⟨hkq, qa, qb, qc, qd, qe, qf, qg, l1, l2, l3, l4, l5, l6⟩ := hq
  have hC0 := hC
  obtain ⟨r9, rH, r7, r8, rc, rb⟩ := hC
  have hs0 := hs
  obtain ⟨hk, r0, r1, r2, r3, r4, r5, r6, r7, a1, a2, a3, a4, a5, a6, a7, a8⟩ := hs
  intro m
  induction m with
  | zero => intro sh bs bt L9 L10 hi hM; exact absurd hM (Nat.not_lt_zero _)
  | succ m ih =>
    intro sh bs bt L9 L10 hi hM
    obtain ⟨hi0, hi1, hn⟩ := hi
    have hx := hI.has hh
    have hs1 : cBs wm (cTm g k d (cMt C H (g (k + 3) d) (g (k + 1) d) (od_w (63 - od_shl 1 d))) (g (k + 1) d)) (sh + 1).toNat = if bs = -1 ∨ (wm ≠ 0 ∧ bt < (cTm g k d (cMt C H (g (k + 3) d) (g (k + 1) d) (od_w (63 - od_shl 1 d))) (g (k + 1) d)) sh) ∨ (wm = 0 ∧ (cTm g k d (cMt C H (g (k + 3) d) (g (k + 1) d) (od_w (63 - od_shl 1 d))) (g (k + 1) d)) sh < bt) then (sh, (cTm g k d (cMt C H (g (k + 3) d) (g (k + 1) d) (od_w (63 - od_shl 1 d))) (g (k + 1) d)) sh) else (bs, bt) := by
      rw [show (sh + 1).toNat = sh.toNat + 1 by omega]
      simp only [cBs]
      rw [← hn, show ((sh.toNat : Nat) : Int) = sh by omega]
    refine r_iload dX4_bestShift_62 rfl ?_
    refine r_iload dX4_bestShift_64 rfl ?_
    refine r_icmp_ge (tgt := 165) dX4_bestShift_66 rfl (fun c66 => ?_) (fun c66 => ?_)
    · refine r_iload dX4_bestShift_165 rfl ?_
      refine r_if_ne (tgt := 175) dX4_bestShift_167 rfl (fun c167 => ?_) (fun c167 => ?_)
      · refine r_iload dX4_bestShift_175 rfl ?_
        refine r_iretq dX4_bestShift_177 rfl rfl ⟨?_, hfr⟩
        rw [show (g (k + 1) d).toNat = sh.toNat by omega, ← hn]
        first | rw [if_pos (by assumption)] | rw [if_neg (by assumption)]
      · refine r_iload dX4_bestShift_170 rfl ?_
        refine r_goto (tgt := 177) dX4_bestShift_172 rfl ?_
        refine r_iretq dX4_bestShift_177 rfl rfl ⟨?_, hfr⟩
        rw [show (g (k + 1) d).toNat = sh.toNat by omega, ← hn]
        first | rw [if_pos (by assumption)] | rw [if_neg (by assumption)]
    · refine r_iconst dX4_bestShift_69 li_0 ?_
      refine r_istore dX4_bestShift_70 (by decide) rfl ?_
      refine r_iconst dX4_bestShift_72 li_0 ?_
      refine r_istore dX4_bestShift_73 (by decide) rfl ?_
      refine lp_X4_b2 hq0 hC0 hs0 o1 hI d wm w hh hfr hm sh ⟨by omega, by omega⟩ bs bt (fun n b hnb => ?_) _ _ _ ⟨by omega, by omega, rfl⟩ (Nat.lt_succ_self _)
      refine r_iload dX4_bestShift_124 rfl ?_
      refine r_iconst dX4_bestShift_126 li_m1 ?_
      refine r_icmp_eq (tgt := 151) dX4_bestShift_127 rfl (fun c127 => ?_) (fun c127 => ?_)
      · refine r_iload dX4_bestShift_151 rfl ?_
        refine r_istore dX4_bestShift_153 (by decide) rfl ?_
        refine r_iload dX4_bestShift_155 rfl ?_
        refine r_istore dX4_bestShift_157 (by decide) rfl ?_
        refine r_iincE dX4_bestShift_159 rfl (by decide) (by first | exact od_w0 (by omega) (by omega) | exact od_wI (by omega) (by omega) | rfl) rfl ?_
        refine r_goto (tgt := 62) dX4_bestShift_162 rfl ?_
        refine ih _ _ _ _ _ ⟨by omega, by omega, ?_⟩ (by omega)
        rw [hs1, ← hnb]
        first | rw [if_pos (by omega)] | rw [if_neg (by omega)]
      · refine r_iload_n dX4_bestShift_130 rfl ?_
        refine r_if_eq (tgt := 144) dX4_bestShift_131 rfl (fun c131 => ?_) (fun c131 => ?_)
        · refine r_iload dX4_bestShift_144 rfl ?_
          refine r_iload dX4_bestShift_146 rfl ?_
          refine r_icmp_ge (tgt := 159) dX4_bestShift_148 rfl (fun c148 => ?_) (fun c148 => ?_)
          · refine r_iincE dX4_bestShift_159 rfl (by decide) (by first | exact od_w0 (by omega) (by omega) | exact od_wI (by omega) (by omega) | rfl) rfl ?_
            refine r_goto (tgt := 62) dX4_bestShift_162 rfl ?_
            refine ih _ _ _ _ _ ⟨by omega, by omega, ?_⟩ (by omega)
            rw [hs1, ← hnb]
            first | rw [if_pos (by omega)] | rw [if_neg (by omega)]
          · refine r_iload dX4_bestShift_151 rfl ?_
            refine r_istore dX4_bestShift_153 (by decide) rfl ?_
            refine r_iload dX4_bestShift_155 rfl ?_
            refine r_istore dX4_bestShift_157 (by decide) rfl ?_
            refine r_iincE dX4_bestShift_159 rfl (by decide) (by first | exact od_w0 (by omega) (by omega) | exact od_wI (by omega) (by omega) | rfl) rfl ?_
            refine r_goto (tgt := 62) dX4_bestShift_162 rfl ?_
            refine ih _ _ _ _ _ ⟨by omega, by omega, ?_⟩ (by omega)
            rw [hs1, ← hnb]
            first | rw [if_pos (by omega)] | rw [if_neg (by omega)]
        · refine r_iload dX4_bestShift_134 rfl ?_
          refine r_iload dX4_bestShift_136 rfl ?_
          refine r_icmp_le (tgt := 159) dX4_bestShift_138 rfl (fun c138 => ?_) (fun c138 => ?_)
          · refine r_iincE dX4_bestShift_159 rfl (by decide) (by first | exact od_w0 (by omega) (by omega) | exact od_wI (by omega) (by omega) | rfl) rfl ?_
            refine r_goto (tgt := 62) dX4_bestShift_162 rfl ?_
            refine ih _ _ _ _ _ ⟨by omega, by omega, ?_⟩ (by omega)
            rw [hs1, ← hnb]
            first | rw [if_pos (by omega)] | rw [if_neg (by omega)]
          · refine r_goto (tgt := 151) dX4_bestShift_141 rfl ?_
            refine r_iload dX4_bestShift_151 rfl ?_
            refine r_istore dX4_bestShift_153 (by decide) rfl ?_
            refine r_iload dX4_bestShift_155 rfl ?_
            refine r_istore dX4_bestShift_157 (by decide) rfl ?_
            refine r_iincE dX4_bestShift_159 rfl (by decide) (by first | exact od_w0 (by omega) (by omega) | exact od_wI (by omega) (by omega) | rfl) rfl ?_
            refine r_goto (tgt := 62) dX4_bestShift_162 rfl ?_
            refine ih _ _ _ _ _ ⟨by omega, by omega, ?_⟩ (by omega)
            rw [hs1, ← hnb]
            first | rw [if_pos (by omega)] | rw [if_neg (by omega)]
set_option maxRecDepth 10000 in
theorem c_X4_bestShift {E : od_E} {g : od_G} {q s : Int} (hq : RoAt E q s) {H : Int} {C : Int → Int} (hC : RdC g q H C) {k : Int} (hs : StAt E k) (o1 : k + 9 ≤ q) (hI : CI g k) (d wm w : Int) (hh : cHas g k d) : od_Cq 4 mX4_bestShift [(2, q), (2, k), (0, d), (0, wm), (0, w)] E g (E, fun v g' => v = some (0, if w = 0 then (cBs wm (cTm g k d (cMt C H (g (k + 3) d) (g (k + 1) d) (od_w (63 - od_shl 1 d))) (g (k + 1) d)) (g (k + 1) d).toNat).1 else (cBs wm (cTm g k d (cMt C H (g (k + 3) d) (g (k + 1) d) (od_w (63 - od_shl 1 d))) (g (k + 1) d)) (g (k + 1) d).toNat).2) ∧ od_fr (fun x _ => x = q + 4) g g') := by
  have hq0 := hq
  obtain ⟨hkq, qa, qb, qc, qd, qe, qf, qg, l1, l2, l3, l4, l5, l6⟩ := hq
  have hC0 := hC
  obtain ⟨r9, rH, r7, r8, rc, rb⟩ := hC
  have hs0 := hs
  obtain ⟨hk, r0, r1, r2, r3, r4, r5, r6, r7, a1, a2, a3, a4, a5, a6, a7, a8⟩ := hs
  refine od_cqI pnX4 rfl (Nat.le_of_ble_eq_true rfl) od_le.rf ?_
  show od_Rq 4 mX4_bestShift od_Z0 E (E, fun v g' => v = some (0, if w = 0 then (cBs wm (cTm g k d (cMt C H (g (k + 3) d) (g (k + 1) d) (od_w (63 - od_shl 1 d))) (g (k + 1) d)) (g (k + 1) d).toNat).1 else (cBs wm (cTm g k d (cMt C H (g (k + 3) d) (g (k + 1) d) (od_w (63 - od_shl 1 d))) (g (k + 1) d)) (g (k + 1) d).toNat).2) ∧ od_fr (fun x _ => x = q + 4) g g') 0 [some (2, q), some (2, k), some (0, d), some (0, wm), some (0, w), none, none, none, none, none, none] [] E g
  have hx := hI.has hh
  have hu := hh; unfold cHas at hu
  refine r_aload_n dX4_bestShift_0 rfl ?_
  refine r_iload_n dX4_bestShift_1 rfl ?_
  refine r_callV1b dX4_bestShift_2 cvX4_105 (by assumption) (c_X6_has hs0 _) (by decide) (Nat.le_of_ble_eq_true rfl) od_le.rf (fun q2 => ?_) (fun q2 => ?_)
  · refine r_if_eq (tgt := 17) dX4_bestShift_5 rfl (fun h => absurd h (by decide)) (fun _ => ?_)
    have q2x := q2
    refine r_aload_n dX4_bestShift_8 rfl ?_
    refine r_getR dX4_bestShift_9 fkX4_92 gf6_0 (by assumption) (by assumption) ?_
    refine r_iload_n dX4_bestShift_12 rfl ?_
    refine r_iald dX4_bestShift_13 (by assumption) (by omega) (by (repeat (first | rewrite [od_upn (by omega)] | rewrite [od_up_at, if_pos (by omega)] | rewrite [od_up_at, if_neg (by omega)])); rfl) ?_
    refine r_goto (tgt := 18) dX4_bestShift_14 rfl ?_
    refine r_istore dX4_bestShift_18 (by decide) rfl ?_
    refine r_iload dX4_bestShift_20 rfl ?_
    refine r_iconst dX4_bestShift_22 li_1 ?_
    refine r_icmp_lt (tgt := 33) dX4_bestShift_23 rfl (fun c23 => ?_) (fun c23 => ?_)
    · refine r_iconst dX4_bestShift_33 li_m1 ?_
      exfalso; omega
    · refine r_iload dX4_bestShift_26 rfl ?_
      refine r_bipush dX4_bestShift_28 lb_12 ?_
      refine r_icmp_le (tgt := 35) dX4_bestShift_30 rfl (fun c30 => ?_) (fun c30 => ?_)
      · refine r_aload_n dX4_bestShift_35 rfl ?_
        refine r_aload_n dX4_bestShift_36 rfl ?_
        refine r_getR dX4_bestShift_37 fkX4_89 gf6_2 (by assumption) (by assumption) ?_
        refine r_iload_n dX4_bestShift_40 rfl ?_
        refine r_iald dX4_bestShift_41 (by assumption) (by omega) (by (repeat (first | rewrite [od_upn (by omega)] | rewrite [od_up_at, if_pos (by omega)] | rewrite [od_up_at, if_neg (by omega)])); rfl) ?_
        refine r_iload dX4_bestShift_42 rfl ?_
        refine r_bipush dX4_bestShift_44 lb_63 ?_
        refine r_iconst dX4_bestShift_46 li_1 ?_
        refine r_iload_n dX4_bestShift_47 rfl ?_
        refine r_ishl dX4_bestShift_48 ?_
        refine r_isubE dX4_bestShift_49 (by first | exact od_w0 (by omega) (by omega) | exact od_wI (by omega) (by omega) | rfl) ?_
        refine r_callV3p dX4_bestShift_50 cvX4_108 (by assumption) (c_X4_setMeetings hq0 hC0 _ _ _ (by omega) (by omega)) (by decide) (Nat.le_of_ble_eq_true rfl) od_le.rf (fun r50 g50 h50 => ?_)
        obtain ⟨rfl, f50, w50x⟩ := h50
        show od_Rq _ _ _ _ _ _ _ [] _ _
        have w50 := w50x
        refine r_iconst dX4_bestShift_53 li_m1 ?_
        refine r_istore dX4_bestShift_54 (by decide) rfl ?_
        refine r_iconst dX4_bestShift_56 li_0 ?_
        refine r_istore dX4_bestShift_57 (by decide) rfl ?_
        refine r_iconst dX4_bestShift_59 li_0 ?_
        refine r_istore dX4_bestShift_60 (by decide) rfl ?_
        exact lp_X4_b1 hq0 hC0 hs0 o1 hI d wm w hh f50 w50x _ _ _ _ _ _ ⟨by omega, by omega, rfl⟩ (Nat.lt_succ_self _)
      · refine r_iconst dX4_bestShift_33 li_m1 ?_
        exfalso; omega
  · refine r_if_eq (tgt := 17) dX4_bestShift_5 rfl (fun _ => ?_) (fun h => absurd h (by decide))
    exact absurd hh q2
