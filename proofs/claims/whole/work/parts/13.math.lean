section Rows13
variable {d : Nat} {M : od_M} {Z : od_Zt} {E0 : od_E} {res : od_Q} {pc : Nat} {L : od_L} {st : List od_V} {E : od_E} {g : od_G}
theorem r_mmax {a b : Int} {i : Nat} (hd : decode M.2.2.1 pc = .ok (.invokestatic i, 3)) (hl : Cond.methodLink M.1 i yJ9_max_7cf53 ∈ lw_good) (hdd : 1 ≤ d) (hcat : od_cats st ≤ 8) (kk : od_Rq d M Z E0 res (pc + 3) L ((0, max a b) :: st) E g) : od_Rq d M Z E0 res pc L ((0, b) :: (0, a) :: st) E g := by
  intro p l e s m args below meth c1 tc D β0 β A H locs ls S
  have o := od_ok2 S.sok
  have z1 := S.2.2.1.1
  have z2 := S.2.2.1.2.1
  refine W.eq (g2 := F0 m pc ls (.int (Int32.ofInt b) :: .int (Int32.ofInt a) :: st.map (od_enc β))) rfl ?_
  refine va_mmax S.hx S.hb (S.hml.trans S.hl.1.symm) S.hown (S.hts _ hl) (S.hts _ stJ9_max_7cf53) (S.hts _ inJ9) (S.hts _ cdJ9_max_7cf53) hdd ?_ ?_ ?_ hd ?_
  · rw [od_cats_eq]; show od_cats st + 13 ≤ 64 * d; omega
  · show E.1.1 - E0.1.1 ≤ res.1.1.1 - E0.1.1
    have := z2.1; omega
  · show E.1.2 - E0.1.2 ≤ res.1.1.2 - E0.1.2
    have := z2.2; omega
  · refine W.eq (g2 := F0 m (pc + 3) ls (((0, max a b) :: st).map (od_enc β))) ?_ (kk p l e s m args below meth c1 tc D β0 β A H locs ls (S.stk (od_okc ?_ o.2.2)))
    · have h := (od_ilt o.2.1 o.1)
      by_cases hc : a < b
      · rw [if_pos (h.mpr hc), show max a b = b by omega]; rfl
      · rw [if_neg (fun q => hc (h.mp q)), show max a b = a by omega]; rfl
    · show od_r32 (max a b)
      have h1 : od_r32 b := o.1
      have h2 : od_r32 a := o.2.1
      unfold od_r32 at h1 h2 ⊢
      omega
theorem r_mmin {a b : Int} {i : Nat} (hd : decode M.2.2.1 pc = .ok (.invokestatic i, 3)) (hl : Cond.methodLink M.1 i yJ9_min_7cf53 ∈ lw_good) (hdd : 1 ≤ d) (hcat : od_cats st ≤ 8) (kk : od_Rq d M Z E0 res (pc + 3) L ((0, min a b) :: st) E g) : od_Rq d M Z E0 res pc L ((0, b) :: (0, a) :: st) E g := by
  intro p l e s m args below meth c1 tc D β0 β A H locs ls S
  have o := od_ok2 S.sok
  have z1 := S.2.2.1.1
  have z2 := S.2.2.1.2.1
  refine W.eq (g2 := F0 m pc ls (.int (Int32.ofInt b) :: .int (Int32.ofInt a) :: st.map (od_enc β))) rfl ?_
  refine va_mmin S.hx S.hb (S.hml.trans S.hl.1.symm) S.hown (S.hts _ hl) (S.hts _ stJ9_min_7cf53) (S.hts _ inJ9) (S.hts _ cdJ9_min_7cf53) hdd ?_ ?_ ?_ hd ?_
  · rw [od_cats_eq]; show od_cats st + 13 ≤ 64 * d; omega
  · show E.1.1 - E0.1.1 ≤ res.1.1.1 - E0.1.1
    have := z2.1; omega
  · show E.1.2 - E0.1.2 ≤ res.1.1.2 - E0.1.2
    have := z2.2; omega
  · refine W.eq (g2 := F0 m (pc + 3) ls (((0, min a b) :: st).map (od_enc β))) ?_ (kk p l e s m args below meth c1 tc D β0 β A H locs ls (S.stk (od_okc ?_ o.2.2)))
    · have h := (od_ilt o.1 o.2.1)
      by_cases hc : b < a
      · rw [if_pos (h.mpr hc), show min a b = b by omega]; rfl
      · rw [if_neg (fun q => hc (h.mp q)), show min a b = a by omega]; rfl
    · show od_r32 (min a b)
      have h1 : od_r32 b := o.1
      have h2 : od_r32 a := o.2.1
      unfold od_r32 at h1 h2 ⊢
      omega
end Rows13
