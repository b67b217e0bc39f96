section Rows15
variable {d : Nat} {M : od_M} {Z : od_Zt} {E0 : od_E} {res : od_Q} {pc : Nat} {L : od_L} {st : List od_V} {E : od_E} {g : od_G}
theorem r_sw3 {x dflt lo hi : Int} {o0 o1 o2 : Int} {t0 t1 t2 td : Nat} {len : Nat} (hd : decode M.2.2.1 pc = .ok (.tableswitch dflt lo hi #[o0, o1, o2], len)) (hh : hi = lo + 2) (h0 : (pc : Int) + o0 = (t0 : Int)) (h1 : (pc : Int) + o1 = (t1 : Int)) (h2 : (pc : Int) + o2 = (t2 : Int)) (hdf : (pc : Int) + dflt = (td : Int)) (k0 : x = lo + 0 → od_Rq d M Z E0 res t0 L st E g) (k1 : x = lo + 1 → od_Rq d M Z E0 res t1 L st E g) (k2 : x = lo + 2 → od_Rq d M Z E0 res t2 L st E g) (kd : x < lo ∨ hi < x → od_Rq d M Z E0 res td L st E g) : od_Rq d M Z E0 res pc L ((0, x) :: st) E g := by
  by_cases h : x < lo ∨ hi < x
  · exact r_tabOut hd h hdf (kd h)
  · rcases (by omega : x = lo + 0 ∨ x = lo + 1 ∨ x = lo + 2) with q | q | q
    · exact r_tabIn (off := o0) hd (by omega) (by omega) (by rw [show (x - lo).toNat = 0 by omega]; rfl) h0 (k0 q)
    · exact r_tabIn (off := o1) hd (by omega) (by omega) (by rw [show (x - lo).toNat = 1 by omega]; rfl) h1 (k1 q)
    · exact r_tabIn (off := o2) hd (by omega) (by omega) (by rw [show (x - lo).toNat = 2 by omega]; rfl) h2 (k2 q)
theorem r_sw4 {x dflt lo hi : Int} {o0 o1 o2 o3 : Int} {t0 t1 t2 t3 td : Nat} {len : Nat} (hd : decode M.2.2.1 pc = .ok (.tableswitch dflt lo hi #[o0, o1, o2, o3], len)) (hh : hi = lo + 3) (h0 : (pc : Int) + o0 = (t0 : Int)) (h1 : (pc : Int) + o1 = (t1 : Int)) (h2 : (pc : Int) + o2 = (t2 : Int)) (h3 : (pc : Int) + o3 = (t3 : Int)) (hdf : (pc : Int) + dflt = (td : Int)) (k0 : x = lo + 0 → od_Rq d M Z E0 res t0 L st E g) (k1 : x = lo + 1 → od_Rq d M Z E0 res t1 L st E g) (k2 : x = lo + 2 → od_Rq d M Z E0 res t2 L st E g) (k3 : x = lo + 3 → od_Rq d M Z E0 res t3 L st E g) (kd : x < lo ∨ hi < x → od_Rq d M Z E0 res td L st E g) : od_Rq d M Z E0 res pc L ((0, x) :: st) E g := by
  by_cases h : x < lo ∨ hi < x
  · exact r_tabOut hd h hdf (kd h)
  · rcases (by omega : x = lo + 0 ∨ x = lo + 1 ∨ x = lo + 2 ∨ x = lo + 3) with q | q | q | q
    · exact r_tabIn (off := o0) hd (by omega) (by omega) (by rw [show (x - lo).toNat = 0 by omega]; rfl) h0 (k0 q)
    · exact r_tabIn (off := o1) hd (by omega) (by omega) (by rw [show (x - lo).toNat = 1 by omega]; rfl) h1 (k1 q)
    · exact r_tabIn (off := o2) hd (by omega) (by omega) (by rw [show (x - lo).toNat = 2 by omega]; rfl) h2 (k2 q)
    · exact r_tabIn (off := o3) hd (by omega) (by omega) (by rw [show (x - lo).toNat = 3 by omega]; rfl) h3 (k3 q)
theorem r_sw6 {x dflt lo hi : Int} {o0 o1 o2 o3 o4 o5 : Int} {t0 t1 t2 t3 t4 t5 td : Nat} {len : Nat} (hd : decode M.2.2.1 pc = .ok (.tableswitch dflt lo hi #[o0, o1, o2, o3, o4, o5], len)) (hh : hi = lo + 5) (h0 : (pc : Int) + o0 = (t0 : Int)) (h1 : (pc : Int) + o1 = (t1 : Int)) (h2 : (pc : Int) + o2 = (t2 : Int)) (h3 : (pc : Int) + o3 = (t3 : Int)) (h4 : (pc : Int) + o4 = (t4 : Int)) (h5 : (pc : Int) + o5 = (t5 : Int)) (hdf : (pc : Int) + dflt = (td : Int)) (k0 : x = lo + 0 → od_Rq d M Z E0 res t0 L st E g) (k1 : x = lo + 1 → od_Rq d M Z E0 res t1 L st E g) (k2 : x = lo + 2 → od_Rq d M Z E0 res t2 L st E g) (k3 : x = lo + 3 → od_Rq d M Z E0 res t3 L st E g) (k4 : x = lo + 4 → od_Rq d M Z E0 res t4 L st E g) (k5 : x = lo + 5 → od_Rq d M Z E0 res t5 L st E g) (kd : x < lo ∨ hi < x → od_Rq d M Z E0 res td L st E g) : od_Rq d M Z E0 res pc L ((0, x) :: st) E g := by
  by_cases h : x < lo ∨ hi < x
  · exact r_tabOut hd h hdf (kd h)
  · rcases (by omega : x = lo + 0 ∨ x = lo + 1 ∨ x = lo + 2 ∨ x = lo + 3 ∨ x = lo + 4 ∨ x = lo + 5) with q | q | q | q | q | q
    · exact r_tabIn (off := o0) hd (by omega) (by omega) (by rw [show (x - lo).toNat = 0 by omega]; rfl) h0 (k0 q)
    · exact r_tabIn (off := o1) hd (by omega) (by omega) (by rw [show (x - lo).toNat = 1 by omega]; rfl) h1 (k1 q)
    · exact r_tabIn (off := o2) hd (by omega) (by omega) (by rw [show (x - lo).toNat = 2 by omega]; rfl) h2 (k2 q)
    · exact r_tabIn (off := o3) hd (by omega) (by omega) (by rw [show (x - lo).toNat = 3 by omega]; rfl) h3 (k3 q)
    · exact r_tabIn (off := o4) hd (by omega) (by omega) (by rw [show (x - lo).toNat = 4 by omega]; rfl) h4 (k4 q)
    · exact r_tabIn (off := o5) hd (by omega) (by omega) (by rw [show (x - lo).toNat = 5 by omega]; rfl) h5 (k5 q)
theorem r_sw7 {x dflt lo hi : Int} {o0 o1 o2 o3 o4 o5 o6 : Int} {t0 t1 t2 t3 t4 t5 t6 td : Nat} {len : Nat} (hd : decode M.2.2.1 pc = .ok (.tableswitch dflt lo hi #[o0, o1, o2, o3, o4, o5, o6], len)) (hh : hi = lo + 6) (h0 : (pc : Int) + o0 = (t0 : Int)) (h1 : (pc : Int) + o1 = (t1 : Int)) (h2 : (pc : Int) + o2 = (t2 : Int)) (h3 : (pc : Int) + o3 = (t3 : Int)) (h4 : (pc : Int) + o4 = (t4 : Int)) (h5 : (pc : Int) + o5 = (t5 : Int)) (h6 : (pc : Int) + o6 = (t6 : Int)) (hdf : (pc : Int) + dflt = (td : Int)) (k0 : x = lo + 0 → od_Rq d M Z E0 res t0 L st E g) (k1 : x = lo + 1 → od_Rq d M Z E0 res t1 L st E g) (k2 : x = lo + 2 → od_Rq d M Z E0 res t2 L st E g) (k3 : x = lo + 3 → od_Rq d M Z E0 res t3 L st E g) (k4 : x = lo + 4 → od_Rq d M Z E0 res t4 L st E g) (k5 : x = lo + 5 → od_Rq d M Z E0 res t5 L st E g) (k6 : x = lo + 6 → od_Rq d M Z E0 res t6 L st E g) (kd : x < lo ∨ hi < x → od_Rq d M Z E0 res td L st E g) : od_Rq d M Z E0 res pc L ((0, x) :: st) E g := by
  by_cases h : x < lo ∨ hi < x
  · exact r_tabOut hd h hdf (kd h)
  · rcases (by omega : x = lo + 0 ∨ x = lo + 1 ∨ x = lo + 2 ∨ x = lo + 3 ∨ x = lo + 4 ∨ x = lo + 5 ∨ x = lo + 6) with q | q | q | q | q | q | q
    · exact r_tabIn (off := o0) hd (by omega) (by omega) (by rw [show (x - lo).toNat = 0 by omega]; rfl) h0 (k0 q)
    · exact r_tabIn (off := o1) hd (by omega) (by omega) (by rw [show (x - lo).toNat = 1 by omega]; rfl) h1 (k1 q)
    · exact r_tabIn (off := o2) hd (by omega) (by omega) (by rw [show (x - lo).toNat = 2 by omega]; rfl) h2 (k2 q)
    · exact r_tabIn (off := o3) hd (by omega) (by omega) (by rw [show (x - lo).toNat = 3 by omega]; rfl) h3 (k3 q)
    · exact r_tabIn (off := o4) hd (by omega) (by omega) (by rw [show (x - lo).toNat = 4 by omega]; rfl) h4 (k4 q)
    · exact r_tabIn (off := o5) hd (by omega) (by omega) (by rw [show (x - lo).toNat = 5 by omega]; rfl) h5 (k5 q)
    · exact r_tabIn (off := o6) hd (by omega) (by omega) (by rw [show (x - lo).toNat = 6 by omega]; rfl) h6 (k6 q)
theorem r_sw8 {x dflt lo hi : Int} {o0 o1 o2 o3 o4 o5 o6 o7 : Int} {t0 t1 t2 t3 t4 t5 t6 t7 td : Nat} {len : Nat} (hd : decode M.2.2.1 pc = .ok (.tableswitch dflt lo hi #[o0, o1, o2, o3, o4, o5, o6, o7], len)) (hh : hi = lo + 7) (h0 : (pc : Int) + o0 = (t0 : Int)) (h1 : (pc : Int) + o1 = (t1 : Int)) (h2 : (pc : Int) + o2 = (t2 : Int)) (h3 : (pc : Int) + o3 = (t3 : Int)) (h4 : (pc : Int) + o4 = (t4 : Int)) (h5 : (pc : Int) + o5 = (t5 : Int)) (h6 : (pc : Int) + o6 = (t6 : Int)) (h7 : (pc : Int) + o7 = (t7 : Int)) (hdf : (pc : Int) + dflt = (td : Int)) (k0 : x = lo + 0 → od_Rq d M Z E0 res t0 L st E g) (k1 : x = lo + 1 → od_Rq d M Z E0 res t1 L st E g) (k2 : x = lo + 2 → od_Rq d M Z E0 res t2 L st E g) (k3 : x = lo + 3 → od_Rq d M Z E0 res t3 L st E g) (k4 : x = lo + 4 → od_Rq d M Z E0 res t4 L st E g) (k5 : x = lo + 5 → od_Rq d M Z E0 res t5 L st E g) (k6 : x = lo + 6 → od_Rq d M Z E0 res t6 L st E g) (k7 : x = lo + 7 → od_Rq d M Z E0 res t7 L st E g) (kd : x < lo ∨ hi < x → od_Rq d M Z E0 res td L st E g) : od_Rq d M Z E0 res pc L ((0, x) :: st) E g := by
  by_cases h : x < lo ∨ hi < x
  · exact r_tabOut hd h hdf (kd h)
  · rcases (by omega : x = lo + 0 ∨ x = lo + 1 ∨ x = lo + 2 ∨ x = lo + 3 ∨ x = lo + 4 ∨ x = lo + 5 ∨ x = lo + 6 ∨ x = lo + 7) with q | q | q | q | q | q | q | q
    · exact r_tabIn (off := o0) hd (by omega) (by omega) (by rw [show (x - lo).toNat = 0 by omega]; rfl) h0 (k0 q)
    · exact r_tabIn (off := o1) hd (by omega) (by omega) (by rw [show (x - lo).toNat = 1 by omega]; rfl) h1 (k1 q)
    · exact r_tabIn (off := o2) hd (by omega) (by omega) (by rw [show (x - lo).toNat = 2 by omega]; rfl) h2 (k2 q)
    · exact r_tabIn (off := o3) hd (by omega) (by omega) (by rw [show (x - lo).toNat = 3 by omega]; rfl) h3 (k3 q)
    · exact r_tabIn (off := o4) hd (by omega) (by omega) (by rw [show (x - lo).toNat = 4 by omega]; rfl) h4 (k4 q)
    · exact r_tabIn (off := o5) hd (by omega) (by omega) (by rw [show (x - lo).toNat = 5 by omega]; rfl) h5 (k5 q)
    · exact r_tabIn (off := o6) hd (by omega) (by omega) (by rw [show (x - lo).toNat = 6 by omega]; rfl) h6 (k6 q)
    · exact r_tabIn (off := o7) hd (by omega) (by omega) (by rw [show (x - lo).toNat = 7 by omega]; rfl) h7 (k7 q)
theorem r_sw16 {x dflt lo hi : Int} {o0 o1 o2 o3 o4 o5 o6 o7 o8 o9 o10 o11 o12 o13 o14 o15 : Int} {t0 t1 t2 t3 t4 t5 t6 t7 t8 t9 t10 t11 t12 t13 t14 t15 td : Nat} {len : Nat} (hd : decode M.2.2.1 pc = .ok (.tableswitch dflt lo hi #[o0, o1, o2, o3, o4, o5, o6, o7, o8, o9, o10, o11, o12, o13, o14, o15], len)) (hh : hi = lo + 15) (h0 : (pc : Int) + o0 = (t0 : Int)) (h1 : (pc : Int) + o1 = (t1 : Int)) (h2 : (pc : Int) + o2 = (t2 : Int)) (h3 : (pc : Int) + o3 = (t3 : Int)) (h4 : (pc : Int) + o4 = (t4 : Int)) (h5 : (pc : Int) + o5 = (t5 : Int)) (h6 : (pc : Int) + o6 = (t6 : Int)) (h7 : (pc : Int) + o7 = (t7 : Int)) (h8 : (pc : Int) + o8 = (t8 : Int)) (h9 : (pc : Int) + o9 = (t9 : Int)) (h10 : (pc : Int) + o10 = (t10 : Int)) (h11 : (pc : Int) + o11 = (t11 : Int)) (h12 : (pc : Int) + o12 = (t12 : Int)) (h13 : (pc : Int) + o13 = (t13 : Int)) (h14 : (pc : Int) + o14 = (t14 : Int)) (h15 : (pc : Int) + o15 = (t15 : Int)) (hdf : (pc : Int) + dflt = (td : Int)) (k0 : x = lo + 0 → od_Rq d M Z E0 res t0 L st E g) (k1 : x = lo + 1 → od_Rq d M Z E0 res t1 L st E g) (k2 : x = lo + 2 → od_Rq d M Z E0 res t2 L st E g) (k3 : x = lo + 3 → od_Rq d M Z E0 res t3 L st E g) (k4 : x = lo + 4 → od_Rq d M Z E0 res t4 L st E g) (k5 : x = lo + 5 → od_Rq d M Z E0 res t5 L st E g) (k6 : x = lo + 6 → od_Rq d M Z E0 res t6 L st E g) (k7 : x = lo + 7 → od_Rq d M Z E0 res t7 L st E g) (k8 : x = lo + 8 → od_Rq d M Z E0 res t8 L st E g) (k9 : x = lo + 9 → od_Rq d M Z E0 res t9 L st E g) (k10 : x = lo + 10 → od_Rq d M Z E0 res t10 L st E g) (k11 : x = lo + 11 → od_Rq d M Z E0 res t11 L st E g) (k12 : x = lo + 12 → od_Rq d M Z E0 res t12 L st E g) (k13 : x = lo + 13 → od_Rq d M Z E0 res t13 L st E g) (k14 : x = lo + 14 → od_Rq d M Z E0 res t14 L st E g) (k15 : x = lo + 15 → od_Rq d M Z E0 res t15 L st E g) (kd : x < lo ∨ hi < x → od_Rq d M Z E0 res td L st E g) : od_Rq d M Z E0 res pc L ((0, x) :: st) E g := by
  by_cases h : x < lo ∨ hi < x
  · exact r_tabOut hd h hdf (kd h)
  · rcases (by omega : x = lo + 0 ∨ x = lo + 1 ∨ x = lo + 2 ∨ x = lo + 3 ∨ x = lo + 4 ∨ x = lo + 5 ∨ x = lo + 6 ∨ x = lo + 7 ∨ x = lo + 8 ∨ x = lo + 9 ∨ x = lo + 10 ∨ x = lo + 11 ∨ x = lo + 12 ∨ x = lo + 13 ∨ x = lo + 14 ∨ x = lo + 15) with q | q | q | q | q | q | q | q | q | q | q | q | q | q | q | q
    · exact r_tabIn (off := o0) hd (by omega) (by omega) (by rw [show (x - lo).toNat = 0 by omega]; rfl) h0 (k0 q)
    · exact r_tabIn (off := o1) hd (by omega) (by omega) (by rw [show (x - lo).toNat = 1 by omega]; rfl) h1 (k1 q)
    · exact r_tabIn (off := o2) hd (by omega) (by omega) (by rw [show (x - lo).toNat = 2 by omega]; rfl) h2 (k2 q)
    · exact r_tabIn (off := o3) hd (by omega) (by omega) (by rw [show (x - lo).toNat = 3 by omega]; rfl) h3 (k3 q)
    · exact r_tabIn (off := o4) hd (by omega) (by omega) (by rw [show (x - lo).toNat = 4 by omega]; rfl) h4 (k4 q)
    · exact r_tabIn (off := o5) hd (by omega) (by omega) (by rw [show (x - lo).toNat = 5 by omega]; rfl) h5 (k5 q)
    · exact r_tabIn (off := o6) hd (by omega) (by omega) (by rw [show (x - lo).toNat = 6 by omega]; rfl) h6 (k6 q)
    · exact r_tabIn (off := o7) hd (by omega) (by omega) (by rw [show (x - lo).toNat = 7 by omega]; rfl) h7 (k7 q)
    · exact r_tabIn (off := o8) hd (by omega) (by omega) (by rw [show (x - lo).toNat = 8 by omega]; rfl) h8 (k8 q)
    · exact r_tabIn (off := o9) hd (by omega) (by omega) (by rw [show (x - lo).toNat = 9 by omega]; rfl) h9 (k9 q)
    · exact r_tabIn (off := o10) hd (by omega) (by omega) (by rw [show (x - lo).toNat = 10 by omega]; rfl) h10 (k10 q)
    · exact r_tabIn (off := o11) hd (by omega) (by omega) (by rw [show (x - lo).toNat = 11 by omega]; rfl) h11 (k11 q)
    · exact r_tabIn (off := o12) hd (by omega) (by omega) (by rw [show (x - lo).toNat = 12 by omega]; rfl) h12 (k12 q)
    · exact r_tabIn (off := o13) hd (by omega) (by omega) (by rw [show (x - lo).toNat = 13 by omega]; rfl) h13 (k13 q)
    · exact r_tabIn (off := o14) hd (by omega) (by omega) (by rw [show (x - lo).toNat = 14 by omega]; rfl) h14 (k14 q)
    · exact r_tabIn (off := o15) hd (by omega) (by omega) (by rw [show (x - lo).toNat = 15 by omega]; rfl) h15 (k15 q)
theorem r_sw42 {x dflt lo hi : Int} {o0 o1 o2 o3 o4 o5 o6 o7 o8 o9 o10 o11 o12 o13 o14 o15 o16 o17 o18 o19 o20 o21 o22 o23 o24 o25 o26 o27 o28 o29 o30 o31 o32 o33 o34 o35 o36 o37 o38 o39 o40 o41 : Int} {t0 t1 t2 t3 t4 t5 t6 t7 t8 t9 t10 t11 t12 t13 t14 t15 t16 t17 t18 t19 t20 t21 t22 t23 t24 t25 t26 t27 t28 t29 t30 t31 t32 t33 t34 t35 t36 t37 t38 t39 t40 t41 td : Nat} {len : Nat} (hd : decode M.2.2.1 pc = .ok (.tableswitch dflt lo hi #[o0, o1, o2, o3, o4, o5, o6, o7, o8, o9, o10, o11, o12, o13, o14, o15, o16, o17, o18, o19, o20, o21, o22, o23, o24, o25, o26, o27, o28, o29, o30, o31, o32, o33, o34, o35, o36, o37, o38, o39, o40, o41], len)) (hh : hi = lo + 41) (h0 : (pc : Int) + o0 = (t0 : Int)) (h1 : (pc : Int) + o1 = (t1 : Int)) (h2 : (pc : Int) + o2 = (t2 : Int)) (h3 : (pc : Int) + o3 = (t3 : Int)) (h4 : (pc : Int) + o4 = (t4 : Int)) (h5 : (pc : Int) + o5 = (t5 : Int)) (h6 : (pc : Int) + o6 = (t6 : Int)) (h7 : (pc : Int) + o7 = (t7 : Int)) (h8 : (pc : Int) + o8 = (t8 : Int)) (h9 : (pc : Int) + o9 = (t9 : Int)) (h10 : (pc : Int) + o10 = (t10 : Int)) (h11 : (pc : Int) + o11 = (t11 : Int)) (h12 : (pc : Int) + o12 = (t12 : Int)) (h13 : (pc : Int) + o13 = (t13 : Int)) (h14 : (pc : Int) + o14 = (t14 : Int)) (h15 : (pc : Int) + o15 = (t15 : Int)) (h16 : (pc : Int) + o16 = (t16 : Int)) (h17 : (pc : Int) + o17 = (t17 : Int)) (h18 : (pc : Int) + o18 = (t18 : Int)) (h19 : (pc : Int) + o19 = (t19 : Int)) (h20 : (pc : Int) + o20 = (t20 : Int)) (h21 : (pc : Int) + o21 = (t21 : Int)) (h22 : (pc : Int) + o22 = (t22 : Int)) (h23 : (pc : Int) + o23 = (t23 : Int)) (h24 : (pc : Int) + o24 = (t24 : Int)) (h25 : (pc : Int) + o25 = (t25 : Int)) (h26 : (pc : Int) + o26 = (t26 : Int)) (h27 : (pc : Int) + o27 = (t27 : Int)) (h28 : (pc : Int) + o28 = (t28 : Int)) (h29 : (pc : Int) + o29 = (t29 : Int)) (h30 : (pc : Int) + o30 = (t30 : Int)) (h31 : (pc : Int) + o31 = (t31 : Int)) (h32 : (pc : Int) + o32 = (t32 : Int)) (h33 : (pc : Int) + o33 = (t33 : Int)) (h34 : (pc : Int) + o34 = (t34 : Int)) (h35 : (pc : Int) + o35 = (t35 : Int)) (h36 : (pc : Int) + o36 = (t36 : Int)) (h37 : (pc : Int) + o37 = (t37 : Int)) (h38 : (pc : Int) + o38 = (t38 : Int)) (h39 : (pc : Int) + o39 = (t39 : Int)) (h40 : (pc : Int) + o40 = (t40 : Int)) (h41 : (pc : Int) + o41 = (t41 : Int)) (hdf : (pc : Int) + dflt = (td : Int)) (k0 : x = lo + 0 → od_Rq d M Z E0 res t0 L st E g) (k1 : x = lo + 1 → od_Rq d M Z E0 res t1 L st E g) (k2 : x = lo + 2 → od_Rq d M Z E0 res t2 L st E g) (k3 : x = lo + 3 → od_Rq d M Z E0 res t3 L st E g) (k4 : x = lo + 4 → od_Rq d M Z E0 res t4 L st E g) (k5 : x = lo + 5 → od_Rq d M Z E0 res t5 L st E g) (k6 : x = lo + 6 → od_Rq d M Z E0 res t6 L st E g) (k7 : x = lo + 7 → od_Rq d M Z E0 res t7 L st E g) (k8 : x = lo + 8 → od_Rq d M Z E0 res t8 L st E g) (k9 : x = lo + 9 → od_Rq d M Z E0 res t9 L st E g) (k10 : x = lo + 10 → od_Rq d M Z E0 res t10 L st E g) (k11 : x = lo + 11 → od_Rq d M Z E0 res t11 L st E g) (k12 : x = lo + 12 → od_Rq d M Z E0 res t12 L st E g) (k13 : x = lo + 13 → od_Rq d M Z E0 res t13 L st E g) (k14 : x = lo + 14 → od_Rq d M Z E0 res t14 L st E g) (k15 : x = lo + 15 → od_Rq d M Z E0 res t15 L st E g) (k16 : x = lo + 16 → od_Rq d M Z E0 res t16 L st E g) (k17 : x = lo + 17 → od_Rq d M Z E0 res t17 L st E g) (k18 : x = lo + 18 → od_Rq d M Z E0 res t18 L st E g) (k19 : x = lo + 19 → od_Rq d M Z E0 res t19 L st E g) (k20 : x = lo + 20 → od_Rq d M Z E0 res t20 L st E g) (k21 : x = lo + 21 → od_Rq d M Z E0 res t21 L st E g) (k22 : x = lo + 22 → od_Rq d M Z E0 res t22 L st E g) (k23 : x = lo + 23 → od_Rq d M Z E0 res t23 L st E g) (k24 : x = lo + 24 → od_Rq d M Z E0 res t24 L st E g) (k25 : x = lo + 25 → od_Rq d M Z E0 res t25 L st E g) (k26 : x = lo + 26 → od_Rq d M Z E0 res t26 L st E g) (k27 : x = lo + 27 → od_Rq d M Z E0 res t27 L st E g) (k28 : x = lo + 28 → od_Rq d M Z E0 res t28 L st E g) (k29 : x = lo + 29 → od_Rq d M Z E0 res t29 L st E g) (k30 : x = lo + 30 → od_Rq d M Z E0 res t30 L st E g) (k31 : x = lo + 31 → od_Rq d M Z E0 res t31 L st E g) (k32 : x = lo + 32 → od_Rq d M Z E0 res t32 L st E g) (k33 : x = lo + 33 → od_Rq d M Z E0 res t33 L st E g) (k34 : x = lo + 34 → od_Rq d M Z E0 res t34 L st E g) (k35 : x = lo + 35 → od_Rq d M Z E0 res t35 L st E g) (k36 : x = lo + 36 → od_Rq d M Z E0 res t36 L st E g) (k37 : x = lo + 37 → od_Rq d M Z E0 res t37 L st E g) (k38 : x = lo + 38 → od_Rq d M Z E0 res t38 L st E g) (k39 : x = lo + 39 → od_Rq d M Z E0 res t39 L st E g) (k40 : x = lo + 40 → od_Rq d M Z E0 res t40 L st E g) (k41 : x = lo + 41 → od_Rq d M Z E0 res t41 L st E g) (kd : x < lo ∨ hi < x → od_Rq d M Z E0 res td L st E g) : od_Rq d M Z E0 res pc L ((0, x) :: st) E g := by
  by_cases h : x < lo ∨ hi < x
  · exact r_tabOut hd h hdf (kd h)
  · rcases (by omega : x = lo + 0 ∨ x = lo + 1 ∨ x = lo + 2 ∨ x = lo + 3 ∨ x = lo + 4 ∨ x = lo + 5 ∨ x = lo + 6 ∨ x = lo + 7 ∨ x = lo + 8 ∨ x = lo + 9 ∨ x = lo + 10 ∨ x = lo + 11 ∨ x = lo + 12 ∨ x = lo + 13 ∨ x = lo + 14 ∨ x = lo + 15 ∨ x = lo + 16 ∨ x = lo + 17 ∨ x = lo + 18 ∨ x = lo + 19 ∨ x = lo + 20 ∨ x = lo + 21 ∨ x = lo + 22 ∨ x = lo + 23 ∨ x = lo + 24 ∨ x = lo + 25 ∨ x = lo + 26 ∨ x = lo + 27 ∨ x = lo + 28 ∨ x = lo + 29 ∨ x = lo + 30 ∨ x = lo + 31 ∨ x = lo + 32 ∨ x = lo + 33 ∨ x = lo + 34 ∨ x = lo + 35 ∨ x = lo + 36 ∨ x = lo + 37 ∨ x = lo + 38 ∨ x = lo + 39 ∨ x = lo + 40 ∨ x = lo + 41) with q | q | q | q | q | q | q | q | q | q | q | q | q | q | q | q | q | q | q | q | q | q | q | q | q | q | q | q | q | q | q | q | q | q | q | q | q | q | q | q | q | q
    · exact r_tabIn (off := o0) hd (by omega) (by omega) (by rw [show (x - lo).toNat = 0 by omega]; rfl) h0 (k0 q)
    · exact r_tabIn (off := o1) hd (by omega) (by omega) (by rw [show (x - lo).toNat = 1 by omega]; rfl) h1 (k1 q)
    · exact r_tabIn (off := o2) hd (by omega) (by omega) (by rw [show (x - lo).toNat = 2 by omega]; rfl) h2 (k2 q)
    · exact r_tabIn (off := o3) hd (by omega) (by omega) (by rw [show (x - lo).toNat = 3 by omega]; rfl) h3 (k3 q)
    · exact r_tabIn (off := o4) hd (by omega) (by omega) (by rw [show (x - lo).toNat = 4 by omega]; rfl) h4 (k4 q)
    · exact r_tabIn (off := o5) hd (by omega) (by omega) (by rw [show (x - lo).toNat = 5 by omega]; rfl) h5 (k5 q)
    · exact r_tabIn (off := o6) hd (by omega) (by omega) (by rw [show (x - lo).toNat = 6 by omega]; rfl) h6 (k6 q)
    · exact r_tabIn (off := o7) hd (by omega) (by omega) (by rw [show (x - lo).toNat = 7 by omega]; rfl) h7 (k7 q)
    · exact r_tabIn (off := o8) hd (by omega) (by omega) (by rw [show (x - lo).toNat = 8 by omega]; rfl) h8 (k8 q)
    · exact r_tabIn (off := o9) hd (by omega) (by omega) (by rw [show (x - lo).toNat = 9 by omega]; rfl) h9 (k9 q)
    · exact r_tabIn (off := o10) hd (by omega) (by omega) (by rw [show (x - lo).toNat = 10 by omega]; rfl) h10 (k10 q)
    · exact r_tabIn (off := o11) hd (by omega) (by omega) (by rw [show (x - lo).toNat = 11 by omega]; rfl) h11 (k11 q)
    · exact r_tabIn (off := o12) hd (by omega) (by omega) (by rw [show (x - lo).toNat = 12 by omega]; rfl) h12 (k12 q)
    · exact r_tabIn (off := o13) hd (by omega) (by omega) (by rw [show (x - lo).toNat = 13 by omega]; rfl) h13 (k13 q)
    · exact r_tabIn (off := o14) hd (by omega) (by omega) (by rw [show (x - lo).toNat = 14 by omega]; rfl) h14 (k14 q)
    · exact r_tabIn (off := o15) hd (by omega) (by omega) (by rw [show (x - lo).toNat = 15 by omega]; rfl) h15 (k15 q)
    · exact r_tabIn (off := o16) hd (by omega) (by omega) (by rw [show (x - lo).toNat = 16 by omega]; rfl) h16 (k16 q)
    · exact r_tabIn (off := o17) hd (by omega) (by omega) (by rw [show (x - lo).toNat = 17 by omega]; rfl) h17 (k17 q)
    · exact r_tabIn (off := o18) hd (by omega) (by omega) (by rw [show (x - lo).toNat = 18 by omega]; rfl) h18 (k18 q)
    · exact r_tabIn (off := o19) hd (by omega) (by omega) (by rw [show (x - lo).toNat = 19 by omega]; rfl) h19 (k19 q)
    · exact r_tabIn (off := o20) hd (by omega) (by omega) (by rw [show (x - lo).toNat = 20 by omega]; rfl) h20 (k20 q)
    · exact r_tabIn (off := o21) hd (by omega) (by omega) (by rw [show (x - lo).toNat = 21 by omega]; rfl) h21 (k21 q)
    · exact r_tabIn (off := o22) hd (by omega) (by omega) (by rw [show (x - lo).toNat = 22 by omega]; rfl) h22 (k22 q)
    · exact r_tabIn (off := o23) hd (by omega) (by omega) (by rw [show (x - lo).toNat = 23 by omega]; rfl) h23 (k23 q)
    · exact r_tabIn (off := o24) hd (by omega) (by omega) (by rw [show (x - lo).toNat = 24 by omega]; rfl) h24 (k24 q)
    · exact r_tabIn (off := o25) hd (by omega) (by omega) (by rw [show (x - lo).toNat = 25 by omega]; rfl) h25 (k25 q)
    · exact r_tabIn (off := o26) hd (by omega) (by omega) (by rw [show (x - lo).toNat = 26 by omega]; rfl) h26 (k26 q)
    · exact r_tabIn (off := o27) hd (by omega) (by omega) (by rw [show (x - lo).toNat = 27 by omega]; rfl) h27 (k27 q)
    · exact r_tabIn (off := o28) hd (by omega) (by omega) (by rw [show (x - lo).toNat = 28 by omega]; rfl) h28 (k28 q)
    · exact r_tabIn (off := o29) hd (by omega) (by omega) (by rw [show (x - lo).toNat = 29 by omega]; rfl) h29 (k29 q)
    · exact r_tabIn (off := o30) hd (by omega) (by omega) (by rw [show (x - lo).toNat = 30 by omega]; rfl) h30 (k30 q)
    · exact r_tabIn (off := o31) hd (by omega) (by omega) (by rw [show (x - lo).toNat = 31 by omega]; rfl) h31 (k31 q)
    · exact r_tabIn (off := o32) hd (by omega) (by omega) (by rw [show (x - lo).toNat = 32 by omega]; rfl) h32 (k32 q)
    · exact r_tabIn (off := o33) hd (by omega) (by omega) (by rw [show (x - lo).toNat = 33 by omega]; rfl) h33 (k33 q)
    · exact r_tabIn (off := o34) hd (by omega) (by omega) (by rw [show (x - lo).toNat = 34 by omega]; rfl) h34 (k34 q)
    · exact r_tabIn (off := o35) hd (by omega) (by omega) (by rw [show (x - lo).toNat = 35 by omega]; rfl) h35 (k35 q)
    · exact r_tabIn (off := o36) hd (by omega) (by omega) (by rw [show (x - lo).toNat = 36 by omega]; rfl) h36 (k36 q)
    · exact r_tabIn (off := o37) hd (by omega) (by omega) (by rw [show (x - lo).toNat = 37 by omega]; rfl) h37 (k37 q)
    · exact r_tabIn (off := o38) hd (by omega) (by omega) (by rw [show (x - lo).toNat = 38 by omega]; rfl) h38 (k38 q)
    · exact r_tabIn (off := o39) hd (by omega) (by omega) (by rw [show (x - lo).toNat = 39 by omega]; rfl) h39 (k39 q)
    · exact r_tabIn (off := o40) hd (by omega) (by omega) (by rw [show (x - lo).toNat = 40 by omega]; rfl) h40 (k40 q)
    · exact r_tabIn (off := o41) hd (by omega) (by omega) (by rw [show (x - lo).toNat = 41 by omega]; rfl) h41 (k41 q)
end Rows15
