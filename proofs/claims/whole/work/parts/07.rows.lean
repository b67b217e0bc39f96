theorem od_r64_32 {x : Int} (h : od_r32 x) : od_r64 x := by unfold od_r32 at h; unfold od_r64; omega
theorem od_cmp_r (a b : Int) : od_r32 (od_cmp a b) := by unfold od_cmp od_r32; split <;> first | omega | (split <;> omega)
theorem od_cmp_lg {a b : Int} (ha : od_r64 a) (hb : od_r64 b) : lg_cmp (Int64.ofInt a) (Int64.ofInt b) = Int32.ofInt (od_cmp a b) := by
  unfold lg_cmp od_cmp
  rcases Int.lt_trichotomy a b with h | h | h
  · have h1 : ¬ Int64.ofInt a > Int64.ofInt b := fun q => by have := (od_llt hb ha).mp q; omega
    have h2 : ¬ Int64.ofInt a = Int64.ofInt b := fun q => by have := (od_leq ha hb).mp q; omega
    rw [if_neg h1, if_neg h2, if_pos h]; rfl
  · subst h
    have h1 : ¬ Int64.ofInt a > Int64.ofInt a := fun q => by have := (od_llt ha ha).mp q; omega
    rw [if_neg h1, if_pos rfl, if_neg (by omega), if_pos rfl]; rfl
  · have h1 : Int64.ofInt a > Int64.ofInt b := (od_llt hb ha).mpr h
    rw [if_pos h1, if_neg (by omega), if_neg (by omega)]; rfl
theorem od_lit {n : Int} (h : (Int32.ofInt n).toInt = n) : od_r32 n := h ▸ od_it (Int32.ofInt n)
theorem od_litb {n : Int} (h : (Int8.ofInt n).toInt32.toInt = n) : od_r32 n := h ▸ od_it (Int8.ofInt n).toInt32
theorem od_lits {n : Int} (h : (Int16.ofInt n).toInt32.toInt = n) : od_r32 n := h ▸ od_it (Int16.ofInt n).toInt32
theorem od_litl {n : Fin 2} {x : Int} (h : (Int64.ofNat (n : Nat)).toInt = x) : od_r64 x := h ▸ od_lt (Int64.ofNat (n : Nat))
theorem od_cat1 {β : Int → Nat} {v : od_V} (h : v.1 ≠ 1) : (od_enc β v).category = 1 := (lv_cat _).resolve_right fun q => h ((od_cat β v).mp q)
theorem od_cat2 {β : Int → Nat} {v : od_V} (h : v.1 = 1) : (od_enc β v).category = 2 := (od_cat β v).mpr h
section Rows7
variable {d : Nat} {M : od_M} {Z : od_Zt} {E0 : od_E} {res : od_Q} {pc : Nat} {L : od_L} {st : List od_V} {E : od_E} {g : od_G}
theorem r_iadd {a b : Int} (hd : decode M.2.2.1 pc = .ok (.iadd, 1)) (k : od_Rq d M Z E0 res (pc + 1) L ((0, (od_w (a + b))) :: st) E g) : od_Rq d M Z E0 res pc L ((0, b) :: (0, a) :: st) E g := by
  intro p l e s m args below meth c tc D β0 β A H locs ls S
  refine W.eq (g2 := F0 m pc ls (.int (Int32.ofInt b) :: .int (Int32.ofInt a) :: st.map (od_enc β))) rfl ?_
  have o := od_ok2 S.sok
  refine lv_iadd S.hx S.hb hd ?_
  rw [← Int32.ofInt_add, ← od_ofw]
  exact k p l e s m args below meth c tc D β0 β A H locs ls (S.stk (od_okc (od_w_r _) o.2.2))
theorem r_isub {a b : Int} (hd : decode M.2.2.1 pc = .ok (.isub, 1)) (k : od_Rq d M Z E0 res (pc + 1) L ((0, (od_w (a - b))) :: st) E g) : od_Rq d M Z E0 res pc L ((0, b) :: (0, a) :: st) E g := by
  intro p l e s m args below meth c tc D β0 β A H locs ls S
  refine W.eq (g2 := F0 m pc ls (.int (Int32.ofInt b) :: .int (Int32.ofInt a) :: st.map (od_enc β))) rfl ?_
  have o := od_ok2 S.sok
  refine lv_isub S.hx S.hb hd ?_
  rw [← Int32.ofInt_sub, ← od_ofw]
  exact k p l e s m args below meth c tc D β0 β A H locs ls (S.stk (od_okc (od_w_r _) o.2.2))
theorem r_imul {a b : Int} (hd : decode M.2.2.1 pc = .ok (.imul, 1)) (k : od_Rq d M Z E0 res (pc + 1) L ((0, (od_w (a * b))) :: st) E g) : od_Rq d M Z E0 res pc L ((0, b) :: (0, a) :: st) E g := by
  intro p l e s m args below meth c tc D β0 β A H locs ls S
  refine W.eq (g2 := F0 m pc ls (.int (Int32.ofInt b) :: .int (Int32.ofInt a) :: st.map (od_enc β))) rfl ?_
  have o := od_ok2 S.sok
  refine lv_imul S.hx S.hb hd ?_
  rw [← Int32.ofInt_mul, ← od_ofw]
  exact k p l e s m args below meth c tc D β0 β A H locs ls (S.stk (od_okc (od_w_r _) o.2.2))
theorem r_ladd {a b : Int} (hd : decode M.2.2.1 pc = .ok (.ladd, 1)) (k : od_Rq d M Z E0 res (pc + 1) L ((1, (od_wl (a + b))) :: st) E g) : od_Rq d M Z E0 res pc L ((1, b) :: (1, a) :: st) E g := by
  intro p l e s m args below meth c tc D β0 β A H locs ls S
  refine W.eq (g2 := F0 m pc ls (.long (Int64.ofInt b) :: .long (Int64.ofInt a) :: st.map (od_enc β))) rfl ?_
  have o := od_ok2 S.sok
  refine lv_ladd S.hx S.hb hd ?_
  rw [← Int64.ofInt_add, ← od_ofwl]
  exact k p l e s m args below meth c tc D β0 β A H locs ls (S.stk (od_okc (od_wl_r _) o.2.2))
theorem r_lsub {a b : Int} (hd : decode M.2.2.1 pc = .ok (.lsub, 1)) (k : od_Rq d M Z E0 res (pc + 1) L ((1, (od_wl (a - b))) :: st) E g) : od_Rq d M Z E0 res pc L ((1, b) :: (1, a) :: st) E g := by
  intro p l e s m args below meth c tc D β0 β A H locs ls S
  refine W.eq (g2 := F0 m pc ls (.long (Int64.ofInt b) :: .long (Int64.ofInt a) :: st.map (od_enc β))) rfl ?_
  have o := od_ok2 S.sok
  refine lv_lsub S.hx S.hb hd ?_
  rw [← Int64.ofInt_sub, ← od_ofwl]
  exact k p l e s m args below meth c tc D β0 β A H locs ls (S.stk (od_okc (od_wl_r _) o.2.2))
theorem r_lmul {a b : Int} (hd : decode M.2.2.1 pc = .ok (.lmul, 1)) (k : od_Rq d M Z E0 res (pc + 1) L ((1, (od_wl (a * b))) :: st) E g) : od_Rq d M Z E0 res pc L ((1, b) :: (1, a) :: st) E g := by
  intro p l e s m args below meth c tc D β0 β A H locs ls S
  refine W.eq (g2 := F0 m pc ls (.long (Int64.ofInt b) :: .long (Int64.ofInt a) :: st.map (od_enc β))) rfl ?_
  have o := od_ok2 S.sok
  refine lv_lmul S.hx S.hb hd ?_
  rw [← Int64.ofInt_mul, ← od_ofwl]
  exact k p l e s m args below meth c tc D β0 β A H locs ls (S.stk (od_okc (od_wl_r _) o.2.2))
theorem r_iand {a b : Int} (hd : decode M.2.2.1 pc = .ok (.iand, 1)) (k : od_Rq d M Z E0 res (pc + 1) L ((0, (od_and a b)) :: st) E g) : od_Rq d M Z E0 res pc L ((0, b) :: (0, a) :: st) E g := by
  intro p l e s m args below meth c tc D β0 β A H locs ls S
  refine W.eq (g2 := F0 m pc ls (.int (Int32.ofInt b) :: .int (Int32.ofInt a) :: st.map (od_enc β))) rfl ?_
  have o := od_ok2 S.sok
  refine lv_iand S.hx S.hb hd ?_
  refine W.eq (g2 := F0 m (pc + 1) ls (.int (Int32.ofInt (od_and a b)) :: st.map (od_enc β))) (by unfold od_and; rw [Int32.ofInt_toInt]) ?_
  exact k p l e s m args below meth c tc D β0 β A H locs ls (S.stk (od_okc (od_it _) o.2.2))
theorem r_ior {a b : Int} (hd : decode M.2.2.1 pc = .ok (.ior, 1)) (k : od_Rq d M Z E0 res (pc + 1) L ((0, (od_or a b)) :: st) E g) : od_Rq d M Z E0 res pc L ((0, b) :: (0, a) :: st) E g := by
  intro p l e s m args below meth c tc D β0 β A H locs ls S
  refine W.eq (g2 := F0 m pc ls (.int (Int32.ofInt b) :: .int (Int32.ofInt a) :: st.map (od_enc β))) rfl ?_
  have o := od_ok2 S.sok
  refine lv_ior S.hx S.hb hd ?_
  refine W.eq (g2 := F0 m (pc + 1) ls (.int (Int32.ofInt (od_or a b)) :: st.map (od_enc β))) (by unfold od_or; rw [Int32.ofInt_toInt]) ?_
  exact k p l e s m args below meth c tc D β0 β A H locs ls (S.stk (od_okc (od_it _) o.2.2))
theorem r_ixor {a b : Int} (hd : decode M.2.2.1 pc = .ok (.ixor, 1)) (k : od_Rq d M Z E0 res (pc + 1) L ((0, (od_xor a b)) :: st) E g) : od_Rq d M Z E0 res pc L ((0, b) :: (0, a) :: st) E g := by
  intro p l e s m args below meth c tc D β0 β A H locs ls S
  refine W.eq (g2 := F0 m pc ls (.int (Int32.ofInt b) :: .int (Int32.ofInt a) :: st.map (od_enc β))) rfl ?_
  have o := od_ok2 S.sok
  refine lv_ixor S.hx S.hb hd ?_
  refine W.eq (g2 := F0 m (pc + 1) ls (.int (Int32.ofInt (od_xor a b)) :: st.map (od_enc β))) (by unfold od_xor; rw [Int32.ofInt_toInt]) ?_
  exact k p l e s m args below meth c tc D β0 β A H locs ls (S.stk (od_okc (od_it _) o.2.2))
theorem r_ishl {a b : Int} (hd : decode M.2.2.1 pc = .ok (.ishl, 1)) (k : od_Rq d M Z E0 res (pc + 1) L ((0, (od_shl a b)) :: st) E g) : od_Rq d M Z E0 res pc L ((0, b) :: (0, a) :: st) E g := by
  intro p l e s m args below meth c tc D β0 β A H locs ls S
  refine W.eq (g2 := F0 m pc ls (.int (Int32.ofInt b) :: .int (Int32.ofInt a) :: st.map (od_enc β))) rfl ?_
  have o := od_ok2 S.sok
  refine lv_ishl S.hx S.hb hd ?_
  refine W.eq (g2 := F0 m (pc + 1) ls (.int (Int32.ofInt (od_shl a b)) :: st.map (od_enc β))) (by unfold od_shl; rw [Int32.ofInt_toInt]) ?_
  exact k p l e s m args below meth c tc D β0 β A H locs ls (S.stk (od_okc (od_it _) o.2.2))
theorem r_ishr {a b : Int} (hd : decode M.2.2.1 pc = .ok (.ishr, 1)) (k : od_Rq d M Z E0 res (pc + 1) L ((0, (od_shr a b)) :: st) E g) : od_Rq d M Z E0 res pc L ((0, b) :: (0, a) :: st) E g := by
  intro p l e s m args below meth c tc D β0 β A H locs ls S
  refine W.eq (g2 := F0 m pc ls (.int (Int32.ofInt b) :: .int (Int32.ofInt a) :: st.map (od_enc β))) rfl ?_
  have o := od_ok2 S.sok
  refine lv_ishr S.hx S.hb hd ?_
  refine W.eq (g2 := F0 m (pc + 1) ls (.int (Int32.ofInt (od_shr a b)) :: st.map (od_enc β))) (by unfold od_shr; rw [Int32.ofInt_toInt]) ?_
  exact k p l e s m args below meth c tc D β0 β A H locs ls (S.stk (od_okc (od_it _) o.2.2))
theorem r_iushr {a b : Int} (hd : decode M.2.2.1 pc = .ok (.iushr, 1)) (k : od_Rq d M Z E0 res (pc + 1) L ((0, (od_ushr a b)) :: st) E g) : od_Rq d M Z E0 res pc L ((0, b) :: (0, a) :: st) E g := by
  intro p l e s m args below meth c tc D β0 β A H locs ls S
  refine W.eq (g2 := F0 m pc ls (.int (Int32.ofInt b) :: .int (Int32.ofInt a) :: st.map (od_enc β))) rfl ?_
  have o := od_ok2 S.sok
  refine lv_iushr S.hx S.hb (v := Int32.ofInt (od_ushr a b)) hd (Int32.ofInt_toInt _).symm ?_
  exact k p l e s m args below meth c tc D β0 β A H locs ls (S.stk (od_okc (od_it _) o.2.2))
theorem r_ineg {a : Int} (hd : decode M.2.2.1 pc = .ok (.ineg, 1)) (k : od_Rq d M Z E0 res (pc + 1) L ((0, (od_w (-a))) :: st) E g) : od_Rq d M Z E0 res pc L ((0, a) :: st) E g := by
  intro p l e s m args below meth c tc D β0 β A H locs ls S
  refine W.eq (g2 := F0 m pc ls (.int (Int32.ofInt a) :: st.map (od_enc β))) rfl ?_
  have o := od_ok1 S.sok
  refine lv_ineg S.hx S.hb hd ?_
  rw [← Int32.ofInt_neg, ← od_ofw]
  exact k p l e s m args below meth c tc D β0 β A H locs ls (S.stk (od_okc (od_w_r _) o.2))
theorem r_idiv {a b : Int} (hd : decode M.2.2.1 pc = .ok (.idiv, 1)) (hb : b ≠ 0) (k : od_Rq d M Z E0 res (pc + 1) L ((0, (od_w (a.tdiv b))) :: st) E g) : od_Rq d M Z E0 res pc L ((0, b) :: (0, a) :: st) E g := by
  intro p l e s m args below meth c tc D β0 β A H locs ls S
  refine W.eq (g2 := F0 m pc ls (.int (Int32.ofInt b) :: .int (Int32.ofInt a) :: st.map (od_enc β))) rfl ?_
  have o := od_ok2 S.sok
  refine lv_idiv S.hx S.hb hd (fun h => hb ((od_ieq o.1 od_r0).mp h)) ?_
  rw [od_div32 a b o.2.1 o.1]
  exact k p l e s m args below meth c tc D β0 β A H locs ls (S.stk (od_okc (od_w_r _) o.2.2))
theorem r_irem {a b : Int} (hd : decode M.2.2.1 pc = .ok (.irem, 1)) (hb : b ≠ 0) (k : od_Rq d M Z E0 res (pc + 1) L ((0, (a.tmod b)) :: st) E g) : od_Rq d M Z E0 res pc L ((0, b) :: (0, a) :: st) E g := by
  intro p l e s m args below meth c tc D β0 β A H locs ls S
  refine W.eq (g2 := F0 m pc ls (.int (Int32.ofInt b) :: .int (Int32.ofInt a) :: st.map (od_enc β))) rfl ?_
  have o := od_ok2 S.sok
  refine lv_irem S.hx S.hb hd (fun h => hb ((od_ieq o.1 od_r0).mp h)) ?_
  rw [od_rem32 a b o.2.1 o.1]
  exact k p l e s m args below meth c tc D β0 β A H locs ls (S.stk (od_okc (od_tmod_r o.2.1) o.2.2))
theorem r_ldiv {a b : Int} (hd : decode M.2.2.1 pc = .ok (.ldiv, 1)) (hb : b ≠ 0) (k : od_Rq d M Z E0 res (pc + 1) L ((1, (od_wl (a.tdiv b))) :: st) E g) : od_Rq d M Z E0 res pc L ((1, b) :: (1, a) :: st) E g := by
  intro p l e s m args below meth c tc D β0 β A H locs ls S
  refine W.eq (g2 := F0 m pc ls (.long (Int64.ofInt b) :: .long (Int64.ofInt a) :: st.map (od_enc β))) rfl ?_
  have o := od_ok2 S.sok
  refine lv_ldiv S.hx S.hb hd (fun h => hb ((od_leq o.1 (by unfold od_r64; omega)).mp h)) ?_
  rw [od_div64 a b o.2.1 o.1]
  exact k p l e s m args below meth c tc D β0 β A H locs ls (S.stk (od_okc (od_wl_r _) o.2.2))
theorem r_lrem {a b : Int} (hd : decode M.2.2.1 pc = .ok (.lrem, 1)) (hb : b ≠ 0) (k : od_Rq d M Z E0 res (pc + 1) L ((1, (a.tmod b)) :: st) E g) : od_Rq d M Z E0 res pc L ((1, b) :: (1, a) :: st) E g := by
  intro p l e s m args below meth c tc D β0 β A H locs ls S
  refine W.eq (g2 := F0 m pc ls (.long (Int64.ofInt b) :: .long (Int64.ofInt a) :: st.map (od_enc β))) rfl ?_
  have o := od_ok2 S.sok
  refine lv_lrem S.hx S.hb hd (fun h => hb ((od_leq o.1 (by unfold od_r64; omega)).mp h)) ?_
  rw [od_rem64 a b o.2.1 o.1]
  exact k p l e s m args below meth c tc D β0 β A H locs ls (S.stk (od_okc (od_tmod_r64 o.2.1) o.2.2))
theorem r_i2l {a : Int} (hd : decode M.2.2.1 pc = .ok (.i2l, 1)) (k : od_Rq d M Z E0 res (pc + 1) L ((1, a) :: st) E g) : od_Rq d M Z E0 res pc L ((0, a) :: st) E g := by
  intro p l e s m args below meth c tc D β0 β A H locs ls S
  refine W.eq (g2 := F0 m pc ls (.int (Int32.ofInt a) :: st.map (od_enc β))) rfl ?_
  have o := od_ok1 S.sok
  refine lv_i2l S.hx S.hb (v := Int64.ofInt a) hd (by rw [← Int64.ofInt_int32ToInt, od_ti o.1]) ?_
  exact k p l e s m args below meth c tc D β0 β A H locs ls (S.stk (od_okc (od_r64_32 o.1) o.2))
theorem r_l2i {a : Int} (hd : decode M.2.2.1 pc = .ok (.l2i, 1)) (k : od_Rq d M Z E0 res (pc + 1) L ((0, (od_w a)) :: st) E g) : od_Rq d M Z E0 res pc L ((1, a) :: st) E g := by
  intro p l e s m args below meth c tc D β0 β A H locs ls S
  refine W.eq (g2 := F0 m pc ls (.long (Int64.ofInt a) :: st.map (od_enc β))) rfl ?_
  have o := od_ok1 S.sok
  refine lv_l2i S.hx S.hb (v := Int32.ofInt (od_w a)) hd (by rw [← Int32.ofInt_int64ToInt, od_tl o.1, od_ofw]) ?_
  exact k p l e s m args below meth c tc D β0 β A H locs ls (S.stk (od_okc (od_w_r _) o.2))
theorem r_i2b {a : Int} (hd : decode M.2.2.1 pc = .ok (.i2b, 1)) (k : od_Rq d M Z E0 res (pc + 1) L ((0, (od_byte a)) :: st) E g) : od_Rq d M Z E0 res pc L ((0, a) :: st) E g := by
  intro p l e s m args below meth c tc D β0 β A H locs ls S
  refine W.eq (g2 := F0 m pc ls (.int (Int32.ofInt a) :: st.map (od_enc β))) rfl ?_
  have o := od_ok1 S.sok
  refine lv_i2b S.hx S.hb (v := Int32.ofInt (od_byte a)) hd (Int32.ofInt_toInt _).symm ?_
  exact k p l e s m args below meth c tc D β0 β A H locs ls (S.stk (od_okc (od_it _) o.2))
theorem r_i2c {a : Int} (hd : decode M.2.2.1 pc = .ok (.i2c, 1)) (k : od_Rq d M Z E0 res (pc + 1) L ((0, (od_char a)) :: st) E g) : od_Rq d M Z E0 res pc L ((0, a) :: st) E g := by
  intro p l e s m args below meth c tc D β0 β A H locs ls S
  refine W.eq (g2 := F0 m pc ls (.int (Int32.ofInt a) :: st.map (od_enc β))) rfl ?_
  have o := od_ok1 S.sok
  refine lv_i2c S.hx S.hb (v := Int32.ofInt (od_char a)) hd (Int32.ofInt_toInt _).symm ?_
  exact k p l e s m args below meth c tc D β0 β A H locs ls (S.stk (od_okc (od_it _) o.2))
theorem r_lcmp {a b : Int} (hd : decode M.2.2.1 pc = .ok (.lcmp, 1)) (k : od_Rq d M Z E0 res (pc + 1) L ((0, (od_cmp a b)) :: st) E g) : od_Rq d M Z E0 res pc L ((1, b) :: (1, a) :: st) E g := by
  intro p l e s m args below meth c tc D β0 β A H locs ls S
  refine W.eq (g2 := F0 m pc ls (.long (Int64.ofInt b) :: .long (Int64.ofInt a) :: st.map (od_enc β))) rfl ?_
  have o := od_ok2 S.sok
  refine W.lcmp S.hx S.hb hd ?_
  rw [od_cmp_lg o.2.1 o.1]
  exact k p l e s m args below meth c tc D β0 β A H locs ls (S.stk (od_okc (od_cmp_r a b) o.2.2))
theorem r_iconst {n : Int} (hd : decode M.2.2.1 pc = .ok (.iconst n, 1)) (h : (Int32.ofInt n).toInt = n) (k : od_Rq d M Z E0 res (pc + 1) L ((0, n) :: st) E g) : od_Rq d M Z E0 res pc L (st) E g := by
  intro p l e s m args below meth c tc D β0 β A H locs ls S
  refine W.eq (g2 := F0 m pc ls (st.map (od_enc β))) rfl ?_
  refine lv_iconst S.hx S.hb (v := Int32.ofInt n) hd rfl ?_
  exact k p l e s m args below meth c tc D β0 β A H locs ls (S.stk (od_okc (od_lit h) S.sok))
theorem r_bipush {n : Int} (hd : decode M.2.2.1 pc = .ok (.bipush n, 2)) (h : (Int8.ofInt n).toInt32.toInt = n) (k : od_Rq d M Z E0 res (pc + 2) L ((0, n) :: st) E g) : od_Rq d M Z E0 res pc L (st) E g := by
  intro p l e s m args below meth c tc D β0 β A H locs ls S
  refine W.eq (g2 := F0 m pc ls (st.map (od_enc β))) rfl ?_
  refine lv_bipush S.hx S.hb (v := Int32.ofInt n) hd (by rw [← Int32.ofInt_toInt (Int8.ofInt n).toInt32, h]) ?_
  exact k p l e s m args below meth c tc D β0 β A H locs ls (S.stk (od_okc (od_litb h) S.sok))
theorem r_sipush {n : Int} (hd : decode M.2.2.1 pc = .ok (.sipush n, 3)) (h : (Int16.ofInt n).toInt32.toInt = n) (k : od_Rq d M Z E0 res (pc + 3) L ((0, n) :: st) E g) : od_Rq d M Z E0 res pc L (st) E g := by
  intro p l e s m args below meth c tc D β0 β A H locs ls S
  refine W.eq (g2 := F0 m pc ls (st.map (od_enc β))) rfl ?_
  refine lv_sipush S.hx S.hb (v := Int32.ofInt n) hd (by rw [← Int32.ofInt_toInt (Int16.ofInt n).toInt32, h]) ?_
  exact k p l e s m args below meth c tc D β0 β A H locs ls (S.stk (od_okc (od_lits h) S.sok))
theorem r_lconst {n : Fin 2} {x : Int} (hd : decode M.2.2.1 pc = .ok (.lconst n, 1)) (h : (Int64.ofNat (n : Nat)).toInt = x) (k : od_Rq d M Z E0 res (pc + 1) L ((1, x) :: st) E g) : od_Rq d M Z E0 res pc L (st) E g := by
  intro p l e s m args below meth c tc D β0 β A H locs ls S
  refine W.eq (g2 := F0 m pc ls (st.map (od_enc β))) rfl ?_
  refine lv_lconst S.hx S.hb (v := Int64.ofInt x) hd (by rw [← h, Int64.ofInt_toInt]) ?_
  exact k p l e s m args below meth c tc D β0 β A H locs ls (S.stk (od_okc (od_litl h) S.sok))
theorem r_ldc {i : Nat} {v : Int32} {x : Int} (hd : decode M.2.2.1 pc = .ok (.ldc i, 2)) (hc : Cond.constant M.1 i v ∈ lw_good) (h : v.toInt = x) (k : od_Rq d M Z E0 res (pc + 2) L ((0, x) :: st) E g) : od_Rq d M Z E0 res pc L (st) E g := by
  intro p l e s m args below meth c tc D β0 β A H locs ls S
  refine W.eq (g2 := F0 m pc ls (st.map (od_enc β))) rfl ?_
  refine lv_ldc S.hx S.hb (v := Int32.ofInt x) S.hown (by rw [← h, Int32.ofInt_toInt]; exact S.hts _ hc) hd ?_
  exact k p l e s m args below meth c tc D β0 β A H locs ls (S.stk (od_okc (h ▸ od_it v) S.sok))
theorem r_ldcw {i : Nat} {v : Int32} {x : Int} (hd : decode M.2.2.1 pc = .ok (.ldc_w i, 3)) (hc : Cond.constant M.1 i v ∈ lw_good) (h : v.toInt = x) (k : od_Rq d M Z E0 res (pc + 3) L ((0, x) :: st) E g) : od_Rq d M Z E0 res pc L (st) E g := by
  intro p l e s m args below meth c tc D β0 β A H locs ls S
  refine W.eq (g2 := F0 m pc ls (st.map (od_enc β))) rfl ?_
  refine lv_ldcw S.hx S.hb (v := Int32.ofInt x) S.hown (by rw [← h, Int32.ofInt_toInt]; exact S.hts _ hc) hd ?_
  exact k p l e s m args below meth c tc D β0 β A H locs ls (S.stk (od_okc (h ▸ od_it v) S.sok))
theorem r_ldc2 {i : Nat} {v : Int64} {x : Int} (hd : decode M.2.2.1 pc = .ok (.ldc2_w i, 3)) (hc : Cond.constantLong M.1 i v ∈ lw_good) (h : v.toInt = x) (k : od_Rq d M Z E0 res (pc + 3) L ((1, x) :: st) E g) : od_Rq d M Z E0 res pc L (st) E g := by
  intro p l e s m args below meth c tc D β0 β A H locs ls S
  refine W.eq (g2 := F0 m pc ls (st.map (od_enc β))) rfl ?_
  refine lv_ldc2 S.hx S.hb (v := Int64.ofInt x) S.hown (by rw [← h, Int64.ofInt_toInt]; exact S.hts _ hc) hd ?_
  exact k p l e s m args below meth c tc D β0 β A H locs ls (S.stk (od_okc (h ▸ od_lt v) S.sok))
theorem r_dup {a : od_V} (hd : decode M.2.2.1 pc = .ok (.dup, 1)) (ha : a.1 ≠ 1) (k : od_Rq d M Z E0 res (pc + 1) L (a :: a :: st) E g) : od_Rq d M Z E0 res pc L (a :: st) E g := by
  intro p l e s m args below meth c tc D β0 β A H locs ls S
  have o := S.sok
  refine lv_dup S.hx S.hb hd (od_cat1 ha) ?_
  exact k p l e s m args below meth c tc D β0 β A H locs ls (S.stk (fun v hv => o v (by simp only [List.mem_cons] at hv ⊢; grind)))
theorem r_pop {a : od_V} (hd : decode M.2.2.1 pc = .ok (.pop, 1)) (ha : a.1 ≠ 1) (k : od_Rq d M Z E0 res (pc + 1) L (st) E g) : od_Rq d M Z E0 res pc L (a :: st) E g := by
  intro p l e s m args below meth c tc D β0 β A H locs ls S
  have o := S.sok
  refine lv_pop S.hx S.hb hd (od_cat1 ha) ?_
  exact k p l e s m args below meth c tc D β0 β A H locs ls (S.stk (fun v hv => o v (by simp only [List.mem_cons] at hv ⊢; grind)))
theorem r_dup2 {a b : od_V} (hd : decode M.2.2.1 pc = .ok (.dup2, 1)) (ha : a.1 ≠ 1) (hb : b.1 ≠ 1) (k : od_Rq d M Z E0 res (pc + 1) L (a :: b :: a :: b :: st) E g) : od_Rq d M Z E0 res pc L (a :: b :: st) E g := by
  intro p l e s m args below meth c tc D β0 β A H locs ls S
  have o := S.sok
  refine lv_dup2_11 S.hx S.hb hd (od_cat1 ha) (od_cat1 hb) ?_
  exact k p l e s m args below meth c tc D β0 β A H locs ls (S.stk (fun v hv => o v (by simp only [List.mem_cons] at hv ⊢; grind)))
theorem r_iload {i : Nat} {x : Int} (hd : decode M.2.2.1 pc = .ok (.iload i, 2)) (h : L[i]? = some (some (0, x))) (k : od_Rq d M Z E0 res (pc + 2) L ((0, x) :: st) E g) : od_Rq d M Z E0 res pc L st E g := by
  intro p l e s m args below meth c tc D β0 β A H locs ls S
  refine lv_iload S.hx S.hb hd (S.hl.2.2 _ _ h) ?_
  exact k p l e s m args below meth c tc D β0 β A H locs ls (S.stk (od_okc (S.lok _ (List.mem_of_getElem? h)) S.sok))
theorem r_iload_n {i : Fin 4} {x : Int} (hd : decode M.2.2.1 pc = .ok (.iload_n i, 1)) (h : L[(i : Nat)]? = some (some (0, x))) (k : od_Rq d M Z E0 res (pc + 1) L ((0, x) :: st) E g) : od_Rq d M Z E0 res pc L st E g := by
  intro p l e s m args below meth c tc D β0 β A H locs ls S
  refine lv_iload_n S.hx S.hb hd rfl (S.hl.2.2 _ _ h) ?_
  exact k p l e s m args below meth c tc D β0 β A H locs ls (S.stk (od_okc (S.lok _ (List.mem_of_getElem? h)) S.sok))
theorem r_lload {i : Nat} {x : Int} (hd : decode M.2.2.1 pc = .ok (.lload i, 2)) (h : L[i]? = some (some (1, x))) (k : od_Rq d M Z E0 res (pc + 2) L ((1, x) :: st) E g) : od_Rq d M Z E0 res pc L st E g := by
  intro p l e s m args below meth c tc D β0 β A H locs ls S
  refine lv_lload S.hx S.hb hd (S.hl.2.2 _ _ h) ?_
  exact k p l e s m args below meth c tc D β0 β A H locs ls (S.stk (od_okc (S.lok _ (List.mem_of_getElem? h)) S.sok))
theorem r_lload_n {i : Fin 4} {x : Int} (hd : decode M.2.2.1 pc = .ok (.lload_n i, 1)) (h : L[(i : Nat)]? = some (some (1, x))) (k : od_Rq d M Z E0 res (pc + 1) L ((1, x) :: st) E g) : od_Rq d M Z E0 res pc L st E g := by
  intro p l e s m args below meth c tc D β0 β A H locs ls S
  refine lv_lload_n S.hx S.hb hd rfl (S.hl.2.2 _ _ h) ?_
  exact k p l e s m args below meth c tc D β0 β A H locs ls (S.stk (od_okc (S.lok _ (List.mem_of_getElem? h)) S.sok))
theorem r_aload {i : Nat} {x : Int} (hd : decode M.2.2.1 pc = .ok (.aload i, 2)) (h : L[i]? = some (some (2, x))) (k : od_Rq d M Z E0 res (pc + 2) L ((2, x) :: st) E g) : od_Rq d M Z E0 res pc L st E g := by
  intro p l e s m args below meth c tc D β0 β A H locs ls S
  have h1 := S.hl.2.2 _ _ h
  have h2 := k p l e s m args below meth c tc D β0 β A H locs ls (S.stk (od_okc (S.lok _ (List.mem_of_getElem? h)) S.sok))
  by_cases hx : x = -1
  · subst hx
    rw [od_nul] at h1
    refine lv_aloadN S.hx S.hb hd h1 ?_
    refine W.eq (g2 := F0 m (pc + 2) ls (((2, -1) :: st).map (od_enc β))) (by rw [List.map_cons, od_nul]) ?_
    exact h2
  · rw [od_ref hx] at h1
    refine lv_aload S.hx S.hb hd h1 ?_
    refine W.eq (g2 := F0 m (pc + 2) ls (((2, x) :: st).map (od_enc β))) (by rw [List.map_cons, od_ref hx]) ?_
    exact h2
theorem r_aload_n {i : Fin 4} {x : Int} (hd : decode M.2.2.1 pc = .ok (.aload_n i, 1)) (h : L[(i : Nat)]? = some (some (2, x))) (k : od_Rq d M Z E0 res (pc + 1) L ((2, x) :: st) E g) : od_Rq d M Z E0 res pc L st E g := by
  intro p l e s m args below meth c tc D β0 β A H locs ls S
  have h1 := S.hl.2.2 _ _ h
  have h2 := k p l e s m args below meth c tc D β0 β A H locs ls (S.stk (od_okc (S.lok _ (List.mem_of_getElem? h)) S.sok))
  by_cases hx : x = -1
  · subst hx
    rw [od_nul] at h1
    refine lv_aload_nN S.hx S.hb hd rfl h1 ?_
    refine W.eq (g2 := F0 m (pc + 1) ls (((2, -1) :: st).map (od_enc β))) (by rw [List.map_cons, od_nul]) ?_
    exact h2
  · rw [od_ref hx] at h1
    refine lv_aload_n S.hx S.hb hd rfl h1 ?_
    refine W.eq (g2 := F0 m (pc + 1) ls (((2, x) :: st).map (od_enc β))) (by rw [List.map_cons, od_ref hx]) ?_
    exact h2
theorem r_istore {i : Nat} {x : Int} {L' : od_L} (hd : decode M.2.2.1 pc = .ok (.istore i, 2)) (hn : i < M.2.2.2.1) (hL : od_st1 L i (0, x) = L') (k : od_Rq d M Z E0 res (pc + 2) L' st E g) : od_Rq d M Z E0 res pc L ((0, x) :: st) E g := by
  intro p l e s m args below meth c tc D β0 β A H locs ls S
  subst hL
  have o := od_ok1 S.sok
  refine lv_istore S.hx S.hb hd (od_lh_has S.hl) hn rfl (fun ls' hl => ?_)
  exact k p l e s m args below meth c tc D β0 β A H locs ls' (S.loc o.2 (od_st1_ok S.lok o.1) (od_lh_st1 (v := (0, x)) hl))
theorem r_istore_n {i : Fin 4} {x : Int} {L' : od_L} (hd : decode M.2.2.1 pc = .ok (.istore_n i, 1)) (hn : (i : Nat) < M.2.2.2.1) (hL : od_st1 L (i : Nat) (0, x) = L') (k : od_Rq d M Z E0 res (pc + 1) L' st E g) : od_Rq d M Z E0 res pc L ((0, x) :: st) E g := by
  intro p l e s m args below meth c tc D β0 β A H locs ls S
  subst hL
  have o := od_ok1 S.sok
  refine lv_istore_n S.hx S.hb hd rfl (od_lh_has S.hl) hn rfl (fun ls' hl => ?_)
  exact k p l e s m args below meth c tc D β0 β A H locs ls' (S.loc o.2 (od_st1_ok S.lok o.1) (od_lh_st1 (v := (0, x)) hl))
theorem r_lstore {i : Nat} {x : Int} {L' : od_L} (hd : decode M.2.2.1 pc = .ok (.lstore i, 2)) (hn : i + 1 < M.2.2.2.1) (hL : od_st2 L i (1, x) = L') (k : od_Rq d M Z E0 res (pc + 2) L' st E g) : od_Rq d M Z E0 res pc L ((1, x) :: st) E g := by
  intro p l e s m args below meth c tc D β0 β A H locs ls S
  subst hL
  have o := od_ok1 S.sok
  refine lv_lstore S.hx S.hb hd (od_lh_has S.hl) hn rfl (fun ls' hl => ?_)
  exact k p l e s m args below meth c tc D β0 β A H locs ls' (S.loc o.2 (od_st2_ok S.lok o.1) (od_lh_st2 (v := (1, x)) hl))
theorem r_lstore_n {i : Fin 4} {x : Int} {L' : od_L} (hd : decode M.2.2.1 pc = .ok (.lstore_n i, 1)) (hn : (i : Nat) + 1 < M.2.2.2.1) (hL : od_st2 L (i : Nat) (1, x) = L') (k : od_Rq d M Z E0 res (pc + 1) L' st E g) : od_Rq d M Z E0 res pc L ((1, x) :: st) E g := by
  intro p l e s m args below meth c tc D β0 β A H locs ls S
  subst hL
  have o := od_ok1 S.sok
  refine lv_lstore_n S.hx S.hb hd rfl (od_lh_has S.hl) hn rfl (fun ls' hl => ?_)
  exact k p l e s m args below meth c tc D β0 β A H locs ls' (S.loc o.2 (od_st2_ok S.lok o.1) (od_lh_st2 (v := (1, x)) hl))
theorem r_astore {i : Nat} {x : Int} {L' : od_L} (hd : decode M.2.2.1 pc = .ok (.astore i, 2)) (hn : i < M.2.2.2.1) (hL : od_st1 L i (2, x) = L') (k : od_Rq d M Z E0 res (pc + 2) L' st E g) : od_Rq d M Z E0 res pc L ((2, x) :: st) E g := by
  intro p l e s m args below meth c tc D β0 β A H locs ls S
  subst hL
  have o := od_ok1 S.sok
  by_cases hx : x = -1
  · subst hx
    refine W.eq (g2 := F0 m pc ls (.null :: st.map (od_enc β))) (by rw [List.map_cons, od_nul]) ?_
    refine lv_astoreN S.hx S.hb hd (od_lh_has S.hl) hn rfl (fun ls' hl => ?_)
    rw [← od_nul (β := β)] at hl
    exact k p l e s m args below meth c tc D β0 β A H locs ls' (S.loc o.2 (od_st1_ok S.lok o.1) (od_lh_st1 hl))
  · refine W.eq (g2 := F0 m pc ls (.ref (β x) :: st.map (od_enc β))) (by rw [List.map_cons, od_ref hx]) ?_
    refine lv_astore S.hx S.hb hd (od_lh_has S.hl) hn rfl (fun ls' hl => ?_)
    rw [← od_ref (β := β) hx] at hl
    exact k p l e s m args below meth c tc D β0 β A H locs ls' (S.loc o.2 (od_st1_ok S.lok o.1) (od_lh_st1 hl))
theorem r_astore_n {i : Fin 4} {x : Int} {L' : od_L} (hd : decode M.2.2.1 pc = .ok (.astore_n i, 1)) (hn : (i : Nat) < M.2.2.2.1) (hL : od_st1 L (i : Nat) (2, x) = L') (k : od_Rq d M Z E0 res (pc + 1) L' st E g) : od_Rq d M Z E0 res pc L ((2, x) :: st) E g := by
  intro p l e s m args below meth c tc D β0 β A H locs ls S
  subst hL
  have o := od_ok1 S.sok
  by_cases hx : x = -1
  · subst hx
    refine W.eq (g2 := F0 m pc ls (.null :: st.map (od_enc β))) (by rw [List.map_cons, od_nul]) ?_
    refine lv_astore_nN S.hx S.hb hd rfl (od_lh_has S.hl) hn rfl (fun ls' hl => ?_)
    rw [← od_nul (β := β)] at hl
    exact k p l e s m args below meth c tc D β0 β A H locs ls' (S.loc o.2 (od_st1_ok S.lok o.1) (od_lh_st1 hl))
  · refine W.eq (g2 := F0 m pc ls (.ref (β x) :: st.map (od_enc β))) (by rw [List.map_cons, od_ref hx]) ?_
    refine lv_astore_n S.hx S.hb hd rfl (od_lh_has S.hl) hn rfl (fun ls' hl => ?_)
    rw [← od_ref (β := β) hx] at hl
    exact k p l e s m args below meth c tc D β0 β A H locs ls' (S.loc o.2 (od_st1_ok S.lok o.1) (od_lh_st1 hl))
theorem r_iinc {i : Nat} {n x : Int} {L' : od_L} (hd : decode M.2.2.1 pc = .ok (.iinc i n, 3)) (h : L[i]? = some (some (0, x))) (hn : i < M.2.2.2.1) (hL : od_st1 L i (0, od_w (x + n)) = L') (k : od_Rq d M Z E0 res (pc + 3) L' st E g) : od_Rq d M Z E0 res pc L st E g := by
  intro p l e s m args below meth c tc D β0 β A H locs ls S
  subst hL
  obtain ⟨q, hq⟩ := List.getElem?_of_mem (od_lv_in (β := β) h)
  refine lv_iinc S.hx S.hb (v := Int32.ofInt (od_w (x + n))) (x := Int32.ofInt x) hd (od_lh_has S.hl) hq (by rw [od_ofw, Int32.ofInt_add]) hn rfl (fun ls' hl => ?_)
  exact k p l e s m args below meth c tc D β0 β A H locs ls' (S.loc S.sok (od_st1_ok S.lok (od_w_r _)) (od_lh_st1 (v := (0, od_w (x + n))) hl))
theorem r_icmp_eq {a b : Int} {off : Int} {tgt : Nat} (hd : decode M.2.2.1 pc = .ok (.if_icmp .eq off, 3)) (ht : (pc : Int) + off = (tgt : Int)) (kt : a = b → od_Rq d M Z E0 res tgt L st E g) (kf : a ≠ b → od_Rq d M Z E0 res (pc + 3) L st E g) : od_Rq d M Z E0 res pc L ((0, b) :: (0, a) :: st) E g := by
  intro p l e s m args below meth c tc D β0 β A H locs ls S
  have o : od_r32 b ∧ od_r32 a ∧ ∀ v ∈ st, od_ok E v := od_ok2 S.sok
  refine W.eq (g2 := F0 m pc ls (.int (Int32.ofInt b) :: .int (Int32.ofInt a) :: st.map (od_enc β))) rfl ?_
  refine lv_icmp_eq S.hx S.hb hd ht (fun h => kt ?_ p l e s m args below meth c tc D β0 β A H locs ls (S.stk o.2.2)) (fun h => kf ?_ p l e s m args below meth c tc D β0 β A H locs ls (S.stk o.2.2))
  · exact (od_ieq o.2.1 o.1).mp h
  · exact fun q => h ((od_ieq o.2.1 o.1).mpr q)
theorem r_if_eq {a : Int} {off : Int} {tgt : Nat} (hd : decode M.2.2.1 pc = .ok (.ifCond .eq off, 3)) (ht : (pc : Int) + off = (tgt : Int)) (kt : a = 0 → od_Rq d M Z E0 res tgt L st E g) (kf : a ≠ 0 → od_Rq d M Z E0 res (pc + 3) L st E g) : od_Rq d M Z E0 res pc L ((0, a) :: st) E g := by
  intro p l e s m args below meth c tc D β0 β A H locs ls S
  have o1 := od_ok1 S.sok
  have o : od_r32 0 ∧ od_r32 a ∧ ∀ v ∈ st, od_ok E v := ⟨od_r0, o1.1, o1.2⟩
  refine W.eq (g2 := F0 m pc ls (.int (Int32.ofInt a) :: st.map (od_enc β))) rfl ?_
  refine lv_if_eq S.hx S.hb hd ht (fun h => kt ?_ p l e s m args below meth c tc D β0 β A H locs ls (S.stk o.2.2)) (fun h => kf ?_ p l e s m args below meth c tc D β0 β A H locs ls (S.stk o.2.2))
  · exact (od_ieq o.2.1 o.1).mp h
  · exact fun q => h ((od_ieq o.2.1 o.1).mpr q)
theorem r_icmp_ne {a b : Int} {off : Int} {tgt : Nat} (hd : decode M.2.2.1 pc = .ok (.if_icmp .ne off, 3)) (ht : (pc : Int) + off = (tgt : Int)) (kt : a ≠ b → od_Rq d M Z E0 res tgt L st E g) (kf : a = b → od_Rq d M Z E0 res (pc + 3) L st E g) : od_Rq d M Z E0 res pc L ((0, b) :: (0, a) :: st) E g := by
  intro p l e s m args below meth c tc D β0 β A H locs ls S
  have o : od_r32 b ∧ od_r32 a ∧ ∀ v ∈ st, od_ok E v := od_ok2 S.sok
  refine W.eq (g2 := F0 m pc ls (.int (Int32.ofInt b) :: .int (Int32.ofInt a) :: st.map (od_enc β))) rfl ?_
  refine lv_icmp_ne S.hx S.hb hd ht (fun h => kt ?_ p l e s m args below meth c tc D β0 β A H locs ls (S.stk o.2.2)) (fun h => kf ?_ p l e s m args below meth c tc D β0 β A H locs ls (S.stk o.2.2))
  · exact fun q => h ((od_ieq o.2.1 o.1).mpr q)
  · exact (od_ieq o.2.1 o.1).mp h
theorem r_if_ne {a : Int} {off : Int} {tgt : Nat} (hd : decode M.2.2.1 pc = .ok (.ifCond .ne off, 3)) (ht : (pc : Int) + off = (tgt : Int)) (kt : a ≠ 0 → od_Rq d M Z E0 res tgt L st E g) (kf : a = 0 → od_Rq d M Z E0 res (pc + 3) L st E g) : od_Rq d M Z E0 res pc L ((0, a) :: st) E g := by
  intro p l e s m args below meth c tc D β0 β A H locs ls S
  have o1 := od_ok1 S.sok
  have o : od_r32 0 ∧ od_r32 a ∧ ∀ v ∈ st, od_ok E v := ⟨od_r0, o1.1, o1.2⟩
  refine W.eq (g2 := F0 m pc ls (.int (Int32.ofInt a) :: st.map (od_enc β))) rfl ?_
  refine lv_if_ne S.hx S.hb hd ht (fun h => kt ?_ p l e s m args below meth c tc D β0 β A H locs ls (S.stk o.2.2)) (fun h => kf ?_ p l e s m args below meth c tc D β0 β A H locs ls (S.stk o.2.2))
  · exact fun q => h ((od_ieq o.2.1 o.1).mpr q)
  · exact (od_ieq o.2.1 o.1).mp h
theorem r_icmp_lt {a b : Int} {off : Int} {tgt : Nat} (hd : decode M.2.2.1 pc = .ok (.if_icmp .lt off, 3)) (ht : (pc : Int) + off = (tgt : Int)) (kt : a < b → od_Rq d M Z E0 res tgt L st E g) (kf : b ≤ a → od_Rq d M Z E0 res (pc + 3) L st E g) : od_Rq d M Z E0 res pc L ((0, b) :: (0, a) :: st) E g := by
  intro p l e s m args below meth c tc D β0 β A H locs ls S
  have o : od_r32 b ∧ od_r32 a ∧ ∀ v ∈ st, od_ok E v := od_ok2 S.sok
  refine W.eq (g2 := F0 m pc ls (.int (Int32.ofInt b) :: .int (Int32.ofInt a) :: st.map (od_enc β))) rfl ?_
  refine lv_icmp_lt S.hx S.hb hd ht (fun h => kt ?_ p l e s m args below meth c tc D β0 β A H locs ls (S.stk o.2.2)) (fun h => kf ?_ p l e s m args below meth c tc D β0 β A H locs ls (S.stk o.2.2))
  · exact (od_ilt o.2.1 o.1).mp h
  · exact Int.not_lt.mp (fun q => h ((od_ilt o.2.1 o.1).mpr q))
theorem r_if_lt {a : Int} {off : Int} {tgt : Nat} (hd : decode M.2.2.1 pc = .ok (.ifCond .lt off, 3)) (ht : (pc : Int) + off = (tgt : Int)) (kt : a < 0 → od_Rq d M Z E0 res tgt L st E g) (kf : 0 ≤ a → od_Rq d M Z E0 res (pc + 3) L st E g) : od_Rq d M Z E0 res pc L ((0, a) :: st) E g := by
  intro p l e s m args below meth c tc D β0 β A H locs ls S
  have o1 := od_ok1 S.sok
  have o : od_r32 0 ∧ od_r32 a ∧ ∀ v ∈ st, od_ok E v := ⟨od_r0, o1.1, o1.2⟩
  refine W.eq (g2 := F0 m pc ls (.int (Int32.ofInt a) :: st.map (od_enc β))) rfl ?_
  refine lv_if_lt S.hx S.hb hd ht (fun h => kt ?_ p l e s m args below meth c tc D β0 β A H locs ls (S.stk o.2.2)) (fun h => kf ?_ p l e s m args below meth c tc D β0 β A H locs ls (S.stk o.2.2))
  · exact (od_ilt o.2.1 o.1).mp h
  · exact Int.not_lt.mp (fun q => h ((od_ilt o.2.1 o.1).mpr q))
theorem r_icmp_ge {a b : Int} {off : Int} {tgt : Nat} (hd : decode M.2.2.1 pc = .ok (.if_icmp .ge off, 3)) (ht : (pc : Int) + off = (tgt : Int)) (kt : b ≤ a → od_Rq d M Z E0 res tgt L st E g) (kf : a < b → od_Rq d M Z E0 res (pc + 3) L st E g) : od_Rq d M Z E0 res pc L ((0, b) :: (0, a) :: st) E g := by
  intro p l e s m args below meth c tc D β0 β A H locs ls S
  have o : od_r32 b ∧ od_r32 a ∧ ∀ v ∈ st, od_ok E v := od_ok2 S.sok
  refine W.eq (g2 := F0 m pc ls (.int (Int32.ofInt b) :: .int (Int32.ofInt a) :: st.map (od_enc β))) rfl ?_
  refine lv_icmp_ge S.hx S.hb hd ht (fun h => kt ?_ p l e s m args below meth c tc D β0 β A H locs ls (S.stk o.2.2)) (fun h => kf ?_ p l e s m args below meth c tc D β0 β A H locs ls (S.stk o.2.2))
  · exact (od_ile o.1 o.2.1).mp h
  · exact Int.not_le.mp (fun q => h ((od_ile o.1 o.2.1).mpr q))
theorem r_if_ge {a : Int} {off : Int} {tgt : Nat} (hd : decode M.2.2.1 pc = .ok (.ifCond .ge off, 3)) (ht : (pc : Int) + off = (tgt : Int)) (kt : 0 ≤ a → od_Rq d M Z E0 res tgt L st E g) (kf : a < 0 → od_Rq d M Z E0 res (pc + 3) L st E g) : od_Rq d M Z E0 res pc L ((0, a) :: st) E g := by
  intro p l e s m args below meth c tc D β0 β A H locs ls S
  have o1 := od_ok1 S.sok
  have o : od_r32 0 ∧ od_r32 a ∧ ∀ v ∈ st, od_ok E v := ⟨od_r0, o1.1, o1.2⟩
  refine W.eq (g2 := F0 m pc ls (.int (Int32.ofInt a) :: st.map (od_enc β))) rfl ?_
  refine lv_if_ge S.hx S.hb hd ht (fun h => kt ?_ p l e s m args below meth c tc D β0 β A H locs ls (S.stk o.2.2)) (fun h => kf ?_ p l e s m args below meth c tc D β0 β A H locs ls (S.stk o.2.2))
  · exact (od_ile o.1 o.2.1).mp h
  · exact Int.not_le.mp (fun q => h ((od_ile o.1 o.2.1).mpr q))
theorem r_icmp_gt {a b : Int} {off : Int} {tgt : Nat} (hd : decode M.2.2.1 pc = .ok (.if_icmp .gt off, 3)) (ht : (pc : Int) + off = (tgt : Int)) (kt : b < a → od_Rq d M Z E0 res tgt L st E g) (kf : a ≤ b → od_Rq d M Z E0 res (pc + 3) L st E g) : od_Rq d M Z E0 res pc L ((0, b) :: (0, a) :: st) E g := by
  intro p l e s m args below meth c tc D β0 β A H locs ls S
  have o : od_r32 b ∧ od_r32 a ∧ ∀ v ∈ st, od_ok E v := od_ok2 S.sok
  refine W.eq (g2 := F0 m pc ls (.int (Int32.ofInt b) :: .int (Int32.ofInt a) :: st.map (od_enc β))) rfl ?_
  refine lv_icmp_gt S.hx S.hb hd ht (fun h => kt ?_ p l e s m args below meth c tc D β0 β A H locs ls (S.stk o.2.2)) (fun h => kf ?_ p l e s m args below meth c tc D β0 β A H locs ls (S.stk o.2.2))
  · exact (od_ilt o.1 o.2.1).mp h
  · exact Int.not_lt.mp (fun q => h ((od_ilt o.1 o.2.1).mpr q))
theorem r_if_gt {a : Int} {off : Int} {tgt : Nat} (hd : decode M.2.2.1 pc = .ok (.ifCond .gt off, 3)) (ht : (pc : Int) + off = (tgt : Int)) (kt : 0 < a → od_Rq d M Z E0 res tgt L st E g) (kf : a ≤ 0 → od_Rq d M Z E0 res (pc + 3) L st E g) : od_Rq d M Z E0 res pc L ((0, a) :: st) E g := by
  intro p l e s m args below meth c tc D β0 β A H locs ls S
  have o1 := od_ok1 S.sok
  have o : od_r32 0 ∧ od_r32 a ∧ ∀ v ∈ st, od_ok E v := ⟨od_r0, o1.1, o1.2⟩
  refine W.eq (g2 := F0 m pc ls (.int (Int32.ofInt a) :: st.map (od_enc β))) rfl ?_
  refine lv_if_gt S.hx S.hb hd ht (fun h => kt ?_ p l e s m args below meth c tc D β0 β A H locs ls (S.stk o.2.2)) (fun h => kf ?_ p l e s m args below meth c tc D β0 β A H locs ls (S.stk o.2.2))
  · exact (od_ilt o.1 o.2.1).mp h
  · exact Int.not_lt.mp (fun q => h ((od_ilt o.1 o.2.1).mpr q))
theorem r_icmp_le {a b : Int} {off : Int} {tgt : Nat} (hd : decode M.2.2.1 pc = .ok (.if_icmp .le off, 3)) (ht : (pc : Int) + off = (tgt : Int)) (kt : a ≤ b → od_Rq d M Z E0 res tgt L st E g) (kf : b < a → od_Rq d M Z E0 res (pc + 3) L st E g) : od_Rq d M Z E0 res pc L ((0, b) :: (0, a) :: st) E g := by
  intro p l e s m args below meth c tc D β0 β A H locs ls S
  have o : od_r32 b ∧ od_r32 a ∧ ∀ v ∈ st, od_ok E v := od_ok2 S.sok
  refine W.eq (g2 := F0 m pc ls (.int (Int32.ofInt b) :: .int (Int32.ofInt a) :: st.map (od_enc β))) rfl ?_
  refine lv_icmp_le S.hx S.hb hd ht (fun h => kt ?_ p l e s m args below meth c tc D β0 β A H locs ls (S.stk o.2.2)) (fun h => kf ?_ p l e s m args below meth c tc D β0 β A H locs ls (S.stk o.2.2))
  · exact (od_ile o.2.1 o.1).mp h
  · exact Int.not_le.mp (fun q => h ((od_ile o.2.1 o.1).mpr q))
theorem r_if_le {a : Int} {off : Int} {tgt : Nat} (hd : decode M.2.2.1 pc = .ok (.ifCond .le off, 3)) (ht : (pc : Int) + off = (tgt : Int)) (kt : a ≤ 0 → od_Rq d M Z E0 res tgt L st E g) (kf : 0 < a → od_Rq d M Z E0 res (pc + 3) L st E g) : od_Rq d M Z E0 res pc L ((0, a) :: st) E g := by
  intro p l e s m args below meth c tc D β0 β A H locs ls S
  have o1 := od_ok1 S.sok
  have o : od_r32 0 ∧ od_r32 a ∧ ∀ v ∈ st, od_ok E v := ⟨od_r0, o1.1, o1.2⟩
  refine W.eq (g2 := F0 m pc ls (.int (Int32.ofInt a) :: st.map (od_enc β))) rfl ?_
  refine lv_if_le S.hx S.hb hd ht (fun h => kt ?_ p l e s m args below meth c tc D β0 β A H locs ls (S.stk o.2.2)) (fun h => kf ?_ p l e s m args below meth c tc D β0 β A H locs ls (S.stk o.2.2))
  · exact (od_ile o.2.1 o.1).mp h
  · exact Int.not_le.mp (fun q => h ((od_ile o.2.1 o.1).mpr q))
theorem r_goto {off : Int} {tgt : Nat} (hd : decode M.2.2.1 pc = .ok (.goto off, 3)) (ht : (pc : Int) + off = (tgt : Int)) (k : od_Rq d M Z E0 res tgt L st E g) : od_Rq d M Z E0 res pc L st E g := by
  intro p l e s m args below meth c tc D β0 β A H locs ls S
  exact lv_goto S.hx S.hb hd ht (k p l e s m args below meth c tc D β0 β A H locs ls S)
theorem r_tabIn {x : Int} {dflt lo hi : Int} {offs : Array Int} {len : Nat} {off : Int} {tgt : Nat} (hd : decode M.2.2.1 pc = .ok (.tableswitch dflt lo hi offs, len)) (h1 : ¬ x < lo) (h2 : ¬ hi < x) (ho : offs[(x - lo).toNat]? = some off) (ht : (pc : Int) + off = (tgt : Int)) (k : od_Rq d M Z E0 res tgt L st E g) : od_Rq d M Z E0 res pc L ((0, x) :: st) E g := by
  intro p l e s m args below meth c tc D β0 β A H locs ls S
  have o := od_ok1 S.sok
  have ex : (Int32.ofInt x).toInt = x := od_ti o.1
  refine W.eq (g2 := F0 m pc ls (.int (Int32.ofInt x) :: st.map (od_enc β))) rfl ?_
  exact lv_tableIn S.hx S.hb hd (by rw [ex]; exact h1) (by rw [ex]; exact h2) (by rw [ex]; exact ho) ht (k p l e s m args below meth c tc D β0 β A H locs ls (S.stk o.2))
theorem r_tabOut {x : Int} {dflt lo hi : Int} {offs : Array Int} {len : Nat} {tgt : Nat} (hd : decode M.2.2.1 pc = .ok (.tableswitch dflt lo hi offs, len)) (h : x < lo ∨ hi < x) (ht : (pc : Int) + dflt = (tgt : Int)) (k : od_Rq d M Z E0 res tgt L st E g) : od_Rq d M Z E0 res pc L ((0, x) :: st) E g := by
  intro p l e s m args below meth c tc D β0 β A H locs ls S
  have o := od_ok1 S.sok
  have ex : (Int32.ofInt x).toInt = x := od_ti o.1
  refine W.eq (g2 := F0 m pc ls (.int (Int32.ofInt x) :: st.map (od_enc β))) rfl ?_
  exact lv_tableOut S.hx S.hb hd (by rw [ex]; exact h) ht (k p l e s m args below meth c tc D β0 β A H locs ls (S.stk o.2))
theorem r_look {x : Int} {dflt : Int} {ps : Array (Int × Int)} {len : Nat} {off : Int} {tgt : Nat} (hd : decode M.2.2.1 pc = .ok (.lookupswitch dflt ps, len)) (hp : (ps.toList.zip (ps.toList.drop 1)).all (fun (a, next) => a.1 < next.1) = true) (ho : Op.lookupswitch.offset ps.toList dflt x = off) (ht : (pc : Int) + off = (tgt : Int)) (k : od_Rq d M Z E0 res tgt L st E g) : od_Rq d M Z E0 res pc L ((0, x) :: st) E g := by
  intro p l e s m args below meth c tc D β0 β A H locs ls S
  have o := od_ok1 S.sok
  have ex : (Int32.ofInt x).toInt = x := od_ti o.1
  refine W.eq (g2 := F0 m pc ls (.int (Int32.ofInt x) :: st.map (od_enc β))) rfl ?_
  exact lv_lookup S.hx S.hb hd hp (by rw [ex]; exact ho) ht (k p l e s m args below meth c tc D β0 β A H locs ls (S.stk o.2))
/-- the numbers of the world and of the frame are in range -/
theorem r_can (k : od_can E g → (∀ v ∈ st, od_ok E v) → (∀ v : od_V, some v ∈ L → od_ok E v) → od_Rq d M Z E0 res pc L st E g) : od_Rq d M Z E0 res pc L st E g := fun p l e s m args below meth c tc D β0 β A H locs ls S => k S.can S.sok S.lok p l e s m args below meth c tc D β0 β A H locs ls S
/-- fewer locals are known -/
theorem r_loc {L' : od_L} (h : ∀ (i : Nat) (v : od_V), L'[i]? = some (some v) → L[i]? = some (some v)) (k : od_Rq d M Z E0 res pc L' st E g) : od_Rq d M Z E0 res pc L st E g := by
  intro p l e s m args below meth c tc D β0 β A H locs ls S
  refine k p l e s m args below meth c tc D β0 β A H locs ls (S.loc S.sok (fun v hv => ?_) ⟨S.hl.1, S.hl.2.1, fun i v hv => S.hl.2.2 i v (h i v hv)⟩)
  obtain ⟨i, hi⟩ := List.getElem?_of_mem hv
  exact S.lok v (List.mem_of_getElem? (h i v hi))
end Rows7
