theorem od_w0 {x : Int} (h1 : -2147483648 ≤ x) (h2 : x < 2147483648) : od_w (0 + x) = x := by rw [Int.zero_add]; exact od_w_id ⟨h1, h2⟩
theorem od_wI {x : Int} (h1 : -2147483648 ≤ x) (h2 : x < 2147483648) : od_w x = x := od_w_id ⟨h1, h2⟩
theorem od_wlI {x : Int} (h1 : -9223372036854775808 ≤ x) (h2 : x < 9223372036854775808) : od_wl x = x := od_wl_id ⟨h1, h2⟩
section Rows14
variable {d : Nat} {M : od_M} {Z : od_Zt} {E0 : od_E} {res : od_Q} {pc : Nat} {L : od_L} {st : List od_V} {E : od_E} {g : od_G}
theorem r_iaddE {a b y : Int} (hd : decode M.2.2.1 pc = .ok (.iadd, 1)) (hy : od_w (a + b) = y) (k : od_Rq d M Z E0 res (pc + 1) L ((0, y) :: st) E g) : od_Rq d M Z E0 res pc L ((0, b) :: (0, a) :: st) E g := r_iadd hd (by rw [hy]; exact k)
theorem r_isubE {a b y : Int} (hd : decode M.2.2.1 pc = .ok (.isub, 1)) (hy : od_w (a - b) = y) (k : od_Rq d M Z E0 res (pc + 1) L ((0, y) :: st) E g) : od_Rq d M Z E0 res pc L ((0, b) :: (0, a) :: st) E g := r_isub hd (by rw [hy]; exact k)
theorem r_imulE {a b y : Int} (hd : decode M.2.2.1 pc = .ok (.imul, 1)) (hy : od_w (a * b) = y) (k : od_Rq d M Z E0 res (pc + 1) L ((0, y) :: st) E g) : od_Rq d M Z E0 res pc L ((0, b) :: (0, a) :: st) E g := r_imul hd (by rw [hy]; exact k)
theorem r_laddE {a b y : Int} (hd : decode M.2.2.1 pc = .ok (.ladd, 1)) (hy : od_wl (a + b) = y) (k : od_Rq d M Z E0 res (pc + 1) L ((1, y) :: st) E g) : od_Rq d M Z E0 res pc L ((1, b) :: (1, a) :: st) E g := r_ladd hd (by rw [hy]; exact k)
theorem r_lsubE {a b y : Int} (hd : decode M.2.2.1 pc = .ok (.lsub, 1)) (hy : od_wl (a - b) = y) (k : od_Rq d M Z E0 res (pc + 1) L ((1, y) :: st) E g) : od_Rq d M Z E0 res pc L ((1, b) :: (1, a) :: st) E g := r_lsub hd (by rw [hy]; exact k)
theorem r_lmulE {a b y : Int} (hd : decode M.2.2.1 pc = .ok (.lmul, 1)) (hy : od_wl (a * b) = y) (k : od_Rq d M Z E0 res (pc + 1) L ((1, y) :: st) E g) : od_Rq d M Z E0 res pc L ((1, b) :: (1, a) :: st) E g := r_lmul hd (by rw [hy]; exact k)
theorem r_inegE {a y : Int} (hd : decode M.2.2.1 pc = .ok (.ineg, 1)) (hy : od_w (-a) = y) (k : od_Rq d M Z E0 res (pc + 1) L ((0, y) :: st) E g) : od_Rq d M Z E0 res pc L ((0, a) :: st) E g := r_ineg hd (by rw [hy]; exact k)
theorem r_l2iE {a y : Int} (hd : decode M.2.2.1 pc = .ok (.l2i, 1)) (hy : od_w a = y) (k : od_Rq d M Z E0 res (pc + 1) L ((0, y) :: st) E g) : od_Rq d M Z E0 res pc L ((1, a) :: st) E g := r_l2i hd (by rw [hy]; exact k)
theorem r_iincE {i : Nat} {n x y : Int} {L' : od_L} (hd : decode M.2.2.1 pc = .ok (.iinc i n, 3)) (h : L[i]? = some (some (0, x))) (hn : i < M.2.2.2.1) (hy : od_w (x + n) = y) (hL : od_st1 L i (0, y) = L') (k : od_Rq d M Z E0 res (pc + 3) L' st E g) : od_Rq d M Z E0 res pc L st E g := r_iinc hd h hn (by rw [hy]; exact hL) k
theorem r_getIj {a x j : Int} {i c k : Nat} (hj : (k : Int) = j) (hd : decode M.2.2.1 pc = .ok (.getfield i, 3)) (hf : od_FL M.1 i c k) (hc : c < 12 ∧ k < od_N c ∧ od_isr c k = false) (hk : (E.2.1 a).1 = c) (hx : g a j = x) (kk : od_Rq d M Z E0 res (pc + 3) L ((0, x) :: st) E g) : od_Rq d M Z E0 res pc L ((2, a) :: st) E g := r_getI hd hf hc hk (by rw [hj]; exact hx) kk
theorem r_putIj {a x j : Int} {i c k : Nat} (hj : (k : Int) = j) (hd : decode M.2.2.1 pc = .ok (.putfield i, 3)) (hf : od_FL M.1 i c k) (hc : c < 12 ∧ k < od_N c ∧ od_isr c k = false) (hw : (od_T c k).2.2.2 = false ∧ od_ty c k = .int) (hk : (E.2.1 a).1 = c) (kk : od_Rq d M Z E0 res (pc + 3) L st E (od_up g a j x)) : od_Rq d M Z E0 res pc L ((0, x) :: (2, a) :: st) E g := r_putI hd hf hc hw hk (by rw [hj]; exact kk)
theorem r_putZj {a x j : Int} {i c k : Nat} (hj : (k : Int) = j) (hd : decode M.2.2.1 pc = .ok (.putfield i, 3)) (hf : od_FL M.1 i c k) (hc : c < 12 ∧ k < od_N c ∧ od_isr c k = false) (hw : (od_T c k).2.2.2 = false ∧ od_ty c k = .boolean) (hz : x = 0 ∨ x = 1) (hk : (E.2.1 a).1 = c) (kk : od_Rq d M Z E0 res (pc + 3) L st E (od_up g a j x)) : od_Rq d M Z E0 res pc L ((0, x) :: (2, a) :: st) E g := r_putZ hd hf hc hw hz hk (by rw [hj]; exact kk)
theorem r_lcmp3 {a b : Int} (hd : decode M.2.2.1 pc = .ok (.lcmp, 1)) (k1 : a < b → od_Rq d M Z E0 res (pc + 1) L ((0, -1) :: st) E g) (k2 : a = b → od_Rq d M Z E0 res (pc + 1) L ((0, 0) :: st) E g) (k3 : b < a → od_Rq d M Z E0 res (pc + 1) L ((0, 1) :: st) E g) : od_Rq d M Z E0 res pc L ((1, b) :: (1, a) :: st) E g := by
  refine r_lcmp hd ?_
  unfold od_cmp
  rcases Int.lt_trichotomy a b with h | h | h
  · rw [if_pos h]; exact k1 h
  · rw [if_neg (by omega), if_pos h]; exact k2 h
  · rw [if_neg (by omega), if_neg (by omega)]; exact k3 h
end Rows14
theorem ll_0 : (Int64.ofNat (((0 : Fin 2)) : Nat)).toInt = 0 := by decide +kernel
theorem ll_1 : (Int64.ofNat (((1 : Fin 2)) : Nat)).toInt = 1 := by decide +kernel
theorem od_upn {g : od_G} {a j x b i : Int} (h : b ≠ a) : od_up g a j x b i = g b i := by rw [od_up_ne h]
noncomputable def od_ip (P : Prop) (x y : Int × od_G) : Int × od_G := @ite (Int × od_G) P (Classical.propDecidable P) x y
theorem od_ip_t {P : Prop} {x y : Int × od_G} (h : P) : od_ip P x y = x := by unfold od_ip; exact if_pos h
theorem od_ip_f {P : Prop} {x y : Int × od_G} (h : ¬ P) : od_ip P x y = y := by unfold od_ip; exact if_neg h
theorem od_ne2 : (2 : Nat) ≠ 1 := by decide
theorem od_ne0 : (0 : Nat) ≠ 1 := by decide
/-- sums, counts over a row -/
def od_sum (f : Int → Int) : Nat → Int
  | 0 => 0
  | n + 1 => od_sum f n + f n
theorem od_sum_s (f : Int → Int) {d : Int} (h : 0 ≤ d) : od_sum f (d + 1).toNat = od_sum f d.toNat + f d := by
  rw [show (d + 1).toNat = d.toNat + 1 by omega]
  show od_sum f d.toNat + f d.toNat = _
  rw [show ((d.toNat : Nat) : Int) = d by omega]
theorem od_sum_b {f : Int → Int} {m : Int} (n : Nat) (h : ∀ i : Int, 0 ≤ i → i < n → 0 ≤ f i ∧ f i ≤ m) : 0 ≤ od_sum f n ∧ od_sum f n ≤ n * m := by
  induction n with
  | zero => simp [od_sum]
  | succ n ih =>
    have h1 := ih (fun i h0 hi => h i h0 (by omega))
    have h2 := h n (by omega) (by omega)
    have h3 : ((n + 1 : Nat) : Int) * m = n * m + m := by rw [Int.natCast_add, Int.add_mul]; simp
    show 0 ≤ od_sum f n + f n ∧ od_sum f n + f n ≤ _
    rw [h3]
    omega
theorem od_sum_c {f h : Int → Int} (n : Nat) (e : ∀ i : Int, 0 ≤ i → i < n → f i = h i) : od_sum f n = od_sum h n := by
  induction n with
  | zero => rfl
  | succ n ih =>
    show od_sum f n + f n = od_sum h n + h n
    rw [ih (fun i h0 hi => e i h0 (by omega)), e n (by omega) (by omega)]
