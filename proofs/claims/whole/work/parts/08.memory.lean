def od_up (g : od_G) (a j x : Int) : od_G := fun b i => if b = a ∧ i = j then x else g b i
theorem od_up_ne {g : od_G} {a j x b : Int} (h : b ≠ a) : od_up g a j x b = g b := funext fun _ => if_neg fun q => h q.1
theorem od_up_at (g : od_G) (a j x i : Int) : od_up g a j x a i = if i = j then x else g a i := by simp [od_up]
theorem od_cell_ne {tc : Nat → ClassId} {β : Int → Nat} {E : od_E} {g : od_G} {a j x b : Int} (h : b ≠ a) : od_cell tc β E (od_up g a j x) b = od_cell tc β E g b := by
  have h1 : od_up g a j x b = g b := od_up_ne h
  have h2 : od_fs β E (od_up g a j x) (E.2.1 b).1 b = od_fs β E g (E.2.1 b).1 b := by unfold od_fs; rw [h1]
  unfold od_cell
  rw [h1, h2]
theorem od_ws_set {tc : Nat → ClassId} {β : Int → Nat} {E : od_E} {g : od_G} {a j x : Int} {e : va_E} (h0 : 0 ≤ a) (he : od_cell tc β E (od_up g a j x) a = e) : (od_ws tc β E g).set a.toNat (β a, e) = od_ws tc β E (od_up g a j x) := by
  apply List.ext_getElem?
  intro i
  rw [List.getElem?_set]
  by_cases hi : i < E.1.1
  · have e1 := od_ws_at (tc := tc) (β := β) (E := E) (g := g) (a := (i : Int)) (by omega) (by omega)
    have e2 := od_ws_at (tc := tc) (β := β) (E := E) (g := od_up g a j x) (a := (i : Int)) (by omega) (by omega)
    rw [show ((i : Int)).toNat = i by omega] at e1 e2
    rw [e1, e2, od_ws_len]
    split
    · rename_i h
      rw [if_pos (by omega), show (i : Int) = a by omega, he]
    · rename_i h
      rw [od_cell_ne (by omega)]
  · have e1 : (od_ws tc β E g)[i]? = none := List.getElem?_eq_none (by rw [od_ws_len]; omega)
    have e2 : (od_ws tc β E (od_up g a j x))[i]? = none := List.getElem?_eq_none (by rw [od_ws_len]; omega)
    rw [e1, e2, od_ws_len]
    split <;> simp [hi]
    omega
theorem od_can_up {E : od_E} {g : od_G} {a j x : Int} (h : od_can E g) (hx : od_fit (E.2.1 a).1 E.1.1 x) : od_can E (od_up g a j x) := by
  refine ⟨h.1, fun b i => ?_, h.2.2⟩
  unfold od_up
  split
  · rename_i q
    rw [q.1]; exact hx
  · exact h.2.1 b i
theorem od_fit_i {k n : Nat} {x : Int} (hk : k < 23) : od_fit k n x ↔ od_r32 x := by
  unfold od_fit
  rw [if_neg (by omega), if_neg (by omega)]
theorem od_fit_l {n : Nat} {x : Int} : od_fit 23 n x ↔ od_r64 x := by
  unfold od_fit
  rw [if_pos rfl]
theorem od_fit_r {k n : Nat} {x : Int} (hk : k = 24 ∨ k = 25) : od_fit k n x ↔ x < (n : Int) := by
  unfold od_fit
  rw [if_neg (by omega), if_pos hk]
theorem od_fs_put {β : Int → Nat} {E : od_E} {g : od_G} {c k : Nat} {a x : Int} (hr : od_isr c k = false) : (od_fs β E g c a).set k (.int (Int32.ofInt x)) = od_fs β E (od_up g a k x) c a := by
  apply List.ext_getElem?
  intro i
  rw [List.getElem?_set, od_fs_len]
  by_cases hi : i < od_N c
  · rw [od_fs_at hi, od_fs_at hi, od_up_at]
    split
    · rename_i h
      subst h
      rw [if_pos hi, hr, if_pos rfl]
      rfl
    · rename_i h
      rw [if_neg (by omega)]
  · have e1 : (od_fs β E g c a)[i]? = none := List.getElem?_eq_none (by rw [od_fs_len]; omega)
    have e2 : (od_fs β E (od_up g a k x) c a)[i]? = none := List.getElem?_eq_none (by rw [od_fs_len]; omega)
    rw [e1, e2]
    split
    · rw [if_neg (by omega)]
    · rfl
theorem od_upI {g : od_G} {a i x : Int} (hi : od_r32 i) (h0 : 0 ≤ i) : upd (fun j : Nat => Int32.ofInt (g a j)) (Int32.ofInt i).toNatClampNeg (Int32.ofInt x) = fun j : Nat => Int32.ofInt (od_up g a i x a j) := by
  funext j
  rw [od_clamp hi, od_up_at]
  unfold upd
  by_cases h : j = i.toNat
  · rw [if_pos h, if_pos (by omega)]
  · rw [if_neg h, if_neg (by omega)]
theorem od_upL {g : od_G} {a i x : Int} (hi : od_r32 i) (h0 : 0 ≤ i) : vp_updL (fun j : Nat => Int64.ofInt (g a j)) (Int32.ofInt i).toNatClampNeg (Int64.ofInt x) = fun j : Nat => Int64.ofInt (od_up g a i x a j) := by
  funext j
  rw [od_clamp hi, od_up_at]
  unfold vp_updL
  by_cases h : j = i.toNat
  · rw [if_pos h, if_pos (by omega)]
  · rw [if_neg h, if_neg (by omega)]
theorem od_upR {β : Int → Nat} {g : od_G} {a i x : Int} (hi : od_r32 i) (h0 : 0 ≤ i) : va_up (fun j : Nat => od_ro β (g a j)) (Int32.ofInt i).toNatClampNeg (od_ro β x) = fun j : Nat => od_ro β (od_up g a i x a j) := by
  funext j
  rw [od_clamp hi, od_up_at]
  unfold va_up
  by_cases h : j = i.toNat
  · rw [if_pos h, if_pos (by omega)]
  · rw [if_neg h, if_neg (by omega)]
theorem od_cell_i {tc : Nat → ClassId} {β : Int → Nat} {E : od_E} {g : od_G} {a : Int} {n : Nat} (h : E.2.1 a = (20, n)) : od_cell tc β E g a = .inl (tc 0, n, .inl fun j => Int32.ofInt (g a j)) := by
  unfold od_cell
  rw [h]
  rfl
theorem od_cell_b {tc : Nat → ClassId} {β : Int → Nat} {E : od_E} {g : od_G} {a : Int} {n : Nat} (h : E.2.1 a = (21, n)) : od_cell tc β E g a = .inl (tc 1, n, .inl fun j => Int32.ofInt (g a j)) := by
  unfold od_cell
  rw [h]
  rfl
theorem od_cell_z {tc : Nat → ClassId} {β : Int → Nat} {E : od_E} {g : od_G} {a : Int} {n : Nat} (h : E.2.1 a = (22, n)) : od_cell tc β E g a = .inl (tc 2, n, .inl fun j => Int32.ofInt (g a j)) := by
  unfold od_cell
  rw [h]
  rfl
theorem od_cell_l {tc : Nat → ClassId} {β : Int → Nat} {E : od_E} {g : od_G} {a : Int} {n : Nat} (h : E.2.1 a = (23, n)) : od_cell tc β E g a = .inl (tc 3, n, .inr (.inl fun j => Int64.ofInt (g a j))) := by
  unfold od_cell
  rw [h]
  rfl
theorem od_cell_r24 {tc : Nat → ClassId} {β : Int → Nat} {E : od_E} {g : od_G} {a : Int} {n : Nat} (h : E.2.1 a = (24, n)) : od_cell tc β E g a = .inl (tc 4, n, .inr (.inr (.inr (.inr fun j => od_ro β (g a j))))) := by
  unfold od_cell
  rw [h]
  rfl
theorem od_cell_r25 {tc : Nat → ClassId} {β : Int → Nat} {E : od_E} {g : od_G} {a : Int} {n : Nat} (h : E.2.1 a = (25, n)) : od_cell tc β E g a = .inl (tc 5, n, .inr (.inr (.inr (.inr fun j => od_ro β (g a j))))) := by
  unfold od_cell
  rw [h]
  rfl
section Rows8
variable {d : Nat} {M : od_M} {Z : od_Zt} {E0 : od_E} {res : od_Q} {pc : Nat} {L : od_L} {st : List od_V} {E : od_E} {g : od_G}
theorem r_getI {a x : Int} {i c k : Nat} (hd : decode M.2.2.1 pc = .ok (.getfield i, 3)) (hf : od_FL M.1 i c k) (hc : c < 12 ∧ k < od_N c ∧ od_isr c k = false) (hk : (E.2.1 a).1 = c) (hx : g a k = x) (kk : od_Rq d M Z E0 res (pc + 3) L ((0, x) :: st) E g) : od_Rq d M Z E0 res pc L ((2, a) :: st) E g := by
  intro p l e s m args below meth c1 tc D β0 β A H locs ls S
  have o := od_ok1 S.sok
  have hv := S.can.1 a (by rw [hk]; omega)
  have hn : a ≠ -1 := by omega
  refine W.eq (g2 := F0 m pc ls (.ref (β a) :: st.map (od_enc β))) (by rw [List.map_cons, od_ref hn]) ?_
  refine va_get (D := D) (ci := c) (C := od_C c) (T := od_T c) (N := od_N c) (v := .int (Int32.ofInt x)) S.hx S.hb S.hts (od_hin c hc.1) S.hown S.hK S.hP a.toNat (fs := od_fs β E g c a) ?_ (od_vw c hc.1) k hc.2.1 (S.hts _ hf) (fun _ h9 => h9) ?_ hd ?_
  · rw [od_ws_at hv.1 hv.2, od_cell_o hc.1 hk]
  · rw [od_fs_at hc.2.1, hc.2.2, hx]; rfl
  · exact kk p l e s m args below meth c1 tc D β0 β A H locs ls (S.stk (od_okc (by have h := S.can.2.1 a k; rw [hk, hx] at h; exact (od_fit_i (by omega)).mp h) o.2))
theorem r_getR {a x : Int} {i c k : Nat} (hd : decode M.2.2.1 pc = .ok (.getfield i, 3)) (hf : od_FL M.1 i c k) (hc : c < 12 ∧ k < od_N c ∧ od_isr c k = true) (hk : (E.2.1 a).1 = c) (hx : E.2.2 a k = x) (kk : od_Rq d M Z E0 res (pc + 3) L ((2, x) :: st) E g) : od_Rq d M Z E0 res pc L ((2, a) :: st) E g := by
  intro p l e s m args below meth c1 tc D β0 β A H locs ls S
  have o := od_ok1 S.sok
  have hv := S.can.1 a (by rw [hk]; omega)
  have hn : a ≠ -1 := by omega
  refine W.eq (g2 := F0 m pc ls (.ref (β a) :: st.map (od_enc β))) (by rw [List.map_cons, od_ref hn]) ?_
  refine va_get (D := D) (ci := c) (C := od_C c) (T := od_T c) (N := od_N c) (v := od_rv β x) S.hx S.hb S.hts (od_hin c hc.1) S.hown S.hK S.hP a.toNat (fs := od_fs β E g c a) ?_ (od_vw c hc.1) k hc.2.1 (S.hts _ hf) (fun _ h9 => h9) ?_ hd ?_
  · rw [od_ws_at hv.1 hv.2, od_cell_o hc.1 hk]
  · rw [od_fs_at hc.2.1, hc.2.2, hx]; rfl
  · exact kk p l e s m args below meth c1 tc D β0 β A H locs ls (S.stk (od_okc (show x < (E.1.1 : Int) from hx ▸ S.can.2.2 a k) o.2))
theorem r_putI {a x : Int} {i c k : Nat} (hd : decode M.2.2.1 pc = .ok (.putfield i, 3)) (hf : od_FL M.1 i c k) (hc : c < 12 ∧ k < od_N c ∧ od_isr c k = false) (hw : (od_T c k).2.2.2 = false ∧ od_ty c k = .int) (hk : (E.2.1 a).1 = c) (kk : od_Rq d M Z E0 res (pc + 3) L st E (od_up g a k x)) : od_Rq d M Z E0 res pc L ((0, x) :: (2, a) :: st) E g := by
  intro p l e s m args below meth c1 tc D β0 β A H locs ls S
  have o := od_ok2 S.sok
  have hv := S.can.1 a (by rw [hk]; omega)
  have hn : a ≠ -1 := by omega
  refine W.eq (g2 := F0 m pc ls (.int (Int32.ofInt x) :: .ref (β a) :: st.map (od_enc β))) (by rw [List.map_cons, List.map_cons, od_ref hn]; rfl) ?_
  refine va_put (D := D) (ci := c) (C := od_C c) (T := od_T c) (N := od_N c) (v := .int (Int32.ofInt x)) (ty := .int) S.hx S.hb S.hts (od_hin c hc.1) (od_ty c) (od_tyok c hc.1) (od_nm c hc.1) S.hown S.hK S.hP S.hD S.hS a.toNat (fs := od_fs β E g c a) ?_ (od_vw c hc.1) k hc.2.1 (S.hts _ hf) (fun _ h9 => h9) hw.1 (by rw [od_tyok c hc.1 k hc.2.1, hw.2]) rfl rfl (by rw [od_fs_len]; exact hc.2.1) hd (fun H1 locs1 hP1 hD1 hS1 => ?_)
  · rw [od_ws_at hv.1 hv.2, od_cell_o hc.1 hk]
  · rw [od_fs_put hc.2.2, od_ws_set (j := k) (x := x) hv.1 (by rw [od_cell_o hc.1 hk])] at hP1 hD1
    exact kk p l e s m args below meth c1 tc D β0 β A H1 locs1 ls (S.wr o.2.2 (od_can_up S.can (by rw [hk]; exact (od_fit_i (by omega)).mpr o.1)) hP1 hD1 hS1)
theorem r_putZ {a x : Int} {i c k : Nat} (hd : decode M.2.2.1 pc = .ok (.putfield i, 3)) (hf : od_FL M.1 i c k) (hc : c < 12 ∧ k < od_N c ∧ od_isr c k = false) (hw : (od_T c k).2.2.2 = false ∧ od_ty c k = .boolean) (hz : x = 0 ∨ x = 1) (hk : (E.2.1 a).1 = c) (kk : od_Rq d M Z E0 res (pc + 3) L st E (od_up g a k x)) : od_Rq d M Z E0 res pc L ((0, x) :: (2, a) :: st) E g := by
  intro p l e s m args below meth c1 tc D β0 β A H locs ls S
  have o := od_ok2 S.sok
  have hv := S.can.1 a (by rw [hk]; omega)
  have hn : a ≠ -1 := by omega
  refine W.eq (g2 := F0 m pc ls (.int (Int32.ofInt x) :: .ref (β a) :: st.map (od_enc β))) (by rw [List.map_cons, List.map_cons, od_ref hn]; rfl) ?_
  refine va_put (D := D) (ci := c) (C := od_C c) (T := od_T c) (N := od_N c) (v := .int (Int32.ofInt x)) (ty := .boolean) S.hx S.hb S.hts (od_hin c hc.1) (od_ty c) (od_tyok c hc.1) (od_nm c hc.1) S.hown S.hK S.hP S.hD S.hS a.toNat (fs := od_fs β E g c a) ?_ (od_vw c hc.1) k hc.2.1 (S.hts _ hf) (fun _ h9 => h9) hw.1 (by rw [od_tyok c hc.1 k hc.2.1, hw.2]) (by rcases hz with rfl | rfl <;> rfl) (by rcases hz with rfl | rfl <;> rfl) (by rw [od_fs_len]; exact hc.2.1) hd (fun H1 locs1 hP1 hD1 hS1 => ?_)
  · rw [od_ws_at hv.1 hv.2, od_cell_o hc.1 hk]
  · rw [od_fs_put hc.2.2, od_ws_set (j := k) (x := x) hv.1 (by rw [od_cell_o hc.1 hk])] at hP1 hD1
    exact kk p l e s m args below meth c1 tc D β0 β A H1 locs1 ls (S.wr o.2.2 (od_can_up S.can (by rw [hk]; exact (od_fit_i (by omega)).mpr o.1)) hP1 hD1 hS1)
theorem r_iald {a i x : Int} {n : Nat} (hd : decode M.2.2.1 pc = .ok (.iaload, 1)) (hk : E.2.1 a = (20, n)) (hi : 0 ≤ i ∧ i < (n : Int)) (hx : g a i = x) (kk : od_Rq d M Z E0 res (pc + 1) L ((0, x) :: st) E g) : od_Rq d M Z E0 res pc L ((0, i) :: (2, a) :: st) E g := by
  intro p l e s m args below meth c1 tc D β0 β A H locs ls S
  have o := od_ok2 S.sok
  have hv := S.can.1 a (by rw [hk]; omega)
  have hn : a ≠ -1 := by omega
  refine W.eq (g2 := F0 m pc ls (.int (Int32.ofInt i) :: .ref (β a) :: st.map (od_enc β))) (by rw [List.map_cons, List.map_cons, od_ref hn]; rfl) ?_
  refine va_iald (D := D) S.hx S.hb S.hK S.hP a.toNat 0 (cA := tc 0) (n := n) ((od_ws_at hv.1 hv.2).trans (by rw [od_cell_i hk])) rfl (od_in o.1 hi.1 hi.2) hd ?_
  refine W.eq (g2 := F0 m (pc + 1) ls (((0, x) :: st).map (od_enc β))) ?_ ?_
  · rw [od_clamp o.1, show ((i.toNat : Nat) : Int) = i by omega, hx]; rfl
  · exact kk p l e s m args below meth c1 tc D β0 β A H locs ls (S.stk (od_okc (by have h := S.can.2.1 a i; rw [hk, hx] at h; exact (od_fit_i (by omega)).mp h) o.2.2))
theorem r_bald {a i x : Int} {n : Nat} (hd : decode M.2.2.1 pc = .ok (.baload, 1)) (hk : E.2.1 a = (21, n)) (hi : 0 ≤ i ∧ i < (n : Int)) (hx : g a i = x) (kk : od_Rq d M Z E0 res (pc + 1) L ((0, x) :: st) E g) : od_Rq d M Z E0 res pc L ((0, i) :: (2, a) :: st) E g := by
  intro p l e s m args below meth c1 tc D β0 β A H locs ls S
  have o := od_ok2 S.sok
  have hv := S.can.1 a (by rw [hk]; omega)
  have hn : a ≠ -1 := by omega
  refine W.eq (g2 := F0 m pc ls (.int (Int32.ofInt i) :: .ref (β a) :: st.map (od_enc β))) (by rw [List.map_cons, List.map_cons, od_ref hn]; rfl) ?_
  refine va_bald (D := D) S.hx S.hb S.hK S.hP a.toNat 1 (cA := tc 1) (n := n) ((od_ws_at hv.1 hv.2).trans (by rw [od_cell_b hk])) rfl (od_in o.1 hi.1 hi.2) hd ?_
  refine W.eq (g2 := F0 m (pc + 1) ls (((0, x) :: st).map (od_enc β))) ?_ ?_
  · rw [od_clamp o.1, show ((i.toNat : Nat) : Int) = i by omega, hx]; rfl
  · exact kk p l e s m args below meth c1 tc D β0 β A H locs ls (S.stk (od_okc (by have h := S.can.2.1 a i; rw [hk, hx] at h; exact (od_fit_i (by omega)).mp h) o.2.2))
theorem r_zald {a i x : Int} {n : Nat} (hd : decode M.2.2.1 pc = .ok (.baload, 1)) (hk : E.2.1 a = (22, n)) (hi : 0 ≤ i ∧ i < (n : Int)) (hx : g a i = x) (kk : od_Rq d M Z E0 res (pc + 1) L ((0, x) :: st) E g) : od_Rq d M Z E0 res pc L ((0, i) :: (2, a) :: st) E g := by
  intro p l e s m args below meth c1 tc D β0 β A H locs ls S
  have o := od_ok2 S.sok
  have hv := S.can.1 a (by rw [hk]; omega)
  have hn : a ≠ -1 := by omega
  refine W.eq (g2 := F0 m pc ls (.int (Int32.ofInt i) :: .ref (β a) :: st.map (od_enc β))) (by rw [List.map_cons, List.map_cons, od_ref hn]; rfl) ?_
  refine va_zald (D := D) S.hx S.hb S.hK S.hP a.toNat 2 (cA := tc 2) (n := n) ((od_ws_at hv.1 hv.2).trans (by rw [od_cell_z hk])) rfl (od_in o.1 hi.1 hi.2) hd ?_
  refine W.eq (g2 := F0 m (pc + 1) ls (((0, x) :: st).map (od_enc β))) ?_ ?_
  · rw [od_clamp o.1, show ((i.toNat : Nat) : Int) = i by omega, hx]; rfl
  · exact kk p l e s m args below meth c1 tc D β0 β A H locs ls (S.stk (od_okc (by have h := S.can.2.1 a i; rw [hk, hx] at h; exact (od_fit_i (by omega)).mp h) o.2.2))
theorem r_lald {a i x : Int} {n : Nat} (hd : decode M.2.2.1 pc = .ok (.laload, 1)) (hk : E.2.1 a = (23, n)) (hi : 0 ≤ i ∧ i < (n : Int)) (hx : g a i = x) (kk : od_Rq d M Z E0 res (pc + 1) L ((1, x) :: st) E g) : od_Rq d M Z E0 res pc L ((0, i) :: (2, a) :: st) E g := by
  intro p l e s m args below meth c1 tc D β0 β A H locs ls S
  have o := od_ok2 S.sok
  have hv := S.can.1 a (by rw [hk]; omega)
  have hn : a ≠ -1 := by omega
  refine W.eq (g2 := F0 m pc ls (.int (Int32.ofInt i) :: .ref (β a) :: st.map (od_enc β))) (by rw [List.map_cons, List.map_cons, od_ref hn]; rfl) ?_
  refine va_lald (D := D) S.hx S.hb S.hK S.hP a.toNat 3 (cA := tc 3) (n := n) ((od_ws_at hv.1 hv.2).trans (by rw [od_cell_l hk])) rfl (od_in o.1 hi.1 hi.2) hd ?_
  refine W.eq (g2 := F0 m (pc + 1) ls (((1, x) :: st).map (od_enc β))) ?_ ?_
  · rw [od_clamp o.1, show ((i.toNat : Nat) : Int) = i by omega, hx]; rfl
  · exact kk p l e s m args below meth c1 tc D β0 β A H locs ls (S.stk (od_okc (by have h := S.can.2.1 a i; rw [hk, hx] at h; exact od_fit_l.mp h) o.2.2))
theorem r_iast {a i x : Int} {n : Nat} (hd : decode M.2.2.1 pc = .ok (.iastore, 1)) (hk : E.2.1 a = (20, n)) (hi : 0 ≤ i ∧ i < (n : Int)) (kk : od_Rq d M Z E0 res (pc + 1) L st E (od_up g a i x)) : od_Rq d M Z E0 res pc L ((0, x) :: (0, i) :: (2, a) :: st) E g := by
  intro p l e s m args below meth c1 tc D β0 β A H locs ls S
  have o := od_ok1 S.sok
  have o2 := od_ok2 o.2
  have hv := S.can.1 a (by rw [hk]; omega)
  have hn : a ≠ -1 := by omega
  refine W.eq (g2 := F0 m pc ls (.int (Int32.ofInt x) :: .int (Int32.ofInt i) :: .ref (β a) :: st.map (od_enc β))) (by rw [List.map_cons, List.map_cons, List.map_cons, od_ref hn]; rfl) ?_
  refine va_iast (D := D) S.hx S.hb S.hK S.hP S.hD S.hS a.toNat 0 (cA := tc 0) (n := n) ((od_ws_at hv.1 hv.2).trans (by rw [od_cell_i hk])) rfl (od_in o2.1 hi.1 hi.2) hd (fun H1 locs1 hP1 hD1 hS1 => ?_)
  · rw [od_upI o2.1 hi.1, od_ws_set (j := i) (x := x) hv.1 (by rw [od_cell_i hk])] at hP1 hD1
    exact kk p l e s m args below meth c1 tc D β0 β A H1 locs1 ls (S.wr o2.2.2 (od_can_up S.can (by rw [hk]; exact (od_fit_i (by omega)).mpr o.1)) hP1 hD1 hS1)
theorem r_bast {a i x : Int} {n : Nat} (hd : decode M.2.2.1 pc = .ok (.bastore, 1)) (hk : E.2.1 a = (21, n)) (hi : 0 ≤ i ∧ i < (n : Int)) (kk : od_Rq d M Z E0 res (pc + 1) L st E (od_up g a i (od_byte x))) : od_Rq d M Z E0 res pc L ((0, x) :: (0, i) :: (2, a) :: st) E g := by
  intro p l e s m args below meth c1 tc D β0 β A H locs ls S
  have o := od_ok1 S.sok
  have o2 := od_ok2 o.2
  have hv := S.can.1 a (by rw [hk]; omega)
  have hn : a ≠ -1 := by omega
  refine W.eq (g2 := F0 m pc ls (.int (Int32.ofInt x) :: .int (Int32.ofInt i) :: .ref (β a) :: st.map (od_enc β))) (by rw [List.map_cons, List.map_cons, List.map_cons, od_ref hn]; rfl) ?_
  refine va_bast (D := D) S.hx S.hb S.hK S.hP S.hD S.hS a.toNat 1 (cA := tc 1) (n := n) ((od_ws_at hv.1 hv.2).trans (by rw [od_cell_b hk])) rfl (od_in o2.1 hi.1 hi.2) hd (fun H1 locs1 hP1 hD1 hS1 => ?_)
  · rw [vp_nar_byte, show (Int32.ofInt x).toInt8.toInt32 = Int32.ofInt (od_byte x) from (Int32.ofInt_toInt _).symm] at hP1 hD1
    rw [od_upI o2.1 hi.1, od_ws_set (j := i) (x := (od_byte x)) hv.1 (by rw [od_cell_b hk])] at hP1 hD1
    exact kk p l e s m args below meth c1 tc D β0 β A H1 locs1 ls (S.wr o2.2.2 (od_can_up S.can (by rw [hk]; exact (od_fit_i (by omega)).mpr (od_it _))) hP1 hD1 hS1)
theorem r_zast {a i x : Int} {n : Nat} (hd : decode M.2.2.1 pc = .ok (.bastore, 1)) (hz : x = 0 ∨ x = 1) (hk : E.2.1 a = (22, n)) (hi : 0 ≤ i ∧ i < (n : Int)) (kk : od_Rq d M Z E0 res (pc + 1) L st E (od_up g a i x)) : od_Rq d M Z E0 res pc L ((0, x) :: (0, i) :: (2, a) :: st) E g := by
  intro p l e s m args below meth c1 tc D β0 β A H locs ls S
  have o := od_ok1 S.sok
  have o2 := od_ok2 o.2
  have hv := S.can.1 a (by rw [hk]; omega)
  have hn : a ≠ -1 := by omega
  refine W.eq (g2 := F0 m pc ls (.int (Int32.ofInt x) :: .int (Int32.ofInt i) :: .ref (β a) :: st.map (od_enc β))) (by rw [List.map_cons, List.map_cons, List.map_cons, od_ref hn]; rfl) ?_
  refine va_zast (D := D) S.hx S.hb S.hK S.hP S.hD S.hS a.toNat 2 (cA := tc 2) (n := n) ((od_ws_at hv.1 hv.2).trans (by rw [od_cell_z hk])) rfl (od_in o2.1 hi.1 hi.2) hd (fun H1 locs1 hP1 hD1 hS1 => ?_)
  · rw [show vp_nar .boolean (Int32.ofInt x) = Int32.ofInt x by rcases hz with rfl | rfl <;> rfl] at hP1 hD1
    rw [od_upI o2.1 hi.1, od_ws_set (j := i) (x := x) hv.1 (by rw [od_cell_z hk])] at hP1 hD1
    exact kk p l e s m args below meth c1 tc D β0 β A H1 locs1 ls (S.wr o2.2.2 (od_can_up S.can (by rw [hk]; exact (od_fit_i (by omega)).mpr o.1)) hP1 hD1 hS1)
theorem r_last {a i x : Int} {n : Nat} (hd : decode M.2.2.1 pc = .ok (.lastore, 1)) (hk : E.2.1 a = (23, n)) (hi : 0 ≤ i ∧ i < (n : Int)) (kk : od_Rq d M Z E0 res (pc + 1) L st E (od_up g a i x)) : od_Rq d M Z E0 res pc L ((1, x) :: (0, i) :: (2, a) :: st) E g := by
  intro p l e s m args below meth c1 tc D β0 β A H locs ls S
  have o := od_ok1 S.sok
  have o2 := od_ok2 o.2
  have hv := S.can.1 a (by rw [hk]; omega)
  have hn : a ≠ -1 := by omega
  refine W.eq (g2 := F0 m pc ls (.long (Int64.ofInt x) :: .int (Int32.ofInt i) :: .ref (β a) :: st.map (od_enc β))) (by rw [List.map_cons, List.map_cons, List.map_cons, od_ref hn]; rfl) ?_
  refine va_last (D := D) S.hx S.hb S.hK S.hP S.hD S.hS a.toNat 3 (cA := tc 3) (n := n) ((od_ws_at hv.1 hv.2).trans (by rw [od_cell_l hk])) rfl (od_in o2.1 hi.1 hi.2) hd (fun H1 locs1 hP1 hD1 hS1 => ?_)
  · rw [od_upL o2.1 hi.1, od_ws_set (j := i) (x := x) hv.1 (by rw [od_cell_l hk])] at hP1 hD1
    exact kk p l e s m args below meth c1 tc D β0 β A H1 locs1 ls (S.wr o2.2.2 (od_can_up S.can (by rw [hk]; exact od_fit_l.mpr o.1)) hP1 hD1 hS1)
theorem r_aald24 {a i x : Int} {n : Nat} (hd : decode M.2.2.1 pc = .ok (.aaload, 1)) (hk : E.2.1 a = (24, n)) (hi : 0 ≤ i ∧ i < (n : Int)) (hx : g a i = x) (kk : od_Rq d M Z E0 res (pc + 1) L ((2, x) :: st) E g) : od_Rq d M Z E0 res pc L ((0, i) :: (2, a) :: st) E g := by
  intro p l e s m args below meth c1 tc D β0 β A H locs ls S
  have o := od_ok2 S.sok
  have hv := S.can.1 a (by rw [hk]; omega)
  have hn : a ≠ -1 := by omega
  refine W.eq (g2 := F0 m pc ls (.int (Int32.ofInt i) :: .ref (β a) :: st.map (od_enc β))) (by rw [List.map_cons, List.map_cons, od_ref hn]; rfl) ?_
  refine va_aldq (D := D) S.hx S.hb S.hK S.hP a.toNat 4 (cA := tc 4) (n := n) ((od_ws_at hv.1 hv.2).trans (by rw [od_cell_r24 hk])) rfl (od_in o.1 hi.1 hi.2) hd ?_
  refine W.eq (g2 := F0 m (pc + 1) ls (((2, x) :: st).map (od_enc β))) ?_ ?_
  · rw [od_rf_ro, od_clamp o.1, show ((i.toNat : Nat) : Int) = i by omega, hx]; rfl
  · exact kk p l e s m args below meth c1 tc D β0 β A H locs ls (S.stk (od_okc (by have h := S.can.2.1 a i; rw [hk, hx] at h; exact (od_fit_r (by omega)).mp h) o.2.2))
theorem r_aast24 {a i x : Int} {n : Nat} (hd : decode M.2.2.1 pc = .ok (.aastore, 1)) (hk : E.2.1 a = (24, n)) (hi : 0 ≤ i ∧ i < (n : Int)) (hx : x = -1 ∨ (E.2.1 x).1 = 9) (kk : od_Rq d M Z E0 res (pc + 1) L st E (od_up g a i x)) : od_Rq d M Z E0 res pc L ((2, x) :: (0, i) :: (2, a) :: st) E g := by
  intro p l e s m args below meth c1 tc D β0 β A H locs ls S
  have o := od_ok1 S.sok
  have o2 := od_ok2 o.2
  have hv := S.can.1 a (by rw [hk]; omega)
  have hn : a ≠ -1 := by omega
  have hfin : ∀ (H1 : Heap) (locs1 : List Loc), va_P D vwCl (od_ws tc β E (od_up g a i x)) H1 → va_D A (od_ws tc β E (od_up g a i x)) → va_S A s.heap H1 locs1 → _ := fun H1 locs1 hP1 hD1 hS1 => kk p l e s m args below meth c1 tc D β0 β A H1 locs1 ls (S.wr o2.2.2 (od_can_up S.can (by rw [hk]; exact (od_fit_r (by omega)).mpr o.1)) hP1 hD1 hS1)
  by_cases hx1 : x = -1
  · refine W.eq (g2 := F0 m pc ls (.null :: .int (Int32.ofInt i) :: .ref (β a) :: st.map (od_enc β))) (by rw [List.map_cons, List.map_cons, List.map_cons, od_ref hn, hx1, od_nul]; rfl) ?_
    refine va_astqN (D := D) S.hx S.hb S.hK S.hP S.hD S.hS a.toNat 4 (cA := tc 4) (n := n) ((od_ws_at hv.1 hv.2).trans (by rw [od_cell_r24 hk])) rfl (od_in o2.1 hi.1 hi.2) hd (fun H1 locs1 hP1 hD1 hS1 => ?_)
    rw [show (none : Option Nat) = od_ro β x by unfold od_ro; rw [if_pos hx1], od_upR o2.1 hi.1, od_ws_set (j := i) (x := x) hv.1 (by rw [od_cell_r24 hk])] at hP1 hD1
    exact hfin H1 locs1 hP1 hD1 hS1
  · have hxc : (E.2.1 x).1 = 9 := hx.resolve_left hx1
    have hxv := S.can.1 x (by rw [hxc]; omega)
    refine W.eq (g2 := F0 m pc ls (.ref (β x) :: .int (Int32.ofInt i) :: .ref (β a) :: st.map (od_enc β))) (by rw [List.map_cons, List.map_cons, List.map_cons, od_ref hn, od_ref hx1]; rfl) ?_
    refine va_astq (D := D) S.hx S.hb S.hK S.hP S.hD S.hS a.toNat 4 x.toNat 9 (cA := tc 4) (n := n) (r := (od_C 9, od_T 9, od_N 9)) ((od_ws_at hv.1 hv.2).trans (by rw [od_cell_r24 hk])) rfl ((od_ws_at hxv.1 hxv.2).trans (by rw [od_cell_o (by omega) hxc])) (od_vw 9 (by omega)) (od_in o2.1 hi.1 hi.2) hd (fun H1 locs1 hP1 hD1 hS1 => ?_)
    rw [show some (β x) = od_ro β x by unfold od_ro; rw [if_neg hx1], od_upR o2.1 hi.1, od_ws_set (j := i) (x := x) hv.1 (by rw [od_cell_r24 hk])] at hP1 hD1
    exact hfin H1 locs1 hP1 hD1 hS1
theorem r_aald25 {a i x : Int} {n : Nat} (hd : decode M.2.2.1 pc = .ok (.aaload, 1)) (hk : E.2.1 a = (25, n)) (hi : 0 ≤ i ∧ i < (n : Int)) (hx : g a i = x) (kk : od_Rq d M Z E0 res (pc + 1) L ((2, x) :: st) E g) : od_Rq d M Z E0 res pc L ((0, i) :: (2, a) :: st) E g := by
  intro p l e s m args below meth c1 tc D β0 β A H locs ls S
  have o := od_ok2 S.sok
  have hv := S.can.1 a (by rw [hk]; omega)
  have hn : a ≠ -1 := by omega
  refine W.eq (g2 := F0 m pc ls (.int (Int32.ofInt i) :: .ref (β a) :: st.map (od_enc β))) (by rw [List.map_cons, List.map_cons, od_ref hn]; rfl) ?_
  refine va_aldq (D := D) S.hx S.hb S.hK S.hP a.toNat 5 (cA := tc 5) (n := n) ((od_ws_at hv.1 hv.2).trans (by rw [od_cell_r25 hk])) rfl (od_in o.1 hi.1 hi.2) hd ?_
  refine W.eq (g2 := F0 m (pc + 1) ls (((2, x) :: st).map (od_enc β))) ?_ ?_
  · rw [od_rf_ro, od_clamp o.1, show ((i.toNat : Nat) : Int) = i by omega, hx]; rfl
  · exact kk p l e s m args below meth c1 tc D β0 β A H locs ls (S.stk (od_okc (by have h := S.can.2.1 a i; rw [hk, hx] at h; exact (od_fit_r (by omega)).mp h) o.2.2))
theorem r_aast25 {a i x : Int} {n : Nat} (hd : decode M.2.2.1 pc = .ok (.aastore, 1)) (hk : E.2.1 a = (25, n)) (hi : 0 ≤ i ∧ i < (n : Int)) (hx : x = -1 ∨ (E.2.1 x).1 = 6) (kk : od_Rq d M Z E0 res (pc + 1) L st E (od_up g a i x)) : od_Rq d M Z E0 res pc L ((2, x) :: (0, i) :: (2, a) :: st) E g := by
  intro p l e s m args below meth c1 tc D β0 β A H locs ls S
  have o := od_ok1 S.sok
  have o2 := od_ok2 o.2
  have hv := S.can.1 a (by rw [hk]; omega)
  have hn : a ≠ -1 := by omega
  have hfin : ∀ (H1 : Heap) (locs1 : List Loc), va_P D vwCl (od_ws tc β E (od_up g a i x)) H1 → va_D A (od_ws tc β E (od_up g a i x)) → va_S A s.heap H1 locs1 → _ := fun H1 locs1 hP1 hD1 hS1 => kk p l e s m args below meth c1 tc D β0 β A H1 locs1 ls (S.wr o2.2.2 (od_can_up S.can (by rw [hk]; exact (od_fit_r (by omega)).mpr o.1)) hP1 hD1 hS1)
  by_cases hx1 : x = -1
  · refine W.eq (g2 := F0 m pc ls (.null :: .int (Int32.ofInt i) :: .ref (β a) :: st.map (od_enc β))) (by rw [List.map_cons, List.map_cons, List.map_cons, od_ref hn, hx1, od_nul]; rfl) ?_
    refine va_astqN (D := D) S.hx S.hb S.hK S.hP S.hD S.hS a.toNat 5 (cA := tc 5) (n := n) ((od_ws_at hv.1 hv.2).trans (by rw [od_cell_r25 hk])) rfl (od_in o2.1 hi.1 hi.2) hd (fun H1 locs1 hP1 hD1 hS1 => ?_)
    rw [show (none : Option Nat) = od_ro β x by unfold od_ro; rw [if_pos hx1], od_upR o2.1 hi.1, od_ws_set (j := i) (x := x) hv.1 (by rw [od_cell_r25 hk])] at hP1 hD1
    exact hfin H1 locs1 hP1 hD1 hS1
  · have hxc : (E.2.1 x).1 = 6 := hx.resolve_left hx1
    have hxv := S.can.1 x (by rw [hxc]; omega)
    refine W.eq (g2 := F0 m pc ls (.ref (β x) :: .int (Int32.ofInt i) :: .ref (β a) :: st.map (od_enc β))) (by rw [List.map_cons, List.map_cons, List.map_cons, od_ref hn, od_ref hx1]; rfl) ?_
    refine va_astq (D := D) S.hx S.hb S.hK S.hP S.hD S.hS a.toNat 5 x.toNat 6 (cA := tc 5) (n := n) (r := (od_C 6, od_T 6, od_N 6)) ((od_ws_at hv.1 hv.2).trans (by rw [od_cell_r25 hk])) rfl ((od_ws_at hxv.1 hxv.2).trans (by rw [od_cell_o (by omega) hxc])) (od_vw 6 (by omega)) (od_in o2.1 hi.1 hi.2) hd (fun H1 locs1 hP1 hD1 hS1 => ?_)
    rw [show some (β x) = od_ro β x by unfold od_ro; rw [if_neg hx1], od_upR o2.1 hi.1, od_ws_set (j := i) (x := x) hv.1 (by rw [od_cell_r25 hk])] at hP1 hD1
    exact hfin H1 locs1 hP1 hD1 hS1
theorem r_len_i {a : Int} {n : Nat} (hd : decode M.2.2.1 pc = .ok (.arraylength, 1)) (hk : E.2.1 a = (20, n)) (hn31 : n < 2147483648) (kk : od_Rq d M Z E0 res (pc + 1) L ((0, (n : Int)) :: st) E g) : od_Rq d M Z E0 res pc L ((2, a) :: st) E g := by
  intro p l e s m args below meth c1 tc D β0 β A H locs ls S
  have o := od_ok1 S.sok
  have hv := S.can.1 a (by rw [hk]; omega)
  have hn : a ≠ -1 := by omega
  refine W.eq (g2 := F0 m pc ls (.ref (β a) :: st.map (od_enc β))) (by rw [List.map_cons, od_ref hn]) ?_
  refine va_alen (D := D) S.hx S.hb S.hK S.hP a.toNat 0 (cA := tc 0) ((od_ws_at hv.1 hv.2).trans (by rw [od_cell_i hk])) rfl (v := Int32.ofInt (n : Int)) Int32.ofInt_eq_ofNat.symm hd ?_
  exact kk p l e s m args below meth c1 tc D β0 β A H locs ls (S.stk (od_okc (show od_r32 (n : Int) by unfold od_r32; omega) o.2))
theorem r_len_b {a : Int} {n : Nat} (hd : decode M.2.2.1 pc = .ok (.arraylength, 1)) (hk : E.2.1 a = (21, n)) (hn31 : n < 2147483648) (kk : od_Rq d M Z E0 res (pc + 1) L ((0, (n : Int)) :: st) E g) : od_Rq d M Z E0 res pc L ((2, a) :: st) E g := by
  intro p l e s m args below meth c1 tc D β0 β A H locs ls S
  have o := od_ok1 S.sok
  have hv := S.can.1 a (by rw [hk]; omega)
  have hn : a ≠ -1 := by omega
  refine W.eq (g2 := F0 m pc ls (.ref (β a) :: st.map (od_enc β))) (by rw [List.map_cons, od_ref hn]) ?_
  refine va_alen (D := D) S.hx S.hb S.hK S.hP a.toNat 1 (cA := tc 1) ((od_ws_at hv.1 hv.2).trans (by rw [od_cell_b hk])) rfl (v := Int32.ofInt (n : Int)) Int32.ofInt_eq_ofNat.symm hd ?_
  exact kk p l e s m args below meth c1 tc D β0 β A H locs ls (S.stk (od_okc (show od_r32 (n : Int) by unfold od_r32; omega) o.2))
theorem r_len_z {a : Int} {n : Nat} (hd : decode M.2.2.1 pc = .ok (.arraylength, 1)) (hk : E.2.1 a = (22, n)) (hn31 : n < 2147483648) (kk : od_Rq d M Z E0 res (pc + 1) L ((0, (n : Int)) :: st) E g) : od_Rq d M Z E0 res pc L ((2, a) :: st) E g := by
  intro p l e s m args below meth c1 tc D β0 β A H locs ls S
  have o := od_ok1 S.sok
  have hv := S.can.1 a (by rw [hk]; omega)
  have hn : a ≠ -1 := by omega
  refine W.eq (g2 := F0 m pc ls (.ref (β a) :: st.map (od_enc β))) (by rw [List.map_cons, od_ref hn]) ?_
  refine va_alen (D := D) S.hx S.hb S.hK S.hP a.toNat 2 (cA := tc 2) ((od_ws_at hv.1 hv.2).trans (by rw [od_cell_z hk])) rfl (v := Int32.ofInt (n : Int)) Int32.ofInt_eq_ofNat.symm hd ?_
  exact kk p l e s m args below meth c1 tc D β0 β A H locs ls (S.stk (od_okc (show od_r32 (n : Int) by unfold od_r32; omega) o.2))
theorem r_len_l {a : Int} {n : Nat} (hd : decode M.2.2.1 pc = .ok (.arraylength, 1)) (hk : E.2.1 a = (23, n)) (hn31 : n < 2147483648) (kk : od_Rq d M Z E0 res (pc + 1) L ((0, (n : Int)) :: st) E g) : od_Rq d M Z E0 res pc L ((2, a) :: st) E g := by
  intro p l e s m args below meth c1 tc D β0 β A H locs ls S
  have o := od_ok1 S.sok
  have hv := S.can.1 a (by rw [hk]; omega)
  have hn : a ≠ -1 := by omega
  refine W.eq (g2 := F0 m pc ls (.ref (β a) :: st.map (od_enc β))) (by rw [List.map_cons, od_ref hn]) ?_
  refine va_alen (D := D) S.hx S.hb S.hK S.hP a.toNat 3 (cA := tc 3) ((od_ws_at hv.1 hv.2).trans (by rw [od_cell_l hk])) rfl (v := Int32.ofInt (n : Int)) Int32.ofInt_eq_ofNat.symm hd ?_
  exact kk p l e s m args below meth c1 tc D β0 β A H locs ls (S.stk (od_okc (show od_r32 (n : Int) by unfold od_r32; omega) o.2))
theorem r_ifnull {a off : Int} {tgt : Nat} (hd : decode M.2.2.1 pc = .ok (.ifnull off, 3)) (ht : (pc : Int) + off = (tgt : Int)) (kt : a = -1 → od_Rq d M Z E0 res tgt L st E g) (kf : a ≠ -1 → od_Rq d M Z E0 res (pc + 3) L st E g) : od_Rq d M Z E0 res pc L ((2, a) :: st) E g := by
  intro p l e s m args below meth c1 tc D β0 β A H locs ls S
  have o := od_ok1 S.sok
  by_cases ha : a = -1
  · refine W.eq (g2 := F0 m pc ls (.null :: st.map (od_enc β))) (by rw [List.map_cons, ha, od_nul]) ?_
    exact lv_ifnullN S.hx S.hb hd ht (kt ha p l e s m args below meth c1 tc D β0 β A H locs ls (S.stk o.2))
  · refine W.eq (g2 := F0 m pc ls (.ref (β a) :: st.map (od_enc β))) (by rw [List.map_cons, od_ref ha]) ?_
    exact lv_ifnull S.hx S.hb hd (kf ha p l e s m args below meth c1 tc D β0 β A H locs ls (S.stk o.2))
theorem r_ifnonnull {a off : Int} {tgt : Nat} (hd : decode M.2.2.1 pc = .ok (.ifnonnull off, 3)) (ht : (pc : Int) + off = (tgt : Int)) (kt : a ≠ -1 → od_Rq d M Z E0 res tgt L st E g) (kf : a = -1 → od_Rq d M Z E0 res (pc + 3) L st E g) : od_Rq d M Z E0 res pc L ((2, a) :: st) E g := by
  intro p l e s m args below meth c1 tc D β0 β A H locs ls S
  have o := od_ok1 S.sok
  by_cases ha : a = -1
  · refine W.eq (g2 := F0 m pc ls (.null :: st.map (od_enc β))) (by rw [List.map_cons, ha, od_nul]) ?_
    exact lv_ifnonnullN S.hx S.hb hd (kf ha p l e s m args below meth c1 tc D β0 β A H locs ls (S.stk o.2))
  · refine W.eq (g2 := F0 m pc ls (.ref (β a) :: st.map (od_enc β))) (by rw [List.map_cons, od_ref ha]) ?_
    exact lv_ifnonnull S.hx S.hb hd ht (kt ha p l e s m args below meth c1 tc D β0 β A H locs ls (S.stk o.2))
theorem r_null (hd : decode M.2.2.1 pc = .ok (.aconst_null, 1)) (kk : od_Rq d M Z E0 res (pc + 1) L ((2, -1) :: st) E g) : od_Rq d M Z E0 res pc L st E g := by
  intro p l e s m args below meth c1 tc D β0 β A H locs ls S
  refine lv_null S.hx S.hb hd ?_
  refine W.eq (g2 := F0 m (pc + 1) ls (((2, -1) :: st).map (od_enc β))) (by rw [List.map_cons, od_nul]) ?_
  exact kk p l e s m args below meth c1 tc D β0 β A H locs ls (S.stk (od_okc (show (-1 : Int) < (E.1.1 : Int) by omega) S.sok))
theorem r_iretq {v : Int} (hd : decode M.2.2.1 pc = .ok (.ireturn, 1)) (hty : M.2.2.2.2 = some .int) (he : E = res.1) (hq : res.2 (some (0, v)) g) : od_Rq d M Z E0 res pc L [(0, v)] E g := by
  intro p l e s m args below meth c1 tc D β0 β A H locs ls S
  rw [← he]
  exact W.iret (v := Int32.ofInt v) S.hx S.hb (by rw [S.hr, hty]) (fun t ht hW => ⟨⟨β, _, g, hq, S.2.2.1.2.2.1, rfl, by rw [ht, ← he]; exact S.hP, by rw [← he]; exact S.hD, by rw [← he]; exact S.can, by rw [← he]; exact fun w hw => by simp at hw; subst hw; exact S.sok _ (by simp)⟩, S.hS.F ht⟩) S.hS.2.2 hd S.hlk
theorem r_iret {rs : od_Rs} {v : Int} (hd : decode M.2.2.1 pc = .ok (.ireturn, 1)) (hty : M.2.2.2.2 = some .int) (he : rs = (some (0, v), E, g)) : od_R d M Z E0 rs pc L [(0, v)] E g := by subst he; exact r_iretq hd hty rfl ⟨rfl, rfl⟩
theorem r_zretq {v : Int} (hd : decode M.2.2.1 pc = .ok (.ireturn, 1)) {ty : FieldType} (hty : M.2.2.2.2 = some ty) (hn : narrow ty (.int (Int32.ofInt v)) = .int (Int32.ofInt v)) (he : E = res.1) (hq : res.2 (some (0, v)) g) : od_Rq d M Z E0 res pc L [(0, v)] E g := by
  intro p l e s m args below meth c1 tc D β0 β A H locs ls S
  rw [← he]
  exact W.zret (v := Int32.ofInt v) S.hx S.hb (by rw [S.hr, hty]) hn (fun t ht hW => ⟨⟨β, _, g, hq, S.2.2.1.2.2.1, rfl, by rw [ht, ← he]; exact S.hP, by rw [← he]; exact S.hD, by rw [← he]; exact S.can, by rw [← he]; exact fun w hw => by simp at hw; subst hw; exact S.sok _ (by simp)⟩, S.hS.F ht⟩) S.hS.2.2 hd S.hlk
theorem r_zret {rs : od_Rs} {v : Int} (hd : decode M.2.2.1 pc = .ok (.ireturn, 1)) {ty : FieldType} (hty : M.2.2.2.2 = some ty) (hn : narrow ty (.int (Int32.ofInt v)) = .int (Int32.ofInt v)) (he : rs = (some (0, v), E, g)) : od_R d M Z E0 rs pc L [(0, v)] E g := by subst he; exact r_zretq hd hty hn rfl ⟨rfl, rfl⟩
theorem r_lretq {v : Int} (hd : decode M.2.2.1 pc = .ok (.lreturn, 1)) (hty : M.2.2.2.2 = some .long) (he : E = res.1) (hq : res.2 (some (1, v)) g) : od_Rq d M Z E0 res pc L [(1, v)] E g := by
  intro p l e s m args below meth c1 tc D β0 β A H locs ls S
  rw [← he]
  exact W.lret (v := Int64.ofInt v) S.hx S.hb (by rw [S.hr, hty]) (fun t ht hW => ⟨⟨β, _, g, hq, S.2.2.1.2.2.1, rfl, by rw [ht, ← he]; exact S.hP, by rw [← he]; exact S.hD, by rw [← he]; exact S.can, by rw [← he]; exact fun w hw => by simp at hw; subst hw; exact S.sok _ (by simp)⟩, S.hS.F ht⟩) S.hS.2.2 hd S.hlk
theorem r_lret {rs : od_Rs} {v : Int} (hd : decode M.2.2.1 pc = .ok (.lreturn, 1)) (hty : M.2.2.2.2 = some .long) (he : rs = (some (1, v), E, g)) : od_R d M Z E0 rs pc L [(1, v)] E g := by subst he; exact r_lretq hd hty rfl ⟨rfl, rfl⟩
theorem r_vretq (hd : decode M.2.2.1 pc = .ok (.return_, 1)) (hty : M.2.2.2.2 = none) (he : E = res.1) (hq : res.2 (none) g) : od_Rq d M Z E0 res pc L [] E g := by
  intro p l e s m args below meth c1 tc D β0 β A H locs ls S
  rw [← he]
  exact W.vret S.hx S.hb (by rw [S.hr, hty]) (fun t ht hW => ⟨⟨β, _, g, hq, S.2.2.1.2.2.1, rfl, by rw [ht, ← he]; exact S.hP, by rw [← he]; exact S.hD, by rw [← he]; exact S.can, by rw [← he]; exact fun w hw => by simp at hw⟩, S.hS.F ht⟩) S.hS.2.2 hd S.hlk
theorem r_vret {rs : od_Rs} (hd : decode M.2.2.1 pc = .ok (.return_, 1)) (hty : M.2.2.2.2 = none) (he : rs = (none, E, g)) : od_R d M Z E0 rs pc L [] E g := by subst he; exact r_vretq hd hty rfl ⟨rfl, rfl⟩
theorem r_aretq {v : Int} (hd : decode M.2.2.1 pc = .ok (.areturn, 1)) {rt : FieldType} (hty : M.2.2.2.2 = some rt) (hrt : (∃ n, rt = .object n) ∨ ∃ t, rt = .array t) (he : E = res.1) (hq : res.2 (some (2, v)) g) : od_Rq d M Z E0 res pc L [(2, v)] E g := by
  intro p l e s m args below meth c1 tc D β0 β A H locs ls S
  rw [← he]
  exact W.aret (v := od_rv β v) S.hx S.hb (by rw [S.hr, hty]) hrt (by unfold od_rv; split; exact Or.inl rfl; exact Or.inr ⟨_, rfl⟩) (fun t ht hW => ⟨⟨β, _, g, hq, S.2.2.1.2.2.1, rfl, by rw [ht, ← he]; exact S.hP, by rw [← he]; exact S.hD, by rw [← he]; exact S.can, by rw [← he]; exact fun w hw => by simp at hw; subst hw; exact S.sok _ (by simp)⟩, S.hS.F ht⟩) S.hS.2.2 hd S.hlk
theorem r_aret {rs : od_Rs} {v : Int} (hd : decode M.2.2.1 pc = .ok (.areturn, 1)) {rt : FieldType} (hty : M.2.2.2.2 = some rt) (hrt : (∃ n, rt = .object n) ∨ ∃ t, rt = .array t) (he : rs = (some (2, v), E, g)) : od_R d M Z E0 rs pc L [(2, v)] E g := by subst he; exact r_aretq hd hty hrt rfl ⟨rfl, rfl⟩
end Rows8
