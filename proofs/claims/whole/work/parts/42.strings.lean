def od_CT (own : String) (i : Nat) (M : od_M) (n : Nat) : Prop := Cond.methodLink own i M.2.1 ∈ lw_good ∧ Cond.instanceMethod M.2.1 ∈ lw_good ∧ Cond.selects RJ0 M.2.1 M.2.1 ∈ lw_good ∧ Cond.initialized M.2.1.cls ∈ lw_good ∧ od_codeIn M ∧ od_dsc M n ∧ M.2.2.2.1 ≤ 40
def od_ln (i : Nat) : Int := ((od_len.getD i 0 : Nat) : Int)
def od_chr (i : Nat) (k : Int) : Int := ((od_byt.getD i []).getD k.toNat 0).toInt
theorem od_ln_b : ∀ i : Nat, i < 11 → od_len.getD i 0 ≤ 34 ∧ od_shr (od_ln i) 0 = od_ln i := by decide +kernel
theorem od_chr_f : ∀ i : Nat, i < 11 → ∀ k : Nat, k < od_len.getD i 0 → (32 ≤ od_chr i k ∧ od_chr i k ≤ 122) ∧ od_char (od_and (od_chr i k) 255) = od_chr i k ∧ narrow .char (.int (Int32.ofInt (od_chr i k))) = .int (Int32.ofInt (od_chr i k)) := by decide +kernel
theorem od_chr_b {i : Nat} {k : Int} (hi : i < 11) (hk : 0 ≤ k ∧ k < od_ln i) : (32 ≤ od_chr i k ∧ od_chr i k ≤ 122) ∧ od_char (od_and (od_chr i k) 255) = od_chr i k ∧ narrow .char (.int (Int32.ofInt (od_chr i k))) = .int (Int32.ofInt (od_chr i k)) := by
  have h := od_chr_f i hi k.toNat (by unfold od_ln at hk; omega)
  rwa [show ((k.toNat : Nat) : Int) = k by omega] at h
theorem od_ln34 {i : Nat} (hi : i < 11) : 0 ≤ od_ln i ∧ od_ln i ≤ 34 := by
  have h := (od_ln_b i hi).1
  unfold od_ln
  omega
section Rows16
variable {d : Nat} {M : od_M} {Z : od_Zt} {E0 : od_E} {res : od_Q} {pc : Nat} {L : od_L} {st : List od_V} {E : od_E} {g : od_G}
theorem r_callTq {d' : Nat} {M' : od_M} {as rest : List od_V} {j : Nat} {i n : Nat} {E' : od_E} {Q' : Option od_V → od_G → Prop} (hd : decode M.2.2.1 pc = .ok (.invokevirtual i, 3)) (hj : j < 11) (hw : od_CT M.1 i M' n) (hc : od_Cq d' M' ((2, -10 - (j : Int)) :: as) E g (E', Q')) (hn : as.length = n) (hdd : d' + 1 ≤ d) (hst : as.reverse ++ (2, -10 - (j : Int)) :: rest = st) (hcat : od_cats rest ≤ 8) (hle : od_le E' res.1) (kk : ∀ (r : Option od_V) (g' : od_G), Q' r g' → od_Rq d M Z E0 res (pc + 3) L (r.toList ++ rest) E' g') : od_Rq d M Z E0 res pc L st E g := by
  intro p l e s m args below meth c1 tc D β0 β A H locs ls S
  subst hst
  have hsok := S.sok
  obtain ⟨w1, w2, w3, w4, w5, w7, w8⟩ := hw
  have hb1 : (-10 - (j : Int)) ≠ -1 := by omega
  have hrest : ∀ v ∈ rest, od_ok E v := fun v hv => hsok v (by simp [hv])
  have has : ∀ v ∈ ((2, -10 - (j : Int)) :: as : List od_V), od_ok E v := fun v hv => hsok v (by simp only [List.mem_cons, List.mem_append, List.mem_reverse] at hv ⊢; grind)
  have hA1 : ∀ q, va_A (od_ws tc β E g) H.size q → A q := fun q h => h.elim (fun ⟨k, e, hk⟩ => S.hD.2 k _ hk) (fun h => S.hA q (Nat.le_trans S.hS.1 h))
  have hM := hc.2 S.can has l tc D β H.size
  have hle1 : od_le E E' := hc.1
  have z1 := S.2.2.1.1
  have hroom : (od_rm d' E E').frames + 1 ≤ (od_rm d E0 res.1).frames ∧ 8 + (M'.2.2.2.1 + 11) + (od_rm d' E E').locals ≤ (od_rm d E0 res.1).locals := by
    show d' + 1 ≤ d ∧ 8 + (M'.2.2.2.1 + 11) + 64 * d' ≤ 64 * d
    omega
  have hcs : (E.1.1 - E0.1.1) + (E'.1.1 - E.1.1) = E'.1.1 - E0.1.1 ∧ (E.1.2 - E0.1.2) + (E'.1.2 - E.1.2) = E'.1.2 - E0.1.2 := by
    have := z1.1; have := z1.2; have := hle1.1; have := hle1.2
    omega
  have hfit : (E.1.1 - E0.1.1) + (E'.1.1 - E.1.1) ≤ (od_rm d E0 res.1).cells ∧ (E.1.2 - E0.1.2) + (E'.1.2 - E.1.2) ≤ (od_rm d E0 res.1).slots := by
    have := hle.1; have := hle.2
    show _ ≤ res.1.1.1 - E0.1.1 ∧ _ ≤ res.1.1.2 - E0.1.2
    omega
  have hpre : ∀ U : State, U.heap = H → s.WarmedH U.vm → od_Pre tc D β H.size ((2, -10 - (j : Int)) :: as) E g (((2, -10 - (j : Int)) :: as : List od_V).map (od_enc β)).toArray U := fun U hU hW => ⟨rfl, by rw [hU], by rw [hU]; exact S.hP, va_K.moved hW.alike S.hK, S.hD.weaken (fun _ _ _ _ => trivial), S.hE.to S.hS hU hW hA1⟩
  have hmap : (((2, -10 - (j : Int)) :: as).map (od_enc β)) = Value.ref (β (-10 - (j : Int))) :: as.map (od_enc β) := by rw [List.map_cons, od_ref hb1]
  rw [hmap] at hpre
  have hstk : (as.reverse ++ (2, -10 - (j : Int)) :: rest).map (od_enc β) = (as.map (od_enc β)).reverse ++ Value.ref (β (-10 - (j : Int))) :: rest.map (od_enc β) := by rw [List.map_append, List.map_reverse, List.map_cons, od_ref hb1]
  have hrun := va_runV (e := e) (below := below) (meth := meth) (locs := locs) (As := as.map (od_enc β)) (rest := rest.map (od_enc β)) (g := F0 m pc ls ((as.reverse ++ (2, -10 - (j : Int)) :: rest).map (od_enc β))) (C := RJ0) (n := n) ⟨S.hx, S.hb, S.hml, S.hown, S.hts⟩ hM ⟨callB_of n S.hts (od_good w5) rfl rfl rfl (S.hts _ w4) (S.hts _ w1) w7 hroom, S.hts _ w2, S.hts _ w3⟩ ⟨od_blind, vk_recv S.hE.1 hj S.hS, hpre⟩ rfl (by rw [List.length_map]; exact hn) S.hl.1 hstk (lv_room (by rw [od_cats_eq]; exact hcat)) hd hfit
  refine od_callW hrun S.hS hA1 (fun β' H1 locs1 r g' hq1 hβ hP1 hD1 hcan1 hok1 hS1 => ?_)
  have h := kk r g' hq1 p l e s m args below meth c1 tc D β0 β' A H1 locs1 ls (S.call hrest hle1 hle hβ hP1 hD1 hcan1 hok1 hS1)
  rw [hcs.1, hcs.2]
  refine W.eq (g2 := F0 m (pc + 3) ls ((r.toList ++ rest).map (od_enc β'))) ?_ h
  rw [List.map_append, od_map_ext hβ hrest]
  cases r <;> rfl
theorem r_ldcs {i x : Nat} (hM : M.1 = RX3) (hi : i < 11) (hx : od_six.getD i 0 = x) (hd : decode M.2.2.1 pc = .ok (.ldc x, 2)) (kk : od_Rq d M Z E0 res (pc + 2) L ((2, -10 - (i : Int)) :: st) E g) : od_Rq d M Z E0 res pc L st E g := by
  intro p l e s m args below meth c1 tc D β0 β A H locs ls S
  subst hx
  refine va_ldcS (own := RX3) (tx := od_str.getD i "") (q := β (-10 - (i : Int))) S.hx S.hb (by rw [← hM]; exact S.hown) (S.hE.2.1 i hi) hd ?_
  refine W.eq (g2 := F0 m (pc + 2) ls (((2, -10 - (i : Int)) :: st).map (od_enc β))) (by rw [List.map_cons, od_ref (by omega)]) ?_
  exact kk p l e s m args below meth c1 tc D β0 β A H locs ls (S.stk (od_okc (show (-10 - (i : Int)) < (E.1.1 : Int) by omega) S.sok))
theorem r_sgv {i : Nat} (hM : M.1 = RJ0) (hi : i < 11) (hd : decode M.2.2.1 pc = .ok (.getfield 9, 3)) (kk : od_Rq d M Z E0 res (pc + 3) L ((2, -30 - (i : Int)) :: st) E g) : od_Rq d M Z E0 res pc L ((2, -10 - (i : Int)) :: st) E g := by
  intro p l e s m args below meth c1 tc D β0 β A H locs ls S
  have o := od_ok1 S.sok
  refine W.eq (g2 := F0 m pc ls (.ref (β (-10 - (i : Int))) :: st.map (od_enc β))) (by rw [List.map_cons, od_ref (by omega)]) ?_
  refine vk_getf (own := RJ0) (ref := "java/lang/String") S.hx S.hb ((S.hE.1.1 i hi).2.2.1) S.hS (by rw [← hM]; exact S.hown) (S.hts _ skJ0_9) (fun _ h => h) hd ?_
  refine W.eq (g2 := F0 m (pc + 3) ls (((2, -30 - (i : Int)) :: st).map (od_enc β))) (by rw [List.map_cons, od_ref (by omega)]) ?_
  exact kk p l e s m args below meth c1 tc D β0 β A H locs ls (S.stk (od_okc (show (-30 - (i : Int)) < (E.1.1 : Int) by omega) o.2))
theorem r_sgc {i : Nat} (hM : M.1 = RJ0) (hi : i < 11) (hd : decode M.2.2.1 pc = .ok (.getfield 15, 3)) (kk : od_Rq d M Z E0 res (pc + 3) L ((0, 0) :: st) E g) : od_Rq d M Z E0 res pc L ((2, -10 - (i : Int)) :: st) E g := by
  intro p l e s m args below meth c1 tc D β0 β A H locs ls S
  have o := od_ok1 S.sok
  refine W.eq (g2 := F0 m pc ls (.ref (β (-10 - (i : Int))) :: st.map (od_enc β))) (by rw [List.map_cons, od_ref (by omega)]) ?_
  refine vk_getf (own := RJ0) (ref := "java/lang/String") S.hx S.hb ((S.hE.1.1 i hi).2.1) S.hS (by rw [← hM]; exact S.hown) (S.hts _ skJ0_15) (fun _ h => h) hd ?_
  exact kk p l e s m args below meth c1 tc D β0 β A H locs ls (S.stk (od_okc (show od_r32 0 from od_r0) o.2))
theorem r_sln {i : Nat} (hi : i < 11) (hd : decode M.2.2.1 pc = .ok (.arraylength, 1)) (kk : od_Rq d M Z E0 res (pc + 1) L ((0, od_ln i) :: st) E g) : od_Rq d M Z E0 res pc L ((2, -30 - (i : Int)) :: st) E g := by
  intro p l e s m args below meth c1 tc D β0 β A H locs ls S
  have o := od_ok1 S.sok
  refine W.eq (g2 := F0 m pc ls (.ref (β (-30 - (i : Int))) :: st.map (od_enc β))) (by rw [List.map_cons, od_ref (by omega)]) ?_
  refine va_tlen S.hx S.hb ((S.hE.1.1 i hi).2.2.2) S.hS (v := Int32.ofInt (od_ln i)) Int32.ofInt_eq_ofNat.symm hd ?_
  have h34 := od_ln34 hi
  exact kk p l e s m args below meth c1 tc D β0 β A H locs ls (S.stk (od_okc (show od_r32 (od_ln i) by unfold od_r32; omega) o.2))
theorem r_sbl {i : Nat} {k : Int} (hi : i < 11) (hk : 0 ≤ k ∧ k < od_ln i) (hd : decode M.2.2.1 pc = .ok (.baload, 1)) (kk : od_Rq d M Z E0 res (pc + 1) L ((0, od_chr i k) :: st) E g) : od_Rq d M Z E0 res pc L ((0, k) :: (2, -30 - (i : Int)) :: st) E g := by
  intro p l e s m args below meth c1 tc D β0 β A H locs ls S
  have o := od_ok2 S.sok
  refine W.eq (g2 := F0 m pc ls (.int (Int32.ofInt k) :: .ref (β (-30 - (i : Int))) :: st.map (od_enc β))) (by rw [List.map_cons, List.map_cons, od_ref (by omega)]; rfl) ?_
  refine va_tb S.hx S.hb ((S.hE.1.1 i hi).2.2.2) S.hS (od_in o.1 hk.1 (by unfold od_ln at hk; exact hk.2)) (v := .int (Int32.ofInt (od_chr i k))) ?_ hd ?_
  · rw [od_clamp o.1]
    unfold od_chr
    rw [Int32.ofInt_toInt]
  · exact kk p l e s m args below meth c1 tc D β0 β A H locs ls (S.stk (od_okc (show od_r32 (od_chr i k) from od_it _) o.2.2))
theorem r_gsc (hM : M.1 = RJ0) (hd : decode M.2.2.1 pc = .ok (.getstatic 38, 3)) (kk : od_Rq d M Z E0 res (pc + 3) L ((0, 1) :: st) E g) : od_Rq d M Z E0 res pc L st E g := by
  intro p l e s m args below meth c1 tc D β0 β A H locs ls S
  refine va_gets S.hx S.hb S.hE.2.2.2.2.2.2.1 S.hS S.hown (by rw [hM]; exact S.hts _ skJ0_38) (fun _ h => h) hd ?_
  exact kk p l e s m args below meth c1 tc D β0 β A H locs ls (S.stk (od_okc (show od_r32 1 by unfold od_r32; omega) S.sok))
theorem r_gsf (hM : M.1 = RJ0) (hd : decode M.2.2.1 pc = .ok (.getstatic 1053, 3)) (kk : ∀ r : Int, od_Rq d M Z E0 res (pc + 3) L ((2, r) :: st) E g) : od_Rq d M Z E0 res pc L st E g := by
  intro p l e s m args below meth c1 tc D β0 β A H locs ls S
  rcases S.hE.2.2.2.2.2.2.2.1 with h8 | h8
  · refine va_gets S.hx S.hb h8 S.hS S.hown (by rw [hM]; exact S.hts _ skJ0_1053) (fun _ h => h) hd ?_
    refine W.eq (g2 := F0 m (pc + 3) ls (((2, -1) :: st).map (od_enc β))) (by rw [List.map_cons, od_nul]) ?_
    exact kk (-1) p l e s m args below meth c1 tc D β0 β A H locs ls (S.stk (od_okc (show (-1 : Int) < (E.1.1 : Int) by omega) S.sok))
  · refine va_gets S.hx S.hb h8 S.hS S.hown (by rw [hM]; exact S.hts _ skJ0_1053) (fun _ h => h) hd ?_
    refine W.eq (g2 := F0 m (pc + 3) ls (((2, -62) :: st).map (od_enc β))) (by rw [List.map_cons, od_ref (by decide)]) ?_
    exact kk (-62) p l e s m args below meth c1 tc D β0 β A H locs ls (S.stk (od_okc (show (-62 : Int) < (E.1.1 : Int) by omega) S.sok))
theorem r_callT0i {d' : Nat} {M' : od_M} {j i : Nat} {r : od_V} (hd : decode M.2.2.1 pc = .ok (.invokevirtual i, 3)) (hj : j < 11) (hw : od_CT M.1 i M' 0) (hc : od_Ct d' M' [(2, -10 - (j : Int))] E g (some r, E, g)) (hdd : d' + 1 ≤ d) (hcat : od_cats st ≤ 8) (hle : od_le E res.1) (kk : od_Rq d M Z E0 res (pc + 3) L (r :: st) E g) : od_Rq d M Z E0 res pc L ((2, -10 - (j : Int)) :: st) E g := r_callTq (as := []) hd hj hw hc rfl hdd rfl hcat hle (fun r1 g1 h => by obtain ⟨rfl, rfl⟩ := h; exact kk)
theorem r_callT1i {d' : Nat} {M' : od_M} {j i : Nat} {r x1 : od_V} (hd : decode M.2.2.1 pc = .ok (.invokevirtual i, 3)) (hj : j < 11) (hw : od_CT M.1 i M' 1) (hc : od_Ct d' M' [(2, -10 - (j : Int)), x1] E g (some r, E, g)) (hdd : d' + 1 ≤ d) (hcat : od_cats st ≤ 8) (hle : od_le E res.1) (kk : od_Rq d M Z E0 res (pc + 3) L (r :: st) E g) : od_Rq d M Z E0 res pc L (x1 :: (2, -10 - (j : Int)) :: st) E g := r_callTq (as := [x1]) hd hj hw hc rfl hdd rfl hcat hle (fun r1 g1 h => by obtain ⟨rfl, rfl⟩ := h; exact kk)
end Rows16
theorem ctX3_154 : od_CT RX3 154 mJ0_length_8abf5 0 := ⟨lkX3_154, imJ0_length_8abf5, seJ0_length_8abf5, inJ0, cdJ0_length_8abf5, dsJ0_length_8abf5, by decide⟩
theorem ctX3_160 : od_CT RX3 160 mJ0_charAt_5068e 1 := ⟨lkX3_160, imJ0_charAt_5068e, seJ0_charAt_5068e, inJ0, cdJ0_charAt_5068e, dsJ0_charAt_5068e, by decide⟩
theorem ctJ0_335 : od_CT RJ0 335 mJ0_coder_7d493 0 := ⟨lkJ0_335, imJ0_coder_7d493, seJ0_coder_7d493, inJ0, cdJ0_coder_7d493, dsJ0_coder_7d493, by decide⟩
theorem ctJ0_492 : od_CT RJ0 492 mJ0_isLatin1_aae02 0 := ⟨lkJ0_492, imJ0_isLatin1_aae02, seJ0_isLatin1_aae02, inJ0, cdJ0_isLatin1_aae02, dsJ0_isLatin1_aae02, by decide⟩
theorem c_J0_coder_7d493 {E : od_E} {g : od_G} {i : Nat} (hi : i < 11) : od_Ct 1 mJ0_coder_7d493 [(2, -10 - (i : Int))] E g (some (0, 0), E, g) := by
  refine od_ctI pnJ0 rfl (Nat.le_of_ble_eq_true rfl) od_le.rf ?_
  show od_R _ _ _ _ _ 0 [some (2, -10 - (i : Int))] [] E g
  refine r_gsc rfl dJ0_coder_7d493_0 ?_
  refine r_if_eq (tgt := 13) dJ0_coder_7d493_3 rfl (fun h => absurd h (by decide)) (fun _ => ?_)
  refine r_aload_n dJ0_coder_7d493_6 rfl ?_
  refine r_sgc rfl hi dJ0_coder_7d493_7 ?_
  refine r_goto (tgt := 14) dJ0_coder_7d493_10 rfl ?_
  exact r_zret (v := 0) dJ0_coder_7d493_14 rfl rfl rfl
theorem c_J0_isLatin1_aae02 {E : od_E} {g : od_G} {i : Nat} (hi : i < 11) : od_Ct 1 mJ0_isLatin1_aae02 [(2, -10 - (i : Int))] E g (some (0, 1), E, g) := by
  refine od_ctI pnJ0 rfl (Nat.le_of_ble_eq_true rfl) od_le.rf ?_
  show od_R _ _ _ _ _ 0 [some (2, -10 - (i : Int))] [] E g
  refine r_gsc rfl dJ0_isLatin1_aae02_0 ?_
  refine r_if_eq (tgt := 17) dJ0_isLatin1_aae02_3 rfl (fun h => absurd h (by decide)) (fun _ => ?_)
  refine r_aload_n dJ0_isLatin1_aae02_6 rfl ?_
  refine r_sgc rfl hi dJ0_isLatin1_aae02_7 ?_
  refine r_if_ne (tgt := 17) dJ0_isLatin1_aae02_10 rfl (fun h => absurd h (by decide)) (fun _ => ?_)
  refine r_iconst dJ0_isLatin1_aae02_13 li_1 ?_
  refine r_goto (tgt := 18) dJ0_isLatin1_aae02_14 rfl ?_
  exact r_zret (v := 1) dJ0_isLatin1_aae02_18 rfl od_nz1 rfl
theorem c_J0_length_8abf5 {E : od_E} {g : od_G} {i : Nat} (hi : i < 11) : od_Ct 2 mJ0_length_8abf5 [(2, -10 - (i : Int))] E g (some (0, od_ln i), E, g) := by
  refine od_ctI pnJ0 rfl (Nat.le_of_ble_eq_true rfl) od_le.rf ?_
  show od_R _ _ _ _ _ 0 [some (2, -10 - (i : Int))] [] E g
  refine r_aload_n dJ0_length_8abf5_0 rfl ?_
  refine r_sgv rfl hi dJ0_length_8abf5_1 ?_
  refine r_sln hi dJ0_length_8abf5_4 ?_
  refine r_aload_n dJ0_length_8abf5_5 rfl ?_
  refine r_callT0i dJ0_length_8abf5_6 hi ctJ0_335 (c_J0_coder_7d493 hi) (by decide) (Nat.le_of_ble_eq_true rfl) od_le.rf ?_
  refine r_ishr dJ0_length_8abf5_9 ?_
  exact r_iret dJ0_length_8abf5_10 rfl (by rw [(od_ln_b i hi).2])
theorem c_J3_checkIndex_8e157 {E : od_E} {g : od_G} {i n r : Int} (hi : 0 ≤ i ∧ i < n) : od_Ct 1 mJ3_checkIndex_8e157 [(0, i), (0, n), (2, r)] E g (some (0, i), E, g) := by
  refine od_ctI pnJ3 rfl (Nat.le_of_ble_eq_true rfl) od_le.rf ?_
  show od_R _ _ _ _ _ 0 [some (0, i), some (0, n), some (2, r)] [] E g
  refine r_iload_n dJ3_checkIndex_8e157_0 rfl ?_
  refine r_if_lt (tgt := 9) dJ3_checkIndex_8e157_1 rfl (fun h => absurd h (by omega)) (fun _ => ?_)
  refine r_iload_n dJ3_checkIndex_8e157_4 rfl ?_
  refine r_iload_n dJ3_checkIndex_8e157_5 rfl ?_
  refine r_icmp_lt (tgt := 16) dJ3_checkIndex_8e157_6 rfl (fun _ => ?_) (fun h => absurd h (by omega))
  refine r_iload_n dJ3_checkIndex_8e157_16 rfl ?_
  exact r_iret dJ3_checkIndex_8e157_17 rfl rfl
theorem c_J0_checkIndex_df160 {E : od_E} {g : od_G} {i n : Int} (hi : 0 ≤ i ∧ i < n) : od_Ct 2 mJ0_checkIndex_df160 [(0, i), (0, n)] E g (none, E, g) := by
  refine od_ctI pnJ0 rfl (Nat.le_of_ble_eq_true rfl) od_le.rf ?_
  show od_R _ _ _ _ _ 0 [some (0, i), some (0, n)] [] E g
  refine r_iload_n dJ0_checkIndex_df160_0 rfl ?_
  refine r_iload_n dJ0_checkIndex_df160_1 rfl ?_
  refine r_gsf rfl dJ0_checkIndex_df160_2 (fun r => ?_)
  refine r_callS3i dJ0_checkIndex_df160_5 csJ0_1059 (c_J3_checkIndex_8e157 hi) (by decide) (Nat.le_of_ble_eq_true rfl) od_le.rf ?_
  refine r_pop dJ0_checkIndex_df160_8 (by first | exact od_ne2 | exact od_ne0) ?_
  exact r_vret dJ0_checkIndex_df160_9 rfl rfl
theorem c_J1_charAt_3b067 {E : od_E} {g : od_G} {i : Nat} {k : Int} (hi : i < 11) (hk : 0 ≤ k ∧ k < od_ln i) : od_Ct 3 mJ1_charAt_3b067 [(2, -30 - (i : Int)), (0, k)] E g (some (0, od_chr i k), E, g) := by
  refine od_ctI pnJ1 rfl (Nat.le_of_ble_eq_true rfl) od_le.rf ?_
  show od_R _ _ _ _ _ 0 [some (2, -30 - (i : Int)), some (0, k)] [] E g
  refine r_iload_n dJ1_charAt_3b067_0 rfl ?_
  refine r_aload_n dJ1_charAt_3b067_1 rfl ?_
  refine r_sln hi dJ1_charAt_3b067_2 ?_
  refine r_callS2v dJ1_charAt_3b067_3 csJ1_9 (c_J0_checkIndex_df160 hk) (by decide) (Nat.le_of_ble_eq_true rfl) od_le.rf ?_
  refine r_aload_n dJ1_charAt_3b067_6 rfl ?_
  refine r_iload_n dJ1_charAt_3b067_7 rfl ?_
  refine r_sbl hi hk dJ1_charAt_3b067_8 ?_
  refine r_sipush dJ1_charAt_3b067_9 ls_255 ?_
  refine r_iand dJ1_charAt_3b067_12 ?_
  refine r_i2c dJ1_charAt_3b067_13 ?_
  exact r_zret dJ1_charAt_3b067_14 rfl (by rw [(od_chr_b hi hk).2.1]; exact (od_chr_b hi hk).2.2) (by rw [(od_chr_b hi hk).2.1])
theorem c_J0_charAt_5068e {E : od_E} {g : od_G} {i : Nat} {k : Int} (hi : i < 11) (hk : 0 ≤ k ∧ k < od_ln i) : od_Ct 4 mJ0_charAt_5068e [(2, -10 - (i : Int)), (0, k)] E g (some (0, od_chr i k), E, g) := by
  refine od_ctI pnJ0 rfl (Nat.le_of_ble_eq_true rfl) od_le.rf ?_
  show od_R _ _ _ _ _ 0 [some (2, -10 - (i : Int)), some (0, k)] [] E g
  refine r_aload_n dJ0_charAt_5068e_0 rfl ?_
  refine r_callT0i dJ0_charAt_5068e_1 hi ctJ0_492 (c_J0_isLatin1_aae02 hi) (by decide) (Nat.le_of_ble_eq_true rfl) od_le.rf ?_
  refine r_if_eq (tgt := 16) dJ0_charAt_5068e_4 rfl (fun h => absurd h (by decide)) (fun _ => ?_)
  refine r_aload_n dJ0_charAt_5068e_7 rfl ?_
  refine r_sgv rfl hi dJ0_charAt_5068e_8 ?_
  refine r_iload_n dJ0_charAt_5068e_11 rfl ?_
  refine r_callS2i dJ0_charAt_5068e_12 csJ0_495 (c_J1_charAt_3b067 hi hk) (by decide) (Nat.le_of_ble_eq_true rfl) od_le.rf ?_
  exact r_zret dJ0_charAt_5068e_15 rfl (od_chr_b hi hk).2.2 rfl
