/-! answers are alike: never, compare -/
section Answers2
variable {g gm : od_G} {k M : Int}
theorem cNv_m {T S : Int → Prop} : ∀ n : Nat, n ≤ 63 → (∀ i : Int, 1 ≤ i → i ≤ n → (T i ↔ S i)) → (cNv T n = 0 ∧ mNvr S n = -1) ∨ (cNv T n = mNvr S n ∧ 1 ≤ cNv T n ∧ cNv T n ≤ n) := by
  intro n
  induction n with
  | zero => intro _ _; exact Or.inl ⟨rfl, rfl⟩
  | succ n ih =>
    intro hn h
    have z := ih (by omega) (fun i i0 i1 => h i i0 (by omega))
    have e := h ((n : Int) + 1) (by omega) (by omega)
    have o1 := od_bc_o (x := (n : Int) + 1) (by omega)
    unfold cNv mNvr
    rcases z with ⟨z1, z2⟩ | ⟨z1, z2, z3⟩
    · rw [z1, z2]
      by_cases c : T ((n : Int) + 1)
      · rw [od_ite_f (fun q => q.2 c), od_ite_f (fun q => q.1 (e.mp c))]
        exact Or.inl ⟨rfl, rfl⟩
      · rw [od_ite_t ⟨Or.inl rfl, c⟩, od_ite_t ⟨fun q => c (e.mpr q), Or.inl rfl⟩]
        exact Or.inr ⟨rfl, by omega, by omega⟩
    · have o2 := od_bc_o (x := cNv T n) (by omega)
      rw [o1, o2, ← z1]
      by_cases c : T ((n : Int) + 1)
      · rw [od_ite_f (fun q => q.2 c), od_ite_f (fun q => q.1 (e.mp c))]
        exact Or.inr ⟨rfl, z2, by omega⟩
      · by_cases c2 : mOnes ((n : Int) + 1) 12 < mOnes (cNv T n) 12
        · rw [od_ite_t ⟨Or.inr c2, c⟩, od_ite_t ⟨fun q => c (e.mpr q), Or.inr c2⟩]
          exact Or.inr ⟨rfl, by omega, by omega⟩
        · rw [od_ite_f (fun q => q.1.elim (fun y => by omega) c2), od_ite_f (fun q => q.2.elim (fun y => by omega) c2)]
          exact Or.inr ⟨rfl, z2, by omega⟩
theorem e_never (h : StR g k (gm (M + 2))) (w : Int) : cNeverM g k w = od_ite (mLies w 0 1) (mNever gm M w) (-1) := by
  have r := h.rr
  have sb := od_sh_b h.1.2
  unfold cNeverM
  refine od_ite_c (by unfold mLies; exact Iff.rfl) (fun q => ?_) rfl
  rw [h.1.1, h.round]
  have z := cNv_m (T := cTg (cC g k (-1) 0 0) (mRd gm M)) (S := mClo gm M 6) (od_shl 1 (gm (M + 2) 45) - 1).toNat (by omega) (fun i i0 i1 => by
    rw [mClo_6 (by omega)]
    unfold cTg
    exact ⟨fun ⟨x, x0, x1, x2⟩ => ⟨x, x0, x1, by rw [← h.bt (by omega) (-1) 0 0]; exact x2⟩, fun ⟨x, x0, x1, x2⟩ => ⟨x, x0, x1, by rw [h.bt (by omega)]; exact x2⟩⟩)
  unfold mNever mNvA
  rcases z with ⟨z1, z2⟩ | ⟨z1, z2, z3⟩
  · rw [if_pos z1, z2, if_pos (Or.inl rfl)]
  · rw [if_neg (by omega), ← z1]
    by_cases c : w = 0
    · rw [if_pos c, if_neg (by omega), od_bc_o (by omega)]
    · rw [if_neg c, if_pos (by omega)]
/-- laws told, each with its text -/
def LwsR (E : od_E) (g : od_G) (k : Int) (r : Int → Int) (lo : Int) (pls : Int → Int → Int) (Cs : Int → Int) (cn sn : Int → Nat) : Prop := ∀ t : Int, 0 ≤ t → t < r 47 → lo ≤ g (k + 6) t ∧ TxAt E (g (k + 6) t) (cn t) (sn t) ∧ (0 ≤ g (g (k + 6) t) 6 ∧ g (g (k + 6) t) 6 ≤ cn t) ∧ LwR g (g (k + 6) t) r t (pls t) (Cs t) (sn t)
theorem StR.isLaw (h : StR g k (gm (M + 2))) {E : od_E} {lo : Int} (hlo : 0 ≤ lo) {pls : Int → Int → Int} {Cs : Int → Int} {cn sn : Int → Nat} (hW : LwsR E g k (gm (M + 2)) lo pls Cs cn sn) (n : Int) : (n = -1 ∨ cLawOf g k n ≠ -1) ↔ mIsLaw gm M n := by
  have z := h.2.2.2.2.2.1
  unfold mIsLaw mLies cLawOf
  rw [z.1]
  refine ⟨fun q => ?_, fun q => ?_⟩
  · rcases q with q | q
    · omega
    · by_cases c : 0 ≤ n ∧ n < gm (M + 2) 47 ∧ n < 6
      · omega
      · rw [od_ite_f c] at q
        exact absurd rfl q
  · by_cases c : n = -1
    · exact Or.inl c
    · right
      rw [od_ite_t (by omega)]
      have := (hW n (by omega) (by omega)).1
      omega
theorem StR.lawAt (h : StR g k (gm (M + 2))) {n : Int} (hn : 0 ≤ n ∧ n < gm (M + 2) 47) : cLawOf g k n = g (k + 6) n := by
  have z := h.2.2.2.2.2.1
  unfold cLawOf
  rw [z.1, od_ite_t (by omega)]
theorem StR.lawN (h : StR g k (gm (M + 2))) : cLawOf g k (-1) = -1 := by
  unfold cLawOf
  rw [od_ite_f (by omega)]
theorem kC_u {r : Int → Int} {b N x i : Int} (hb : 0 ≤ b) : kC (od_u1 r 48 x) b N i = kC r b N i := by
  unfold kC
  by_cases c : 0 ≤ i ∧ i < N
  · rw [if_pos c, if_pos c, od_u1_ne (by omega)]
  · rw [if_neg c, if_neg c]
theorem kV_u {r : Int → Int} {b N x i : Int} (hb : 0 ≤ b) : kV (od_u1 r 48 x) b N i = kV r b N i := by
  unfold kV
  by_cases c : 0 ≤ i ∧ i < N
  · rw [if_pos c, if_pos c, od_u1_ne (by omega)]
  · rw [if_neg c, if_neg c]
theorem LwR.u {g g' : od_G} {T t x : Int} {r pl : Int → Int} {C : Int} {sn : Nat} (h : LwR g T r t pl C sn) (ht : 0 ≤ t) (e : TxEq g g' T) : LwR g' T (od_u1 r 48 x) t pl C sn := by
  unfold LwR ClOk at h ⊢
  rw [od_u1_ne (show 49 + t ≠ 48 by omega), show kC (od_u1 r 48 x) (400 * t) (r (49 + t)) = kC r (400 * t) (r (49 + t)) from funext fun i => kC_u (by omega), show kV (od_u1 r 48 x) (400 * t) (r (49 + t)) = kV r (400 * t) (r (49 + t)) from funext fun i => kV_u (by omega), e.1, e.2.1, e.2.2.1, e.2.2.2.1, e.2.2.2.2.1, e.2.2.2.2.2.1, e.2.2.2.2.2.2]
  exact h
theorem LwR.e {g g' : od_G} {T t : Int} {r pl : Int → Int} {C : Int} {sn : Nat} (h : LwR g T r t pl C sn) (e : TxEq g g' T) : LwR g' T r t pl C sn := by
  unfold LwR ClOk at h ⊢
  rw [e.1, e.2.1, e.2.2.1, e.2.2.2.1, e.2.2.2.2.1, e.2.2.2.2.2.1, e.2.2.2.2.2.2]
  exact h
/-- another law in force: the street is still what the row says -/
theorem StR.u48 (h : StR g k (gm (M + 2))) {n : Int} (hn : n = -1 ∨ (0 ≤ n ∧ n < gm (M + 2) 47)) : StR (od_up g k 11 n) k (od_up gm (M + 2) 48 n (M + 2)) := by
  rw [od_up_row]
  have n1 := h.1.2
  refine ⟨?_, fun d d0 d1 => ?_, ?_, ?_, ?_, ?_, ?_, ?_, fun i i0 i1 => ?_⟩
  · rw [od_up_j (by omega), od_u1_ne (by omega)]; exact h.1
  · rw [od_u1_ne (by omega)] at d1
    have z := h.2.1 d d0 d1
    unfold DrR
    rw [od_upn (by omega), od_upn (by omega), od_upn (by omega), od_upn (by omega), od_up_j (by omega), od_u1_ne (by omega), od_u1_ne (by omega), od_u1_ne (by omega), od_u1_ne (by omega), od_u1_ne (by omega)]
    exact z
  · rw [od_up_j (by omega), od_u1_ne (by omega)]; exact h.2.2.1
  · rw [od_upn (by omega), od_upn (by omega), od_upn (by omega), od_u1_ne (by omega), od_u1_ne (by omega), od_u1_ne (by omega)]; exact h.2.2.2.1
  · rw [od_u1_ne (by omega), od_u1_ne (by omega), od_u1_ne (by omega)]; exact h.2.2.2.2.1
  · rw [od_up_j (by omega), od_u1_ne (by omega)]; exact h.2.2.2.2.2.1
  · rw [od_up_i, od_u1_at, od_u1_ne (by omega)]; exact ⟨rfl, hn⟩
  · rw [od_up_j (by omega), od_u1_ne (by omega)]; exact h.2.2.2.2.2.2.2.1
  · rw [od_u1_ne (by omega)] at i1
    have n46 := h.2.2.2.2.2.2.2.1.2
    rw [od_upn (by omega), od_upn (by omega), od_u1_ne (by omega), od_u1_ne (by omega)]
    exact h.2.2.2.2.2.2.2.2 i i0 i1
theorem e_compare (h : StR g k (gm (M + 2))) {E : od_E} {lo : Int} (hlo : k + 9 ≤ lo ∧ 0 ≤ lo) {pls : Int → Int → Int} {Cs : Int → Int} {cn sn : Int → Nat} (hW : LwsR E g k (gm (M + 2)) lo pls Cs cn sn) (n : Int) : cCmpM g k (sn n) n = od_ite (mIsLaw gm M n) (mCmp gm M (pls n) (Cs n) n) (-1) := by
  unfold cCmpM
  refine od_ite_c (h.isLaw hlo.2 hW n) (fun q => ?_) rfl
  have q2 := (h.isLaw hlo.2 hW n).mp q
  unfold mIsLaw mLies at q2
  have hn : n = -1 ∨ (0 ≤ n ∧ n < gm (M + 2) 47) := by omega
  have h2 := h.u48 hn
  have n47 := h.2.2.2.2.2.1
  have eT : cLawOf (od_up g k 11 n) k (od_up g k 11 n k 11) = cLawOf g k n := by
    rw [od_up_i]
    unfold cLawOf
    rw [od_up_j (by omega), od_upn (by omega)]
  have hL : LfR (od_up g k 11 n) k (od_up gm (M + 2) 48 n (M + 2)) (pls n) (Cs n) (sn n) := by
    rcases hn with hn | hn
    · left
      rw [eT, hn, od_up_i]
      exact ⟨rfl, h.lawN⟩
    · right
      have z := hW n hn.1 hn.2
      rw [eT, od_up_i, h.lawAt hn]
      refine ⟨hn.1, by omega, by omega, ?_⟩
      rw [od_up_row]
      exact z.2.2.2.u hn.1 (TxEq.of (X := fun x _ => x = k) (od_fr.rf.up rfl) (fun x y q => by omega))
  have r := h2.rr
  have eR : mRd (od_up gm (M + 2) 48 n) M = mRd gm M := by
    rw [← h2.round, ← h.round]
    have CI2 := h2.CI
    rw [h.CI.rd (by omega), CI2.rd (by omega)]
    refine od_rd_cong _ _ _ (fun e e0 e1 => ?_)
    have e1' : od_up g k 11 n (k + 1) = g (k + 1) := od_up_ne (by omega)
    refine ⟨?_, fun _ => by rw [e1']⟩
    unfold cHas cStop
    rw [od_up_j (by omega), od_up_j (by omega)]
  unfold mCmp
  rw [eR, h.round]
  refine od_sum_c _ (fun i i0 i1 => ?_)
  have z := h2.ln hL (x := i) (by omega)
  rw [eT] at z
  rw [mNz_loud h2.MI, ← z]
  have ec : cC g k (cLawOf g k n) (sn n) 1 = cC (od_up g k 11 n) k (cLawOf g k n) (sn n) 1 := by
    have es : ∀ (d b : Int), cSound (od_up g k 11 n) k (cLawOf g k n) d b (sn n) = cSound g k (cLawOf g k n) d b (sn n) := fun d b => by
      by_cases c : cLawOf g k n = -1
      · unfold cSound
        rw [od_ite_t (Or.inl c), od_ite_t (Or.inl c)]
      · have tl : k + 9 ≤ cLawOf g k n := by
          rcases hn with hn | hn
          · rw [hn] at c; exact absurd h.lawN c
          · rw [h.lawAt hn]; have := (hW n hn.1 hn.2).1; omega
        have tx : TxEq g (od_up g k 11 n) (cLawOf g k n) := TxEq.of (X := fun x _ => x = k) (od_fr.rf.up rfl) (fun x y q => by omega)
        have ew : ∀ d b, cWd (od_up g k 11 n) k d b = cWd g k d b := fun d b => by
          funext j
          unfold cWd
          rw [od_up_ne (show k + 1 ≠ k by omega), od_up_ne (show k + 2 ≠ k by omega), od_up_ne (show k + 4 ≠ k by omega), od_up_ne (show k + 5 ≠ k by omega)]
        have ev : ∀ f, cV (od_up g k 11 n) k (cLawOf g k n) d b (sn n) f = cV g k (cLawOf g k n) d b (sn n) f := fun f => by
          unfold cV
          rw [ew, tx.2.2.2.2.2.2]
        have eh : cHas (od_up g k 11 n) k d = cHas g k d := by
          unfold cHas
          rw [od_up_j (by omega)]
        have ed : ∀ m : Nat, cSnd (od_up g k 11 n) k (cLawOf g k n) d b (sn n) m = cSnd g k (cLawOf g k n) d b (sn n) m := by
          intro m
          induction m with
          | zero => rfl
          | succ m ih =>
            unfold cSnd
            rw [ih, ev, ev, tx.2.1, tx.2.2.2.1, tx.2.2.2.2.2.1]
        unfold cSound
        rw [eh, ed, tx.1]
    funext x
    unfold cC
    rw [od_up_j (show (8 : Int) ≠ 11 by omega)]
    refine od_sum_c _ (fun e e0 e1 => ?_)
    have eb : cBeatIn (od_up g k 11 n) k e x = cBeatIn g k e x := by
      unfold cBeatIn cHas cStop
      rw [od_up_j (show (8 : Int) ≠ 11 by omega), od_up_j (show (9 : Int) ≠ 11 by omega), od_up_ne (show k + 1 ≠ k by omega), od_up_ne (show k + 3 ≠ k by omega)]
    have et : cStrikes (od_up g k 11 n) k e x = cStrikes g k e x := by
      unfold cStrikes
      rw [eb]
      unfold cStop cHasPin cHas
      rw [od_up_j (show (8 : Int) ≠ 11 by omega), od_up_j (show (9 : Int) ≠ 11 by omega), od_up_ne (show k + 1 ≠ k by omega), od_up_ne (show k + 4 ≠ k by omega)]
    unfold cF
    rw [et, eb, es]
  rw [ec]
end Answers2
