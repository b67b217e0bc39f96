/-! a text copied -/
theorem nX9_at {E : od_E} {k c s : Int} (hk : (E.2.1 k).1 = 9) (hE : (E.1.1 : Int) = k + 1) (hc : c.toNat < 1000000) (hs : s.toNat < 1000000) : TxAt (nX9 E k c s) k c.toNat s.toNat := by
  refine ⟨?_, ?_, ?_, ?_, ?_, ?_, ?_, ?_, ?_, ?_, ?_, ?_, ?_, hc, hs⟩
  · rw [nX9_k hE (by omega)]; exact hk
  · unfold nX9
    rw [od_pE_r (Or.inr (by decide)), od_nE_r (by have z : ((od_pE (od_nE (od_pE (od_nE (od_pE (od_nE (od_pE (od_nE (od_pE (od_nE E 20 c.toNat c.toNat) (k) 0 (k + 1)) 20 c.toNat c.toNat) (k) 1 (k + 2)) 20 c.toNat c.toNat) (k) 2 (k + 3)) 20 c.toNat c.toNat) (k) 3 (k + 4)) 20 c.toNat c.toNat) (k) 4 (k + 5))).1.1 = E.1.1 + 5 := rfl; omega)]
    rw [od_pE_r (Or.inr (by decide)), od_nE_r (by have z : ((od_pE (od_nE (od_pE (od_nE (od_pE (od_nE (od_pE (od_nE E 20 c.toNat c.toNat) (k) 0 (k + 1)) 20 c.toNat c.toNat) (k) 1 (k + 2)) 20 c.toNat c.toNat) (k) 2 (k + 3)) 20 c.toNat c.toNat) (k) 3 (k + 4))).1.1 = E.1.1 + 4 := rfl; omega)]
    rw [od_pE_r (Or.inr (by decide)), od_nE_r (by have z : ((od_pE (od_nE (od_pE (od_nE (od_pE (od_nE E 20 c.toNat c.toNat) (k) 0 (k + 1)) 20 c.toNat c.toNat) (k) 1 (k + 2)) 20 c.toNat c.toNat) (k) 2 (k + 3))).1.1 = E.1.1 + 3 := rfl; omega)]
    rw [od_pE_r (Or.inr (by decide)), od_nE_r (by have z : ((od_pE (od_nE (od_pE (od_nE E 20 c.toNat c.toNat) (k) 0 (k + 1)) 20 c.toNat c.toNat) (k) 1 (k + 2))).1.1 = E.1.1 + 2 := rfl; omega)]
    rw [od_pE_r (Or.inr (by decide)), od_nE_r (by have z : ((od_pE (od_nE E 20 c.toNat c.toNat) (k) 0 (k + 1))).1.1 = E.1.1 + 1 := rfl; omega)]
    rw [od_pE_t]
  · unfold nX9
    rw [od_pE_r (Or.inr (by decide)), od_nE_r (by have z : ((od_pE (od_nE (od_pE (od_nE (od_pE (od_nE (od_pE (od_nE (od_pE (od_nE E 20 c.toNat c.toNat) (k) 0 (k + 1)) 20 c.toNat c.toNat) (k) 1 (k + 2)) 20 c.toNat c.toNat) (k) 2 (k + 3)) 20 c.toNat c.toNat) (k) 3 (k + 4)) 20 c.toNat c.toNat) (k) 4 (k + 5))).1.1 = E.1.1 + 5 := rfl; omega)]
    rw [od_pE_r (Or.inr (by decide)), od_nE_r (by have z : ((od_pE (od_nE (od_pE (od_nE (od_pE (od_nE (od_pE (od_nE E 20 c.toNat c.toNat) (k) 0 (k + 1)) 20 c.toNat c.toNat) (k) 1 (k + 2)) 20 c.toNat c.toNat) (k) 2 (k + 3)) 20 c.toNat c.toNat) (k) 3 (k + 4))).1.1 = E.1.1 + 4 := rfl; omega)]
    rw [od_pE_r (Or.inr (by decide)), od_nE_r (by have z : ((od_pE (od_nE (od_pE (od_nE (od_pE (od_nE E 20 c.toNat c.toNat) (k) 0 (k + 1)) 20 c.toNat c.toNat) (k) 1 (k + 2)) 20 c.toNat c.toNat) (k) 2 (k + 3))).1.1 = E.1.1 + 3 := rfl; omega)]
    rw [od_pE_r (Or.inr (by decide)), od_nE_r (by have z : ((od_pE (od_nE (od_pE (od_nE E 20 c.toNat c.toNat) (k) 0 (k + 1)) 20 c.toNat c.toNat) (k) 1 (k + 2))).1.1 = E.1.1 + 2 := rfl; omega)]
    rw [od_pE_t]
  · unfold nX9
    rw [od_pE_r (Or.inr (by decide)), od_nE_r (by have z : ((od_pE (od_nE (od_pE (od_nE (od_pE (od_nE (od_pE (od_nE (od_pE (od_nE E 20 c.toNat c.toNat) (k) 0 (k + 1)) 20 c.toNat c.toNat) (k) 1 (k + 2)) 20 c.toNat c.toNat) (k) 2 (k + 3)) 20 c.toNat c.toNat) (k) 3 (k + 4)) 20 c.toNat c.toNat) (k) 4 (k + 5))).1.1 = E.1.1 + 5 := rfl; omega)]
    rw [od_pE_r (Or.inr (by decide)), od_nE_r (by have z : ((od_pE (od_nE (od_pE (od_nE (od_pE (od_nE (od_pE (od_nE E 20 c.toNat c.toNat) (k) 0 (k + 1)) 20 c.toNat c.toNat) (k) 1 (k + 2)) 20 c.toNat c.toNat) (k) 2 (k + 3)) 20 c.toNat c.toNat) (k) 3 (k + 4))).1.1 = E.1.1 + 4 := rfl; omega)]
    rw [od_pE_r (Or.inr (by decide)), od_nE_r (by have z : ((od_pE (od_nE (od_pE (od_nE (od_pE (od_nE E 20 c.toNat c.toNat) (k) 0 (k + 1)) 20 c.toNat c.toNat) (k) 1 (k + 2)) 20 c.toNat c.toNat) (k) 2 (k + 3))).1.1 = E.1.1 + 3 := rfl; omega)]
    rw [od_pE_t]
  · unfold nX9
    rw [od_pE_r (Or.inr (by decide)), od_nE_r (by have z : ((od_pE (od_nE (od_pE (od_nE (od_pE (od_nE (od_pE (od_nE (od_pE (od_nE E 20 c.toNat c.toNat) (k) 0 (k + 1)) 20 c.toNat c.toNat) (k) 1 (k + 2)) 20 c.toNat c.toNat) (k) 2 (k + 3)) 20 c.toNat c.toNat) (k) 3 (k + 4)) 20 c.toNat c.toNat) (k) 4 (k + 5))).1.1 = E.1.1 + 5 := rfl; omega)]
    rw [od_pE_r (Or.inr (by decide)), od_nE_r (by have z : ((od_pE (od_nE (od_pE (od_nE (od_pE (od_nE (od_pE (od_nE E 20 c.toNat c.toNat) (k) 0 (k + 1)) 20 c.toNat c.toNat) (k) 1 (k + 2)) 20 c.toNat c.toNat) (k) 2 (k + 3)) 20 c.toNat c.toNat) (k) 3 (k + 4))).1.1 = E.1.1 + 4 := rfl; omega)]
    rw [od_pE_t]
  · unfold nX9
    rw [od_pE_r (Or.inr (by decide)), od_nE_r (by have z : ((od_pE (od_nE (od_pE (od_nE (od_pE (od_nE (od_pE (od_nE (od_pE (od_nE E 20 c.toNat c.toNat) (k) 0 (k + 1)) 20 c.toNat c.toNat) (k) 1 (k + 2)) 20 c.toNat c.toNat) (k) 2 (k + 3)) 20 c.toNat c.toNat) (k) 3 (k + 4)) 20 c.toNat c.toNat) (k) 4 (k + 5))).1.1 = E.1.1 + 5 := rfl; omega)]
    rw [od_pE_t]
  · unfold nX9
    rw [od_pE_t]
  · unfold nX9
    show ((od_nE (od_pE (od_nE (od_pE (od_nE (od_pE (od_nE (od_pE (od_nE (od_pE (od_nE E 20 c.toNat c.toNat) (k) 0 (k + 1)) 20 c.toNat c.toNat) (k) 1 (k + 2)) 20 c.toNat c.toNat) (k) 2 (k + 3)) 20 c.toNat c.toNat) (k) 3 (k + 4)) 20 c.toNat c.toNat) (k) 4 (k + 5)) 20 s.toNat s.toNat)).2.1 (k + 1) = _
    rw [od_nE_o (by have z : ((od_pE (od_nE (od_pE (od_nE (od_pE (od_nE (od_pE (od_nE (od_pE (od_nE E 20 c.toNat c.toNat) (k) 0 (k + 1)) 20 c.toNat c.toNat) (k) 1 (k + 2)) 20 c.toNat c.toNat) (k) 2 (k + 3)) 20 c.toNat c.toNat) (k) 3 (k + 4)) 20 c.toNat c.toNat) (k) 4 (k + 5))).1.1 = E.1.1 + 5 := rfl; omega)]
    show ((od_nE (od_pE (od_nE (od_pE (od_nE (od_pE (od_nE (od_pE (od_nE E 20 c.toNat c.toNat) (k) 0 (k + 1)) 20 c.toNat c.toNat) (k) 1 (k + 2)) 20 c.toNat c.toNat) (k) 2 (k + 3)) 20 c.toNat c.toNat) (k) 3 (k + 4)) 20 c.toNat c.toNat)).2.1 (k + 1) = _
    rw [od_nE_o (by have z : ((od_pE (od_nE (od_pE (od_nE (od_pE (od_nE (od_pE (od_nE E 20 c.toNat c.toNat) (k) 0 (k + 1)) 20 c.toNat c.toNat) (k) 1 (k + 2)) 20 c.toNat c.toNat) (k) 2 (k + 3)) 20 c.toNat c.toNat) (k) 3 (k + 4))).1.1 = E.1.1 + 4 := rfl; omega)]
    show ((od_nE (od_pE (od_nE (od_pE (od_nE (od_pE (od_nE E 20 c.toNat c.toNat) (k) 0 (k + 1)) 20 c.toNat c.toNat) (k) 1 (k + 2)) 20 c.toNat c.toNat) (k) 2 (k + 3)) 20 c.toNat c.toNat)).2.1 (k + 1) = _
    rw [od_nE_o (by have z : ((od_pE (od_nE (od_pE (od_nE (od_pE (od_nE E 20 c.toNat c.toNat) (k) 0 (k + 1)) 20 c.toNat c.toNat) (k) 1 (k + 2)) 20 c.toNat c.toNat) (k) 2 (k + 3))).1.1 = E.1.1 + 3 := rfl; omega)]
    show ((od_nE (od_pE (od_nE (od_pE (od_nE E 20 c.toNat c.toNat) (k) 0 (k + 1)) 20 c.toNat c.toNat) (k) 1 (k + 2)) 20 c.toNat c.toNat)).2.1 (k + 1) = _
    rw [od_nE_o (by have z : ((od_pE (od_nE (od_pE (od_nE E 20 c.toNat c.toNat) (k) 0 (k + 1)) 20 c.toNat c.toNat) (k) 1 (k + 2))).1.1 = E.1.1 + 2 := rfl; omega)]
    show ((od_nE (od_pE (od_nE E 20 c.toNat c.toNat) (k) 0 (k + 1)) 20 c.toNat c.toNat)).2.1 (k + 1) = _
    rw [od_nE_o (by have z : ((od_pE (od_nE E 20 c.toNat c.toNat) (k) 0 (k + 1))).1.1 = E.1.1 + 1 := rfl; omega)]
    show ((od_nE E 20 c.toNat c.toNat)).2.1 (k + 1) = _
    rw [od_nE_k (by have z : (E).1.1 = E.1.1 + 0 := rfl; omega)]
  · unfold nX9
    show ((od_nE (od_pE (od_nE (od_pE (od_nE (od_pE (od_nE (od_pE (od_nE (od_pE (od_nE E 20 c.toNat c.toNat) (k) 0 (k + 1)) 20 c.toNat c.toNat) (k) 1 (k + 2)) 20 c.toNat c.toNat) (k) 2 (k + 3)) 20 c.toNat c.toNat) (k) 3 (k + 4)) 20 c.toNat c.toNat) (k) 4 (k + 5)) 20 s.toNat s.toNat)).2.1 (k + 2) = _
    rw [od_nE_o (by have z : ((od_pE (od_nE (od_pE (od_nE (od_pE (od_nE (od_pE (od_nE (od_pE (od_nE E 20 c.toNat c.toNat) (k) 0 (k + 1)) 20 c.toNat c.toNat) (k) 1 (k + 2)) 20 c.toNat c.toNat) (k) 2 (k + 3)) 20 c.toNat c.toNat) (k) 3 (k + 4)) 20 c.toNat c.toNat) (k) 4 (k + 5))).1.1 = E.1.1 + 5 := rfl; omega)]
    show ((od_nE (od_pE (od_nE (od_pE (od_nE (od_pE (od_nE (od_pE (od_nE E 20 c.toNat c.toNat) (k) 0 (k + 1)) 20 c.toNat c.toNat) (k) 1 (k + 2)) 20 c.toNat c.toNat) (k) 2 (k + 3)) 20 c.toNat c.toNat) (k) 3 (k + 4)) 20 c.toNat c.toNat)).2.1 (k + 2) = _
    rw [od_nE_o (by have z : ((od_pE (od_nE (od_pE (od_nE (od_pE (od_nE (od_pE (od_nE E 20 c.toNat c.toNat) (k) 0 (k + 1)) 20 c.toNat c.toNat) (k) 1 (k + 2)) 20 c.toNat c.toNat) (k) 2 (k + 3)) 20 c.toNat c.toNat) (k) 3 (k + 4))).1.1 = E.1.1 + 4 := rfl; omega)]
    show ((od_nE (od_pE (od_nE (od_pE (od_nE (od_pE (od_nE E 20 c.toNat c.toNat) (k) 0 (k + 1)) 20 c.toNat c.toNat) (k) 1 (k + 2)) 20 c.toNat c.toNat) (k) 2 (k + 3)) 20 c.toNat c.toNat)).2.1 (k + 2) = _
    rw [od_nE_o (by have z : ((od_pE (od_nE (od_pE (od_nE (od_pE (od_nE E 20 c.toNat c.toNat) (k) 0 (k + 1)) 20 c.toNat c.toNat) (k) 1 (k + 2)) 20 c.toNat c.toNat) (k) 2 (k + 3))).1.1 = E.1.1 + 3 := rfl; omega)]
    show ((od_nE (od_pE (od_nE (od_pE (od_nE E 20 c.toNat c.toNat) (k) 0 (k + 1)) 20 c.toNat c.toNat) (k) 1 (k + 2)) 20 c.toNat c.toNat)).2.1 (k + 2) = _
    rw [od_nE_o (by have z : ((od_pE (od_nE (od_pE (od_nE E 20 c.toNat c.toNat) (k) 0 (k + 1)) 20 c.toNat c.toNat) (k) 1 (k + 2))).1.1 = E.1.1 + 2 := rfl; omega)]
    show ((od_nE (od_pE (od_nE E 20 c.toNat c.toNat) (k) 0 (k + 1)) 20 c.toNat c.toNat)).2.1 (k + 2) = _
    rw [od_nE_k (by have z : ((od_pE (od_nE E 20 c.toNat c.toNat) (k) 0 (k + 1))).1.1 = E.1.1 + 1 := rfl; omega)]
  · unfold nX9
    show ((od_nE (od_pE (od_nE (od_pE (od_nE (od_pE (od_nE (od_pE (od_nE (od_pE (od_nE E 20 c.toNat c.toNat) (k) 0 (k + 1)) 20 c.toNat c.toNat) (k) 1 (k + 2)) 20 c.toNat c.toNat) (k) 2 (k + 3)) 20 c.toNat c.toNat) (k) 3 (k + 4)) 20 c.toNat c.toNat) (k) 4 (k + 5)) 20 s.toNat s.toNat)).2.1 (k + 3) = _
    rw [od_nE_o (by have z : ((od_pE (od_nE (od_pE (od_nE (od_pE (od_nE (od_pE (od_nE (od_pE (od_nE E 20 c.toNat c.toNat) (k) 0 (k + 1)) 20 c.toNat c.toNat) (k) 1 (k + 2)) 20 c.toNat c.toNat) (k) 2 (k + 3)) 20 c.toNat c.toNat) (k) 3 (k + 4)) 20 c.toNat c.toNat) (k) 4 (k + 5))).1.1 = E.1.1 + 5 := rfl; omega)]
    show ((od_nE (od_pE (od_nE (od_pE (od_nE (od_pE (od_nE (od_pE (od_nE E 20 c.toNat c.toNat) (k) 0 (k + 1)) 20 c.toNat c.toNat) (k) 1 (k + 2)) 20 c.toNat c.toNat) (k) 2 (k + 3)) 20 c.toNat c.toNat) (k) 3 (k + 4)) 20 c.toNat c.toNat)).2.1 (k + 3) = _
    rw [od_nE_o (by have z : ((od_pE (od_nE (od_pE (od_nE (od_pE (od_nE (od_pE (od_nE E 20 c.toNat c.toNat) (k) 0 (k + 1)) 20 c.toNat c.toNat) (k) 1 (k + 2)) 20 c.toNat c.toNat) (k) 2 (k + 3)) 20 c.toNat c.toNat) (k) 3 (k + 4))).1.1 = E.1.1 + 4 := rfl; omega)]
    show ((od_nE (od_pE (od_nE (od_pE (od_nE (od_pE (od_nE E 20 c.toNat c.toNat) (k) 0 (k + 1)) 20 c.toNat c.toNat) (k) 1 (k + 2)) 20 c.toNat c.toNat) (k) 2 (k + 3)) 20 c.toNat c.toNat)).2.1 (k + 3) = _
    rw [od_nE_o (by have z : ((od_pE (od_nE (od_pE (od_nE (od_pE (od_nE E 20 c.toNat c.toNat) (k) 0 (k + 1)) 20 c.toNat c.toNat) (k) 1 (k + 2)) 20 c.toNat c.toNat) (k) 2 (k + 3))).1.1 = E.1.1 + 3 := rfl; omega)]
    show ((od_nE (od_pE (od_nE (od_pE (od_nE E 20 c.toNat c.toNat) (k) 0 (k + 1)) 20 c.toNat c.toNat) (k) 1 (k + 2)) 20 c.toNat c.toNat)).2.1 (k + 3) = _
    rw [od_nE_k (by have z : ((od_pE (od_nE (od_pE (od_nE E 20 c.toNat c.toNat) (k) 0 (k + 1)) 20 c.toNat c.toNat) (k) 1 (k + 2))).1.1 = E.1.1 + 2 := rfl; omega)]
  · unfold nX9
    show ((od_nE (od_pE (od_nE (od_pE (od_nE (od_pE (od_nE (od_pE (od_nE (od_pE (od_nE E 20 c.toNat c.toNat) (k) 0 (k + 1)) 20 c.toNat c.toNat) (k) 1 (k + 2)) 20 c.toNat c.toNat) (k) 2 (k + 3)) 20 c.toNat c.toNat) (k) 3 (k + 4)) 20 c.toNat c.toNat) (k) 4 (k + 5)) 20 s.toNat s.toNat)).2.1 (k + 4) = _
    rw [od_nE_o (by have z : ((od_pE (od_nE (od_pE (od_nE (od_pE (od_nE (od_pE (od_nE (od_pE (od_nE E 20 c.toNat c.toNat) (k) 0 (k + 1)) 20 c.toNat c.toNat) (k) 1 (k + 2)) 20 c.toNat c.toNat) (k) 2 (k + 3)) 20 c.toNat c.toNat) (k) 3 (k + 4)) 20 c.toNat c.toNat) (k) 4 (k + 5))).1.1 = E.1.1 + 5 := rfl; omega)]
    show ((od_nE (od_pE (od_nE (od_pE (od_nE (od_pE (od_nE (od_pE (od_nE E 20 c.toNat c.toNat) (k) 0 (k + 1)) 20 c.toNat c.toNat) (k) 1 (k + 2)) 20 c.toNat c.toNat) (k) 2 (k + 3)) 20 c.toNat c.toNat) (k) 3 (k + 4)) 20 c.toNat c.toNat)).2.1 (k + 4) = _
    rw [od_nE_o (by have z : ((od_pE (od_nE (od_pE (od_nE (od_pE (od_nE (od_pE (od_nE E 20 c.toNat c.toNat) (k) 0 (k + 1)) 20 c.toNat c.toNat) (k) 1 (k + 2)) 20 c.toNat c.toNat) (k) 2 (k + 3)) 20 c.toNat c.toNat) (k) 3 (k + 4))).1.1 = E.1.1 + 4 := rfl; omega)]
    show ((od_nE (od_pE (od_nE (od_pE (od_nE (od_pE (od_nE E 20 c.toNat c.toNat) (k) 0 (k + 1)) 20 c.toNat c.toNat) (k) 1 (k + 2)) 20 c.toNat c.toNat) (k) 2 (k + 3)) 20 c.toNat c.toNat)).2.1 (k + 4) = _
    rw [od_nE_k (by have z : ((od_pE (od_nE (od_pE (od_nE (od_pE (od_nE E 20 c.toNat c.toNat) (k) 0 (k + 1)) 20 c.toNat c.toNat) (k) 1 (k + 2)) 20 c.toNat c.toNat) (k) 2 (k + 3))).1.1 = E.1.1 + 3 := rfl; omega)]
  · unfold nX9
    show ((od_nE (od_pE (od_nE (od_pE (od_nE (od_pE (od_nE (od_pE (od_nE (od_pE (od_nE E 20 c.toNat c.toNat) (k) 0 (k + 1)) 20 c.toNat c.toNat) (k) 1 (k + 2)) 20 c.toNat c.toNat) (k) 2 (k + 3)) 20 c.toNat c.toNat) (k) 3 (k + 4)) 20 c.toNat c.toNat) (k) 4 (k + 5)) 20 s.toNat s.toNat)).2.1 (k + 5) = _
    rw [od_nE_o (by have z : ((od_pE (od_nE (od_pE (od_nE (od_pE (od_nE (od_pE (od_nE (od_pE (od_nE E 20 c.toNat c.toNat) (k) 0 (k + 1)) 20 c.toNat c.toNat) (k) 1 (k + 2)) 20 c.toNat c.toNat) (k) 2 (k + 3)) 20 c.toNat c.toNat) (k) 3 (k + 4)) 20 c.toNat c.toNat) (k) 4 (k + 5))).1.1 = E.1.1 + 5 := rfl; omega)]
    show ((od_nE (od_pE (od_nE (od_pE (od_nE (od_pE (od_nE (od_pE (od_nE E 20 c.toNat c.toNat) (k) 0 (k + 1)) 20 c.toNat c.toNat) (k) 1 (k + 2)) 20 c.toNat c.toNat) (k) 2 (k + 3)) 20 c.toNat c.toNat) (k) 3 (k + 4)) 20 c.toNat c.toNat)).2.1 (k + 5) = _
    rw [od_nE_k (by have z : ((od_pE (od_nE (od_pE (od_nE (od_pE (od_nE (od_pE (od_nE E 20 c.toNat c.toNat) (k) 0 (k + 1)) 20 c.toNat c.toNat) (k) 1 (k + 2)) 20 c.toNat c.toNat) (k) 2 (k + 3)) 20 c.toNat c.toNat) (k) 3 (k + 4))).1.1 = E.1.1 + 4 := rfl; omega)]
  · unfold nX9
    show ((od_nE (od_pE (od_nE (od_pE (od_nE (od_pE (od_nE (od_pE (od_nE (od_pE (od_nE E 20 c.toNat c.toNat) (k) 0 (k + 1)) 20 c.toNat c.toNat) (k) 1 (k + 2)) 20 c.toNat c.toNat) (k) 2 (k + 3)) 20 c.toNat c.toNat) (k) 3 (k + 4)) 20 c.toNat c.toNat) (k) 4 (k + 5)) 20 s.toNat s.toNat)).2.1 (k + 6) = _
    rw [od_nE_k (by have z : ((od_pE (od_nE (od_pE (od_nE (od_pE (od_nE (od_pE (od_nE (od_pE (od_nE E 20 c.toNat c.toNat) (k) 0 (k + 1)) 20 c.toNat c.toNat) (k) 1 (k + 2)) 20 c.toNat c.toNat) (k) 2 (k + 3)) 20 c.toNat c.toNat) (k) 3 (k + 4)) 20 c.toNat c.toNat) (k) 4 (k + 5))).1.1 = E.1.1 + 5 := rfl; omega)]
def CpQ (g g' : od_G) (t b : Int) : Prop := od_fr (fun x _ => b ≤ x) g g' ∧ g' b 6 = g t 6 ∧ g' b 7 = g t 7 ∧ (∀ j : Int, 0 ≤ j → j < g t 6 → g' (b + 1) j = g (t + 1) j ∧ g' (b + 2) j = g (t + 2) j ∧ g' (b + 3) j = g (t + 3) j ∧ g' (b + 4) j = g (t + 4) j ∧ g' (b + 5) j = g (t + 5) j) ∧ ∀ j : Int, 0 ≤ j → j < g t 7 → g' (b + 6) j = g (t + 6) j
def CpA (g gw : od_G) (t b i : Int) : Prop := ∀ j : Int, 0 ≤ j → j < i → gw (b + 1) j = g (t + 1) j ∧ gw (b + 2) j = g (t + 2) j ∧ gw (b + 3) j = g (t + 3) j ∧ gw (b + 4) j = g (t + 4) j ∧ gw (b + 5) j = g (t + 5) j
set_option maxRecDepth 10000 in
theorem lp_X9_cpA {E : od_E} {E0 : od_E} {g : od_G} {Q : Option od_V → od_G → Prop} {t b : Int} (ht : TxAt E t 12 512) (hT : TxAt E b (g t 6).toNat (g t 7).toNat) (htb : t + 7 ≤ b) (h6 : 0 ≤ g t 6 ∧ g t 6 ≤ 12) (h7 : 0 ≤ g t 7 ∧ g t 7 ≤ 512) (hx : ∀ gw : od_G, od_fr (fun x _ => b ≤ x) g gw → CpA g gw t b (g t 6) → od_Rq 4 mX9_copied od_Z0 E0 (E, Q) 101 [some (2, t), some (2, b), some (0, g t 6)] [] E gw) : ∀ (m : Nat) (i : Int) (gw : od_G), (0 ≤ i ∧ i ≤ g t 6 ∧ od_fr (fun x _ => b ≤ x) g gw ∧ CpA g gw t b i) → ((g t 6 - i).toNat) < m → od_Rq 4 mX9_copied od_Z0 E0 (E, Q) 18 [some (2, t), some (2, b), some (0, i)] [] E gw := by
  obtain ⟨hkt, x0, x1, x2, x3, x4, x5, y1, y2, y3, y4, y5, y6, hc6, hs6⟩ := ht
  obtain ⟨hkb, bx0, bx1, bx2, bx3, bx4, bx5, by1, by2, by3, by4, by5, by6, bc6, bs6⟩ := hT
  intro m
  induction m with
  | zero => intro i gw hi hM; exact absurd hM (Nat.not_lt_zero _)
  | succ m ih =>
    intro i gw hi hM
    obtain ⟨hi0, hi1, hfr, hj⟩ := hi
    have er : ∀ r y : Int, 0 ≤ r → r < 7 → gw (t + r) y = g (t + r) y := fun r y r0 r1 => hfr _ _ (by omega)
    have et : gw t = g t := hfr.row (fun y => by omega)
    refine r_iload_n dX9_copied_18 rfl ?_
    refine r_aload_n dX9_copied_19 rfl ?_
    refine r_getIj (j := 6) rfl dX9_copied_20 fkX9_9 gf9_6 (by assumption) (by first | rfl) ?_
    rw [et]
    refine r_icmp_ge (tgt := 101) dX9_copied_23 rfl (fun c23 => ?_) (fun c23 => ?_)
    · have hi9 : i = g t 6 := by omega
      rw [hi9] at hj ⊢
      exact hx gw hfr hj
    · refine r_iload_n dX9_copied_26 rfl ?_
      refine r_aload_n dX9_copied_27 rfl ?_
      refine r_getR dX9_copied_28 fkX9_24 gf9_0 (by assumption) (by assumption) ?_
      first | refine r_len_i dX9_copied_31 (by assumption) (by first | decide | omega) ?_ | refine r_len_b dX9_copied_31 (by assumption) (by first | decide | omega) ?_ | refine r_len_z dX9_copied_31 (by assumption) (by first | decide | omega) ?_ | refine r_len_l dX9_copied_31 (by assumption) (by first | decide | omega) ?_
      refine r_icmp_ge (tgt := 101) dX9_copied_32 rfl (fun c32 => ?_) (fun c32 => ?_)
      · have hi9 : i = g t 6 := by omega
        rw [hi9] at hj ⊢
        exact hx gw hfr hj
      · refine r_aload_n dX9_copied_35 rfl ?_
        refine r_getR dX9_copied_36 fkX9_24 gf9_0 (by assumption) (by assumption) ?_
        refine r_iload_n dX9_copied_39 rfl ?_
        refine r_aload_n dX9_copied_40 rfl ?_
        refine r_getR dX9_copied_41 fkX9_24 gf9_0 (by assumption) (by assumption) ?_
        refine r_iload_n dX9_copied_44 rfl ?_
        refine r_iald dX9_copied_45 (by assumption) (by omega) (by first | rfl) ?_
        refine r_iast dX9_copied_46 (by assumption) (by omega) ?_
        refine r_aload_n dX9_copied_47 rfl ?_
        refine r_getR dX9_copied_48 fkX9_28 gf9_1 (by assumption) (by assumption) ?_
        refine r_iload_n dX9_copied_51 rfl ?_
        refine r_aload_n dX9_copied_52 rfl ?_
        refine r_getR dX9_copied_53 fkX9_28 gf9_1 (by assumption) (by assumption) ?_
        refine r_iload_n dX9_copied_56 rfl ?_
        refine r_iald dX9_copied_57 (by assumption) (by omega) (by first | rfl) ?_
        refine r_iast dX9_copied_58 (by assumption) (by omega) ?_
        refine r_aload_n dX9_copied_59 rfl ?_
        refine r_getR dX9_copied_60 fkX9_31 gf9_2 (by assumption) (by assumption) ?_
        refine r_iload_n dX9_copied_63 rfl ?_
        refine r_aload_n dX9_copied_64 rfl ?_
        refine r_getR dX9_copied_65 fkX9_31 gf9_2 (by assumption) (by assumption) ?_
        refine r_iload_n dX9_copied_68 rfl ?_
        refine r_iald dX9_copied_69 (by assumption) (by omega) (by first | rfl) ?_
        refine r_iast dX9_copied_70 (by assumption) (by omega) ?_
        refine r_aload_n dX9_copied_71 rfl ?_
        refine r_getR dX9_copied_72 fkX9_34 gf9_3 (by assumption) (by assumption) ?_
        refine r_iload_n dX9_copied_75 rfl ?_
        refine r_aload_n dX9_copied_76 rfl ?_
        refine r_getR dX9_copied_77 fkX9_34 gf9_3 (by assumption) (by assumption) ?_
        refine r_iload_n dX9_copied_80 rfl ?_
        refine r_iald dX9_copied_81 (by assumption) (by omega) (by first | rfl) ?_
        refine r_iast dX9_copied_82 (by assumption) (by omega) ?_
        refine r_aload_n dX9_copied_83 rfl ?_
        refine r_getR dX9_copied_84 fkX9_37 gf9_4 (by assumption) (by assumption) ?_
        refine r_iload_n dX9_copied_87 rfl ?_
        refine r_aload_n dX9_copied_88 rfl ?_
        refine r_getR dX9_copied_89 fkX9_37 gf9_4 (by assumption) (by assumption) ?_
        refine r_iload_n dX9_copied_92 rfl ?_
        refine r_iald dX9_copied_93 (by assumption) (by omega) (by first | rfl) ?_
        refine r_iast dX9_copied_94 (by assumption) (by omega) ?_
        refine r_iincE dX9_copied_95 rfl (by decide) (by first | exact od_w0 (by omega) (by omega) | exact od_wI (by omega) (by omega) | rfl) rfl ?_
        refine r_goto (tgt := 18) dX9_copied_98 rfl ?_
        refine ih _ _ ⟨by omega, by omega, ((((hfr.up (by omega)).up (by omega)).up (by omega)).up (by omega)).up (by omega), fun j h0 h1 => ?_⟩ (by omega)
        by_cases cj : j = i
        · subst cj
          refine ⟨?_, ?_, ?_, ?_, ?_⟩
          · (repeat rw [od_upn (by omega)])
            rw [od_up_i]
            exact er 1 j (by omega) (by omega)
          · (repeat rw [od_upn (by omega)])
            rw [od_up_i, od_upn (by omega)]
            exact er 2 j (by omega) (by omega)
          · (repeat rw [od_upn (by omega)])
            rw [od_up_i, od_upn (by omega), od_upn (by omega)]
            exact er 3 j (by omega) (by omega)
          · (repeat rw [od_upn (by omega)])
            rw [od_up_i, od_upn (by omega), od_upn (by omega), od_upn (by omega)]
            exact er 4 j (by omega) (by omega)
          · rw [od_up_i, od_upn (by omega), od_upn (by omega), od_upn (by omega), od_upn (by omega)]
            exact er 5 j (by omega) (by omega)
        · have q := hj j h0 (by omega)
          refine ⟨?_, ?_, ?_, ?_, ?_⟩
          · (repeat (first | rw [od_upn (by omega)] | rw [od_up_j (by omega)]))
            exact q.1
          · (repeat (first | rw [od_upn (by omega)] | rw [od_up_j (by omega)]))
            exact q.2.1
          · (repeat (first | rw [od_upn (by omega)] | rw [od_up_j (by omega)]))
            exact q.2.2.1
          · (repeat (first | rw [od_upn (by omega)] | rw [od_up_j (by omega)]))
            exact q.2.2.2.1
          · (repeat (first | rw [od_upn (by omega)] | rw [od_up_j (by omega)]))
            exact q.2.2.2.2
set_option maxRecDepth 10000 in
theorem lp_X9_cpB {E : od_E} {E0 : od_E} {g : od_G} {Q : Option od_V → od_G → Prop} {t b : Int} (ht : TxAt E t 12 512) (hT : TxAt E b (g t 6).toNat (g t 7).toNat) (htb : t + 7 ≤ b) (h6 : 0 ≤ g t 6 ∧ g t 6 ≤ 12) (h7 : 0 ≤ g t 7 ∧ g t 7 ≤ 512) (hx : ∀ gw : od_G, od_fr (fun x _ => b ≤ x) g gw → CpA g gw t b (g t 6) → (∀ j : Int, 0 ≤ j → j < g t 7 → gw (b + 6) j = g (t + 6) j) → od_Rq 4 mX9_copied od_Z0 E0 (E, Q) 138 [some (2, t), some (2, b), some (0, g t 7)] [] E gw) : ∀ (m : Nat) (i : Int) (gw : od_G), (0 ≤ i ∧ i ≤ g t 7 ∧ od_fr (fun x _ => b ≤ x) g gw ∧ CpA g gw t b (g t 6) ∧ ∀ j : Int, 0 ≤ j → j < i → gw (b + 6) j = g (t + 6) j) → ((g t 7 - i).toNat) < m → od_Rq 4 mX9_copied od_Z0 E0 (E, Q) 103 [some (2, t), some (2, b), some (0, i)] [] E gw := by
  obtain ⟨hkt, x0, x1, x2, x3, x4, x5, y1, y2, y3, y4, y5, y6, hc6, hs6⟩ := ht
  obtain ⟨hkb, bx0, bx1, bx2, bx3, bx4, bx5, by1, by2, by3, by4, by5, by6, bc6, bs6⟩ := hT
  intro m
  induction m with
  | zero => intro i gw hi hM; exact absurd hM (Nat.not_lt_zero _)
  | succ m ih =>
    intro i gw hi hM
    obtain ⟨hi0, hi1, hfr, hA, hj⟩ := hi
    have er : ∀ r y : Int, 0 ≤ r → r < 7 → gw (t + r) y = g (t + r) y := fun r y r0 r1 => hfr _ _ (by omega)
    have et : gw t = g t := hfr.row (fun y => by omega)
    refine r_iload_n dX9_copied_103 rfl ?_
    refine r_aload_n dX9_copied_104 rfl ?_
    refine r_getIj (j := 7) rfl dX9_copied_105 fkX9_15 gf9_7 (by assumption) (by first | rfl) ?_
    rw [et]
    refine r_icmp_ge (tgt := 138) dX9_copied_108 rfl (fun c108 => ?_) (fun c108 => ?_)
    · have hi9 : i = g t 7 := by omega
      rw [hi9] at hj ⊢
      exact hx gw hfr hA hj
    · refine r_iload_n dX9_copied_111 rfl ?_
      refine r_aload_n dX9_copied_112 rfl ?_
      refine r_getR dX9_copied_113 fkX9_40 gf9_5 (by assumption) (by assumption) ?_
      first | refine r_len_i dX9_copied_116 (by assumption) (by first | decide | omega) ?_ | refine r_len_b dX9_copied_116 (by assumption) (by first | decide | omega) ?_ | refine r_len_z dX9_copied_116 (by assumption) (by first | decide | omega) ?_ | refine r_len_l dX9_copied_116 (by assumption) (by first | decide | omega) ?_
      refine r_icmp_ge (tgt := 138) dX9_copied_117 rfl (fun c117 => ?_) (fun c117 => ?_)
      · have hi9 : i = g t 7 := by omega
        rw [hi9] at hj ⊢
        exact hx gw hfr hA hj
      · refine r_aload_n dX9_copied_120 rfl ?_
        refine r_getR dX9_copied_121 fkX9_40 gf9_5 (by assumption) (by assumption) ?_
        refine r_iload_n dX9_copied_124 rfl ?_
        refine r_aload_n dX9_copied_125 rfl ?_
        refine r_getR dX9_copied_126 fkX9_40 gf9_5 (by assumption) (by assumption) ?_
        refine r_iload_n dX9_copied_129 rfl ?_
        refine r_iald dX9_copied_130 (by assumption) (by omega) (by first | rfl) ?_
        refine r_iast dX9_copied_131 (by assumption) (by omega) ?_
        refine r_iincE dX9_copied_132 rfl (by decide) (by first | exact od_w0 (by omega) (by omega) | exact od_wI (by omega) (by omega) | rfl) rfl ?_
        refine r_goto (tgt := 103) dX9_copied_135 rfl ?_
        refine ih _ _ ⟨by omega, by omega, hfr.up (by omega), fun j h0 h1 => ?_, fun j h0 h1 => ?_⟩ (by omega)
        · rw [od_upn (by omega), od_upn (by omega), od_upn (by omega), od_upn (by omega), od_upn (by omega)]
          exact hA j h0 h1
        · rw [od_up_at]
          by_cases cj : j = i
          · rw [if_pos cj, cj]
            exact er 6 i (by omega) (by omega)
          · rw [if_neg cj]
            exact hj j h0 (by omega)
theorem od_up_j2 {g : od_G} {a j x i : Int} (h : i ≠ j) : od_up g a j x a i = g a i := od_up_j h
theorem od_nG_o {g : od_G} {n x a j : Int} (h : a ≠ n) : od_nG g n x a j = g a j := if_neg h
set_option maxRecDepth 20000 in
theorem c_X9_copied {E : od_E} {g : od_G} {t b : Int} (ht : TxAt E t 12 512) (hb : (E.1.1 : Int) = b) (htb : t + 7 ≤ b) (h6 : 0 ≤ g t 6 ∧ g t 6 ≤ 12) (h7 : 0 ≤ g t 7 ∧ g t 7 ≤ 512) : od_Cq 4 mX9_copied [(2, t)] E g (nX9 (od_nE E 9 0 8) b (g t 6) (g t 7), fun v g' => v = some (2, b) ∧ CpQ g g' t b) := by
  have hx := nX9_c (od_nE E 9 0 8) b (g t 6) (g t 7)
  have hr1 : (nX9 (od_nE E 9 0 8) b (g t 6) (g t 7)).1.1 = E.1.1 + 7 := congrArg Prod.fst hx
  have hr2 : (nX9 (od_nE E 9 0 8) b (g t 6) (g t 7)).1.2 = E.1.2 + 8 + (0 + (g t 6).toNat + (g t 6).toNat + (g t 6).toNat + (g t 6).toNat + (g t 6).toNat + (g t 7).toNat) := congrArg Prod.snd hx
  have hk0 := ht.1
  refine od_cqI pnX9 rfl (Nat.le_of_ble_eq_true rfl) ⟨by show _ ≤ (nX9 (od_nE E 9 0 8) b (g t 6) (g t 7)).1.1; omega, by show _ ≤ (nX9 (od_nE E 9 0 8) b (g t 6) (g t 7)).1.2; omega⟩ ?_
  show od_Rq 4 mX9_copied od_Z0 E (nX9 (od_nE E 9 0 8) b (g t 6) (g t 7), fun v g' => v = some (2, b) ∧ CpQ g g' t b) 0 [some (2, t), none, none] [] E g
  refine r_newCb (b := b) (c := 9) (N := 8) dX9_copied_0 clX9_10 nwX9 inX9 (by decide) rfl hb (od_leN (by show _ ≤ (nX9 (od_nE E 9 0 8) b (g t 6) (g t 7)).1.1; omega) (by show _ ≤ (nX9 (od_nE E 9 0 8) b (g t 6) (g t 7)).1.2; omega)) (fun E1 hE1 => ?_)
  have cc1 : E1.1.1 = E.1.1 + 1 := by rw [hE1]; rfl
  have t1_b : (E1.2.1 b).1 = 9 := by rw [hE1, od_nE_k (by omega)]
  have t1_t : (E1.2.1 t).1 = 9 := by rw [hE1, od_nE_o (by omega)]; exact hk0
  refine r_dup dX9_copied_3 (by first | exact od_ne2 | exact od_ne0) ?_
  refine r_aload_n dX9_copied_4 rfl ?_
  refine r_getIj (j := 6) rfl dX9_copied_5 fkX9_9 gf9_6 t1_t (od_nG_o (by omega)) ?_
  refine r_aload_n dX9_copied_8 rfl ?_
  refine r_getIj (j := 7) rfl dX9_copied_9 fkX9_15 gf9_7 t1_t (od_nG_o (by omega)) ?_
  obtain ⟨E2, hE2⟩ : ∃ z, z = nX9 E1 b (g t 6) (g t 7) := ⟨_, rfl⟩
  refine r_callI2v dX9_copied_12 ciX9_43 (by rw [t1_b]; decide) (c_X9_init t1_b (by omega) (by omega) (by omega) (by omega)) (by decide) (Nat.le_of_ble_eq_true rfl) ?_ ?_
  · rw [hE1]; exact od_le.rf
  rw [← hE2]
  obtain ⟨gz, hgz⟩ : ∃ z, z = gX9 (od_nG g b 0) b := ⟨_, rfl⟩
  rw [← hgz]
  have hfz : od_fr (fun x _ => b ≤ x) g gz := by
    rw [hgz]
    intro x y hx
    have hx2 : ¬ b ≤ x := hx
    simp only [gX9, od_nG, od_up]
    repeat rw [if_neg (by omega)]
  have e6 : gz t 6 = g t 6 := hfz _ _ (by omega)
  have e7 : gz t 7 = g t 7 := hfz _ _ (by omega)
  have hE2' : E2 = nX9 (od_nE E 9 0 8) b (g t 6) (g t 7) := by rw [hE2, hE1]
  rw [← hE2']
  refine r_astore_n dX9_copied_15 (by decide) rfl ?_
  refine r_iconst dX9_copied_16 li_0 ?_
  refine r_istore_n dX9_copied_17 (by decide) rfl ?_
  have ht2 : TxAt E2 t 12 512 := by
    have k0 : ∀ a : Int, a < b → E2.2.1 a = E.2.1 a := fun a ha => by rw [hE2, nX9_k (by omega) (by omega), hE1, od_nE_o (by omega)]
    have r0 : ∀ (a : Int) (j : Nat), a < b → E2.2.2 a j = E.2.2 a j := fun a j ha => by rw [hE2, nX9_r (by omega) (by omega) (by omega), hE1, od_nE_r (by omega)]
    obtain ⟨hkt, x0, x1, x2, x3, x4, x5, y1, y2, y3, y4, y5, y6, hc6, hs6⟩ := ht
    exact ⟨by rw [k0 _ (by omega)]; exact hkt, by rw [r0 _ _ (by omega)]; exact x0, by rw [r0 _ _ (by omega)]; exact x1, by rw [r0 _ _ (by omega)]; exact x2, by rw [r0 _ _ (by omega)]; exact x3, by rw [r0 _ _ (by omega)]; exact x4, by rw [r0 _ _ (by omega)]; exact x5, by rw [k0 _ (by omega)]; exact y1, by rw [k0 _ (by omega)]; exact y2, by rw [k0 _ (by omega)]; exact y3, by rw [k0 _ (by omega)]; exact y4, by rw [k0 _ (by omega)]; exact y5, by rw [k0 _ (by omega)]; exact y6, hc6, hs6⟩
  have hT2 : TxAt E2 b (gz t 6).toNat (gz t 7).toNat := by
    rw [e6, e7, hE2]
    exact nX9_at t1_b (by omega) (by omega) (by omega)
  rw [← e6] at h6
  rw [← e7] at h7
  refine lp_X9_cpA (g := gz) ht2 hT2 htb h6 h7 (fun ga fa hA => ?_) _ 0 _ ⟨by omega, by omega, od_fr.rf, fun j h0 h1 => by omega⟩ (Nat.lt_succ_self _)
  refine r_iconst dX9_copied_101 li_0 ?_
  refine r_istore_n dX9_copied_102 (by decide) rfl ?_
  refine lp_X9_cpB (g := gz) ht2 hT2 htb h6 h7 (fun gb fz2 hAz hBz => ?_) _ 0 _ ⟨by omega, by omega, fa, hA, fun j h0 h1 => by omega⟩ (Nat.lt_succ_self _)
  obtain ⟨hkt, x0, x1, x2, x3, x4, x5, y1, y2, y3, y4, y5, y6, hc6, hs6⟩ := ht2
  have hkb := hT2.1
  have e6b : gb t 6 = gz t 6 := fz2 _ _ (by omega)
  have e7b : gb t 7 = gz t 7 := fz2 _ _ (by omega)
  refine r_aload_n dX9_copied_138 rfl ?_
  refine r_aload_n dX9_copied_139 rfl ?_
  refine r_getIj (j := 6) rfl dX9_copied_140 fkX9_9 gf9_6 (by assumption) (by first | exact od_nG_o (by omega) | rfl) ?_
  refine r_putIj (j := 6) rfl dX9_copied_143 fkX9_9 gf9_6 pf9_6 (by assumption) ?_
  refine r_aload_n dX9_copied_146 rfl ?_
  refine r_aload_n dX9_copied_147 rfl ?_
  refine r_getIj (j := 7) rfl dX9_copied_148 fkX9_15 gf9_7 (by assumption) (by first | exact od_nG_o (by omega) | rfl) ?_
  refine r_putIj (j := 7) rfl dX9_copied_151 fkX9_15 gf9_7 pf9_7 (by assumption) ?_
  refine r_aload_n dX9_copied_154 rfl ?_
  refine r_aretq dX9_copied_155 rfl (Or.inl ⟨_, rfl⟩) rfl ⟨rfl, ?_⟩
  refine ⟨?_, ?_, ?_, fun j h0 h1 => ?_, fun j h0 h1 => ?_⟩
  · exact ((hfz.tr fz2).up (by omega)).up (by omega)
  · rw [od_up_j (by omega), od_up_i]
    exact e6b.trans e6
  · rw [od_up_i, od_upn (by omega)]
    exact e7b.trans e7
  · rw [od_upn (by omega), od_upn (by omega), od_upn (by omega), od_upn (by omega), od_upn (by omega), od_upn (by omega), od_upn (by omega), od_upn (by omega), od_upn (by omega), od_upn (by omega)]
    rw [e6] at hAz
    have q := hAz j h0 h1
    rw [hfz _ _ (by omega), hfz _ _ (by omega), hfz _ _ (by omega), hfz _ _ (by omega), hfz _ _ (by omega)] at q
    exact q
  · rw [od_upn (by omega), od_upn (by omega)]
    have q := hBz j h0 (by rw [e7]; exact h1)
    rw [hfz _ _ (by omega)] at q
    exact q
