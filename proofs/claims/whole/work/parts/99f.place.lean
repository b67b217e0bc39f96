/-! where all lies -/
def OdAt (E : od_E) (o : Int) : Prop := (E.2.1 o).1 = 10 ∧ (E.2.2 o 0 = o + 1 ∧ E.2.2 o 1 = o + 10 ∧ E.2.2 o 2 = o + 19 ∧ E.2.2 o 3 = o + 28 ∧ E.2.2 o 4 = o + 47 ∧ E.2.2 o 5 = o + 48 ∧ E.2.2 o 6 = o + 54 ∧ E.2.2 o 7 = o + 60 ∧ E.2.2 o 8 = o + 62 ∧ E.2.2 o 9 = o + 70 ∧ E.2.2 o 10 = o + 74 ∧ E.2.2 o 11 = o + 75 ∧ E.2.2 o 12 = o + 77 ∧ E.2.2 o 13 = o + 84 ∧ E.2.2 o 14 = o + 85) ∧ (StAt E (o + 1) ∧ StAt E (o + 10) ∧ StAt E (o + 19) ∧ StAt E (o + 29) ∧ StAt E (o + 38)) ∧ (E.2.1 (o + 28) = (25, 2) ∧ E.2.1 (o + 47) = (22, 2) ∧ E.2.1 (o + 84) = (23, 20) ∧ E.2.1 (o + 85) = (20, 7)) ∧ (PaAt E (o + 48) ∧ PaAt E (o + 54)) ∧ (TaAt E (o + 60) ∧ ReAt E (o + 62) (o + 60) (o + 63)) ∧ AsAt E (o + 70) ∧ HaAt E (o + 74) (o + 70) ∧ RuAt E (o + 75) (o + 74) (o + 70) ∧ RoAt E (o + 77) (o + 70)
theorem oO {E : od_E} {o : Int} (h : OdAt E o) : (E.2.1 o).1 = 10 := h.1
theorem oR0 {E : od_E} {o : Int} (h : OdAt E o) : E.2.2 o 0 = o + 1 := h.2.1.1
theorem oR1 {E : od_E} {o : Int} (h : OdAt E o) : E.2.2 o 1 = o + 10 := h.2.1.2.1
theorem oR2 {E : od_E} {o : Int} (h : OdAt E o) : E.2.2 o 2 = o + 19 := h.2.1.2.2.1
theorem oR3 {E : od_E} {o : Int} (h : OdAt E o) : E.2.2 o 3 = o + 28 := h.2.1.2.2.2.1
theorem oR4 {E : od_E} {o : Int} (h : OdAt E o) : E.2.2 o 4 = o + 47 := h.2.1.2.2.2.2.1
theorem oR5 {E : od_E} {o : Int} (h : OdAt E o) : E.2.2 o 5 = o + 48 := h.2.1.2.2.2.2.2.1
theorem oR6 {E : od_E} {o : Int} (h : OdAt E o) : E.2.2 o 6 = o + 54 := h.2.1.2.2.2.2.2.2.1
theorem oR7 {E : od_E} {o : Int} (h : OdAt E o) : E.2.2 o 7 = o + 60 := h.2.1.2.2.2.2.2.2.2.1
theorem oR8 {E : od_E} {o : Int} (h : OdAt E o) : E.2.2 o 8 = o + 62 := h.2.1.2.2.2.2.2.2.2.2.1
theorem oR9 {E : od_E} {o : Int} (h : OdAt E o) : E.2.2 o 9 = o + 70 := h.2.1.2.2.2.2.2.2.2.2.2.1
theorem oR10 {E : od_E} {o : Int} (h : OdAt E o) : E.2.2 o 10 = o + 74 := h.2.1.2.2.2.2.2.2.2.2.2.2.1
theorem oR11 {E : od_E} {o : Int} (h : OdAt E o) : E.2.2 o 11 = o + 75 := h.2.1.2.2.2.2.2.2.2.2.2.2.2.1
theorem oR12 {E : od_E} {o : Int} (h : OdAt E o) : E.2.2 o 12 = o + 77 := h.2.1.2.2.2.2.2.2.2.2.2.2.2.2.1
theorem oR13 {E : od_E} {o : Int} (h : OdAt E o) : E.2.2 o 13 = o + 84 := h.2.1.2.2.2.2.2.2.2.2.2.2.2.2.2.1
theorem oR14 {E : od_E} {o : Int} (h : OdAt E o) : E.2.2 o 14 = o + 85 := h.2.1.2.2.2.2.2.2.2.2.2.2.2.2.2.2
theorem oS1 {E : od_E} {o : Int} (h : OdAt E o) : StAt E (o + 1) := h.2.2.1.1
theorem oS2 {E : od_E} {o : Int} (h : OdAt E o) : StAt E (o + 10) := h.2.2.1.2.1
theorem oS3 {E : od_E} {o : Int} (h : OdAt E o) : StAt E (o + 19) := h.2.2.1.2.2.1
theorem oS4 {E : od_E} {o : Int} (h : OdAt E o) : StAt E (o + 29) := h.2.2.1.2.2.2.1
theorem oS5 {E : od_E} {o : Int} (h : OdAt E o) : StAt E (o + 38) := h.2.2.1.2.2.2.2
theorem oIm {E : od_E} {o : Int} (h : OdAt E o) : E.2.1 (o + 28) = (25, 2) := h.2.2.2.1.1
theorem oIk {E : od_E} {o : Int} (h : OdAt E o) : E.2.1 (o + 47) = (22, 2) := h.2.2.2.1.2.1
theorem oCh {E : od_E} {o : Int} (h : OdAt E o) : E.2.1 (o + 84) = (23, 20) := h.2.2.2.1.2.2.1
theorem oRf {E : od_E} {o : Int} (h : OdAt E o) : E.2.1 (o + 85) = (20, 7) := h.2.2.2.1.2.2.2
theorem oP1 {E : od_E} {o : Int} (h : OdAt E o) : PaAt E (o + 48) := h.2.2.2.2.1.1
theorem oP2 {E : od_E} {o : Int} (h : OdAt E o) : PaAt E (o + 54) := h.2.2.2.2.1.2
theorem oTp {E : od_E} {o : Int} (h : OdAt E o) : TaAt E (o + 60) := h.2.2.2.2.2.1.1
theorem oRd {E : od_E} {o : Int} (h : OdAt E o) : ReAt E (o + 62) (o + 60) (o + 63) := h.2.2.2.2.2.1.2
theorem oAs {E : od_E} {o : Int} (h : OdAt E o) : AsAt E (o + 70) := h.2.2.2.2.2.2.1
theorem oHa {E : od_E} {o : Int} (h : OdAt E o) : HaAt E (o + 74) (o + 70) := h.2.2.2.2.2.2.2.1
theorem oRu {E : od_E} {o : Int} (h : OdAt E o) : RuAt E (o + 75) (o + 74) (o + 70) := h.2.2.2.2.2.2.2.2.1
theorem oRo {E : od_E} {o : Int} (h : OdAt E o) : RoAt E (o + 77) (o + 70) := h.2.2.2.2.2.2.2.2.2
def od_E00 : od_E := ((0, 0), fun _ => (99, 0), fun _ _ => -1)
def od_E1 : od_E := od_nE od_E00 10 0 19
def od_E2 : od_E := nX10 od_E1 0
def od_E3 : od_E := od_nE od_E2 11 0 51
def od_E4 : od_E := nX11 od_E3 86
theorem od_E2_c : od_E2.1.1 = 86 := by decide +kernel
theorem od_at : OdAt od_E4 0 := by
  unfold OdAt StAt PaAt TaAt ReAt TxAt AsAt SuAt HaAt RuAt RoAt
  unfold TaAt
  repeat' apply And.intro
  all_goals decide +kernel
theorem od_mo : MoAt od_E4 86 := by
  unfold MoAt
  repeat' apply And.intro
  all_goals decide +kernel
theorem od_E4_c : od_E4.1.1 = 110 := by decide +kernel
