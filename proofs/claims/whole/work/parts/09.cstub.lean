/-! the two states side by side, and what a state keeps to -/
def toM (S : XS) : MS := (xso S, xlo S, xhi S, fun k => if xwh S k = -1 ∨ 12 ≤ k then 0 else 1, fun k => if xwh S k = -1 ∨ 12 ≤ k then 0 else xwh S k, xas S, xbs S, xts S, xst S, xrf S, xet S, xsd S)
/-- a number of sort t, as it is held -/
def nOk (t : Int32) (v : Int64) : Prop := (t = 0 ∨ t = 2 → v.toInt32.toInt64 = v) ∧ (t = 2 ∨ t = 3 → ¬ nInf t < nMag t v)
def slotOk (t : Int32) (u v : Int64) : Prop := t = -1 ∨ (zSort t ∧ nOk t u ∧ nOk t v)
def Inv (S : XS) : Prop := (∀ i : Nat, slotOk (xso S i) (xlo S i) (xhi S i) ∨ 16 ≤ i) ∧ ∀ k : Nat, xwh S k = -1 ∨ (¬ xwh S k < 0 ∧ ¬ 7 < xwh S k) ∨ 12 ≤ k
