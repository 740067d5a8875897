/-! the two states side by side, and what a state keeps to -/
def toM (S : XS) : MS := (xso S, xlo S, xhi S, fun k => if xwh S k = -1 then 0 else 1, fun k => if xwh S k = -1 then 0 else xwh S k, xas S, xbs S, xts S, xst S, xrf S, xet S, xsd S)
/-- a number of sort t, as it is held -/
def nOk (t : Int32) (v : Int64) : Prop := (t = 0 ∨ t = 2 → v.toInt32.toInt64 = v) ∧ (t = 2 ∨ t = 3 → ¬ nInf t < nMag t v)
def slotOk (t : Int32) (u v : Int64) : Prop := t = -1 ∨ (zSort t ∧ nOk t u ∧ nOk t v)
def Inv (S : XS) : Prop := (∀ i : Nat, slotOk (xso S i) (xlo S i) (xhi S i) ∨ 16 ≤ i) ∧ ∀ k : Nat, xwh S k = -1 ∨ (¬ xwh S k < 0 ∧ ¬ 7 < xwh S k) ∨ 12 ≤ k
theorem ag_set (i t : Int32) (u v : Int64) (S : XS) (h : Inv S) : mSet i t u v (toM S) = ((xN (xPlaced i t u v S)).1, toM (xN (xPlaced i t u v S)).2) ∧ Inv (xN (xPlaced i t u v S)).2 := sorry
theorem ag_clear (i : Int32) (S : XS) (h : Inv S) : mClear i (toM S) = ((xClear i S).1, toM (xClear i S).2) ∧ Inv (xClear i S).2 := sorry
theorem ag_sort (i : Int32) (S : XS) (h : Inv S) : mSort i (toM S) = ((xSort i S).1, toM (xSort i S).2) ∧ Inv (xSort i S).2 := sorry
theorem ag_low (i : Int32) (S : XS) (h : Inv S) : mEnd i 0 (toM S) = ((xLow i S).1, toM (xLow i S).2) ∧ Inv (xLow i S).2 := sorry
theorem ag_high (i : Int32) (S : XS) (h : Inv S) : mEnd i 1 (toM S) = ((xHigh i S).1, toM (xHigh i S).2) ∧ Inv (xHigh i S).2 := sorry
theorem ag_hull (a b to : Int32) (S : XS) (h : Inv S) : mHull a b to (toM S) = ((xN (xPerf 0 a b to S)).1, toM (xN (xPerf 0 a b to S)).2) ∧ Inv (xN (xPerf 0 a b to S)).2 := sorry
theorem ag_meet (a b to : Int32) (S : XS) (h : Inv S) : mMeet a b to (toM S) = ((xN (xPerf 1 a b to S)).1, toM (xN (xPerf 1 a b to S)).2) ∧ Inv (xN (xPerf 1 a b to S)).2 := sorry
theorem ag_size (a to : Int32) (S : XS) (h : Inv S) : mSize a to (toM S) = ((xN (xPerf 2 a 0 to S)).1, toM (xN (xPerf 2 a 0 to S)).2) ∧ Inv (xN (xPerf 2 a 0 to S)).2 := sorry
theorem ag_round (a b to : Int32) (S : XS) (h : Inv S) : mRound a b to (toM S) = ((xN (xPerf 3 a b to S)).1, toM (xN (xPerf 3 a b to S)).2) ∧ Inv (xN (xPerf 3 a b to S)).2 := sorry
theorem ag_sign (a to : Int32) (S : XS) (h : Inv S) : mSign a to (toM S) = ((xN (xPerf 4 a 0 to S)).1, toM (xN (xPerf 4 a 0 to S)).2) ∧ Inv (xN (xPerf 4 a 0 to S)).2 := sorry
theorem ag_lend (a b to : Int32) (S : XS) (h : Inv S) : mLend a b to (toM S) = ((xN (xPerf 5 a b to S)).1, toM (xN (xPerf 5 a b to S)).2) ∧ Inv (xN (xPerf 5 a b to S)).2 := sorry
theorem ag_turn (a to : Int32) (S : XS) (h : Inv S) : mTurn a to (toM S) = ((xN (xPerf 6 a 0 to S)).1, toM (xN (xPerf 6 a 0 to S)).2) ∧ Inv (xN (xPerf 6 a 0 to S)).2 := sorry
theorem ag_as (a b to : Int32) (S : XS) (h : Inv S) : mAs a b to (toM S) = ((xN (xPerf 7 a b to S)).1, toM (xN (xPerf 7 a b to S)).2) ∧ Inv (xN (xPerf 7 a b to S)).2 := sorry
theorem ag_near (i : Int32) (v : Int64) (S : XS) (h : Inv S) : mNear i v (toM S) = ((xNear i v S).1, toM (xNear i v S).2) ∧ Inv (xNear i v S).2 := sorry
theorem ag_has (i : Int32) (v : Int64) (S : XS) (h : Inv S) : mHas i v (toM S) = ((xHas i v S).1, toM (xHas i v S).2) ∧ Inv (xHas i v S).2 := sorry
theorem ag_alike (a b : Int32) (S : XS) (h : Inv S) : mAlike a b (toM S) = ((xAlike a b S).1, toM (xAlike a b S).2) ∧ Inv (xAlike a b S).2 := sorry
theorem ag_step (k w a b to : Int32) (S : XS) (h : Inv S) : mStep k w a b to (toM S) = ((xStep k w a b to S).1, toM (xStep k w a b to S).2) ∧ Inv (xStep k w a b to S).2 := sorry
theorem ag_run (k n : Int32) (S : XS) (h : Inv S) : mRun k n (toM S) = ((xRun k n S).1, toM (xRun k n S).2) ∧ Inv (xRun k n S).2 := sorry
theorem ag_state (S : XS) : mst (toM S) = xst S := rfl
theorem ag_about (w : Int32) (S : XS) : mAbout w (toM S) = xAbout w S := sorry
theorem fine_as {a t to : Int32} {S : XS} (h : Inv S) : zSl a → ¬ mWhy a a to (toM S) < 0 → zSort (ixI (mso (toM S)) a) ∧ kFine (ixI (mso (toM S)) a) t (ixL (mlo (toM S)) a) ∧ kFine (ixI (mso (toM S)) a) t (ixL (mhi (toM S)) a) := sorry
theorem inv_calm {S : XS} (h : Inv S) : Inv (xCalm S) := h
theorem run_ask : ∀ (S1 : MS) (i : Nat), i < 12 → (∃ S2, Inv S2 ∧ S1 = toM S2) → ¬ mth S1 i = 0 → mAsk (nI i) S1 := sorry
theorem run_nx : ∀ (S1 : MS) (i : Nat), i < 12 → (∃ S2, Inv S2 ∧ S1 = toM S2) → ¬ mth S1 i = 0 → ∃ S2, Inv S2 ∧ mDone (mDoes (nI i) S1).2 = toM S2 := sorry
theorem inv_init : Inv xInit := sorry
theorem toM_init : toM xInit = mInit := sorry
