/-! the calls, one by one -/
theorem ag_hull (a b to : Int32) (S : XS) (h : Inv S) : mHull a b to (toM S) = ((xN (xPerf 0 a b to S)).1, toM (xN (xPerf 0 a b to S)).2) ∧ Inv (xN (xPerf 0 a b to S)).2 := g_hull a b to S h
theorem ag_meet (a b to : Int32) (S : XS) (h : Inv S) : mMeet a b to (toM S) = ((xN (xPerf 1 a b to S)).1, toM (xN (xPerf 1 a b to S)).2) ∧ Inv (xN (xPerf 1 a b to S)).2 := g_meet a b to S h
theorem ag_size (a to : Int32) (S : XS) (h : Inv S) : mSize a to (toM S) = ((xN (xPerf 2 a 0 to S)).1, toM (xN (xPerf 2 a 0 to S)).2) ∧ Inv (xN (xPerf 2 a 0 to S)).2 := g_size a 0 to S h
theorem ag_round (a b to : Int32) (S : XS) (h : Inv S) : mRound a b to (toM S) = ((xN (xPerf 3 a b to S)).1, toM (xN (xPerf 3 a b to S)).2) ∧ Inv (xN (xPerf 3 a b to S)).2 := g_round a b to S h
theorem ag_sign (a to : Int32) (S : XS) (h : Inv S) : mSign a to (toM S) = ((xN (xPerf 4 a 0 to S)).1, toM (xN (xPerf 4 a 0 to S)).2) ∧ Inv (xN (xPerf 4 a 0 to S)).2 := g_sign a 0 to S h
theorem ag_lend (a b to : Int32) (S : XS) (h : Inv S) : mLend a b to (toM S) = ((xN (xPerf 5 a b to S)).1, toM (xN (xPerf 5 a b to S)).2) ∧ Inv (xN (xPerf 5 a b to S)).2 := g_lend a b to S h
theorem ag_turn (a to : Int32) (S : XS) (h : Inv S) : mTurn a to (toM S) = ((xN (xPerf 6 a 0 to S)).1, toM (xN (xPerf 6 a 0 to S)).2) ∧ Inv (xN (xPerf 6 a 0 to S)).2 := g_turn a 0 to S h
theorem ag_as (a b to : Int32) (S : XS) (h : Inv S) : mAs a b to (toM S) = ((xN (xPerf 7 a b to S)).1, toM (xN (xPerf 7 a b to S)).2) ∧ Inv (xN (xPerf 7 a b to S)).2 := g_as a b to S h
theorem ag_state (S : XS) : mst (toM S) = xst S := rfl
theorem inv_calm {S : XS} (h : Inv S) : Inv (xCalm S) := h
theorem ag_set (i t : Int32) (u v : Int64) (S : XS) (h : Inv S) : mSet i t u v (toM S) = ((xN (xPlaced i t u v S)).1, toM (xN (xPlaced i t u v S)).2) ∧ Inv (xN (xPlaced i t u v S)).2 := by
  show Ag (mSet i t u v (toM S)) (xN (xPlaced i t u v S))
  unfold mSet xPlaced
  by_cases c1 : zSl i
  · rw [if_pos c1, if_pos c1]
    by_cases c2 : zSort t
    · rw [if_pos c2]
      by_cases c3 : nNum t u ∧ nNum t v
      · rw [if_pos (show kNum t (nFit t u) ∧ kNum t (nFit t v) from ⟨(num_iff c2).mp c3.1, (num_iff c2).mp c3.2⟩), if_pos (show zSort t ∧ nNum t u ∧ nNum t v from ⟨c2, c3⟩)]
        have ou : nOk t (nFit t u) := ok_num c3.1
        have ov : nOk t (nFit t v) := ok_num c3.2
        by_cases c4 : nLess t (nFit t v) (nFit t u)
        · rw [if_pos c4, if_pos (show kAbove t (nFit t u) (nFit t v) from (nLess_iff c2 ov ou).mp c4)]
          exact ag_ref m5 h
        · rw [if_neg c4, if_neg (show ¬ kAbove t (nFit t u) (nFit t v) from fun q => c4 ((nLess_iff c2 ov ou).mpr q))]
          exact ag_put h c2 ou ov
      · rw [if_neg (show ¬ (kNum t (nFit t u) ∧ kNum t (nFit t v)) from fun q => c3 ⟨(num_iff c2).mpr q.1, (num_iff c2).mpr q.2⟩), if_neg (show ¬ (zSort t ∧ nNum t u ∧ nNum t v) from fun q => c3 q.2)]
        exact ag_ref m4 h
    · rw [if_neg c2, if_neg (show ¬ (zSort t ∧ nNum t u ∧ nNum t v) from fun q => c2 q.1)]
      exact ag_ref m4 h
  · rw [if_neg c1, if_neg c1]
    exact ag_ref m2 h
theorem ag_clear (i : Int32) (S : XS) (h : Inv S) : mClear i (toM S) = ((xClear i S).1, toM (xClear i S).2) ∧ Inv (xClear i S).2 := by
  show Ag (mClear i (toM S)) (xClear i S)
  unfold mClear xClear
  rw [msoE]
  by_cases c1 : zSl i
  · rw [if_pos c1, if_pos c1]
    by_cases c2 : ixI (xso S) i = -1
    · rw [if_pos c2]; exact ag_say (S1 := xVoid i S) m0 (inv_void h)
    · rw [if_neg c2]; exact ag_say (S1 := xVoid i S) (by decide) (inv_void h)
  · rw [if_neg c1, if_neg c1]
    exact ag_ref m2 h
/-- one slot asked for its stretch -/
theorem why_one (i : Int32) (S : XS) : mWhy i i i (toM S) = xTake i S := by
  have e : mWhy i i i (toM S) = if zSl i ∧ zSl i ∧ zSl i then (if ixI (xso S) i = -1 ∨ ixI (xso S) i = -1 then -3 else 0) else -2 := rfl
  rw [e]
  unfold xTake
  by_cases c1 : zSl i
  · rw [if_pos c1, if_pos (show zSl i ∧ zSl i ∧ zSl i from ⟨c1, c1, c1⟩)]
    by_cases c2 : ixI (xso S) i = -1
    · rw [if_pos c2, if_pos (Or.inl c2)]
    · rw [if_neg c2, if_neg (show ¬ (ixI (xso S) i = -1 ∨ ixI (xso S) i = -1) from fun q => q.elim c2 c2)]
  · rw [if_neg c1, if_neg (show ¬ (zSl i ∧ zSl i ∧ zSl i) from fun q => c1 q.1)]
theorem take_go {i : Int32} {S : XS} (h : ¬ xTake i S < 0) : zSl i ∧ ¬ ixI (xso S) i = -1 ∧ xTake i S = 0 := by
  revert h
  unfold xTake
  by_cases c1 : zSl i
  · rw [if_pos c1]
    by_cases c2 : ixI (xso S) i = -1
    · rw [if_pos c2]; exact fun q => absurd m3 q
    · rw [if_neg c2]; exact fun _ => ⟨c1, c2, rfl⟩
  · rw [if_neg c1]; exact fun q => absurd m2 q
theorem ag_sort (i : Int32) (S : XS) (h : Inv S) : mSort i (toM S) = ((xSort i S).1, toM (xSort i S).2) ∧ Inv (xSort i S).2 := by
  show Ag (mSort i (toM S)) (xSort i S)
  unfold mSort xSort
  rw [msoE, why_one]
  by_cases c : xTake i S < 0
  · rw [if_pos c, if_pos c]; exact ag_ref c h
  · rw [if_neg c, if_neg c]
    obtain ⟨c1, c2, _⟩ := take_go c
    exact ag_say (slot_of h c1 c2).1.1 h
theorem ag_low (i : Int32) (S : XS) (h : Inv S) : mEnd i 0 (toM S) = ((xLow i S).1, toM (xLow i S).2) ∧ Inv (xLow i S).2 := by
  unfold mEnd xLow
  rw [mloE, mhiE, why_one]
  by_cases c : xTake i S < 0
  · rw [if_pos c, if_pos c]
    refine ⟨?_, h⟩
    show _ = ((0 : Int64), toM (xNoted (xTake i S) S))
    rw [toM_neg S c]
  · rw [if_neg c, if_neg c, if_pos (show (0 : Int32) = 0 from rfl), (take_go c).2.2]
    exact ⟨rfl, h⟩
theorem ag_high (i : Int32) (S : XS) (h : Inv S) : mEnd i 1 (toM S) = ((xHigh i S).1, toM (xHigh i S).2) ∧ Inv (xHigh i S).2 := by
  unfold mEnd xHigh
  rw [mloE, mhiE, why_one]
  by_cases c : xTake i S < 0
  · rw [if_pos c, if_pos c]
    refine ⟨?_, h⟩
    show _ = ((0 : Int64), toM (xNoted (xTake i S) S))
    rw [toM_neg S c]
  · rw [if_neg c, if_neg c, if_neg (show ¬ (1 : Int32) = 0 by decide), (take_go c).2.2]
    exact ⟨rfl, h⟩
theorem ag_near (i : Int32) (v : Int64) (S : XS) (h : Inv S) : mNear i v (toM S) = ((xNear i v S).1, toM (xNear i v S).2) ∧ Inv (xNear i v S).2 := by
  unfold mNear xNear xCmp
  rw [msoE, mloE, mhiE, why_one]
  by_cases c : xTake i S < 0
  · rw [if_pos c, if_pos c, if_pos c]
    refine ⟨?_, h⟩
    show _ = ((0 : Int64), toM (xNoted (xTake i S) S))
    rw [toM_neg S c]
  · rw [if_neg c, if_neg c]
    obtain ⟨c1, c2, _⟩ := take_go c
    obtain ⟨z, u1, v1⟩ := slot_of h c1 c2
    by_cases c3 : nNum (ixI (xso S) i) v
    · rw [if_pos c3, if_pos (show kNum (ixI (xso S) i) (nFit (ixI (xso S) i) v) from (num_iff z).mp c3), if_neg m0]
      have ov := ok_num c3
      refine ⟨?_, h⟩
      rw [← nGreater_eq z ov u1, ← nLesser_eq z (ok_greater ov u1) v1]
      rfl
    · rw [if_neg c3, if_neg (show ¬ kNum (ixI (xso S) i) (nFit (ixI (xso S) i) v) from fun q => c3 ((num_iff z).mpr q)), if_pos m4]
      exact ⟨rfl, h⟩
theorem ag_has (i : Int32) (v : Int64) (S : XS) (h : Inv S) : mHas i v (toM S) = ((xHas i v S).1, toM (xHas i v S).2) ∧ Inv (xHas i v S).2 := by
  show Ag (mHas i v (toM S)) (xHas i v S)
  unfold mHas xHas xCmp
  rw [msoE, mloE, mhiE, why_one]
  by_cases c : xTake i S < 0
  · rw [if_pos c, if_pos c, if_pos c]
    exact ag_ref c h
  · rw [if_neg c, if_neg c]
    obtain ⟨c1, c2, _⟩ := take_go c
    obtain ⟨z, u1, v1⟩ := slot_of h c1 c2
    by_cases c3 : nNum (ixI (xso S) i) v
    · rw [if_pos c3, if_pos (show kNum (ixI (xso S) i) (nFit (ixI (xso S) i) v) from (num_iff z).mp c3), if_neg m0]
      have ov := ok_num c3
      by_cases c4 : nLess (ixI (xso S) i) (nFit (ixI (xso S) i) v) (ixL (xlo S) i) ∨ nLess (ixI (xso S) i) (ixL (xhi S) i) (nFit (ixI (xso S) i) v)
      · rw [if_pos c4, if_pos (show kAbove (ixI (xso S) i) (ixL (xlo S) i) (nFit (ixI (xso S) i) v) ∨ kAbove (ixI (xso S) i) (nFit (ixI (xso S) i) v) (ixL (xhi S) i) from c4.imp (nLess_iff z ov u1).mp (nLess_iff z v1 ov).mp)]
        exact ag_say m0 h
      · rw [if_neg c4, if_neg (show ¬ (kAbove (ixI (xso S) i) (ixL (xlo S) i) (nFit (ixI (xso S) i) v) ∨ kAbove (ixI (xso S) i) (nFit (ixI (xso S) i) v) (ixL (xhi S) i)) from fun q => c4 (q.imp (nLess_iff z ov u1).mpr (nLess_iff z v1 ov).mpr))]
        exact ag_say (by decide) h
    · rw [if_neg c3, if_neg (show ¬ kNum (ixI (xso S) i) (nFit (ixI (xso S) i) v) from fun q => c3 ((num_iff z).mpr q)), if_pos m4]
      exact ag_ref m4 h
theorem ag_alike (a b : Int32) (S : XS) (h : Inv S) : mAlike a b (toM S) = ((xAlike a b S).1, toM (xAlike a b S).2) ∧ Inv (xAlike a b S).2 := by
  show Ag (mAlike a b (toM S)) (xAlike a b S)
  have e : mWhy a b a (toM S) = if zSl a ∧ zSl b ∧ zSl a then (if ixI (xso S) a = -1 ∨ ixI (xso S) b = -1 then -3 else 0) else -2 := rfl
  unfold mAlike xAlike
  rw [msoE, mloE, mhiE, e]
  by_cases c1 : zSl a ∧ zSl b
  · rw [if_pos c1, if_pos (show zSl a ∧ zSl b ∧ zSl a from ⟨c1.1, c1.2, c1.1⟩)]
    by_cases c2 : ixI (xso S) a = -1 ∨ ixI (xso S) b = -1
    · rw [if_pos c2, if_pos c2, if_pos m3]; exact ag_ref m3 h
    · rw [if_neg c2, if_neg c2, if_neg m0]
      by_cases c3 : ixI (xso S) a = ixI (xso S) b ∧ ixL (xlo S) a = ixL (xlo S) b ∧ ixL (xhi S) a = ixL (xhi S) b
      · rw [if_pos c3]; exact ag_say (by decide) h
      · rw [if_neg c3]; exact ag_say m0 h
  · rw [if_neg c1, if_neg (show ¬ (zSl a ∧ zSl b ∧ zSl a) from fun q => c1 ⟨q.1, q.2.1⟩), if_pos m2]; exact ag_ref m2 h
theorem step_to {k w a b to : Int32} (S : XS) (hk : zSt k) (hw : ¬ w < 0) : toM (xStepS k w a b to S) = mStepS k w a b to (toM S) := by
  obtain ⟨j, hj, rfl⟩ := zst_ex hk
  have hw1 : ¬ w = -1 := fun q => hw (by rw [q]; decide)
  have e1 : (fun i => if upd (xwh S) (nI j).toNatClampNeg w i = -1 ∨ 12 ≤ i then (0 : Int32) else 1) = upd (fun i => if xwh S i = -1 ∨ 12 ≤ i then (0 : Int32) else 1) (nI j).toNatClampNeg 1 := by
    rw [nI_clamp (by omega)]
    funext i
    by_cases c : i = j
    · subst c
      rw [pk_us, pk_us, if_neg (show ¬ (w = -1 ∨ 12 ≤ i) from fun q => q.elim hw1 (fun z => by omega))]
    · rw [pk_un c, pk_un c]
  have e2 : (fun i => if upd (xwh S) (nI j).toNatClampNeg w i = -1 ∨ 12 ≤ i then (0 : Int32) else upd (xwh S) (nI j).toNatClampNeg w i) = upd (fun i => if xwh S i = -1 ∨ 12 ≤ i then (0 : Int32) else xwh S i) (nI j).toNatClampNeg w := by
    rw [nI_clamp (by omega)]
    funext i
    by_cases c : i = j
    · subst c
      rw [pk_us, pk_us, if_neg (show ¬ (w = -1 ∨ 12 ≤ i) from fun q => q.elim hw1 (fun z => by omega))]
    · rw [pk_un c, pk_un c]
  show (xso S, xlo S, xhi S, (fun i => if upd (xwh S) (nI j).toNatClampNeg w i = -1 ∨ 12 ≤ i then (0 : Int32) else 1), (fun i => if upd (xwh S) (nI j).toNatClampNeg w i = -1 ∨ 12 ≤ i then (0 : Int32) else upd (xwh S) (nI j).toNatClampNeg w i), upd (xas S) (nI j).toNatClampNeg a, upd (xbs S) (nI j).toNatClampNeg b, upd (xts S) (nI j).toNatClampNeg to, xst S, xrf S, xet S, xsd S) = _
  rw [e1, e2]
  rfl
theorem step_inv {k w a b to : Int32} {S : XS} (hw : ¬ w < 0 ∧ ¬ 7 < w) (h : Inv S) : Inv (xStepS k w a b to S) := by
  refine ⟨h.1, fun i => ?_⟩
  show upd (xwh S) k.toNatClampNeg w i = -1 ∨ (¬ upd (xwh S) k.toNatClampNeg w i < 0 ∧ ¬ 7 < upd (xwh S) k.toNatClampNeg w i) ∨ 12 ≤ i
  by_cases c : i = k.toNatClampNeg
  · subst c
    rw [pk_us]
    exact Or.inr (Or.inl hw)
  · rw [pk_un c]
    exact h.2 i
theorem ag_step (k w a b to : Int32) (S : XS) (h : Inv S) : mStep k w a b to (toM S) = ((xStep k w a b to S).1, toM (xStep k w a b to S).2) ∧ Inv (xStep k w a b to S).2 := by
  show Ag (mStep k w a b to (toM S)) (xStep k w a b to S)
  unfold mStep xStep
  by_cases c1 : zSlots w a b to
  · rw [if_pos c1, if_pos c1]
    by_cases c2 : zSt k ∧ ¬ w < 0 ∧ ¬ 7 < w
    · rw [if_pos c2, if_pos c2, ← step_to S c2.1 c2.2.1]
      exact ag_say (by decide) (step_inv c2.2 h)
    · rw [if_neg c2, if_neg c2]; exact ag_ref m5 h
  · rw [if_neg c1, if_neg c1]; exact ag_ref m2 h
theorem cnt_to (S : XS) : ∀ n : Nat, n ≤ 12 → zCntB (mth (toM S)) n = zCnt (xwh S) n
  | 0, _ => rfl
  | n + 1, h => by
    show (if (if xwh S n = -1 ∨ 12 ≤ n then (0 : Int32) else 1) = 0 then zCntB (mth (toM S)) n else zCntB (mth (toM S)) n + 1) = (if xwh S n = -1 then zCnt (xwh S) n else zCnt (xwh S) n + 1)
    rw [cnt_to S n (by omega)]
    by_cases c : xwh S n = -1
    · rw [if_pos c, if_pos (show (if xwh S n = -1 ∨ 12 ≤ n then (0 : Int32) else 1) = 0 by rw [if_pos (Or.inl c)])]
    · rw [if_neg c, if_neg (show ¬ (if xwh S n = -1 ∨ 12 ≤ n then (0 : Int32) else 1) = 0 by rw [if_neg (show ¬ (xwh S n = -1 ∨ 12 ≤ n) from fun q => q.elim c (fun z => by omega))]; decide)]
theorem ag_about (w : Int32) (S : XS) : mAbout w (toM S) = xAbout w S := by
  unfold mAbout xAbout
  rw [cnt_to S 12 (by omega)]
  rfl
theorem why_go {a b to : Int32} {S : MS} (h : ¬ mWhy a b to S < 0) : ¬ ixI (mso S) a = -1 := by
  revert h
  unfold mWhy
  by_cases c1 : zSl a ∧ zSl b ∧ zSl to
  · rw [if_pos c1]
    by_cases c2 : ixI (mso S) a = -1 ∨ ixI (mso S) b = -1
    · rw [if_pos c2]; exact fun q => absurd m3 q
    · rw [if_neg c2]; exact fun _ q => c2 (Or.inl q)
  · rw [if_neg c1]; exact fun q => absurd m2 q
theorem fine_as {a t to : Int32} {S : XS} (h : Inv S) : zSl a → ¬ mWhy a a to (toM S) < 0 → zSort (ixI (mso (toM S)) a) ∧ kFine (ixI (mso (toM S)) a) t (ixL (mlo (toM S)) a) ∧ kFine (ixI (mso (toM S)) a) t (ixL (mhi (toM S)) a) := by
  intro ha hw
  obtain ⟨z, u, v⟩ := slot_of h ha (why_go hw)
  exact ⟨z, fine_all z u t, fine_all z v t⟩
theorem run_ask : ∀ (S1 : MS) (i : Nat), i < 12 → (∃ S2, Inv S2 ∧ S1 = toM S2) → ¬ mth S1 i = 0 → mAsk (nI i) S1 := by
  intro S1 i _ ⟨S2, h, e⟩ _
  subst e
  intro _ _ _ _ _ _ _ ha hw
  exact fine_as h ha hw
theorem zfill_at (n i : Nat) : zFill n i = if i < n then -1 else 0 := rfl
theorem inv_init : Inv xInit := by
  refine ⟨fun i => ?_, fun k => ?_⟩
  · show slotOk (zFill 16 i) 0 0 ∨ 16 ≤ i
    rw [zfill_at]
    by_cases c : i < 16
    · rw [if_pos c]; exact Or.inl (Or.inl rfl)
    · exact Or.inr (by omega)
  · show zFill 12 k = -1 ∨ (¬ zFill 12 k < 0 ∧ ¬ 7 < zFill 12 k) ∨ 12 ≤ k
    rw [zfill_at]
    by_cases c : k < 12
    · rw [if_pos c]; exact Or.inl rfl
    · exact Or.inr (Or.inr (by omega))
theorem toM_init : toM xInit = mInit := by
  have e : ∀ k : Nat, zFill 12 k = -1 ∨ 12 ≤ k := by
    intro k
    rw [zfill_at]
    by_cases c : k < 12
    · rw [if_pos c]; exact Or.inl rfl
    · exact Or.inr (by omega)
  have e1 : (fun k => if zFill 12 k = -1 ∨ 12 ≤ k then (0 : Int32) else 1) = fun _ => 0 := funext fun k => if_pos (e k)
  have e2 : (fun k => if zFill 12 k = -1 ∨ 12 ≤ k then (0 : Int32) else zFill 12 k) = fun _ => 0 := funext fun k => if_pos (e k)
  show (zFill 16, (fun _ => (0 : Int64)), (fun _ => (0 : Int64)), (fun k => if zFill 12 k = -1 ∨ 12 ≤ k then (0 : Int32) else 1), (fun k => if zFill 12 k = -1 ∨ 12 ≤ k then (0 : Int32) else zFill 12 k), (fun _ => (0 : Int32)), (fun _ => (0 : Int32)), (fun _ => (0 : Int32)), (0 : Int32), (0 : Int32), (0 : Int32), (0 : Int32)) = mInit
  rw [e1, e2]
  rfl
