/-! call by call: both answer alike, both states stay side by side -/
theorem inv_put {S : XS} {to t : Int32} {u v : Int64} (h : Inv S) (hz : zSort t) (hu : nOk t u) (hv : nOk t v) : Inv (xPut to t u v S) := by
  refine ⟨fun i => ?_, h.2⟩
  show slotOk (upd (xso S) to.toNatClampNeg t i) (vp_updL (xlo S) to.toNatClampNeg u i) (vp_updL (xhi S) to.toNatClampNeg v i) ∨ 16 ≤ i
  by_cases c : i = to.toNatClampNeg
  · subst c
    rw [pk_us, pk_uLs, pk_uLs]
    exact Or.inl (Or.inr ⟨hz, hu, hv⟩)
  · rw [pk_un c, pk_uLn c, pk_uLn c]
    exact h.1 i
theorem inv_void {S : XS} {to : Int32} (h : Inv S) : Inv (xVoid to S) := by
  refine ⟨fun i => ?_, h.2⟩
  show slotOk (upd (xso S) to.toNatClampNeg (-1) i) (xlo S i) (xhi S i) ∨ 16 ≤ i
  by_cases c : i = to.toNatClampNeg
  · subst c
    rw [pk_us]
    exact Or.inl (Or.inl rfl)
  · rw [pk_un c]
    exact h.1 i
theorem inv_noted {S : XS} (a : Int32) (h : Inv S) : Inv (xNoted a S) := h
theorem slot_of {S : XS} {a : Int32} (h : Inv S) (ha : zSl a) (hn : ¬ ixI (xso S) a = -1) : zSort (ixI (xso S) a) ∧ nOk (ixI (xso S) a) (ixL (xlo S) a) ∧ nOk (ixI (xso S) a) (ixL (xhi S) a) := by
  obtain ⟨j, hj, e⟩ := vp_in_of (zIn ha) (by decide)
  subst e
  have e1 : (nI j).toNatClampNeg = j := nI_clamp (by omega)
  show zSort (xso S (nI j).toNatClampNeg) ∧ nOk (xso S (nI j).toNatClampNeg) (xlo S (nI j).toNatClampNeg) ∧ nOk (xso S (nI j).toNatClampNeg) (xhi S (nI j).toNatClampNeg)
  have hn : ¬ xso S (nI j).toNatClampNeg = -1 := hn
  rw [e1] at hn ⊢
  rcases h.1 j with q | q
  · rcases q with q | q
    · exact absurd q hn
    · exact q
  · omega
theorem toM_neg {a : Int32} (S : XS) (h : a < 0) : toM (xNoted a S) = mRef a (toM S) := by
  unfold xNoted
  rw [if_pos h, if_pos h]
  rfl
theorem toM_pos {a : Int32} (S : XS) (h : ¬ a < 0) : toM (xNoted a S) = mSays (toM S) := by
  unfold xNoted
  rw [if_neg h, if_neg h]
  rfl
def Ag (pm : Int32 × MS) (px : Int32 × XS) : Prop := pm = (px.1, toM px.2) ∧ Inv px.2
theorem ag_ref {a : Int32} {S : XS} (ha : a < 0) (h : Inv S) : Ag (a, mRef a (toM S)) (xN (a, S)) := ⟨by show _ = (a, toM (xNoted a S)); rw [toM_neg S ha], h⟩
theorem ag_say {r : Int32} {S1 : XS} (hr : ¬ r < 0) (h : Inv S1) : Ag (r, mSays (toM S1)) (xN (r, S1)) := ⟨by show _ = (r, toM (xNoted r S1)); rw [toM_pos S1 hr], h⟩
theorem ag_put {S : XS} {to t : Int32} {u v : Int64} (h : Inv S) (hz : zSort t) (hu : nOk t u) (hv : nOk t v) : Ag (1, mComes to t u v (toM S)) (xN (1, xPut to t u v S)) := ag_say (by decide) (inv_put h hz hu hv)
theorem ag_any {S : XS} {to t : Int32} {u v : Int64} (h : Inv S) (hz : zSort t) (hu : nOk t u) (hv : nOk t v) : Ag (mAny to t u v (toM S)) (xN (xPutAny to t u v S)) := by
  unfold mAny xPutAny
  by_cases c : nLess t v u
  · rw [if_pos c, if_pos ((nLess_iff hz hv hu).mp c)]
    exact ag_say (S1 := xVoid to S) (by decide) (inv_void h)
  · rw [if_neg c, if_neg (fun q => c ((nLess_iff hz hv hu).mpr q))]
    exact ag_put h hz hu hv
theorem ag_ord {S : XS} {to t : Int32} {u v : Int64} (h : Inv S) (hz : zSort t) (hu : nOk t u) (hv : nOk t v) : Ag (1, mOrd to t u v (toM S)) (xN (1, xPutOrd to t u v S)) := by
  unfold mOrd xPutOrd
  rw [← nLesser_eq hz hu hv, ← nGreater_eq hz hu hv]
  exact ag_put h hz (ok_lesser hu hv) (ok_greater hu hv)
/-- refusals of an operation on two slots -/
theorem two_cases {w a b to : Int32} (S : XS) (hw : zTwo w) :
    (xRef w a b to S = -2 ∧ mWhy a b to (toM S) = -2) ∨ (xRef w a b to S = -3 ∧ mWhy a b to (toM S) = -3) ∨
    (zSl a ∧ zSl b ∧ ¬ ixI (xso S) a = -1 ∧ ¬ ixI (xso S) b = -1 ∧ mWhy a b to (toM S) = 0 ∧ ((¬ ixI (xso S) a = ixI (xso S) b ∧ xRef w a b to S = -4) ∨ (ixI (xso S) a = ixI (xso S) b ∧ xRef w a b to S = 0))) := by
  have e : mWhy a b to (toM S) = if zSl a ∧ zSl b ∧ zSl to then (if ixI (xso S) a = -1 ∨ ixI (xso S) b = -1 then -3 else 0) else -2 := rfl
  rw [e]
  unfold xRef
  by_cases c : zSl a ∧ zSl b ∧ zSl to
  · have cs : zSlots w a b to := ⟨c.1, c.2.2, Or.inr c.2.1⟩
    rw [if_pos c, if_pos cs]
    by_cases d1 : ixI (xso S) a = -1
    · rw [if_pos d1, if_pos (Or.inl d1)]
      exact Or.inr (Or.inl ⟨rfl, rfl⟩)
    · rw [if_neg d1, if_pos hw]
      by_cases d2 : ixI (xso S) b = -1
      · rw [if_pos d2, if_pos (Or.inr d2)]
        exact Or.inr (Or.inl ⟨rfl, rfl⟩)
      · rw [if_neg d2, if_neg (show ¬ (ixI (xso S) a = -1 ∨ ixI (xso S) b = -1) from fun q => q.elim d1 d2)]
        refine Or.inr (Or.inr ⟨c.1, c.2.1, d1, d2, rfl, ?_⟩)
        by_cases d3 : ixI (xso S) a = ixI (xso S) b
        · rw [if_pos d3]
          exact Or.inr ⟨d3, rfl⟩
        · rw [if_neg d3]
          exact Or.inl ⟨d3, rfl⟩
  · have cs : ¬ zSlots w a b to := fun q => c ⟨q.1, q.2.2.resolve_left (fun z => z hw), q.2.1⟩
    rw [if_neg c, if_neg cs]
    exact Or.inl ⟨rfl, rfl⟩
/-- refusals of an operation on one slot -/
theorem one_cases {w a b to : Int32} (S : XS) (hw : ¬ zTwo w) :
    (xRef w a b to S = -2 ∧ mWhy a a to (toM S) = -2) ∨ (xRef w a b to S = -3 ∧ mWhy a a to (toM S) = -3) ∨ (zSl a ∧ ¬ ixI (xso S) a = -1 ∧ mWhy a a to (toM S) = 0 ∧ xRef w a b to S = 0) := by
  have e : mWhy a a to (toM S) = if zSl a ∧ zSl a ∧ zSl to then (if ixI (xso S) a = -1 ∨ ixI (xso S) a = -1 then -3 else 0) else -2 := rfl
  rw [e]
  unfold xRef
  by_cases c : zSl a ∧ zSl a ∧ zSl to
  · have cs : zSlots w a b to := ⟨c.1, c.2.2, Or.inl hw⟩
    rw [if_pos c, if_pos cs]
    by_cases d1 : ixI (xso S) a = -1
    · rw [if_pos d1, if_pos (Or.inl d1)]
      exact Or.inr (Or.inl ⟨rfl, rfl⟩)
    · rw [if_neg d1, if_neg hw, if_neg (show ¬ (ixI (xso S) a = -1 ∨ ixI (xso S) a = -1) from fun q => q.elim d1 d1)]
      exact Or.inr (Or.inr ⟨c.1, d1, rfl, rfl⟩)
  · have cs : ¬ zSlots w a b to := fun q => c ⟨q.1, q.1, q.2.1⟩
    rw [if_neg c, if_neg cs]
    exact Or.inl ⟨rfl, rfl⟩
theorem m2 : (-2 : Int32) < 0 := by decide
theorem m3 : (-3 : Int32) < 0 := by decide
theorem m4 : (-4 : Int32) < 0 := by decide
theorem m5 : (-5 : Int32) < 0 := by decide
theorem m0 : ¬ (0 : Int32) < 0 := by decide
theorem perf_ref {w a b to : Int32} {S : XS} {r : Int32} (e : xRef w a b to S = r) (h : r < 0) : xPerf w a b to S = (r, S) := by
  unfold xPerf
  rw [e, if_pos h]
theorem perf_go {w a b to : Int32} {S : XS} (e : xRef w a b to S = 0) : xPerf w a b to S = (if w = 0 then xJoined a b to S else if w = 1 then xCut a b to S else if w = 2 then xSized a to S else if w = 3 then xRounded a b to S else if w = 4 then xSigned a to S else if w = 5 then xLent a b to S else if w = 6 then xTurned a to S else xConv a b to S) := by
  unfold xPerf
  rw [e, if_neg m0]
theorem msoE (S : XS) : mso (toM S) = xso S := rfl
theorem mloE (S : XS) : mlo (toM S) = xlo S := rfl
theorem mhiE (S : XS) : mhi (toM S) = xhi S := rfl
theorem perf_0 {a b to : Int32} {S : XS} (e : xRef 0 a b to S = 0) : xPerf 0 a b to S = xJoined a b to S := by
  rw [perf_go e, if_pos (show (0 : Int32) = 0 from rfl)]
theorem perf_1 {a b to : Int32} {S : XS} (e : xRef 1 a b to S = 0) : xPerf 1 a b to S = xCut a b to S := by
  rw [perf_go e, if_neg (show ¬ (1 : Int32) = 0 by decide), if_pos (show (1 : Int32) = 1 from rfl)]
theorem perf_2 {a b to : Int32} {S : XS} (e : xRef 2 a b to S = 0) : xPerf 2 a b to S = xSized a to S := by
  rw [perf_go e, if_neg (show ¬ (2 : Int32) = 0 by decide), if_neg (show ¬ (2 : Int32) = 1 by decide), if_pos (show (2 : Int32) = 2 from rfl)]
theorem perf_3 {a b to : Int32} {S : XS} (e : xRef 3 a b to S = 0) : xPerf 3 a b to S = xRounded a b to S := by
  rw [perf_go e, if_neg (show ¬ (3 : Int32) = 0 by decide), if_neg (show ¬ (3 : Int32) = 1 by decide), if_neg (show ¬ (3 : Int32) = 2 by decide), if_pos (show (3 : Int32) = 3 from rfl)]
theorem perf_4 {a b to : Int32} {S : XS} (e : xRef 4 a b to S = 0) : xPerf 4 a b to S = xSigned a to S := by
  rw [perf_go e, if_neg (show ¬ (4 : Int32) = 0 by decide), if_neg (show ¬ (4 : Int32) = 1 by decide), if_neg (show ¬ (4 : Int32) = 2 by decide), if_neg (show ¬ (4 : Int32) = 3 by decide), if_pos (show (4 : Int32) = 4 from rfl)]
theorem perf_5 {a b to : Int32} {S : XS} (e : xRef 5 a b to S = 0) : xPerf 5 a b to S = xLent a b to S := by
  rw [perf_go e, if_neg (show ¬ (5 : Int32) = 0 by decide), if_neg (show ¬ (5 : Int32) = 1 by decide), if_neg (show ¬ (5 : Int32) = 2 by decide), if_neg (show ¬ (5 : Int32) = 3 by decide), if_neg (show ¬ (5 : Int32) = 4 by decide), if_pos (show (5 : Int32) = 5 from rfl)]
theorem perf_6 {a b to : Int32} {S : XS} (e : xRef 6 a b to S = 0) : xPerf 6 a b to S = xTurned a to S := by
  rw [perf_go e, if_neg (show ¬ (6 : Int32) = 0 by decide), if_neg (show ¬ (6 : Int32) = 1 by decide), if_neg (show ¬ (6 : Int32) = 2 by decide), if_neg (show ¬ (6 : Int32) = 3 by decide), if_neg (show ¬ (6 : Int32) = 4 by decide), if_neg (show ¬ (6 : Int32) = 5 by decide), if_pos (show (6 : Int32) = 6 from rfl)]
theorem perf_7 {a b to : Int32} {S : XS} (e : xRef 7 a b to S = 0) : xPerf 7 a b to S = xConv a b to S := by
  rw [perf_go e, if_neg (show ¬ (7 : Int32) = 0 by decide), if_neg (show ¬ (7 : Int32) = 1 by decide), if_neg (show ¬ (7 : Int32) = 2 by decide), if_neg (show ¬ (7 : Int32) = 3 by decide), if_neg (show ¬ (7 : Int32) = 4 by decide), if_neg (show ¬ (7 : Int32) = 5 by decide), if_neg (show ¬ (7 : Int32) = 6 by decide)]
theorem g_hull (a b to : Int32) (S : XS) (h : Inv S) : Ag (mHull a b to (toM S)) (xN (xPerf 0 a b to S)) := by
  unfold mHull
  rw [msoE, mloE, mhiE]
  rcases two_cases (w := 0) (a := a) (b := b) (to := to) S (by decide) with ⟨e1, e2⟩ | ⟨e1, e2⟩ | ⟨ha, hb, n1, n2, e2, q⟩
  · rw [perf_ref e1 m2, e2, if_pos m2]; exact ag_ref m2 h
  · rw [perf_ref e1 m3, e2, if_pos m3]; exact ag_ref m3 h
  · rw [e2, if_neg m0]
    rcases q with ⟨q, e1⟩ | ⟨q, e1⟩
    · rw [perf_ref e1 m4, if_neg q]; exact ag_ref m4 h
    · rw [perf_0 e1, if_pos q]
      obtain ⟨z1, u1, v1⟩ := slot_of h ha n1
      obtain ⟨z2, u2, v2⟩ := slot_of h hb n2
      rw [← q] at u2 v2
      show Ag (1, mComes to (ixI (xso S) a) (kLesser (ixI (xso S) a) (ixL (xlo S) a) (ixL (xlo S) b)) (kGreater (ixI (xso S) a) (ixL (xhi S) a) (ixL (xhi S) b)) (toM S)) _
      rw [← nLesser_eq z1 u1 u2, ← nGreater_eq z1 v1 v2]
      exact ag_put h z1 (ok_lesser u1 u2) (ok_greater v1 v2)
theorem g_meet (a b to : Int32) (S : XS) (h : Inv S) : Ag (mMeet a b to (toM S)) (xN (xPerf 1 a b to S)) := by
  unfold mMeet
  rw [msoE, mloE, mhiE]
  rcases two_cases (w := 1) (a := a) (b := b) (to := to) S (by decide) with ⟨e1, e2⟩ | ⟨e1, e2⟩ | ⟨ha, hb, n1, n2, e2, q⟩
  · rw [perf_ref e1 m2, e2, if_pos m2]; exact ag_ref m2 h
  · rw [perf_ref e1 m3, e2, if_pos m3]; exact ag_ref m3 h
  · rw [e2, if_neg m0]
    rcases q with ⟨q, e1⟩ | ⟨q, e1⟩
    · rw [perf_ref e1 m4, if_neg q]; exact ag_ref m4 h
    · rw [perf_1 e1, if_pos q]
      obtain ⟨z1, u1, v1⟩ := slot_of h ha n1
      obtain ⟨z2, u2, v2⟩ := slot_of h hb n2
      rw [← q] at u2 v2
      show Ag (mAny to (ixI (xso S) a) (kGreater (ixI (xso S) a) (ixL (xlo S) a) (ixL (xlo S) b)) (kLesser (ixI (xso S) a) (ixL (xhi S) a) (ixL (xhi S) b)) (toM S)) _
      rw [← nGreater_eq z1 u1 u2, ← nLesser_eq z1 v1 v2]
      exact ag_any h z1 (ok_greater u1 u2) (ok_lesser v1 v2)
theorem g_size (a b to : Int32) (S : XS) (h : Inv S) : Ag (mSize a to (toM S)) (xN (xPerf 2 a b to S)) := by
  unfold mSize
  rw [msoE, mloE, mhiE]
  rcases one_cases (w := 2) (a := a) (b := b) (to := to) S (by decide) with ⟨e1, e2⟩ | ⟨e1, e2⟩ | ⟨ha, n1, e2, e1⟩
  · rw [perf_ref e1 m2, e2, if_pos m2]; exact ag_ref m2 h
  · rw [perf_ref e1 m3, e2, if_pos m3]; exact ag_ref m3 h
  · rw [e2, if_neg m0, perf_2 e1]
    obtain ⟨z1, u1, v1⟩ := slot_of h ha n1
    obtain ⟨su, ou⟩ := nSize_eq z1 u1
    obtain ⟨sv, ov⟩ := nSize_eq z1 v1
    unfold xSized
    have ec : (nBelow (ixI (xso S) a) (ixL (xlo S) a) ∧ nAbove (ixL (xhi S) a)) ↔ ((ixL (xlo S) a < 0 ∧ ¬ kZero (ixI (xso S) a) (ixL (xlo S) a)) ∧ 0 < ixL (xhi S) a) := by
      show (((ixL (xlo S) a) < 0 ∧ ¬ nZero (ixI (xso S) a) (ixL (xlo S) a)) ∧ 0 < ixL (xhi S) a) ↔ (((ixL (xlo S) a) < 0 ∧ ¬ kZero (ixI (xso S) a) (ixL (xlo S) a)) ∧ 0 < ixL (xhi S) a)
      rw [zero_iff z1]
    by_cases c : nBelow (ixI (xso S) a) (ixL (xlo S) a) ∧ nAbove (ixL (xhi S) a)
    · rw [if_pos c, if_pos (ec.mp c)]
      show Ag (1, mOrd to (ixI (xso S) a) 0 (kGreater (ixI (xso S) a) (kSize (ixI (xso S) a) (ixL (xlo S) a)) (kSize (ixI (xso S) a) (ixL (xhi S) a))) (toM S)) _
      rw [← su, ← sv, ← nGreater_eq z1 ou ov]
      exact ag_ord h z1 (ok_zero z1) (ok_greater ou ov)
    · rw [if_neg c, if_neg (show ¬ ((ixL (xlo S) a < 0 ∧ ¬ kZero (ixI (xso S) a) (ixL (xlo S) a)) ∧ 0 < ixL (xhi S) a) from fun q => c (ec.mpr q))]
      show Ag (1, mOrd to (ixI (xso S) a) (kSize (ixI (xso S) a) (ixL (xlo S) a)) (kSize (ixI (xso S) a) (ixL (xhi S) a)) (toM S)) _
      rw [← su, ← sv]
      exact ag_ord h z1 ou ov
theorem how_lo {how : Int32} (h : ¬ (how < 0 ∨ 4 < how)) : (if how = 3 then 0 else if how = 4 then 1 else how) = (if how < 3 then how else how - 3) ∧ (if how = 3 then 1 else if how = 4 then 0 else how) = (if how < 3 then how else 4 - how) := by
  have h1 : how = 0 ∨ how = 1 ∨ how = 2 ∨ how = 3 ∨ how = 4 := by
    simp only [not_or, Int32.lt_iff_toInt_lt, ← Int32.toInt_inj] at h ⊢
    simp at h ⊢
    omega
  rcases h1 with rfl | rfl | rfl | rfl | rfl <;> decide
theorem g_round (a b to : Int32) (S : XS) (h : Inv S) : Ag (mRound a b to (toM S)) (xN (xPerf 3 a b to S)) := by
  unfold mRound
  rw [msoE, mloE, mhiE]
  rcases one_cases (w := 3) (a := a) (b := b) (to := to) S (by decide) with ⟨e1, e2⟩ | ⟨e1, e2⟩ | ⟨ha, n1, e2, e1⟩
  · rw [perf_ref e1 m2, e2, if_pos m2]; exact ag_ref m2 h
  · rw [perf_ref e1 m3, e2, if_pos m3]; exact ag_ref m3 h
  · rw [e2, if_neg m0, perf_3 e1]
    obtain ⟨z1, u1, v1⟩ := slot_of h ha n1
    unfold xRounded
    by_cases c : nBroken (ixI (xso S) a)
    · have ck : kBroken (ixI (xso S) a) := (kB_iff z1).mpr c
      rw [if_pos c, if_pos ck]
      by_cases d : b < 0 ∨ 4 < b
      · rw [if_pos d, if_pos d]; exact ag_ref m5 h
      · rw [if_neg d, if_neg d, (how_lo d).1, (how_lo d).2]
        obtain ⟨p1, o1⟩ := whole_eq c u1 (if b < 3 then b else b - 3)
        obtain ⟨p2, o2⟩ := whole_eq c v1 (if b < 3 then b else 4 - b)
        show Ag (mAny to (ixI (xso S) a) (kWhole (ixI (xso S) a) (ixL (xlo S) a) (if b < 3 then b else b - 3)) (kWhole (ixI (xso S) a) (ixL (xhi S) a) (if b < 3 then b else 4 - b)) (toM S)) _
        rw [← p1, ← p2]
        exact ag_any h z1 o1 o2
    · have ck : ¬ kBroken (ixI (xso S) a) := fun q => c ((kB_iff z1).mp q)
      rw [if_neg c, if_neg ck]; exact ag_ref m4 h
theorem g_sign (a b to : Int32) (S : XS) (h : Inv S) : Ag (mSign a to (toM S)) (xN (xPerf 4 a b to S)) := by
  unfold mSign
  rw [msoE, mloE, mhiE]
  rcases one_cases (w := 4) (a := a) (b := b) (to := to) S (by decide) with ⟨e1, e2⟩ | ⟨e1, e2⟩ | ⟨ha, n1, e2, e1⟩
  · rw [perf_ref e1 m2, e2, if_pos m2]; exact ag_ref m2 h
  · rw [perf_ref e1 m3, e2, if_pos m3]; exact ag_ref m3 h
  · rw [e2, if_neg m0, perf_4 e1]
    obtain ⟨z1, u1, v1⟩ := slot_of h ha n1
    unfold xSigned
    by_cases c : nBroken (ixI (xso S) a)
    · have ck : kBroken (ixI (xso S) a) := (kB_iff z1).mpr c
      rw [if_pos c, if_pos ck]
      obtain ⟨p1, o1⟩ := nSign_eq c z1 u1
      obtain ⟨p2, o2⟩ := nSign_eq c z1 v1
      show Ag (1, mComes to (ixI (xso S) a) (kSignOf (ixI (xso S) a) (ixL (xlo S) a)) (kSignOf (ixI (xso S) a) (ixL (xhi S) a)) (toM S)) _
      rw [← p1, ← p2]
      exact ag_put h z1 o1 o2
    · have ck : ¬ kBroken (ixI (xso S) a) := fun q => c ((kB_iff z1).mp q)
      rw [if_neg c, if_neg ck]; exact ag_ref m4 h
theorem g_lend (a b to : Int32) (S : XS) (h : Inv S) : Ag (mLend a b to (toM S)) (xN (xPerf 5 a b to S)) := by
  unfold mLend
  rw [msoE, mloE, mhiE]
  rcases two_cases (w := 5) (a := a) (b := b) (to := to) S (by decide) with ⟨e1, e2⟩ | ⟨e1, e2⟩ | ⟨ha, hb, n1, n2, e2, q⟩
  · rw [perf_ref e1 m2, e2, if_pos m2]; exact ag_ref m2 h
  · rw [perf_ref e1 m3, e2, if_pos m3]; exact ag_ref m3 h
  · rw [e2, if_neg m0]
    obtain ⟨z1, u1, v1⟩ := slot_of h ha n1
    rcases q with ⟨q, e1⟩ | ⟨q, e1⟩
    · rw [perf_ref e1 m4, if_neg (show ¬ (kBroken (ixI (xso S) a) ∧ ixI (xso S) a = ixI (xso S) b) from fun z => q z.2)]; exact ag_ref m4 h
    · rw [perf_5 e1]
      obtain ⟨z2, u2, v2⟩ := slot_of h hb n2
      rw [← q] at u2 v2
      unfold xLent
      by_cases c : nBroken (ixI (xso S) a)
      · have ck : kBroken (ixI (xso S) a) := (kB_iff z1).mpr c
        rw [if_pos c, if_pos (show kBroken (ixI (xso S) a) ∧ ixI (xso S) a = ixI (xso S) b from ⟨ck, q⟩)]
        obtain ⟨p1, o1⟩ := nWith_eq c u1 u2
        obtain ⟨p2, o2⟩ := nWith_eq c v1 v2
        show Ag (1, mOrd to (ixI (xso S) a) (kSgn (ixI (xso S) a) (kMag (ixI (xso S) a) (ixL (xlo S) a)) (if ixL (xlo S) b < 0 then 1 else 0)) (kSgn (ixI (xso S) a) (kMag (ixI (xso S) a) (ixL (xhi S) a)) (if ixL (xhi S) b < 0 then 1 else 0)) (toM S)) _
        rw [← p1, ← p2]
        exact ag_ord h z1 o1 o2
      · have ck : ¬ kBroken (ixI (xso S) a) := fun q => c ((kB_iff z1).mp q)
        rw [if_neg c, if_neg (show ¬ (kBroken (ixI (xso S) a) ∧ ixI (xso S) a = ixI (xso S) b) from fun z => ck z.1)]; exact ag_ref m4 h
theorem g_turn (a b to : Int32) (S : XS) (h : Inv S) : Ag (mTurn a to (toM S)) (xN (xPerf 6 a b to S)) := by
  unfold mTurn
  rw [msoE, mloE, mhiE]
  rcases one_cases (w := 6) (a := a) (b := b) (to := to) S (by decide) with ⟨e1, e2⟩ | ⟨e1, e2⟩ | ⟨ha, n1, e2, e1⟩
  · rw [perf_ref e1 m2, e2, if_pos m2]; exact ag_ref m2 h
  · rw [perf_ref e1 m3, e2, if_pos m3]; exact ag_ref m3 h
  · rw [e2, if_neg m0, perf_6 e1]
    obtain ⟨z1, u1, v1⟩ := slot_of h ha n1
    obtain ⟨p1, o1⟩ := nNeg_eq z1 u1
    obtain ⟨p2, o2⟩ := nNeg_eq z1 v1
    show Ag (1, mOrd to (ixI (xso S) a) (kTurned (ixI (xso S) a) (ixL (xlo S) a)) (kTurned (ixI (xso S) a) (ixL (xhi S) a)) (toM S)) _
    rw [← p1, ← p2]
    exact ag_ord h z1 o1 o2
theorem g_as (a b to : Int32) (S : XS) (h : Inv S) : Ag (mAs a b to (toM S)) (xN (xPerf 7 a b to S)) := by
  unfold mAs
  rw [msoE, mloE, mhiE]
  rcases one_cases (w := 7) (a := a) (b := b) (to := to) S (by decide) with ⟨e1, e2⟩ | ⟨e1, e2⟩ | ⟨ha, n1, e2, e1⟩
  · rw [perf_ref e1 m2, e2, if_pos m2]; exact ag_ref m2 h
  · rw [perf_ref e1 m3, e2, if_pos m3]; exact ag_ref m3 h
  · rw [e2, if_neg m0, perf_7 e1]
    obtain ⟨z1, u1, v1⟩ := slot_of h ha n1
    unfold xConv
    by_cases c : zSort b
    · rw [if_pos c, if_pos c]
      obtain ⟨p1, o1⟩ := made_eq z1 c u1
      obtain ⟨p2, o2⟩ := made_eq z1 c v1
      show Ag (1, mOrd to b (kMade (ixI (xso S) a) b (ixL (xlo S) a)) (kMade (ixI (xso S) a) b (ixL (xhi S) a)) (toM S)) _
      rw [← p1, ← p2]
      exact ag_ord h c o1 o2
    · rw [if_neg c, if_neg c]; exact ag_ref m4 h
