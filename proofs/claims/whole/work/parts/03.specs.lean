/-! what each method answers, in words of its own: n.. the class's numbers, k.. the reference's, x.. the class's state, m.. the reference's -/
abbrev nBroken (t : Int32) : Prop := t = 2 ∨ t = 3
abbrev zSort (t : Int32) : Prop := ¬ t < 0 ∧ ¬ 3 < t
abbrev zTwo (w : Int32) : Prop := w = 0 ∨ w = 1 ∨ w = 5
abbrev zSlots (w a b to : Int32) : Prop := zSl a ∧ zSl to ∧ (¬ zTwo w ∨ zSl b)
def nFit (t : Int32) (v : Int64) : Int64 := if t = 0 ∨ t = 2 then v.toInt32.toInt64 else v
def nMask (t : Int32) : Int64 := if t = 2 then -2147483648 else -9223372036854775808
def nMag (t : Int32) (v : Int64) : Int64 := v &&& (nMask t ^^^ -1)
def nFrac (t : Int32) : Int32 := if t = 2 then 23 else 52
def nBias (t : Int32) : Int32 := if t = 2 then 127 else 1023
def nInf (t : Int32) : Int64 := jshl (2 * nBias t + 1).toInt64 (nFrac t)
def nOne (t : Int32) : Int64 := jshl (nBias t).toInt64 (nFrac t)
def nHalf (t : Int32) : Int64 := jshl (nBias t - 1).toInt64 (nFrac t)
def nPow (t : Int32) (z : Int64) : Int32 := (jushr z (nFrac t)).toInt32 - nBias t
def nMant (t : Int32) (z : Int64) : Int64 := (z &&& (jshl 1 (nFrac t) - 1)) ||| jshl 1 (nFrac t)
abbrev nNum (t : Int32) (v : Int64) : Prop := ¬ nBroken t ∨ ¬ nInf t < nMag t (nFit t v)
def nRank (v : Int64) : Int64 := if v < 0 then v ^^^ 9223372036854775807 else v
abbrev nLess (t : Int32) (a b : Int64) : Prop := (nBroken t ∧ nRank a < nRank b) ∨ (¬ nBroken t ∧ a < b)
def nLesser (t : Int32) (a b : Int64) : Int64 := if nLess t b a then b else a
def nGreater (t : Int32) (a b : Int64) : Int64 := if nLess t a b then b else a
abbrev nZero (t : Int32) (v : Int64) : Prop := (nBroken t ∧ nMag t v = 0) ∨ (¬ nBroken t ∧ v = 0)
abbrev nBelow (t : Int32) (v : Int64) : Prop := v < 0 ∧ ¬ nZero t v
abbrev nAbove (v : Int64) : Prop := 0 < v
def nNeg (t : Int32) (v : Int64) : Int64 := if nBroken t then v ^^^ nMask t else nFit t (-v)
def nSize (t : Int32) (v : Int64) : Int64 := if v < 0 then nNeg t v else v
def nWith (t : Int32) (v w : Int64) : Int64 := nMag t v ||| (w &&& nMask t)
def nSign (t : Int32) (v : Int64) : Int64 := if nZero t v then v else nWith t (nOne t) v
def nNear (v : Int64) (k : Int32) : Int64 := if jshl 1 (k - 1) < (v &&& (jshl 1 k - 1)) ∨ ((v &&& (jshl 1 k - 1)) = jshl 1 (k - 1) ∧ (jushr v k &&& 1) = 1) then jushr v k + 1 else jushr v k
def nWMag (t : Int32) (z : Int64) (near away : Int32) : Int64 :=
  if z = 0 ∨ ¬ nPow t z < nFrac t then z
  else if nPow t z < 0 then (if (¬ near = 0 ∧ nHalf t < z) ∨ (near = 0 ∧ ¬ away = 0) then nOne t else 0)
  else if ¬ near = 0 then jshl (nNear z (nFrac t - nPow t z)) (nFrac t - nPow t z)
  else if ¬ (z &&& (jshl 1 (nFrac t - nPow t z) - 1)) = 0 ∧ ¬ away = 0 then (z &&& -(jshl 1 (nFrac t - nPow t z))) + jshl 1 (nFrac t - nPow t z)
  else z &&& -(jshl 1 (nFrac t - nPow t z))
def nWhole (t : Int32) (v : Int64) (w : Int32) : Int64 := nWith t (nWMag t (nMag t v) (if w = 2 then 1 else 0) (if (v < 0 ∧ w = 0) ∨ (¬ v < 0 ∧ w = 1) then 1 else 0)) v
def nHb (v : Int64) : Nat → Int32
  | 0 => 0
  | n + 1 => if jushr v (nI (n + 1)) = 0 then nHb v n else nI (n + 1)
def nHigh (v : Int64) : Int32 := nHb v 63
def nAbs (v : Int64) : Int64 := if v < 0 then -v else v
def nW2Bm (z : Int64) (t : Int32) : Int64 := if nFrac t < nHigh z then nNear z (nHigh z - nFrac t) else jshl z (nFrac t - nHigh z)
def nW2Bb (z : Int64) (t : Int32) : Int64 := jshl (nHigh z + nBias t - 1).toInt64 (nFrac t) + nW2Bm z t
def nW2B (v : Int64) (t : Int32) : Int64 := if v = 0 then 0 else if v < 0 then nW2Bb (-v) t ||| nMask t else nW2Bb v t
def nExt (t b : Int32) : Int64 := if t = 0 then (if b = 0 then 2147483647 else -2147483648) else (if b = 0 then 9223372036854775807 else -9223372036854775808)
def nB2Wm (f : Int32) (z : Int64) : Int64 := if nFrac f - nPow f z < 0 then jshl (nMant f z) (-(nFrac f - nPow f z)) else jushr (nMant f z) (nFrac f - nPow f z)
def nB2W (f : Int32) (v : Int64) (t : Int32) : Int64 :=
  if nPow f (nMag f v) < 0 then 0
  else if nPow f (nMag f v) < (if t = 1 then 63 else 31) then (if v < 0 then -(nB2Wm f (nMag f v)) else nB2Wm f (nMag f v))
  else nExt t (if v < 0 then 1 else 0)
def nWiden (z : Int64) : Int64 :=
  if z = 0 then 0 else if z = nInf 2 then nInf 3
  else if jushr z 23 = 0 then jshl (nHigh z + (-149) + 1023 - 1).toInt64 52 + jshl z (52 - nHigh z)
  else jshl z 29 + 4035225266123964416
def nNarrow (z : Int64) : Int64 :=
  if 127 < nPow 3 z then nInf 2 else if nPow 3 z < (-150) then 0
  else if (-127) < nPow 3 z then nNear (z - 4035225266123964416) 29
  else nNear (nMant 3 z) ((-97) - nPow 3 z)
def nOfb (f : Int32) (v : Int64) (t : Int32) : Int64 := if t = 3 then nWiden (nMag f v) else nNarrow (nMag f v)
def nOf (f : Int32) (v : Int64) (t : Int32) : Int64 :=
  if f = t then v
  else if nBroken t then (if nBroken f then (if v < 0 then nOfb f v t ||| nMask t else nOfb f v t) else nW2B v t)
  else (if nBroken f then nB2W f v t else nFit t v)
abbrev kBroken (t : Int32) : Prop := ¬ t < 2
def kMag (t : Int32) (v : Int64) : Int64 := if t = 2 then v &&& 2147483647 else v &&& 9223372036854775807
def kInf (t : Int32) : Int64 := if t = 2 then 2139095040 else 9218868437227405312
def kOne (t : Int32) : Int64 := if t = 2 then 1065353216 else 4607182418800017408
def kSgn (t : Int32) (z : Int64) (b : Int32) : Int64 := if b = 0 then z else if t = 2 then (z ||| 2147483648).toInt32.toInt64 else z ||| -9223372036854775808
abbrev kNum (t : Int32) (v : Int64) : Prop := ¬ kBroken t ∨ ¬ kInf t < kMag t v
def kRank (t : Int32) (v : Int64) : Int64 := if kBroken t ∧ v < 0 then (if t = 2 then v ^^^ 2147483647 else v ^^^ 9223372036854775807) else v
abbrev kAbove (t : Int32) (v w : Int64) : Prop := kRank t w < kRank t v
def kGreater (t : Int32) (v w : Int64) : Int64 := if kAbove t v w then v else w
def kLesser (t : Int32) (v w : Int64) : Int64 := if kAbove t v w then w else v
def kSize (t : Int32) (v : Int64) : Int64 := if kBroken t then kMag t v else if v < 0 then nFit t (-v) else v
def kTurned (t : Int32) (v : Int64) : Int64 := if kBroken t then kSgn t (kMag t v) (if v < 0 then 0 else 1) else nFit t (-v)
abbrev kZero (t : Int32) (v : Int64) : Prop := (kBroken t ∧ kMag t v = 0) ∨ (¬ kBroken t ∧ v = 0)
def kSignOf (t : Int32) (v : Int64) : Int64 := if kZero t v then v else kSgn t (kOne t) (if v < 0 then 1 else 0)
def kPow (t : Int32) (z : Int64) : Int32 := (jshr z (nFrac t)).toInt32 - nBias t
abbrev kMore (v : Int64) (how : Int32) : Prop := (how = 0 ∧ v < 0) ∨ (how = 1 ∧ ¬ v < 0)
def kUnit (t : Int32) (z : Int64) : Int64 := jshl 1 (nFrac t - kPow t z)
def kRest (t : Int32) (z : Int64) : Int64 := z &&& (kUnit t z - 1)
abbrev kMoreS (t : Int32) (v z : Int64) (how : Int32) : Prop := (how = 2 ∧ jshl ((nBias t).toInt64 - 1) (nFrac t) < z) ∨ (¬ how = 2 ∧ kMore v how)
abbrev kMoreL (t : Int32) (v z : Int64) (how : Int32) : Prop := (how = 2 ∧ (kUnit t z / 2 < kRest t z ∨ (kRest t z = kUnit t z / 2 ∧ ¬ ((z - kRest t z) &&& kUnit t z) = 0))) ∨ (¬ how = 2 ∧ kMore v how)
def kWhole (t : Int32) (v : Int64) (how : Int32) : Int64 :=
  if ¬ kPow t (kMag t v) < nFrac t ∨ kMag t v = 0 then v
  else if kPow t (kMag t v) < 0 then kSgn t (if kMoreS t v (kMag t v) how then kOne t else 0) (if v < 0 then 1 else 0)
  else if kRest t (kMag t v) = 0 then v
  else kSgn t (if kMoreL t v (kMag t v) how then kMag t v - kRest t (kMag t v) + kUnit t (kMag t v) else kMag t v - kRest t (kMag t v)) (if v < 0 then 1 else 0)
def kDbl (f : Int32) (v : Int64) : UInt64 := if f = 2 then FP.f2d v.toInt32.toUInt32 else v.toUInt64
def kMade (f t : Int32) (v : Int64) : Int64 :=
  if f = t then v
  else if kBroken f then
    (if t = 0 then (FP.d2i (kDbl f v)).toInt64 else if t = 1 then FP.d2l (kDbl f v) else if t = 2 then (FP.d2f (kDbl f v)).toInt32.toInt64 else (kDbl f v).toInt64)
  else if kBroken t then (if t = 2 then (FP.l2f v).toInt32.toInt64 else (FP.l2d v).toInt64)
  else nFit t v
/-- what is asked of a number that is made another: no step on the way makes a NaN -/
def kFine (f t : Int32) (v : Int64) : Prop :=
  (f = 2 → vn_sni2f v.toInt32 = false ∧ vf_n64 (FP.f2d v.toInt32.toUInt32)) ∧ (f = 3 → vn_snl2d v = false)
  ∧ (kBroken f → Op.cmpValue (FP.dcmp (kDbl f v) (kDbl f v)) .l = 0 ∧ vf_n32 (FP.d2f (kDbl f v)) ∧ Op.cmpValue (FP.fcmp (FP.d2f (kDbl f v)) (FP.d2f (kDbl f v))) .l = 0)
  ∧ Op.cmpValue (FP.fcmp (FP.l2f v) (FP.l2f v)) .l = 0 ∧ Op.cmpValue (FP.dcmp (FP.l2d v) (FP.l2d v)) .l = 0
/-! the class's state: sorts, lows, highs, stepWhats, stepAs, stepBs, stepTos, latestRefusal, refusals, endsTold, stepsDone -/
abbrev XS : Type := (Nat → Int32) × (Nat → Int64) × (Nat → Int64) × (Nat → Int32) × (Nat → Int32) × (Nat → Int32) × (Nat → Int32) × Int32 × Int32 × Int32 × Int32
abbrev xso (S : XS) : Nat → Int32 := S.1
abbrev xlo (S : XS) : Nat → Int64 := S.2.1
abbrev xhi (S : XS) : Nat → Int64 := S.2.2.1
abbrev xwh (S : XS) : Nat → Int32 := S.2.2.2.1
abbrev xas (S : XS) : Nat → Int32 := S.2.2.2.2.1
abbrev xbs (S : XS) : Nat → Int32 := S.2.2.2.2.2.1
abbrev xts (S : XS) : Nat → Int32 := S.2.2.2.2.2.2.1
abbrev xst (S : XS) : Int32 := S.2.2.2.2.2.2.2.1
abbrev xrf (S : XS) : Int32 := S.2.2.2.2.2.2.2.2.1
abbrev xet (S : XS) : Int32 := S.2.2.2.2.2.2.2.2.2.1
abbrev xsd (S : XS) : Int32 := S.2.2.2.2.2.2.2.2.2.2
def xW (ad : Nat → Nat) (cy : Nat → ClassId) (S : XS) : va_W := [(ad 0, .inr (0, [.ref (ad 1), .ref (ad 2), .ref (ad 3), .ref (ad 4), .ref (ad 5), .ref (ad 6), .ref (ad 7), .int (xst S), .int (xrf S), .int (xet S), .int (xsd S)])), (ad 1, .inl (cy 1, 16, .inl (xso S))), (ad 2, .inl (cy 2, 16, .inr (.inl (xlo S)))), (ad 3, .inl (cy 3, 16, .inr (.inl (xhi S)))), (ad 4, .inl (cy 4, 12, .inl (xwh S))), (ad 5, .inl (cy 5, 12, .inl (xas S))), (ad 6, .inl (cy 6, 12, .inl (xbs S))), (ad 7, .inl (cy 7, 12, .inl (xts S)))]
def xT (cy : Nat → ClassId) : List (ClassId × FieldType) := [(cy 1, .int), (cy 2, .long), (cy 3, .long), (cy 4, .int), (cy 5, .int), (cy 6, .int), (cy 7, .int)]
abbrev ixI (f : Nat → Int32) (i : Int32) : Int32 := f i.toNatClampNeg
abbrev ixL (f : Nat → Int64) (i : Int32) : Int64 := f i.toNatClampNeg
def xNoted (a : Int32) (S : XS) : XS := (xso S, xlo S, xhi S, xwh S, xas S, xbs S, xts S, (if a < 0 then a else 0), (if a < 0 then xrf S + 1 else xrf S), xet S, xsd S)
def xPut (to t : Int32) (u v : Int64) (S : XS) : XS := (upd (xso S) to.toNatClampNeg t, vp_updL (xlo S) to.toNatClampNeg u, vp_updL (xhi S) to.toNatClampNeg v, xwh S, xas S, xbs S, xts S, xst S, xrf S, xet S, xsd S)
def xVoid (to : Int32) (S : XS) : XS := (upd (xso S) to.toNatClampNeg (-1), xlo S, xhi S, xwh S, xas S, xbs S, xts S, xst S, xrf S, xet S, xsd S)
def xPutOrd (to t : Int32) (u v : Int64) (S : XS) : XS := xPut to t (nLesser t u v) (nGreater t u v) S
def xPutAny (to t : Int32) (u v : Int64) (S : XS) : Int32 × XS := if nLess t v u then (0, xVoid to S) else (1, xPut to t u v S)
def xJoined (a b to : Int32) (S : XS) : Int32 × XS := (1, xPut to (ixI (xso S) a) (nLesser (ixI (xso S) a) (ixL (xlo S) a) (ixL (xlo S) b)) (nGreater (ixI (xso S) a) (ixL (xhi S) a) (ixL (xhi S) b)) S)
def xCut (a b to : Int32) (S : XS) : Int32 × XS := xPutAny to (ixI (xso S) a) (nGreater (ixI (xso S) a) (ixL (xlo S) a) (ixL (xlo S) b)) (nLesser (ixI (xso S) a) (ixL (xhi S) a) (ixL (xhi S) b)) S
def xSized (a to : Int32) (S : XS) : Int32 × XS :=
  if nBelow (ixI (xso S) a) (ixL (xlo S) a) ∧ nAbove (ixL (xhi S) a) then (1, xPutOrd to (ixI (xso S) a) 0 (nGreater (ixI (xso S) a) (nSize (ixI (xso S) a) (ixL (xlo S) a)) (nSize (ixI (xso S) a) (ixL (xhi S) a))) S)
  else (1, xPutOrd to (ixI (xso S) a) (nSize (ixI (xso S) a) (ixL (xlo S) a)) (nSize (ixI (xso S) a) (ixL (xhi S) a)) S)
def xRounded (a how to : Int32) (S : XS) : Int32 × XS :=
  if nBroken (ixI (xso S) a) then
    (if how < 0 ∨ 4 < how then (-5, S)
     else xPutAny to (ixI (xso S) a) (nWhole (ixI (xso S) a) (ixL (xlo S) a) (if how = 3 then 0 else if how = 4 then 1 else how)) (nWhole (ixI (xso S) a) (ixL (xhi S) a) (if how = 3 then 1 else if how = 4 then 0 else how)) S)
  else (-4, S)
def xSigned (a to : Int32) (S : XS) : Int32 × XS := if nBroken (ixI (xso S) a) then (1, xPut to (ixI (xso S) a) (nSign (ixI (xso S) a) (ixL (xlo S) a)) (nSign (ixI (xso S) a) (ixL (xhi S) a)) S) else (-4, S)
def xLent (a b to : Int32) (S : XS) : Int32 × XS := if nBroken (ixI (xso S) a) then (1, xPutOrd to (ixI (xso S) a) (nWith (ixI (xso S) a) (ixL (xlo S) a) (ixL (xlo S) b)) (nWith (ixI (xso S) a) (ixL (xhi S) a) (ixL (xhi S) b)) S) else (-4, S)
def xTurned (a to : Int32) (S : XS) : Int32 × XS := (1, xPutOrd to (ixI (xso S) a) (nNeg (ixI (xso S) a) (ixL (xlo S) a)) (nNeg (ixI (xso S) a) (ixL (xhi S) a)) S)
def xConv (a t to : Int32) (S : XS) : Int32 × XS := if zSort t then (1, xPutOrd to t (nOf (ixI (xso S) a) (ixL (xlo S) a) t) (nOf (ixI (xso S) a) (ixL (xhi S) a) t) S) else (-4, S)
def xTake (i : Int32) (S : XS) : Int32 := if zSl i then (if ixI (xso S) i = -1 then -3 else 0) else -2
def xCmp (i : Int32) (v : Int64) (S : XS) : Int32 := if xTake i S < 0 then xTake i S else if nNum (ixI (xso S) i) v then 0 else -4
def xRef (w a b to : Int32) (S : XS) : Int32 := if zSlots w a b to then (if ixI (xso S) a = -1 then -3 else if zTwo w then (if ixI (xso S) b = -1 then -3 else if ixI (xso S) a = ixI (xso S) b then 0 else -4) else 0) else -2
def xPerf (w a b to : Int32) (S : XS) : Int32 × XS :=
  if xRef w a b to S < 0 then (xRef w a b to S, S)
  else if w = 0 then xJoined a b to S else if w = 1 then xCut a b to S else if w = 2 then xSized a to S else if w = 3 then xRounded a b to S
  else if w = 4 then xSigned a to S else if w = 5 then xLent a b to S else if w = 6 then xTurned a to S else xConv a b to S
def xPlaced (i t : Int32) (u v : Int64) (S : XS) : Int32 × XS :=
  if zSl i then (if zSort t ∧ nNum t u ∧ nNum t v then (if nLess t (nFit t v) (nFit t u) then (-5, S) else (1, xPut i t (nFit t u) (nFit t v) S)) else (-4, S)) else (-2, S)
def xN (p : Int32 × XS) : Int32 × XS := (p.1, xNoted p.1 p.2)
def xClear (i : Int32) (S : XS) : Int32 × XS := if zSl i then xN (if ixI (xso S) i = -1 then 0 else 1, xVoid i S) else xN (-2, S)
def xSort (i : Int32) (S : XS) : Int32 × XS := xN (if xTake i S < 0 then xTake i S else ixI (xso S) i, S)
def xTold (S : XS) : XS := (xso S, xlo S, xhi S, xwh S, xas S, xbs S, xts S, xst S, xrf S, xet S + 1, xsd S)
def xLow (i : Int32) (S : XS) : Int64 × XS := if xTake i S < 0 then (0, xNoted (xTake i S) S) else (ixL (xlo S) i, xTold (xNoted (xTake i S) S))
def xHigh (i : Int32) (S : XS) : Int64 × XS := if xTake i S < 0 then (0, xNoted (xTake i S) S) else (ixL (xhi S) i, xTold (xNoted (xTake i S) S))
def xNear (i : Int32) (v : Int64) (S : XS) : Int64 × XS := if xCmp i v S < 0 then (0, xNoted (xCmp i v S) S) else (nLesser (ixI (xso S) i) (nGreater (ixI (xso S) i) (nFit (ixI (xso S) i) v) (ixL (xlo S) i)) (ixL (xhi S) i), xNoted (xCmp i v S) S)
def xHas (i : Int32) (v : Int64) (S : XS) : Int32 × XS := xN (if xCmp i v S < 0 then xCmp i v S else if nLess (ixI (xso S) i) (nFit (ixI (xso S) i) v) (ixL (xlo S) i) ∨ nLess (ixI (xso S) i) (ixL (xhi S) i) (nFit (ixI (xso S) i) v) then 0 else 1, S)
def xAlike (a b : Int32) (S : XS) : Int32 × XS :=
  xN (if zSl a ∧ zSl b then (if ixI (xso S) a = -1 ∨ ixI (xso S) b = -1 then -3 else if ixI (xso S) a = ixI (xso S) b ∧ ixL (xlo S) a = ixL (xlo S) b ∧ ixL (xhi S) a = ixL (xhi S) b then 1 else 0) else -2, S)
def xStepS (k w a b to : Int32) (S : XS) : XS := (xso S, xlo S, xhi S, upd (xwh S) k.toNatClampNeg w, upd (xas S) k.toNatClampNeg a, upd (xbs S) k.toNatClampNeg b, upd (xts S) k.toNatClampNeg to, xst S, xrf S, xet S, xsd S)
def xStep (k w a b to : Int32) (S : XS) : Int32 × XS := if zSlots w a b to then (if zSt k ∧ ¬ w < 0 ∧ ¬ 7 < w then xN (1, xStepS k w a b to S) else xN (-5, S)) else xN (-2, S)
/-! the reference's state: sorts, lows, highs, there, what, first, second, goal, state, refused, told, done -/
abbrev MS : Type := (Nat → Int32) × (Nat → Int64) × (Nat → Int64) × (Nat → Int32) × (Nat → Int32) × (Nat → Int32) × (Nat → Int32) × (Nat → Int32) × Int32 × Int32 × Int32 × Int32
abbrev mso (S : MS) : Nat → Int32 := S.1
abbrev mlo (S : MS) : Nat → Int64 := S.2.1
abbrev mhi (S : MS) : Nat → Int64 := S.2.2.1
abbrev mth (S : MS) : Nat → Int32 := S.2.2.2.1
abbrev mwh (S : MS) : Nat → Int32 := S.2.2.2.2.1
abbrev mas (S : MS) : Nat → Int32 := S.2.2.2.2.2.1
abbrev mbs (S : MS) : Nat → Int32 := S.2.2.2.2.2.2.1
abbrev mts (S : MS) : Nat → Int32 := S.2.2.2.2.2.2.2.1
abbrev mst (S : MS) : Int32 := S.2.2.2.2.2.2.2.2.1
abbrev mrf (S : MS) : Int32 := S.2.2.2.2.2.2.2.2.2.1
abbrev met (S : MS) : Int32 := S.2.2.2.2.2.2.2.2.2.2.1
abbrev msd (S : MS) : Int32 := S.2.2.2.2.2.2.2.2.2.2.2
def mW (ad : Nat → Nat) (cy : Nat → ClassId) (S : MS) : va_W := [(ad 0, .inr (1, [.ref (ad 1), .ref (ad 2), .ref (ad 3), .ref (ad 4), .ref (ad 5), .ref (ad 6), .ref (ad 7), .ref (ad 8), .int (mst S), .int (mrf S), .int (met S), .int (msd S)])), (ad 1, .inl (cy 1, 16, .inl (mso S))), (ad 2, .inl (cy 2, 16, .inr (.inl (mlo S)))), (ad 3, .inl (cy 3, 16, .inr (.inl (mhi S)))), (ad 4, .inl (cy 4, 12, .inl (mth S))), (ad 5, .inl (cy 5, 12, .inl (mwh S))), (ad 6, .inl (cy 6, 12, .inl (mas S))), (ad 7, .inl (cy 7, 12, .inl (mbs S))), (ad 8, .inl (cy 8, 12, .inl (mts S)))]
def mT (cy : Nat → ClassId) : List (ClassId × FieldType) := [(cy 1, .int), (cy 2, .long), (cy 3, .long), (cy 4, .boolean), (cy 5, .int), (cy 6, .int), (cy 7, .int), (cy 8, .int)]
def mRef (y : Int32) (S : MS) : MS := (mso S, mlo S, mhi S, mth S, mwh S, mas S, mbs S, mts S, y, mrf S + 1, met S, msd S)
def mSays (S : MS) : MS := (mso S, mlo S, mhi S, mth S, mwh S, mas S, mbs S, mts S, 0, mrf S, met S, msd S)
def mPut (to t : Int32) (u v : Int64) (S : MS) : MS := (upd (mso S) to.toNatClampNeg t, vp_updL (mlo S) to.toNatClampNeg u, vp_updL (mhi S) to.toNatClampNeg v, mth S, mwh S, mas S, mbs S, mts S, mst S, mrf S, met S, msd S)
def mComes (to t : Int32) (u v : Int64) (S : MS) : MS := mSays (mPut to t u v S)
def mVoid (to : Int32) (S : MS) : MS := (upd (mso S) to.toNatClampNeg (-1), mlo S, mhi S, mth S, mwh S, mas S, mbs S, mts S, mst S, mrf S, met S, msd S)
def mOrd (to t : Int32) (u v : Int64) (S : MS) : MS := mComes to t (kLesser t u v) (kGreater t u v) S
def mEmpty (to : Int32) (S : MS) : MS := mSays (mVoid to S)
def mWhy (a b to : Int32) (S : MS) : Int32 := if zSl a ∧ zSl b ∧ zSl to then (if ixI (mso S) a = -1 ∨ ixI (mso S) b = -1 then -3 else 0) else -2
theorem mWhy_cases (a b to : Int32) (S : MS) : (mWhy a b to S = -2) ∨ (mWhy a b to S = -3) ∨ (mWhy a b to S = 0 ∧ zSl a ∧ zSl b ∧ zSl to) := by
  unfold mWhy
  by_cases h : zSl a ∧ zSl b ∧ zSl to
  · rw [if_pos h]
    by_cases h2 : ixI (mso S) a = -1 ∨ ixI (mso S) b = -1
    · rw [if_pos h2]; exact Or.inr (Or.inl rfl)
    · rw [if_neg h2]; exact Or.inr (Or.inr ⟨rfl, h⟩)
  · rw [if_neg h]; exact Or.inl rfl
def mSet (i t : Int32) (u v : Int64) (S : MS) : Int32 × MS :=
  if zSl i then (if zSort t then (if kNum t (nFit t u) ∧ kNum t (nFit t v) then (if kAbove t (nFit t u) (nFit t v) then (-5, mRef (-5) S) else (1, mComes i t (nFit t u) (nFit t v) S)) else (-4, mRef (-4) S)) else (-4, mRef (-4) S)) else (-2, mRef (-2) S)
def mClear (i : Int32) (S : MS) : Int32 × MS := if zSl i then (if ixI (mso S) i = -1 then 0 else 1, mSays (mVoid i S)) else (-2, mRef (-2) S)
def mSort (i : Int32) (S : MS) : Int32 × MS := if mWhy i i i S < 0 then (mWhy i i i S, mRef (mWhy i i i S) S) else (ixI (mso S) i, mSays S)
def mTold (S : MS) : MS := (mso S, mlo S, mhi S, mth S, mwh S, mas S, mbs S, mts S, 0, mrf S, met S + 1, msd S)
def mEnd (i hi : Int32) (S : MS) : Int64 × MS := if mWhy i i i S < 0 then (0, mRef (mWhy i i i S) S) else (if hi = 0 then ixL (mlo S) i else ixL (mhi S) i, mTold S)
def mHull (a b to : Int32) (S : MS) : Int32 × MS :=
  if mWhy a b to S < 0 then (mWhy a b to S, mRef (mWhy a b to S) S)
  else if ixI (mso S) a = ixI (mso S) b then (1, mComes to (ixI (mso S) a) (kLesser (ixI (mso S) a) (ixL (mlo S) a) (ixL (mlo S) b)) (kGreater (ixI (mso S) a) (ixL (mhi S) a) (ixL (mhi S) b)) S)
  else (-4, mRef (-4) S)
def mAny (to t : Int32) (u v : Int64) (S : MS) : Int32 × MS := if kAbove t u v then (0, mEmpty to S) else (1, mComes to t u v S)
def mMeet (a b to : Int32) (S : MS) : Int32 × MS :=
  if mWhy a b to S < 0 then (mWhy a b to S, mRef (mWhy a b to S) S)
  else if ixI (mso S) a = ixI (mso S) b then mAny to (ixI (mso S) a) (kGreater (ixI (mso S) a) (ixL (mlo S) a) (ixL (mlo S) b)) (kLesser (ixI (mso S) a) (ixL (mhi S) a) (ixL (mhi S) b)) S
  else (-4, mRef (-4) S)
def mSize (a to : Int32) (S : MS) : Int32 × MS :=
  if mWhy a a to S < 0 then (mWhy a a to S, mRef (mWhy a a to S) S)
  else if (ixL (mlo S) a < 0 ∧ ¬ kZero (ixI (mso S) a) (ixL (mlo S) a)) ∧ 0 < ixL (mhi S) a then (1, mOrd to (ixI (mso S) a) 0 (kGreater (ixI (mso S) a) (kSize (ixI (mso S) a) (ixL (mlo S) a)) (kSize (ixI (mso S) a) (ixL (mhi S) a))) S)
  else (1, mOrd to (ixI (mso S) a) (kSize (ixI (mso S) a) (ixL (mlo S) a)) (kSize (ixI (mso S) a) (ixL (mhi S) a)) S)
def mRound (a how to : Int32) (S : MS) : Int32 × MS :=
  if mWhy a a to S < 0 then (mWhy a a to S, mRef (mWhy a a to S) S)
  else if kBroken (ixI (mso S) a) then
    (if how < 0 ∨ 4 < how then (-5, mRef (-5) S)
     else mAny to (ixI (mso S) a) (kWhole (ixI (mso S) a) (ixL (mlo S) a) (if how < 3 then how else how - 3)) (kWhole (ixI (mso S) a) (ixL (mhi S) a) (if how < 3 then how else 4 - how)) S)
  else (-4, mRef (-4) S)
def mSign (a to : Int32) (S : MS) : Int32 × MS :=
  if mWhy a a to S < 0 then (mWhy a a to S, mRef (mWhy a a to S) S)
  else if kBroken (ixI (mso S) a) then (1, mComes to (ixI (mso S) a) (kSignOf (ixI (mso S) a) (ixL (mlo S) a)) (kSignOf (ixI (mso S) a) (ixL (mhi S) a)) S)
  else (-4, mRef (-4) S)
def mLend (a b to : Int32) (S : MS) : Int32 × MS :=
  if mWhy a b to S < 0 then (mWhy a b to S, mRef (mWhy a b to S) S)
  else if kBroken (ixI (mso S) a) ∧ ixI (mso S) a = ixI (mso S) b then (1, mOrd to (ixI (mso S) a) (kSgn (ixI (mso S) a) (kMag (ixI (mso S) a) (ixL (mlo S) a)) (if ixL (mlo S) b < 0 then 1 else 0)) (kSgn (ixI (mso S) a) (kMag (ixI (mso S) a) (ixL (mhi S) a)) (if ixL (mhi S) b < 0 then 1 else 0)) S)
  else (-4, mRef (-4) S)
def mTurn (a to : Int32) (S : MS) : Int32 × MS :=
  if mWhy a a to S < 0 then (mWhy a a to S, mRef (mWhy a a to S) S)
  else (1, mOrd to (ixI (mso S) a) (kTurned (ixI (mso S) a) (ixL (mlo S) a)) (kTurned (ixI (mso S) a) (ixL (mhi S) a)) S)
def mAs (a t to : Int32) (S : MS) : Int32 × MS :=
  if mWhy a a to S < 0 then (mWhy a a to S, mRef (mWhy a a to S) S)
  else if zSort t then (1, mOrd to t (kMade (ixI (mso S) a) t (ixL (mlo S) a)) (kMade (ixI (mso S) a) t (ixL (mhi S) a)) S)
  else (-4, mRef (-4) S)
def mNear (i : Int32) (v : Int64) (S : MS) : Int64 × MS :=
  if mWhy i i i S < 0 then (0, mRef (mWhy i i i S) S)
  else if kNum (ixI (mso S) i) (nFit (ixI (mso S) i) v) then (kLesser (ixI (mso S) i) (kGreater (ixI (mso S) i) (nFit (ixI (mso S) i) v) (ixL (mlo S) i)) (ixL (mhi S) i), mSays S)
  else (0, mRef (-4) S)
def mHas (i : Int32) (v : Int64) (S : MS) : Int32 × MS :=
  if mWhy i i i S < 0 then (mWhy i i i S, mRef (mWhy i i i S) S)
  else if kNum (ixI (mso S) i) (nFit (ixI (mso S) i) v) then (if kAbove (ixI (mso S) i) (ixL (mlo S) i) (nFit (ixI (mso S) i) v) ∨ kAbove (ixI (mso S) i) (nFit (ixI (mso S) i) v) (ixL (mhi S) i) then 0 else 1, mSays S)
  else (-4, mRef (-4) S)
def mAlike (a b : Int32) (S : MS) : Int32 × MS :=
  if mWhy a b a S < 0 then (mWhy a b a S, mRef (mWhy a b a S) S)
  else (if ixI (mso S) a = ixI (mso S) b ∧ ixL (mlo S) a = ixL (mlo S) b ∧ ixL (mhi S) a = ixL (mhi S) b then 1 else 0, mSays S)
def mStepS (k w a b to : Int32) (S : MS) : MS := (mso S, mlo S, mhi S, upd (mth S) k.toNatClampNeg 1, upd (mwh S) k.toNatClampNeg w, upd (mas S) k.toNatClampNeg a, upd (mbs S) k.toNatClampNeg b, upd (mts S) k.toNatClampNeg to, mst S, mrf S, met S, msd S)
def mStep (k w a b to : Int32) (S : MS) : Int32 × MS := if zSlots w a b to then (if zSt k ∧ ¬ w < 0 ∧ ¬ 7 < w then (1, mSays (mStepS k w a b to S)) else (-5, mRef (-5) S)) else (-2, mRef (-2) S)
def mDoes (k : Int32) (S : MS) : Int32 × MS :=
  if ixI (mwh S) k = 0 then mHull (ixI (mas S) k) (ixI (mbs S) k) (ixI (mts S) k) S else if ixI (mwh S) k = 1 then mMeet (ixI (mas S) k) (ixI (mbs S) k) (ixI (mts S) k) S
  else if ixI (mwh S) k = 2 then mSize (ixI (mas S) k) (ixI (mts S) k) S else if ixI (mwh S) k = 3 then mRound (ixI (mas S) k) (ixI (mbs S) k) (ixI (mts S) k) S
  else if ixI (mwh S) k = 4 then mSign (ixI (mas S) k) (ixI (mts S) k) S else if ixI (mwh S) k = 5 then mLend (ixI (mas S) k) (ixI (mbs S) k) (ixI (mts S) k) S
  else if ixI (mwh S) k = 6 then mTurn (ixI (mas S) k) (ixI (mts S) k) S else mAs (ixI (mas S) k) (ixI (mbs S) k) (ixI (mts S) k) S
