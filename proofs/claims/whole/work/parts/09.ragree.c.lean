/-! the run: the reference counts each step as it goes, the class at the end -/
def xAdd (e : Int32) (S : XS) : XS := (xso S, xlo S, xhi S, xwh S, xas S, xbs S, xts S, xst S, xrf S, xet S, xsd S + e)
def xA (e : Int32) (p : Int32 × XS) : Int32 × XS := (p.1, xAdd e p.2)
theorem ite_com {c : Prop} [Decidable c] {e : Int32} {p q p' q' : Int32 × XS} (h1 : xA e p = p') (h2 : xA e q = q') : xA e (if c then p else q) = if c then p' else q' := by
  by_cases h : c
  · rw [if_pos h, if_pos h]; exact h1
  · rw [if_neg h, if_neg h]; exact h2
theorem com_any (e to t : Int32) (u v : Int64) (S : XS) : xA e (xPutAny to t u v S) = xPutAny to t u v (xAdd e S) := by
  unfold xPutAny
  exact ite_com rfl rfl
theorem com_joined (e a b to : Int32) (S : XS) : xA e (xJoined a b to S) = xJoined a b to (xAdd e S) := rfl
theorem com_cut (e a b to : Int32) (S : XS) : xA e (xCut a b to S) = xCut a b to (xAdd e S) := com_any e to _ _ _ S
theorem com_sized (e a to : Int32) (S : XS) : xA e (xSized a to S) = xSized a to (xAdd e S) := by
  unfold xSized
  exact ite_com rfl rfl
theorem com_rounded (e a b to : Int32) (S : XS) : xA e (xRounded a b to S) = xRounded a b to (xAdd e S) := by
  unfold xRounded
  exact ite_com (ite_com rfl (com_any e to _ _ _ S)) rfl
theorem com_signed (e a to : Int32) (S : XS) : xA e (xSigned a to S) = xSigned a to (xAdd e S) := by
  unfold xSigned
  exact ite_com rfl rfl
theorem com_lent (e a b to : Int32) (S : XS) : xA e (xLent a b to S) = xLent a b to (xAdd e S) := by
  unfold xLent
  exact ite_com rfl rfl
theorem com_turned (e a to : Int32) (S : XS) : xA e (xTurned a to S) = xTurned a to (xAdd e S) := rfl
theorem com_conv (e a b to : Int32) (S : XS) : xA e (xConv a b to S) = xConv a b to (xAdd e S) := by
  unfold xConv
  exact ite_com rfl rfl
theorem com_ref (e w a b to : Int32) (S : XS) : xRef w a b to (xAdd e S) = xRef w a b to S := rfl
theorem com_perf (e w a b to : Int32) (S : XS) : xA e (xPerf w a b to S) = xPerf w a b to (xAdd e S) := by
  unfold xPerf
  rw [com_ref]
  exact ite_com rfl (ite_com (com_joined e a b to S) (ite_com (com_cut e a b to S) (ite_com (com_sized e a to S) (ite_com (com_rounded e a b to S) (ite_com (com_signed e a to S) (ite_com (com_lent e a b to S) (ite_com (com_turned e a to S) (com_conv e a b to S))))))))
theorem com_noted (e : Int32) (p : Int32 × XS) : xN (xA e p) = xA e (xN p) := rfl
theorem com_go (e : Int32) (i : Nat) (S : XS) : xGo i (xAdd e S) = xA e (xGo i S) := by
  show xN (xPerf (xwh S i) (xas S i) (xbs S i) (xts S i) (xAdd e S)) = xA e (xN (xPerf (xwh S i) (xas S i) (xbs S i) (xts S i) S))
  rw [← com_perf, com_noted]
theorem what_of {S : XS} {i : Nat} (h : Inv S) (hi : i < 12) (hn : ¬ xwh S i = -1) : xwh S i = 0 ∨ xwh S i = 1 ∨ xwh S i = 2 ∨ xwh S i = 3 ∨ xwh S i = 4 ∨ xwh S i = 5 ∨ xwh S i = 6 ∨ xwh S i = 7 := by
  have q := h.2 i
  generalize xwh S i = w at q hn
  have q : ¬ w < 0 ∧ ¬ 7 < w := by
    rcases q with q | q | q
    · exact absurd q hn
    · exact q
    · omega
  clear hn h
  simp only [Int32.lt_iff_toInt_lt, ← Int32.toInt_inj] at q ⊢
  simp at q ⊢
  omega
theorem what_to {S : XS} {i : Nat} (hi : i < 12) (hn : ¬ xwh S i = -1) : ixI (mwh (toM S)) (nI i) = xwh S i := by
  rw [ixI_nI (by omega)]
  show (if xwh S i = -1 ∨ 12 ≤ i then (0 : Int32) else xwh S i) = xwh S i
  rw [if_neg (show ¬ (xwh S i = -1 ∨ 12 ≤ i) from fun q => q.elim hn (fun z => by omega))]
theorem there_to {S : XS} {i : Nat} (hi : i < 12) : mth (toM S) i = 0 ↔ xwh S i = -1 := by
  show (if xwh S i = -1 ∨ 12 ≤ i then (0 : Int32) else 1) = 0 ↔ xwh S i = -1
  by_cases c : xwh S i = -1
  · rw [if_pos (Or.inl c)]; exact ⟨fun _ => c, fun _ => rfl⟩
  · rw [if_neg (show ¬ (xwh S i = -1 ∨ 12 ≤ i) from fun q => q.elim c (fun z => by omega))]
    exact ⟨fun q => absurd q (by decide), fun q => absurd q c⟩
theorem g_does {S : XS} {i : Nat} (h : Inv S) (hi : i < 12) (hn : ¬ xwh S i = -1) : Ag (mDoes (nI i) (toM S)) (xGo i S) := by
  have ea : ixI (mas (toM S)) (nI i) = xas S i := ixI_nI (f := mas (toM S)) (by omega)
  have eb : ixI (mbs (toM S)) (nI i) = xbs S i := ixI_nI (f := mbs (toM S)) (by omega)
  have et : ixI (mts (toM S)) (nI i) = xts S i := ixI_nI (f := mts (toM S)) (by omega)
  unfold mDoes xGo
  rw [what_to hi hn, ea, eb, et]
  rcases what_of h hi hn with q | q | q | q | q | q | q | q
  · rw [q, if_pos (show (0 : Int32) = 0 from rfl)]
    exact g_hull (xas S i) (xbs S i) (xts S i) S h
  · rw [q, if_neg (show ¬ (1 : Int32) = 0 by decide), if_pos (show (1 : Int32) = 1 from rfl)]
    exact g_meet (xas S i) (xbs S i) (xts S i) S h
  · rw [q, if_neg (show ¬ (2 : Int32) = 0 by decide), if_neg (show ¬ (2 : Int32) = 1 by decide), if_pos (show (2 : Int32) = 2 from rfl)]
    exact g_size (xas S i) (xbs S i) (xts S i) S h
  · rw [q, if_neg (show ¬ (3 : Int32) = 0 by decide), if_neg (show ¬ (3 : Int32) = 1 by decide), if_neg (show ¬ (3 : Int32) = 2 by decide), if_pos (show (3 : Int32) = 3 from rfl)]
    exact g_round (xas S i) (xbs S i) (xts S i) S h
  · rw [q, if_neg (show ¬ (4 : Int32) = 0 by decide), if_neg (show ¬ (4 : Int32) = 1 by decide), if_neg (show ¬ (4 : Int32) = 2 by decide), if_neg (show ¬ (4 : Int32) = 3 by decide), if_pos (show (4 : Int32) = 4 from rfl)]
    exact g_sign (xas S i) (xbs S i) (xts S i) S h
  · rw [q, if_neg (show ¬ (5 : Int32) = 0 by decide), if_neg (show ¬ (5 : Int32) = 1 by decide), if_neg (show ¬ (5 : Int32) = 2 by decide), if_neg (show ¬ (5 : Int32) = 3 by decide), if_neg (show ¬ (5 : Int32) = 4 by decide), if_pos (show (5 : Int32) = 5 from rfl)]
    exact g_lend (xas S i) (xbs S i) (xts S i) S h
  · rw [q, if_neg (show ¬ (6 : Int32) = 0 by decide), if_neg (show ¬ (6 : Int32) = 1 by decide), if_neg (show ¬ (6 : Int32) = 2 by decide), if_neg (show ¬ (6 : Int32) = 3 by decide), if_neg (show ¬ (6 : Int32) = 4 by decide), if_neg (show ¬ (6 : Int32) = 5 by decide), if_pos (show (6 : Int32) = 6 from rfl)]
    exact g_turn (xas S i) (xbs S i) (xts S i) S h
  · rw [q, if_neg (show ¬ (7 : Int32) = 0 by decide), if_neg (show ¬ (7 : Int32) = 1 by decide), if_neg (show ¬ (7 : Int32) = 2 by decide), if_neg (show ¬ (7 : Int32) = 3 by decide), if_neg (show ¬ (7 : Int32) = 4 by decide), if_neg (show ¬ (7 : Int32) = 5 by decide), if_neg (show ¬ (7 : Int32) = 6 by decide)]
    exact g_as (xas S i) (xbs S i) (xts S i) S h
theorem done_to (d : Nat) (S : XS) : mDone (toM (xAdd (nI d) S)) = toM (xAdd (nI (d + 1)) S) := by
  have e : xsd S + nI d + 1 = xsd S + nI (d + 1) := by rw [Int32.add_assoc, zinc']
  show (xso S, xlo S, xhi S, mth (toM S), mwh (toM S), xas S, xbs S, xts S, xst S, xrf S, xet S, xsd S + nI d + 1) = (xso S, xlo S, xhi S, mth (toM S), mwh (toM S), xas S, xbs S, xts S, xst S, xrf S, xet S, xsd S + nI (d + 1))
  rw [e]
theorem lp_to (n : Int32) : ∀ (f d : Nat) (S : XS), f ≤ 12 → Inv S → mLp n f d (toM (xAdd (nI d) S)) = ((xLp n f d S).1, toM (xAdd (nI (xLp n f d S).1) (xLp n f d S).2)) ∧ Inv (xLp n f d S).2
  | 0, d, S, _, h => ⟨rfl, h⟩
  | f + 1, d, S, hf, h => by
    have hi : 11 - f < 12 := by omega
    unfold mLp xLp
    by_cases c : nI d < n
    · rw [if_pos c, if_pos c]
      by_cases c1 : xwh S (11 - f) = -1
      · rw [if_pos c1, if_pos (show mth (toM (xAdd (nI d) S)) (11 - f) = 0 from (there_to (S := xAdd (nI d) S) hi).mpr c1)]
        exact ⟨rfl, h⟩
      · rw [if_neg c1, if_neg (show ¬ mth (toM (xAdd (nI d) S)) (11 - f) = 0 from fun q => c1 ((there_to (S := xAdd (nI d) S) hi).mp q))]
        obtain ⟨g1, _⟩ := g_does (S := xAdd (nI d) S) h hi c1
        obtain ⟨_, g2⟩ := g_does h hi c1
        rw [g1, com_go]
        show (if (xGo (11 - f) S).1 < 0 then (d, toM (xAdd (nI d) (xGo (11 - f) S).2)) else mLp n f (d + 1) (mDone (toM (xAdd (nI d) (xGo (11 - f) S).2)))) = _ ∧ _
        by_cases c2 : (xGo (11 - f) S).1 < 0
        · rw [if_pos c2, if_pos c2]
          exact ⟨rfl, g2⟩
        · rw [if_neg c2, if_neg c2, done_to]
          exact lp_to n f (d + 1) (xGo (11 - f) S).2 (by omega) g2
    · rw [if_neg c, if_neg c]
      exact ⟨rfl, h⟩
theorem calm_to (S : XS) : mSays (toM S) = toM (xAdd (nI 0) (xCalm S)) := by
  have e : xsd S + nI 0 = xsd S := by rw [show nI 0 = 0 from rfl, Int32.add_zero]
  show _ = (xso S, xlo S, xhi S, mth (toM S), mwh (toM S), xas S, xbs S, xts S, (0 : Int32), xrf S, xet S, xsd S + nI 0)
  rw [e]
  rfl
theorem ag_run (k n : Int32) (S : XS) (h : Inv S) : mRun k n (toM S) = ((xRun k n S).1, toM (xRun k n S).2) ∧ Inv (xRun k n S).2 := by
  unfold mRun xRun
  by_cases c : zSt k ∧ ¬ n < 0 ∧ ¬ 12 < n
  · rw [if_pos c, if_pos c, calm_to]
    obtain ⟨g1, g2⟩ := lp_to n (12 - k.toNatClampNeg) 0 (xCalm S) (by omega) (inv_calm h)
    rw [g1]
    exact ⟨rfl, g2⟩
  · rw [if_neg c, if_neg c]
    exact ag_ref m5 h
theorem run_nx : ∀ (S1 : MS) (i : Nat), i < 12 → (∃ S2, Inv S2 ∧ S1 = toM S2) → ¬ mth S1 i = 0 → ∃ S2, Inv S2 ∧ mDone (mDoes (nI i) S1).2 = toM S2 := by
  intro S1 i hi ⟨S2, h, e⟩ hn
  subst e
  obtain ⟨g1, g2⟩ := g_does h hi (fun q => hn ((there_to hi).mpr q))
  refine ⟨xAdd 1 (xGo i S2).2, g2, ?_⟩
  rw [g1]
  rfl
