theorem fb_rng (x : Int32) : -2147483648 ≤ x.toInt ∧ x.toInt < 2147483648 := by
  have h1 := Int32.le_toInt x
  have h2 := Int32.toInt_lt x
  omega
theorem fb_bmod {z : Int} (h1 : -2147483648 ≤ z) (h2 : z < 2147483648) : z.bmod (2 ^ 32) = z := by
  rw [Int.bmod_eq_of_le (by omega) (by omega)]
theorem fb_addI {x y : Int32} (h1 : -2147483648 ≤ x.toInt + y.toInt) (h2 : x.toInt + y.toInt < 2147483648) : (x + y).toInt = x.toInt + y.toInt := by
  rw [Int32.toInt_add, fb_bmod h1 h2]
theorem fb_subI {x y : Int32} (h1 : -2147483648 ≤ x.toInt - y.toInt) (h2 : x.toInt - y.toInt < 2147483648) : (x - y).toInt = x.toInt - y.toInt := by
  rw [Int32.toInt_sub, fb_bmod h1 h2]
theorem fb_mulI {x y : Int32} (h1 : -2147483648 ≤ x.toInt * y.toInt) (h2 : x.toInt * y.toInt < 2147483648) : (x * y).toInt = x.toInt * y.toInt := by
  rw [Int32.toInt_mul, fb_bmod h1 h2]
theorem fb_negI {x : Int32} (h : x.toInt ≠ -2147483648) : (-x).toInt = -x.toInt := by
  have := fb_rng x
  rw [Int32.toInt_neg, fb_bmod (by omega) (by omega)]
theorem fb_ofI {z : Int} (h1 : -2147483648 ≤ z) (h2 : z < 2147483648) : (Int32.ofInt z).toInt = z := by
  rw [Int32.toInt_ofInt, fb_bmod h1 h2]
theorem fb_asI (x : Int32) : Int32.ofInt x.toInt = x := Int32.ofInt_toInt x
theorem fb_rngL (x : Int64) : -9223372036854775808 ≤ x.toInt ∧ x.toInt < 9223372036854775808 := by
  have h1 := Int64.le_toInt x
  have h2 := Int64.toInt_lt x
  omega
theorem fb_bmodL {z : Int} (h1 : -9223372036854775808 ≤ z) (h2 : z < 9223372036854775808) : z.bmod (2 ^ 64) = z := by
  rw [Int.bmod_eq_of_le (by omega) (by omega)]
theorem fb_addL {x y : Int64} (h1 : -9223372036854775808 ≤ x.toInt + y.toInt) (h2 : x.toInt + y.toInt < 9223372036854775808) : (x + y).toInt = x.toInt + y.toInt := by
  rw [Int64.toInt_add, fb_bmodL h1 h2]
theorem fb_subL {x y : Int64} (h1 : -9223372036854775808 ≤ x.toInt - y.toInt) (h2 : x.toInt - y.toInt < 9223372036854775808) : (x - y).toInt = x.toInt - y.toInt := by
  rw [Int64.toInt_sub, fb_bmodL h1 h2]
theorem zofL {z : Int} (h1 : -9223372036854775808 ≤ z) (h2 : z < 9223372036854775808) : (Int64.ofInt z).toInt = z := by
  rw [Int64.toInt_ofInt, fb_bmodL h1 h2]
/-! the class's conversions, on whole numbers -/
theorem sg64 (s : Bool) (Z : Nat) : lN (s.toNat * 9223372036854775808 + Z) = sgN 3 s Z := by
  cases s
  · show lN (0 * 9223372036854775808 + Z) = lN Z
    rw [Nat.zero_mul, Nat.zero_add]
  · show lN (1 * 9223372036854775808 + Z) = lN (sB 3 + Z)
    rw [sB_3]
theorem sg32 (s : Bool) {Z : Nat} (h : Z < 2147483648) : (nI (s.toNat * 2147483648 + Z)).toInt64 = sgN 2 s Z := by
  apply Int64.toInt_inj.mp
  cases s
  · show (nI (0 * 2147483648 + Z)).toInt64.toInt = (lN Z).toInt
    rw [i32_64 _ (by omega), if_pos (by omega), j_ti (by omega), if_pos (by omega)]
    omega
  · show (nI (1 * 2147483648 + Z)).toInt64.toInt = (lN (sB 2 + Z)).toInt
    rw [sB_2, i32_64 _ (by omega), if_neg (by omega), j_ti (by omega), if_neg (by omega)]
    omega
theorem bits64 (s : Bool) {Z : Nat} (h : Z < 9223372036854775808) : (sgN 3 s Z).toUInt64.toNat = s.toNat * 9223372036854775808 + Z := by
  have hs : s.toNat ≤ 1 := by cases s <;> decide
  rw [← sg64]
  exact wb_tn (by omega)
theorem bits32 (s : Bool) {Z : Nat} (h : Z < 2147483648) : (sgN 2 s Z).toInt32.toUInt32.toNat = s.toNat * 2147483648 + Z := by
  have hs : s.toNat ≤ 1 := by cases s <;> decide
  have e : (sgN 2 s Z).toInt32 = nI (s.toNat * 2147483648 + Z) := by
    rw [← sg32 s h]
    simp
  rw [e]
  exact pk_tn (by omega)
theorem w2b_N {t : Int32} {F C c : Nat} (hF : nFrac t = nI F) (hC : nBias t = nI C) (f1 : 23 ≤ F) (f2 : F ≤ 52) (g1 : 1 ≤ C) (g2 : C ≤ 1023) (h0 : c ≠ 0) (hc : c < 2 ^ 64) : nW2Bb (lN c) t = lN ((c.log2 + C - 1) * 2 ^ F + wM F c) := by
  have hL : c.log2 < 64 := (Nat.log2_lt h0).mpr hc
  have em : nW2Bm (lN c) t = lN (wM F c) := by
    unfold nW2Bm wM
    rw [hF, high_N h0 hc]
    by_cases c1 : F < c.log2
    · rw [if_pos c1, if_pos (nI_lt c1 (by omega)), pk_sub (by omega), near_N hc (by omega) (by omega)]
    · rw [if_neg c1, if_neg (nI_nlt (by omega) (by omega)), pk_sub (by omega), j_shl _ (by omega)]
  unfold nW2Bb
  rw [em, high_N h0 hc, hC, hF, nI_add, show (1 : Int32) = nI 1 from rfl, pk_sub (by omega), nI_l (by omega), j_shl _ (by omega), lN_add]
set_option maxRecDepth 100000 in
theorem w2b_eq {t : Int32} (ht : t = 2 ∨ t = 3) (v : Int64) : nW2B v t = (if t = 2 then (FP.l2f v).toInt32.toInt64 else (FP.l2d v).toInt64) ∧ nOk t (nW2B v t) := by
  obtain ⟨n, hn, rfl⟩ := wb_of v
  have hti := j_ti hn
  have hb : (lN n).toInt.natAbs ≤ 2 ^ 63 := by rw [hti]; by_cases h : n < 2 ^ 63 <;> simp only [h, if_true, if_false] <;> omega
  have z0 : lN n = 0 ↔ (lN n).toInt = 0 := by rw [← Int64.toInt_inj]; rfl
  have zl : lN n < 0 ↔ (lN n).toInt < 0 := by rw [Int64.lt_iff_toInt_lt]; rfl
  -- the class's side, as a sign and a magnitude
  have key : ∀ (F C : Nat), nFrac t = nI F → nBias t = nI C → 23 ≤ F → F ≤ 52 → 1 ≤ C → C ≤ 1023 → (∀ c : Nat, c ≠ 0 → c ≤ 2 ^ 63 → (c.log2 + C - 1) * 2 ^ F + wM F c ≤ sI t) →
      nW2B (lN n) t = sgN t (decide ((lN n).toInt < 0)) (if (lN n).toInt = 0 then 0 else ((lN n).toInt.natAbs.log2 + C - 1) * 2 ^ F + wM F (lN n).toInt.natAbs) ∧ (if (lN n).toInt = 0 then 0 else ((lN n).toInt.natAbs.log2 + C - 1) * 2 ^ F + wM F (lN n).toInt.natAbs) ≤ sI t := by
    intro F C hF hC f1 f2 g1 g2 hbd
    unfold nW2B
    by_cases c0 : (lN n).toInt = 0
    · rw [if_pos (z0.mpr c0), if_pos c0]
      refine ⟨?_, Nat.zero_le _⟩
      rw [c0]
      rfl
    · rw [if_neg (fun q => c0 (z0.mp q)), if_neg c0]
      have hc0 : (lN n).toInt.natAbs ≠ 0 := by omega
      have hZ := hbd _ hc0 hb
      refine ⟨?_, hZ⟩
      by_cases c1 : (lN n).toInt < 0
      · rw [if_pos (zl.mpr c1)]
        have hn2 : ¬ n < 2 ^ 63 := fun q => by rw [hti, if_pos q] at c1; omega
        have e : -(lN n) = lN (lN n).toInt.natAbs := by
          rw [l_negN (by omega) (by omega), hti, if_neg hn2]
          exact congrArg lN (by omega)
        rw [e, w2b_N hF hC f1 f2 g1 g2 hc0 (by omega), sg_or ht (sIP ht hZ)]
        simp [c1]
      · rw [if_neg (fun q => c1 (zl.mp q))]
        have hn2 : n < 2 ^ 63 := by
          rcases Nat.lt_or_ge n (2 ^ 63) with h | h
          · exact h
          · rw [hti, if_neg (by omega)] at c1; omega
        have e : lN n = lN (lN n).toInt.natAbs := by
          rw [hti, if_pos hn2]
          exact congrArg lN (by omega)
        have e2 : nW2Bb (lN n) t = nW2Bb (lN (lN n).toInt.natAbs) t := congrArg (fun z => nW2Bb z t) e
        rw [e2, w2b_N hF hC f1 f2 g1 g2 hc0 (by omega)]
        simp [c1, sgN]
  have logb : ∀ c : Nat, c ≠ 0 → c ≤ 2 ^ 63 → c.log2 < 64 := fun c h0 h => (Nat.log2_lt h0).mpr (by omega)
  rcases ht with rfl | rfl
  · obtain ⟨k1, k2⟩ := key 23 127 rfl rfl (by decide) (by decide) (by decide) (by decide) (fun c h0 h => by
      have a := logb c h0 h
      have b := (wM_bd (F := 23) h0).2
      rw [sI_2]
      omega)
    rw [k1]
    refine ⟨?_, sg_nOk (Or.inl rfl) k2⟩
    rw [if_pos rfl]
    show _ = (UInt32.ofNat (FP.Core.fromInt FP.Core.b32 (lN n).toInt)).toInt32.toInt64
    rw [i32 _ hb, show ∀ m, (UInt32.ofNat m).toInt32 = nI m from fun m => rfl]
    rw [sI_2] at k2
    have e : (if (lN n).toInt = 0 then 0 else ((lN n).toInt.natAbs.log2 + 127 - 1) * 2 ^ 23 + wM 23 (lN n).toInt.natAbs) = (if (lN n).toInt = 0 then 0 else ((lN n).toInt.natAbs.log2 + 126) * 8388608 + wM 23 (lN n).toInt.natAbs) := rfl
    rw [e] at k2 ⊢
    exact (sg32 _ (by omega)).symm
  · obtain ⟨k1, k2⟩ := key 52 1023 rfl rfl (by decide) (by decide) (by decide) (by decide) (fun c h0 h => by
      have a := logb c h0 h
      have b := (wM_bd (F := 52) h0).2
      rw [sI_3]
      omega)
    rw [k1]
    refine ⟨?_, sg_nOk (Or.inr rfl) k2⟩
    rw [if_neg (show ¬ (3 : Int32) = 2 by decide)]
    show _ = (UInt64.ofNat (FP.Core.fromInt FP.Core.b64 (lN n).toInt)).toInt64
    rw [i64 _ hb, show ∀ m, (UInt64.ofNat m).toInt64 = lN m from fun m => rfl, sg64]
    rfl
theorem widen_N {Z : Nat} (h : Z ≤ 2139095040) : nWiden (lN Z) = lN (wdn Z) ∧ wdn Z ≤ 9218868437227405312 := by
  have e2 : nInf 2 = lN 2139095040 := by decide
  have e3 : nInf 3 = lN 9218868437227405312 := by decide
  unfold nWiden wdn
  by_cases c0 : Z = 0
  · subst c0
    rw [if_pos rfl, if_pos (show lN 0 = 0 from rfl)]
    exact ⟨rfl, by decide⟩
  · rw [if_neg (fun q => c0 ((l_eq0 (by omega)).mp q)), if_neg c0]
    by_cases c1 : Z = 2139095040
    · rw [if_pos (by rw [c1, e2]), if_pos c1, e3]
      exact ⟨rfl, Nat.le_refl _⟩
    · rw [if_neg (fun q => c1 (l_inj (by omega) (by decide) (q.trans e2))), if_neg c1]
      have hu : jushr (lN Z) 23 = lN (Z / 2 ^ 23) := j_ushr (by omega) (by decide)
      rw [hu]
      by_cases c2 : Z < 8388608
      · rw [if_pos c2, if_pos ((l_eq0 (by omega)).mpr (by omega))]
        have hL : Z.log2 < 23 := (Nat.log2_lt c0).mpr (by omega)
        have hw := (wM_bd (F := 52) c0).2
        rw [show wM 52 Z = Z * 2 ^ (52 - Z.log2) from by unfold wM; rw [if_neg (by omega)]] at hw
        rw [high_N c0 (by omega)]
        have ea : nI Z.log2 + (-149) + 1023 - 1 = nI (Z.log2 + 873) := by
          apply Int32.toInt_inj.mp
          have a0 : (nI Z.log2).toInt = Z.log2 := nI_toInt (by omega)
          have m1 : (-149 : Int32).toInt = -149 := by decide
          have m2 : (1023 : Int32).toInt = 1023 := by decide
          have m3 : (1 : Int32).toInt = 1 := by decide
          have a1 : (nI Z.log2 + (-149)).toInt = Z.log2 + (-149) := by rw [fb_addI (by omega) (by omega), a0, m1]
          have a2 : (nI Z.log2 + (-149) + 1023).toInt = Z.log2 + (-149) + 1023 := by rw [fb_addI (by omega) (by omega), a1, m2]
          rw [fb_subI (by omega) (by omega), a2, m3, nI_toInt (by omega)]
          omega
        have eb : (52 : Int32) - nI Z.log2 = nI (52 - Z.log2) := pk_sub (a := 52) (b := Z.log2) (by omega)
        rw [ea, eb, nI_l (by omega), show (52 : Int32) = nI 52 from rfl, j_shl _ (by decide), j_shl _ (by omega), lN_add]
        exact ⟨rfl, by omega⟩
      · rw [if_neg c2, if_neg (fun q => by have := (l_eq0 (by omega)).mp q; omega)]
        rw [show (29 : Int32) = nI 29 from rfl, j_shl _ (by decide), show (4035225266123964416 : Int64) = lN 4035225266123964416 from rfl, lN_add]
        exact ⟨rfl, by omega⟩
theorem narrow_N {Z : Nat} (h : Z ≤ 9218868437227405312) : nNarrow (lN Z) = lN (nrw Z) := by
  obtain ⟨p1, p2, p3⟩ := nPow_N (t := 3) (Or.inr rfl) (Z := Z) (by rw [sI_3]; exact h)
  have e0 : Z / 2 ^ sF 3 = Z / 4503599627370496 := rfl
  have e1 : (sC 3 : Int) = 1023 := rfl
  rw [e0] at p1 p3
  rw [e1] at p3
  rw [show nI (sC 3) = nI 1023 from rfl] at p1 p3
  have hE : Z / 4503599627370496 ≤ 2047 := by omega
  unfold nNarrow nrw
  rw [p1]
  have q1 : 127 < nI (Z / 4503599627370496) - nI 1023 ↔ 127 + 1023 < Z / 4503599627370496 := by
    rw [Int32.lt_iff_toInt_lt, p3, show (127 : Int32).toInt = 127 from by decide]; omega
  have q2 : nI (Z / 4503599627370496) - nI 1023 < (-150) ↔ Z / 4503599627370496 < 1023 - 150 := by
    rw [Int32.lt_iff_toInt_lt, p3, show (-150 : Int32).toInt = -150 from by decide]; omega
  have q3 : (-127) < nI (Z / 4503599627370496) - nI 1023 ↔ 1023 - 127 < Z / 4503599627370496 := by
    rw [Int32.lt_iff_toInt_lt, p3, show (-127 : Int32).toInt = -127 from by decide]; omega
  simp only [q1, q2, q3]
  by_cases c1 : 127 + 1023 < Z / 4503599627370496
  · rw [if_pos c1, if_pos c1]
    decide
  · rw [if_neg c1, if_neg c1]
    by_cases c2 : Z / 4503599627370496 < 1023 - 150
    · rw [if_pos c2, if_pos c2]
      rfl
    · rw [if_neg c2, if_neg c2]
      by_cases c3 : 1023 - 127 < Z / 4503599627370496
      · rw [if_pos c3, if_pos c3]
        rw [show (4035225266123964416 : Int64) = lN 4035225266123964416 from rfl, lN_sub (by omega), show (29 : Int32) = nI 29 from rfl, near_N (by omega) (by decide) (by decide)]
      · rw [if_neg c3, if_neg c3]
        have em : nMant 3 (lN Z) = lN (4503599627370496 + Z % 4503599627370496) := by
          unfold nMant
          rw [show nFrac 3 = nI 52 from rfl, show (1 : Int64) = lN 1 from rfl, j_shl 1 (by decide), Nat.one_mul, lN_sub (by decide), wb_mask (by omega) (by decide), wb_or (by omega) (by decide)]
          have := b_or_add (k := 52) (Z := Z % 2 ^ 52) (c := 1) (Nat.mod_lt _ (by decide))
          rw [Nat.one_mul] at this
          rw [this]
        have es : (-97 : Int32) - (nI (Z / 4503599627370496) - nI 1023) = nI (926 - Z / 4503599627370496) := by
          apply Int32.toInt_inj.mp
          have m1 : (-97 : Int32).toInt = -97 := by decide
          rw [fb_subI (by rw [m1, p3]; omega) (by rw [m1, p3]; omega), m1, p3, nI_toInt (by omega)]
          omega
        rw [em, es, near_N (by omega) (by omega) (by omega)]
