/-! the machine's own conversions, on whole numbers: s * 2^63 + Z, s * 2^31 + Z -/
theorem log_eq {n k : Nat} (h1 : 2 ^ k ≤ n) (h2 : n < 2 ^ (k + 1)) : n.log2 = k := by
  have h0 : n ≠ 0 := by have := Nat.two_pow_pos k; omega
  have a := (Nat.le_log2 h0).mpr h1
  have b := (Nat.log2_lt h0).mpr h2
  omega
theorem high_N {n : Nat} (h0 : n ≠ 0) (hn : n < 2 ^ 64) : nHigh (lN n) = nI n.log2 := by
  have K : ∀ k : Nat, k ≤ 63 → n < 2 ^ (k + 1) → nHb (lN n) k = nI n.log2 := by
    intro k
    induction k with
    | zero =>
      intro _ h
      have e : n = 1 := by omega
      subst e
      rfl
    | succ k ih =>
      intro hk h
      unfold nHb
      rw [j_ushr hn (by omega)]
      have hd : n / 2 ^ (k + 1) < 2 ^ 64 := Nat.lt_of_le_of_lt (Nat.div_le_self _ _) hn
      have hp : 0 < 2 ^ (k + 1) := Nat.two_pow_pos _
      by_cases hc : n < 2 ^ (k + 1)
      · rw [if_pos ((l_eq0 hd).mpr (Nat.div_eq_of_lt hc))]
        exact ih (by omega) hc
      · have h1 : 1 ≤ n / 2 ^ (k + 1) := (Nat.le_div_iff_mul_le hp).mpr (by omega)
        rw [if_neg (fun q => by have := (l_eq0 hd).mp q; omega)]
        exact congrArg nI (log_eq (by omega) h).symm
  exact K 63 (by decide) hn
theorem near_bd (n d : Nat) : n / d ≤ FP.Core.nearest n d ∧ FP.Core.nearest n d ≤ n / d + 1 := by
  unfold FP.Core.nearest
  have h : n / d % 2 < 2 := Nat.mod_lt _ (by decide)
  by_cases c1 : 2 * (n % d) < d
  · rw [if_pos c1]; omega
  · rw [if_neg c1]
    by_cases c2 : d < 2 * (n % d)
    · rw [if_pos c2]; omega
    · rw [if_neg c2]; omega
theorem near_one (n : Nat) : FP.Core.nearest n 1 = n := by
  unfold FP.Core.nearest
  rw [if_pos (by rw [Nat.mod_one]; decide), Nat.div_one]
theorem near_big {n d : Nat} (h : 2 * n < d) : FP.Core.nearest n d = 0 := by
  unfold FP.Core.nearest
  rw [Nat.mod_eq_of_lt (by omega), if_pos h, Nat.div_eq_of_lt (by omega)]
theorem near_add {x c d : Nat} (hd : 0 < d) (hx : x % 2 = 0) : FP.Core.nearest (x * d + c) d = x + FP.Core.nearest c d := by
  unfold FP.Core.nearest
  have e1 : (x * d + c) % d = c % d := by rw [Nat.add_comm, Nat.add_mul_mod_self_right]
  have e2 : (x * d + c) / d = x + c / d := by rw [Nat.add_comm, Nat.add_mul_div_right _ _ hd, Nat.add_comm]
  rw [e1, e2]
  by_cases c1 : 2 * (c % d) < d
  · rw [if_pos c1, if_pos c1]
  · rw [if_neg c1, if_neg c1]
    by_cases c2 : d < 2 * (c % d)
    · rw [if_pos c2, if_pos c2]; omega
    · rw [if_neg c2, if_neg c2]; omega
theorem lead_one {n : Nat} (h : n ≠ 0) : FP.Core.leading n 1 = (n.log2 : Int) := by
  unfold FP.Core.leading
  have e : Nat.log2 1 = 0 := by decide
  simp only [e]
  rw [if_pos]
  · omega
  · have h1 := Nat.log2_self_le h
    rw [show ((n.log2 : Int) - ((0 : Nat) : Int)).toNat = n.log2 from by omega, show (-((n.log2 : Int) - ((0 : Nat) : Int))).toNat = 0 from by omega]
    omega
theorem round_fin (f : FP.Core.Fmt) (s : Bool) (c : Nat) (q Q : Int) (hc : c ≠ 0) (hQ : Q = max f.qmin ((c.log2 : Int) + q - ((f.p : Int) - 1))) : FP.Core.round f (.fin s c q) = FP.Core.settle f s (FP.Core.nearest (c * 2 ^ (q - Q).toNat) (1 * 2 ^ (Q - q).toNat)) Q := by
  show FP.Core.roundRatio f s c 1 q = _
  unfold FP.Core.roundRatio FP.Core.roundAt FP.Core.quantum FP.Core.unitsNum FP.Core.unitsDen
  rw [if_neg hc, lead_one hc, ← hQ]
theorem c32 : FP.Core.b32.qmin = -149 ∧ FP.Core.b32.qmax = 104 ∧ FP.Core.b32.tails = 8388608 ∧ FP.Core.b32.exps = 256 ∧ FP.Core.b32.p = 24 := by decide
theorem c64 : FP.Core.b64.qmin = -1074 ∧ FP.Core.b64.qmax = 971 ∧ FP.Core.b64.tails = 4503599627370496 ∧ FP.Core.b64.exps = 2048 ∧ FP.Core.b64.p = 53 := by decide
theorem e32 (s : Bool) {m : Nat} {Q : Int} (h1 : -149 ≤ Q) (h2 : m ≤ 16777216) (h3 : 8388608 ≤ m ∨ Q = -149) : FP.Core.encode FP.Core.b32 (FP.Core.settle FP.Core.b32 s m Q) = s.toNat * 2147483648 + (if Q ≤ 104 then (Q + 149).toNat * 8388608 + m else 2139095040) := by
  obtain ⟨a1, a2, a3, a4, a5⟩ := c32
  unfold FP.Core.settle FP.Core.bound
  rw [a5, a2, a3, show (2 : Nat) ^ 24 = 16777216 from by decide]
  by_cases c1 : m < 16777216
  · rw [if_pos c1]
    by_cases c2 : Q ≤ 104
    · rw [if_pos c2, if_pos c2]
      simp only [FP.Core.encode, FP.Core.assemble, a1, a3, a4]
      by_cases c3 : m < 8388608
      · rw [if_pos c3]; omega
      · rw [if_neg c3]; omega
    · rw [if_neg c2, if_neg c2]
      simp only [FP.Core.encode, FP.Core.assemble, a3, a4]
      omega
  · rw [if_neg c1]
    by_cases c2 : Q + 1 ≤ 104
    · rw [if_pos c2, if_pos (by omega)]
      simp only [FP.Core.encode, FP.Core.assemble, a1, a3, a4]
      rw [if_neg (by decide)]
      omega
    · rw [if_neg c2]
      simp only [FP.Core.encode, FP.Core.assemble, a3, a4]
      by_cases c3 : Q ≤ 104
      · rw [if_pos c3]; omega
      · rw [if_neg c3]; omega
theorem e64 (s : Bool) {m : Nat} {Q : Int} (h1 : -1074 ≤ Q) (h2 : m ≤ 9007199254740992) (h3 : 4503599627370496 ≤ m ∨ Q = -1074) (h4 : Q ≤ 900) : FP.Core.encode FP.Core.b64 (FP.Core.settle FP.Core.b64 s m Q) = s.toNat * 9223372036854775808 + ((Q + 1074).toNat * 4503599627370496 + m) := by
  obtain ⟨a1, a2, a3, a4, a5⟩ := c64
  unfold FP.Core.settle FP.Core.bound
  rw [a5, a2, a3, show (2 : Nat) ^ 53 = 9007199254740992 from by decide]
  by_cases c1 : m < 9007199254740992
  · rw [if_pos c1, if_pos (by omega)]
    simp only [FP.Core.encode, FP.Core.assemble, a1, a3, a4]
    by_cases c3 : m < 4503599627370496
    · rw [if_pos c3]; omega
    · rw [if_neg c3]; omega
  · rw [if_neg c1, if_pos (by omega)]
    simp only [FP.Core.encode, FP.Core.assemble, a1, a3, a4]
    rw [if_neg (by decide)]
    omega
theorem d32 (s : Bool) {Z : Nat} (h : Z ≤ 2139095040) : FP.Core.decode FP.Core.b32 (s.toNat * 2147483648 + Z) = if Z = 2139095040 then .inf s else if Z < 8388608 then .fin s Z (-149) else .fin s (8388608 + Z % 8388608) ((Z / 8388608 : Nat) - 150) := by
  obtain ⟨a1, a2, a3, a4, a5⟩ := c32
  have hs : s.toNat ≤ 1 := by cases s <;> decide
  have f1 : FP.Core.fieldT FP.Core.b32 (s.toNat * 2147483648 + Z) = Z % 8388608 := by unfold FP.Core.fieldT; rw [a3]; omega
  have f2 : FP.Core.fieldE FP.Core.b32 (s.toNat * 2147483648 + Z) = Z / 8388608 := by unfold FP.Core.fieldE; rw [a3, a4]; omega
  have f3 : FP.Core.fieldS FP.Core.b32 (s.toNat * 2147483648 + Z) = s := by
    unfold FP.Core.fieldS
    rw [a3, a4]
    have e : (s.toNat * 2147483648 + Z) / 8388608 / 256 % 2 = s.toNat := by omega
    rw [e]
    cases s <;> rfl
  unfold FP.Core.decode
  rw [f1, f2, f3, a1, a3, a4]
  by_cases c1 : Z = 2139095040
  · subst c1
    rw [if_pos (by decide), if_pos (by decide), if_pos rfl]
  · rw [if_neg (by omega), if_neg c1]
    by_cases c2 : Z < 8388608
    · rw [if_pos (by omega), if_pos c2, Nat.mod_eq_of_lt c2]
    · rw [if_neg (by omega), if_neg c2]
      congr 1
      omega
theorem d64 (s : Bool) {Z : Nat} (h : Z ≤ 9218868437227405312) : FP.Core.decode FP.Core.b64 (s.toNat * 9223372036854775808 + Z) = if Z = 9218868437227405312 then .inf s else if Z < 4503599627370496 then .fin s Z (-1074) else .fin s (4503599627370496 + Z % 4503599627370496) ((Z / 4503599627370496 : Nat) - 1075) := by
  obtain ⟨a1, a2, a3, a4, a5⟩ := c64
  have hs : s.toNat ≤ 1 := by cases s <;> decide
  have f1 : FP.Core.fieldT FP.Core.b64 (s.toNat * 9223372036854775808 + Z) = Z % 4503599627370496 := by unfold FP.Core.fieldT; rw [a3]; omega
  have f2 : FP.Core.fieldE FP.Core.b64 (s.toNat * 9223372036854775808 + Z) = Z / 4503599627370496 := by unfold FP.Core.fieldE; rw [a3, a4]; omega
  have f3 : FP.Core.fieldS FP.Core.b64 (s.toNat * 9223372036854775808 + Z) = s := by
    unfold FP.Core.fieldS
    rw [a3, a4]
    have e : (s.toNat * 9223372036854775808 + Z) / 4503599627370496 / 2048 % 2 = s.toNat := by omega
    rw [e]
    cases s <;> rfl
  unfold FP.Core.decode
  rw [f1, f2, f3, a1, a3, a4]
  by_cases c1 : Z = 9218868437227405312
  · subst c1
    rw [if_pos (by decide), if_pos (by decide), if_pos rfl]
  · rw [if_neg (by omega), if_neg c1]
    by_cases c2 : Z < 4503599627370496
    · rw [if_pos (by omega), if_pos c2, Nat.mod_eq_of_lt c2]
    · rw [if_neg (by omega), if_neg c2]
      congr 1
      omega
theorem z32 (s : Bool) (q : Int) : FP.Core.encode FP.Core.b32 (FP.Core.round FP.Core.b32 (.fin s 0 q)) = s.toNat * 2147483648 := by
  obtain ⟨a1, a2, a3, a4, a5⟩ := c32
  show FP.Core.encode FP.Core.b32 (FP.Core.roundRatio FP.Core.b32 s 0 1 q) = _
  unfold FP.Core.roundRatio
  rw [if_pos rfl]
  simp only [FP.Core.encode, FP.Core.assemble, a1, a3, a4]
  rw [if_pos (by decide)]
  omega
theorem z64 (s : Bool) (q : Int) : FP.Core.encode FP.Core.b64 (FP.Core.round FP.Core.b64 (.fin s 0 q)) = s.toNat * 9223372036854775808 := by
  obtain ⟨a1, a2, a3, a4, a5⟩ := c64
  show FP.Core.encode FP.Core.b64 (FP.Core.roundRatio FP.Core.b64 s 0 1 q) = _
  unfold FP.Core.roundRatio
  rw [if_pos rfl]
  simp only [FP.Core.encode, FP.Core.assemble, a1, a3, a4]
  rw [if_pos (by decide)]
  omega
/-- the significand of a whole number c, with F digits behind the first -/
def wM (F c : Nat) : Nat := if F < c.log2 then FP.Core.nearest c (2 ^ (c.log2 - F)) else c * 2 ^ (F - c.log2)
theorem wM_bd {F c : Nat} (h : c ≠ 0) : 2 ^ F ≤ wM F c ∧ wM F c ≤ 2 * 2 ^ F := by
  have h1 := Nat.log2_self_le h
  have h2 : c < 2 ^ (c.log2 + 1) := Nat.lt_log2_self
  unfold wM
  by_cases hc : F < c.log2
  · rw [if_pos hc]
    obtain ⟨b1, b2⟩ := near_bd c (2 ^ (c.log2 - F))
    have hp : 0 < 2 ^ (c.log2 - F) := Nat.two_pow_pos _
    have e1 : 2 ^ F * 2 ^ (c.log2 - F) = 2 ^ c.log2 := by rw [← Nat.pow_add]; congr 1; omega
    have e2 : (2 * 2 ^ F) * 2 ^ (c.log2 - F) = 2 ^ (c.log2 + 1) := by rw [Nat.mul_assoc, e1, Nat.pow_succ]; omega
    have g1 : 2 ^ F ≤ c / 2 ^ (c.log2 - F) := (Nat.le_div_iff_mul_le hp).mpr (by rw [e1]; exact h1)
    have g2 : c / 2 ^ (c.log2 - F) < 2 * 2 ^ F := (Nat.div_lt_iff_lt_mul hp).mpr (by rw [e2]; exact h2)
    omega
  · rw [if_neg hc]
    have e1 : 2 ^ c.log2 * 2 ^ (F - c.log2) = 2 ^ F := by rw [← Nat.pow_add]; congr 1; omega
    have e2 : 2 ^ (c.log2 + 1) * 2 ^ (F - c.log2) = 2 * 2 ^ F := by rw [← e1, Nat.pow_succ]; rw [Nat.mul_comm (2 ^ c.log2) 2, Nat.mul_assoc]
    constructor
    · rw [← e1]; exact Nat.mul_le_mul_right _ h1
    · rw [← e2]; exact Nat.mul_le_mul_right _ (by omega)
theorem i64 (i : Int) (h : i.natAbs ≤ 2 ^ 63) : FP.Core.fromInt FP.Core.b64 i = (decide (i < 0)).toNat * 9223372036854775808 + (if i = 0 then 0 else (i.natAbs.log2 + 1022) * 4503599627370496 + wM 52 i.natAbs) := by
  obtain ⟨a1, a2, a3, a4, a5⟩ := c64
  unfold FP.Core.fromInt FP.Core.ofInt
  by_cases h0 : i = 0
  · rw [if_pos h0, h0]
    exact z64 false 0
  · rw [if_neg h0]
    have hc : i.natAbs ≠ 0 := by omega
    have hL : i.natAbs.log2 < 64 := (Nat.log2_lt hc).mpr (by omega)
    obtain ⟨b1, b2⟩ := wM_bd (F := 52) hc
    rw [round_fin FP.Core.b64 (decide (i < 0)) i.natAbs 0 ((i.natAbs.log2 : Int) - 52) hc (by rw [a1, a5]; omega)]
    have em : FP.Core.nearest (i.natAbs * 2 ^ (0 - ((i.natAbs.log2 : Int) - 52)).toNat) (1 * 2 ^ (((i.natAbs.log2 : Int) - 52) - 0).toNat) = wM 52 i.natAbs := by
      unfold wM
      by_cases c1 : 52 < i.natAbs.log2
      · rw [if_pos c1, show (0 - ((i.natAbs.log2 : Int) - 52)).toNat = 0 from by omega, show (((i.natAbs.log2 : Int) - 52) - 0).toNat = i.natAbs.log2 - 52 from by omega, Nat.one_mul, Nat.pow_zero, Nat.mul_one]
      · rw [if_neg c1, show (0 - ((i.natAbs.log2 : Int) - 52)).toNat = 52 - i.natAbs.log2 from by omega, show (((i.natAbs.log2 : Int) - 52) - 0).toNat = 0 from by omega, Nat.pow_zero, Nat.mul_one, near_one]
    rw [em, e64 _ (by omega) (by omega) (Or.inl (by omega)) (by omega)]
    omega
theorem i32 (i : Int) (h : i.natAbs ≤ 2 ^ 63) : FP.Core.fromInt FP.Core.b32 i = (decide (i < 0)).toNat * 2147483648 + (if i = 0 then 0 else (i.natAbs.log2 + 126) * 8388608 + wM 23 i.natAbs) := by
  obtain ⟨a1, a2, a3, a4, a5⟩ := c32
  unfold FP.Core.fromInt FP.Core.ofInt
  by_cases h0 : i = 0
  · rw [if_pos h0, h0]
    exact z32 false 0
  · rw [if_neg h0]
    have hc : i.natAbs ≠ 0 := by omega
    have hL : i.natAbs.log2 < 64 := (Nat.log2_lt hc).mpr (by omega)
    obtain ⟨b1, b2⟩ := wM_bd (F := 23) hc
    rw [round_fin FP.Core.b32 (decide (i < 0)) i.natAbs 0 ((i.natAbs.log2 : Int) - 23) hc (by rw [a1, a5]; omega)]
    have em : FP.Core.nearest (i.natAbs * 2 ^ (0 - ((i.natAbs.log2 : Int) - 23)).toNat) (1 * 2 ^ (((i.natAbs.log2 : Int) - 23) - 0).toNat) = wM 23 i.natAbs := by
      unfold wM
      by_cases c1 : 23 < i.natAbs.log2
      · rw [if_pos c1, show (0 - ((i.natAbs.log2 : Int) - 23)).toNat = 0 from by omega, show (((i.natAbs.log2 : Int) - 23) - 0).toNat = i.natAbs.log2 - 23 from by omega, Nat.one_mul, Nat.pow_zero, Nat.mul_one]
      · rw [if_neg c1, show (0 - ((i.natAbs.log2 : Int) - 23)).toNat = 23 - i.natAbs.log2 from by omega, show (((i.natAbs.log2 : Int) - 23) - 0).toNat = 0 from by omega, Nat.pow_zero, Nat.mul_one, near_one]
    rw [em, e32 _ (by omega) (by omega) (Or.inl (by omega)), if_pos (by omega)]
    omega
/-- a FLOAT's magnitude as a DOUBLE's -/
def wdn (Z : Nat) : Nat := if Z = 0 then 0 else if Z = 2139095040 then 9218868437227405312 else if Z < 8388608 then (Z.log2 + 873) * 4503599627370496 + Z * 2 ^ (52 - Z.log2) else Z * 536870912 + 4035225266123964416
theorem cv64 (s : Bool) {Z : Nat} (h : Z ≤ 2139095040) : FP.Core.convert FP.Core.b32 FP.Core.b64 (s.toNat * 2147483648 + Z) = s.toNat * 9223372036854775808 + wdn Z := by
  obtain ⟨a1, a2, a3, a4, a5⟩ := c64
  have key : ∀ (c : Nat) (q : Int), c ≠ 0 → c < 16777216 → -149 ≤ q → q ≤ 104 → FP.Core.encode FP.Core.b64 (FP.Core.round FP.Core.b64 (.fin s c q)) = s.toNat * 9223372036854775808 + (((c.log2 : Int) + q + 1022).toNat * 4503599627370496 + c * 2 ^ (52 - c.log2)) := by
    intro c q hc hc2 h1 h2
    have hL : c.log2 < 24 := (Nat.log2_lt hc).mpr (by omega)
    have hw := wM_bd (F := 52) hc
    rw [show wM 52 c = c * 2 ^ (52 - c.log2) from by unfold wM; rw [if_neg (by omega)]] at hw
    rw [round_fin FP.Core.b64 s c q ((c.log2 : Int) + q - 52) hc (by rw [a1, a5]; omega)]
    rw [show (q - ((c.log2 : Int) + q - 52)).toNat = 52 - c.log2 from by omega, show (((c.log2 : Int) + q - 52) - q).toNat = 0 from by omega, Nat.pow_zero, Nat.mul_one, near_one, e64 _ (by omega) (by omega) (Or.inl (by omega)) (by omega)]
    omega
  unfold FP.Core.convert
  rw [d32 s h]
  unfold wdn
  by_cases c1 : Z = 2139095040
  · rw [if_pos c1, if_neg (by omega), if_pos c1]
    simp only [FP.Core.round, FP.Core.encode, FP.Core.assemble, a3, a4]
    omega
  · rw [if_neg c1]
    by_cases c0 : Z = 0
    · subst c0
      rw [if_pos (by decide), if_pos rfl]
      rw [Nat.add_zero]
      exact z64 s (-149)
    · rw [if_neg c0, if_neg c1]
      by_cases c2 : Z < 8388608
      · rw [if_pos c2, if_pos c2, key Z (-149) c0 (by omega) (by omega) (by omega)]
        omega
      · rw [if_neg c2, if_neg c2, key _ _ (by omega) (by omega) (by omega) (by omega)]
        have hl : (8388608 + Z % 8388608).log2 = 23 := log_eq (by omega) (by omega)
        rw [hl, show 52 - 23 = 29 from rfl, show (2 : Nat) ^ 29 = 536870912 from by decide]
        omega
/-- a DOUBLE's magnitude as a FLOAT's -/
def nrw (Z : Nat) : Nat :=
  if 127 + 1023 < Z / 4503599627370496 then 2139095040 else if Z / 4503599627370496 < 1023 - 150 then 0
  else if 1023 - 127 < Z / 4503599627370496 then FP.Core.nearest (Z - 4035225266123964416) 536870912
  else FP.Core.nearest (4503599627370496 + Z % 4503599627370496) (2 ^ (926 - Z / 4503599627370496))
theorem cv32 (s : Bool) {Z : Nat} (h : Z ≤ 9218868437227405312) : FP.Core.convert FP.Core.b64 FP.Core.b32 (s.toNat * 9223372036854775808 + Z) = s.toNat * 2147483648 + nrw Z ∧ nrw Z ≤ 2139095040 := by
  obtain ⟨a1, a2, a3, a4, a5⟩ := c32
  unfold FP.Core.convert
  rw [d64 s h]
  unfold nrw
  by_cases c1 : Z = 9218868437227405312
  · rw [if_pos c1, if_pos (by omega)]
    simp only [FP.Core.round, FP.Core.encode, FP.Core.assemble, a3, a4]
    omega
  · rw [if_neg c1]
    by_cases c2 : Z < 4503599627370496
    · rw [if_pos c2, if_neg (by omega), if_pos (by omega)]
      by_cases c0 : Z = 0
      · subst c0
        rw [Nat.add_zero]
        exact ⟨z32 s (-1074), by omega⟩
      · have hL : Z.log2 < 52 := (Nat.log2_lt c0).mpr (by omega)
        rw [round_fin FP.Core.b32 s Z (-1074) (-149) c0 (by rw [a1, a5]; omega)]
        rw [show ((-1074 : Int) - (-149)).toNat = 0 from by decide, show ((-149 : Int) - (-1074)).toNat = 925 from by decide]
        rw [near_big (by
          have hp : (2 : Nat) ^ 60 ≤ 2 ^ 925 := Nat.pow_le_pow_right (by decide) (by decide)
          have : (2 : Nat) ^ 60 = 1152921504606846976 := by decide
          omega)]
        rw [e32 s (by decide) (by decide) (Or.inr rfl)]
        simp
    · rw [if_neg c2]
      have hl : (4503599627370496 + Z % 4503599627370496).log2 = 52 := log_eq (by omega) (by omega)
      have hcz : 4503599627370496 + Z % 4503599627370496 ≠ 0 := by omega
      by_cases c3 : 127 + 1023 < Z / 4503599627370496
      · rw [if_pos c3]
        rw [round_fin FP.Core.b32 s _ _ ((Z / 4503599627370496 : Nat) - 1046) hcz (by rw [a1, a5, hl]; omega)]
        rw [show (((Z / 4503599627370496 : Nat) : Int) - 1075 - (((Z / 4503599627370496 : Nat) : Int) - 1046)).toNat = 0 from by omega, show ((((Z / 4503599627370496 : Nat) : Int) - 1046) - (((Z / 4503599627370496 : Nat) : Int) - 1075)).toNat = 29 from by omega]
        obtain ⟨b1, b2⟩ := near_bd ((4503599627370496 + Z % 4503599627370496) * 2 ^ 0) (1 * 2 ^ 29)
        rw [show (2 : Nat) ^ 0 = 1 from rfl, show (2 : Nat) ^ 29 = 536870912 from by decide] at b1 b2 ⊢
        rw [e32 s (by omega) (by omega) (Or.inl (by omega)), if_neg (by omega)]
        exact ⟨rfl, by omega⟩
      · rw [if_neg c3]
        by_cases c4 : Z / 4503599627370496 < 1023 - 150
        · rw [if_pos c4]
          rw [round_fin FP.Core.b32 s _ _ (-149) hcz (by rw [a1, a5, hl]; omega)]
          rw [show (((Z / 4503599627370496 : Nat) : Int) - 1075 - (-149)).toNat = 0 from by omega]
          have hp : (2 : Nat) ^ 54 ≤ 2 ^ ((-149 : Int) - (((Z / 4503599627370496 : Nat) : Int) - 1075)).toNat := Nat.pow_le_pow_right (by decide) (by omega)
          have h54 : (2 : Nat) ^ 54 = 18014398509481984 := by decide
          rw [near_big (by omega)]
          rw [e32 s (by decide) (by decide) (Or.inr rfl)]
          simp
        · rw [if_neg c4]
          by_cases c5 : 1023 - 127 < Z / 4503599627370496
          · rw [if_pos c5]
            rw [round_fin FP.Core.b32 s _ _ ((Z / 4503599627370496 : Nat) - 1046) hcz (by rw [a1, a5, hl]; omega)]
            rw [show (((Z / 4503599627370496 : Nat) : Int) - 1075 - (((Z / 4503599627370496 : Nat) : Int) - 1046)).toNat = 0 from by omega, show ((((Z / 4503599627370496 : Nat) : Int) - 1046) - (((Z / 4503599627370496 : Nat) : Int) - 1075)).toNat = 29 from by omega]
            rw [show (4503599627370496 + Z % 4503599627370496) * 2 ^ 0 = 4503599627370496 + Z % 4503599627370496 from by omega, show 1 * 2 ^ 29 = 536870912 from by decide]
            obtain ⟨b1, b2⟩ := near_bd (4503599627370496 + Z % 4503599627370496) 536870912
            rw [show Z - 4035225266123964416 = ((Z / 4503599627370496 - 897) * 8388608) * 536870912 + (4503599627370496 + Z % 4503599627370496) from by omega, near_add (by decide) (by omega)]
            rw [e32 s (by omega) (by omega) (Or.inl (by omega)), if_pos (by omega)]
            omega
          · rw [if_neg c5]
            rw [round_fin FP.Core.b32 s _ _ (-149) hcz (by rw [a1, a5, hl]; omega)]
            rw [show (((Z / 4503599627370496 : Nat) : Int) - 1075 - (-149)).toNat = 0 from by omega, show ((-149 : Int) - (((Z / 4503599627370496 : Nat) : Int) - 1075)).toNat = 926 - Z / 4503599627370496 from by omega]
            rw [show (4503599627370496 + Z % 4503599627370496) * 2 ^ 0 = 4503599627370496 + Z % 4503599627370496 from by omega, Nat.one_mul]
            obtain ⟨b1, b2⟩ := near_bd (4503599627370496 + Z % 4503599627370496) (2 ^ (926 - Z / 4503599627370496))
            have hp : (2 : Nat) ^ 30 ≤ 2 ^ (926 - Z / 4503599627370496) := Nat.pow_le_pow_right (by decide) (by omega)
            have h30 : (2 : Nat) ^ 30 = 1073741824 := by decide
            have hq : (4503599627370496 + Z % 4503599627370496) / 2 ^ (926 - Z / 4503599627370496) ≤ (4503599627370496 + Z % 4503599627370496) / 1073741824 := Nat.div_le_div_left (by omega) (by decide)
            rw [e32 s (by decide) (by omega) (Or.inr rfl), if_pos (by decide)]
            omega
