/-! numbers of the broken sorts as a sign and a magnitude -/
def sP (t : Int32) : Nat := if t = 2 then 2 ^ 31 else 2 ^ 63
def sB (t : Int32) : Nat := if t = 2 then 2 ^ 64 - 2 ^ 31 else 2 ^ 63
def sI (t : Int32) : Nat := if t = 2 then 2139095040 else 9218868437227405312
def sgN (t : Int32) (s : Bool) (Z : Nat) : Int64 := lN (if s then sB t + Z else Z)
theorem sgN_f (t : Int32) (Z : Nat) : sgN t false Z = lN Z := rfl
theorem sgN_t (t : Int32) (Z : Nat) : sgN t true Z = lN (sB t + Z) := rfl
theorem sP_2 : sP 2 = 2 ^ 31 := rfl
theorem sP_3 : sP 3 = 2 ^ 63 := rfl
theorem sB_2 : sB 2 = 2 ^ 64 - 2 ^ 31 := rfl
theorem sB_3 : sB 3 = 2 ^ 63 := rfl
theorem sI_2 : sI 2 = 2139095040 := rfl
theorem sI_3 : sI 3 = 9218868437227405312 := rfl
theorem sIP {t : Int32} {Z : Nat} (ht : t = 2 ∨ t = 3) (h : Z ≤ sI t) : Z < sP t := by
  rcases ht with rfl | rfl
  · rw [sI_2] at h; rw [sP_2]; omega
  · rw [sI_3] at h; rw [sP_3]; omega
theorem sBP {t : Int32} {Z : Nat} (ht : t = 2 ∨ t = 3) (h : Z < sP t) : Z < 2 ^ 63 ∧ sB t + Z < 2 ^ 64 ∧ 2 ^ 63 ≤ sB t := by
  rcases ht with rfl | rfl
  · rw [sP_2] at h; rw [sB_2]; omega
  · rw [sP_3] at h; rw [sB_3]; omega
theorem sg_lt {t : Int32} {s : Bool} {Z : Nat} (ht : t = 2 ∨ t = 3) (h : Z < sP t) : sgN t s Z < 0 ↔ s = true := by
  obtain ⟨h1, h2, h3⟩ := sBP ht h
  rw [Int64.lt_iff_toInt_lt, show (0 : Int64).toInt = 0 from by decide]
  cases s
  · rw [sgN_f, j_ti (by omega), if_pos h1]
    constructor
    · intro q; omega
    · intro q; cases q
  · rw [sgN_t, j_ti h2, if_neg (by omega)]
    constructor
    · intro _; rfl
    · intro _; omega
theorem nMag_eq (t : Int32) (v : Int64) : nMag t v = kMag t v := by
  unfold nMag kMag nMask
  by_cases h : t = 2
  · rw [if_pos h, if_pos h]
    rfl
  · rw [if_neg h, if_neg h]
    rfl
theorem nInf_eq (t : Int32) : nInf t = kInf t := by
  unfold nInf kInf nBias nFrac
  by_cases h : t = 2
  · simp only [if_pos h]; decide
  · simp only [if_neg h]; decide
theorem nOne_eq (t : Int32) : nOne t = kOne t := by
  unfold nOne kOne nBias nFrac
  by_cases h : t = 2
  · simp only [if_pos h]; decide
  · simp only [if_neg h]; decide
theorem kInf_N {t : Int32} : kInf t = lN (sI t) := by
  unfold kInf sI
  by_cases h : t = 2
  · rw [if_pos h, if_pos h]; rfl
  · rw [if_neg h, if_neg h]; rfl
theorem nMask_N (t : Int32) : nMask t = lN (sB t) := by
  unfold nMask sB
  by_cases h : t = 2
  · rw [if_pos h, if_pos h]; decide
  · rw [if_neg h, if_neg h]; decide
theorem kB_iff {t : Int32} (h : zSort t) : kBroken t ↔ nBroken t := by
  obtain ⟨a, b⟩ := h
  unfold kBroken nBroken
  simp only [Int32.lt_iff_toInt_lt, ← Int32.toInt_inj] at a b ⊢
  simp at a b ⊢
  omega
theorem sg_mag {t : Int32} {s : Bool} {Z : Nat} (ht : t = 2 ∨ t = 3) (h : Z < sP t) : kMag t (sgN t s Z) = lN Z := by
  obtain ⟨h1, h2, h3⟩ := sBP ht h
  have hn : (if s then sB t + Z else Z) < 2 ^ 64 := by cases s <;> simp <;> omega
  unfold kMag sgN
  rcases ht with rfl | rfl
  · rw [if_pos rfl]
    have e := wb_mask (k := 31) hn (by decide)
    rw [show (2147483647 : Int64) = lN (2 ^ 31 - 1) from by decide, e]
    congr 1
    rw [sP_2] at h
    cases s
    · show Z % 2 ^ 31 = Z; omega
    · show (sB 2 + Z) % 2 ^ 31 = Z; rw [sB_2]; omega
  · rw [if_neg (by decide)]
    have e := wb_mask (k := 63) hn (by decide)
    rw [show (9223372036854775807 : Int64) = lN (2 ^ 63 - 1) from by decide, e]
    congr 1
    rw [sP_3] at h
    cases s
    · show Z % 2 ^ 63 = Z; omega
    · show (sB 3 + Z) % 2 ^ 63 = Z; rw [sB_3]; omega
theorem sB_mul {t : Int32} (ht : t = 2 ∨ t = 3) : ∃ k c, sP t = 2 ^ k ∧ sB t = c * 2 ^ k ∧ sB t = 2 ^ 64 - 2 ^ k ∧ k ≤ 63 := by
  rcases ht with rfl | rfl
  · exact ⟨31, 2 ^ 33 - 1, rfl, by decide, rfl, by decide⟩
  · exact ⟨63, 1, rfl, by decide, by decide, by decide⟩
theorem sg_or {t : Int32} {Z : Nat} (ht : t = 2 ∨ t = 3) (h : Z < sP t) : lN Z ||| nMask t = sgN t true Z := by
  obtain ⟨h1, h2, h3⟩ := sBP ht h
  obtain ⟨k, c, e1, e2, e3, hk⟩ := sB_mul ht
  rw [nMask_N, wb_or (by omega) (by omega), sgN_t, e2, b_or_add (by rw [← e1]; exact h)]
theorem sg_and {t : Int32} {s : Bool} {Z : Nat} (ht : t = 2 ∨ t = 3) (h : Z < sP t) : sgN t s Z &&& nMask t = if s then nMask t else 0 := by
  obtain ⟨h1, h2, h3⟩ := sBP ht h
  obtain ⟨k, c, e1, e2, e3, hk⟩ := sB_mul ht
  have hp : 0 < 2 ^ k := Nat.two_pow_pos k
  rw [e1] at h
  cases s
  · rw [nMask_N, sgN_f, wb_and (by omega) (by omega), e3, b_and_top (by omega) (by omega), Nat.div_eq_of_lt h, Nat.zero_mul]
    rfl
  · rw [nMask_N, sgN_t, wb_and h2 (by omega)]
    congr 1
    have h4 := b_and_top (n := sB t + Z) (k := k) h2 (by omega)
    rw [← e3] at h4
    rw [h4, e2, Nat.mul_comm c, Nat.mul_add_div hp, Nat.div_eq_of_lt h, Nat.add_zero, Nat.mul_comm]
theorem sg_xor {t : Int32} {s : Bool} {Z : Nat} (ht : t = 2 ∨ t = 3) (h : Z < sP t) : sgN t s Z ^^^ nMask t = sgN t (!s) Z := by
  obtain ⟨k, c, e1, e2, e3, hk⟩ := sB_mul ht
  rw [e1] at h
  rw [nMask_N]
  cases s
  · show lN Z ^^^ lN (sB t) = lN (sB t + Z)
    rw [l_xor, e2, b_xor_add h]
  · show lN (sB t + Z) ^^^ lN (sB t) = lN Z
    rw [l_xor, e2, b_xor_sub h]
theorem i32_64 (n : Nat) (h : n < 2 ^ 32) : (nI n).toInt64.toInt = if n < 2 ^ 31 then (n : Int) else (n : Int) - 2 ^ 32 := by
  rw [Int32.toInt_toInt64]
  have e : (nI n).toInt = (nI n).toBitVec.toInt := rfl
  rw [e, BitVec.toInt_eq_toNat_cond, pk_tn h]
  by_cases h1 : n < 2 ^ 31
  · rw [if_pos h1, if_pos (by omega)]
  · rw [if_neg h1, if_neg (by omega)]
    rfl
theorem sg_sgn {t b : Int32} {Z : Nat} (ht : t = 2 ∨ t = 3) (h : Z < sP t) : kSgn t (lN Z) b = sgN t (decide (¬ b = 0)) Z := by
  unfold kSgn
  by_cases hb : b = 0
  · rw [if_pos hb]
    simp [hb, sgN]
  · rw [if_neg hb, show decide (¬ b = 0) = true from by simp [hb]]
    rcases ht with rfl | rfl
    · rw [if_pos rfl]
      rw [sP_2] at h
      have e : lN Z ||| 2147483648 = lN (2 ^ 31 + Z) := by
        rw [show (2147483648 : Int64) = lN (1 * 2 ^ 31) from by decide, wb_or (by omega) (by decide), b_or_add h, Nat.one_mul]
      rw [e, lN_i]
      apply Int64.toInt_inj.mp
      rw [i32_64 _ (by omega), if_neg (by omega), sgN_t, sB_2, j_ti (by omega), if_neg (by omega)]
      omega
    · rw [if_neg (by decide)]
      exact sg_or (Or.inr rfl) h
theorem nOk_sg {t : Int32} {v : Int64} (ht : t = 2 ∨ t = 3) (h : nOk t v) : ∃ (s : Bool) (Z : Nat), Z ≤ sI t ∧ v = sgN t s Z := by
  obtain ⟨h1, h2⟩ := h
  have h2 := h2 ht
  obtain ⟨n, hn, rfl⟩ := wb_of v
  have key : ∃ (s : Bool) (Z : Nat), Z < sP t ∧ lN n = sgN t s Z := by
    rcases ht with rfl | rfl
    · have h3 := congrArg Int64.toInt (h1 (Or.inr rfl))
      rw [Int32.toInt_toInt64, j_ti hn] at h3
      have hr := Int32.toInt_lt (lN n).toInt32
      have hr2 := Int32.le_toInt (lN n).toInt32
      rw [sP_2]
      by_cases hc : n < 2 ^ 63
      · rw [if_pos hc] at h3
        exact ⟨false, n, by omega, rfl⟩
      · rw [if_neg hc] at h3
        refine ⟨true, n - (2 ^ 64 - 2 ^ 31), by omega, ?_⟩
        rw [sgN_t, sB_2]
        exact congrArg lN (by omega)
    · rw [sP_3]
      by_cases hc : n < 2 ^ 63
      · exact ⟨false, n, hc, rfl⟩
      · refine ⟨true, n - 2 ^ 63, by omega, ?_⟩
        rw [sgN_t, sB_3]
        exact congrArg lN (by omega)
  obtain ⟨s, Z, hZ, e⟩ := key
  refine ⟨s, Z, ?_, e⟩
  rw [e, nMag_eq, sg_mag ht hZ, nInf_eq, kInf_N] at h2
  have h4 : sI t < 2 ^ 63 := by rcases ht with rfl | rfl <;> decide
  rw [l_lt h4 (sBP ht hZ).1] at h2
  omega
theorem sg_nOk {t : Int32} {s : Bool} {Z : Nat} (ht : t = 2 ∨ t = 3) (h : Z ≤ sI t) : nOk t (sgN t s Z) := by
  have hP := sIP ht h
  obtain ⟨h1, h2, h3⟩ := sBP ht hP
  have h4 : sI t < 2 ^ 63 := by rcases ht with rfl | rfl <;> decide
  refine ⟨fun q => ?_, fun _ => ?_⟩
  · rcases ht with rfl | rfl
    · rw [sP_2] at hP
      apply Int64.toInt_inj.mp
      cases s
      · rw [sgN_f, lN_i, i32_64 _ (by omega), if_pos hP, j_ti (by omega), if_pos h1]
      · rw [sgN_t, lN_i, sB_2]
        rw [show nI (2 ^ 64 - 2 ^ 31 + Z) = nI (2 ^ 31 + Z) from by
          apply Int32.toBitVec_inj.mp
          show BitVec.ofNat 32 _ = BitVec.ofNat 32 _
          apply BitVec.eq_of_toNat_eq
          rw [BitVec.toNat_ofNat, BitVec.toNat_ofNat]
          omega]
        rw [i32_64 _ (by omega), if_neg (by omega), j_ti (by omega), if_neg (by omega)]
        omega
    · rcases q with q | q
      · exact absurd q (by decide)
      · exact absurd q (by decide)
  · rw [nMag_eq, sg_mag ht hP, nInf_eq, kInf_N, l_lt h4 h1]
    omega
