/-! broken numbers made whole -/
def twP (F M w : Nat) : Nat := if w ≤ F then M / 2 ^ (F - w) else M * 2 ^ (w - F)
theorem twP_bd {F M : Nat} (w : Nat) (h1 : 2 ^ F ≤ M) (h2 : M < 2 * 2 ^ F) : 2 ^ w ≤ twP F M w ∧ twP F M w < 2 * 2 ^ w := by
  unfold twP
  by_cases c : w ≤ F
  · rw [if_pos c]
    have hp : 0 < 2 ^ (F - w) := Nat.two_pow_pos _
    have e : 2 ^ w * 2 ^ (F - w) = 2 ^ F := by rw [← Nat.pow_add]; congr 1; omega
    constructor
    · exact (Nat.le_div_iff_mul_le hp).mpr (by rw [e]; exact h1)
    · exact (Nat.div_lt_iff_lt_mul hp).mpr (by rw [Nat.mul_assoc, e]; exact h2)
  · rw [if_neg c]
    have hp : 0 < 2 ^ (w - F) := Nat.two_pow_pos _
    have e : 2 ^ F * 2 ^ (w - F) = 2 ^ w := by rw [← Nat.pow_add]; congr 1; omega
    constructor
    · rw [← e]; exact Nat.mul_le_mul_right _ h1
    · rw [← e, ← Nat.mul_assoc]; exact Nat.mul_lt_mul_of_pos_right h2 hp
def bwR (s : Bool) (E C T : Nat) (t : Int32) : Int64 := if E < C then 0 else if E < C + (if t = 0 then 31 else 63) then (if s then -(lN T) else lN T) else nExt t (if s then 1 else 0)
theorem mant_N {t : Int32} {Z : Nat} (ht : t = 2 ∨ t = 3) (h : Z ≤ sI t) : nMant t (lN Z) = lN (2 ^ sF t + Z % 2 ^ sF t) := by
  obtain ⟨f1, f2, f3, f4, f5, f6, f7⟩ := sF_fact ht
  have hp := Nat.two_pow_pos (sF t)
  have hp2 : (2 : Nat) ^ sF t ≤ 2 ^ 52 := Nat.pow_le_pow_right (by decide) f1
  have hm : Z % 2 ^ sF t < 2 ^ sF t := Nat.mod_lt _ hp
  unfold nMant
  rw [nFrac_N, show (1 : Int64) = lN 1 from rfl, j_shl 1 (by omega), Nat.one_mul, lN_sub (by omega), wb_mask (by omega) (by omega), wb_or (by omega) (by omega)]
  have e := b_or_add (k := sF t) (Z := Z % 2 ^ sF t) (c := 1) hm
  rw [Nat.one_mul] at e
  rw [e]
theorem b2w_N {f : Int32} {s : Bool} {Z : Nat} (ht : f = 2 ∨ f = 3) (h : Z ≤ sI f) (t : Int32) (tt : t = 0 ∨ t = 1) : nB2W f (sgN f s Z) t = bwR s (Z / 2 ^ sF f) (sC f) (twP (sF f) (2 ^ sF f + Z % 2 ^ sF f) (Z / 2 ^ sF f - sC f)) t := by
  obtain ⟨f1, f2, f3, f4, f5, f6, f7⟩ := sF_fact ht
  have hP := sIP ht h
  have hE := sE_le ht h
  obtain ⟨p1, p2, p3⟩ := nPow_N ht h
  have hl := sg_lt (s := s) ht hP
  have hp := Nat.two_pow_pos (sF f)
  have hm : Z % 2 ^ sF f < 2 ^ sF f := Nat.mod_lt _ hp
  have hp2 : (2 : Nat) ^ sF f ≤ 2 ^ 52 := Nat.pow_le_pow_right (by decide) f1
  have et : (if t = 1 then (63 : Int32) else 31) = (if t = 0 then 31 else 63) := by
    rcases tt with rfl | rfl <;> rfl
  unfold nB2W bwR
  rw [et, nMag_eq, sg_mag ht hP, p1]
  have q1 : nI (Z / 2 ^ sF f) - nI (sC f) < 0 ↔ Z / 2 ^ sF f < sC f := by
    rw [Int32.lt_iff_toInt_lt, p3, show (0 : Int32).toInt = 0 from by decide]; omega
  have q2 : nI (Z / 2 ^ sF f) - nI (sC f) < (if t = 0 then 31 else 63) ↔ Z / 2 ^ sF f < sC f + (if t = 0 then 31 else 63) := by
    rw [Int32.lt_iff_toInt_lt, p3]
    by_cases c : t = 0
    · rw [if_pos c, if_pos c, show (31 : Int32).toInt = 31 from by decide]; omega
    · rw [if_neg c, if_neg c, show (63 : Int32).toInt = 63 from by decide]; omega
  have hs1 : ∀ (x y : Int64), (if sgN f s Z < 0 then x else y) = (if s then x else y) := by
    intro x y
    cases s
    · rw [if_neg (fun q => by have := hl.mp q; cases this)]; rfl
    · rw [if_pos (hl.mpr rfl)]; rfl
  have hs2 : (if sgN f s Z < 0 then (1 : Int32) else 0) = (if s then 1 else 0) := by
    cases s
    · rw [if_neg (fun q => by have := hl.mp q; cases this)]; rfl
    · rw [if_pos (hl.mpr rfl)]; rfl
  simp only [q1, q2, hs1, hs2]
  by_cases c1 : Z / 2 ^ sF f < sC f
  · rw [if_pos c1, if_pos c1]
  · rw [if_neg c1, if_neg c1]
    by_cases c2 : Z / 2 ^ sF f < sC f + (if t = 0 then 31 else 63)
    · rw [if_pos c2, if_pos c2]
      have hw : Z / 2 ^ sF f - sC f < 63 := by
        by_cases c : t = 0
        · rw [if_pos c] at c2; omega
        · rw [if_neg c] at c2; omega
      have e : nB2Wm f (lN Z) = lN (twP (sF f) (2 ^ sF f + Z % 2 ^ sF f) (Z / 2 ^ sF f - sC f)) := by
        unfold nB2Wm twP
        rw [mant_N ht h, p1, nFrac_N, pk_sub (by omega)]
        by_cases c3 : Z / 2 ^ sF f - sC f ≤ sF f
        · rw [if_pos c3, pk_sub c3, if_neg (nI_pos (by omega)), j_ushr (by omega) (by omega)]
        · rw [if_neg c3, if_pos (pk_sneg (by omega) (by omega))]
          have en : -(nI (sF f) - nI (Z / 2 ^ sF f - sC f)) = nI (Z / 2 ^ sF f - sC f - sF f) := by
            apply Int32.toInt_inj.mp
            have a := pk_sub_toInt (a := sF f) (b := Z / 2 ^ sF f - sC f) (by omega) (by omega)
            rw [fb_negI (by rw [a]; omega), a, nI_toInt (by omega)]
            omega
          rw [en, j_shl _ (by omega)]
      rw [e]
    · rw [if_neg c2, if_neg c2]
theorem nn32 (s : Bool) {Z : Nat} (h : Z ≤ 2139095040) : ¬ FP.Core.decode FP.Core.b32 (s.toNat * 2147483648 + Z) = .nan := by
  rw [d32 s h]
  by_cases c1 : Z = 2139095040
  · rw [if_pos c1]; intro q; cases q
  · rw [if_neg c1]
    by_cases c2 : Z < 8388608
    · rw [if_pos c2]; intro q; cases q
    · rw [if_neg c2]; intro q; cases q
theorem nn64 (s : Bool) {Z : Nat} (h : Z ≤ 9218868437227405312) : ¬ FP.Core.decode FP.Core.b64 (s.toNat * 9223372036854775808 + Z) = .nan := by
  rw [d64 s h]
  by_cases c1 : Z = 9218868437227405312
  · rw [if_pos c1]; intro q; cases q
  · rw [if_neg c1]
    by_cases c2 : Z < 4503599627370496
    · rw [if_pos c2]; intro q; cases q
    · rw [if_neg c2]; intro q; cases q
theorem ord_self {d : FP.Core.Datum} (h : ¬ d = .nan) : FP.Core.order d d = some .eq := by
  cases d with
  | nan => exact absurd rfl h
  | inf s => simp [FP.Core.order]
  | fin s c q => simp [FP.Core.order]
theorem cmp64 {d : UInt64} {s : Bool} {Z : Nat} (hd : d.toNat = s.toNat * 9223372036854775808 + Z) (h : Z ≤ 9218868437227405312) : Op.cmpValue (FP.dcmp d d) .l = 0 := by
  have e : FP.dcmp d d = some .eq := by
    show FP.Core.order (FP.Core.decode FP.Core.b64 d.toNat) (FP.Core.decode FP.Core.b64 d.toNat) = _
    rw [hd]
    exact ord_self (nn64 s h)
  rw [e]
  rfl
theorem cmp32 {d : UInt32} {s : Bool} {Z : Nat} (hd : d.toNat = s.toNat * 2147483648 + Z) (h : Z ≤ 2139095040) : Op.cmpValue (FP.fcmp d d) .l = 0 := by
  have e : FP.fcmp d d = some .eq := by
    show FP.Core.order (FP.Core.decode FP.Core.b32 d.toNat) (FP.Core.decode FP.Core.b32 d.toNat) = _
    rw [hd]
    exact ord_self (nn32 s h)
  rw [e]
  rfl
theorem mask64 {d : UInt64} {s : Bool} {Z : Nat} (hd : d.toNat = s.toNat * 9223372036854775808 + Z) (h : Z ≤ 9218868437227405312) : (d &&& 0x7fffffffffffffff).toNat = Z := by
  rw [UInt64.toNat_and, hd, show (0x7fffffffffffffff : UInt64).toNat = 2 ^ 63 - 1 from by decide, Nat.and_two_pow_sub_one_eq_mod]
  omega
theorem mask32 {d : UInt32} {s : Bool} {Z : Nat} (hd : d.toNat = s.toNat * 2147483648 + Z) (h : Z ≤ 2139095040) : (d &&& 0x7fffffff).toNat = Z := by
  rw [UInt32.toNat_and, hd, show (0x7fffffff : UInt32).toNat = 2 ^ 31 - 1 from by decide, Nat.and_two_pow_sub_one_eq_mod]
  omega
theorem vf64 {d : UInt64} {s : Bool} {Z : Nat} (hd : d.toNat = s.toNat * 9223372036854775808 + Z) (h : Z ≤ 9218868437227405312) : vf_n64 d := by
  unfold vf_n64
  rw [UInt64.le_iff_toNat_le, mask64 hd h]
  exact h
theorem vf32 {d : UInt32} {s : Bool} {Z : Nat} (hd : d.toNat = s.toNat * 2147483648 + Z) (h : Z ≤ 2139095040) : vf_n32 d := by
  unfold vf_n32
  rw [UInt32.le_iff_toNat_le, mask32 hd h]
  exact h
theorem f2d_N {a : UInt32} {s : Bool} {Z : Nat} (ha : a.toNat = s.toNat * 2147483648 + Z) (h : Z ≤ 2139095040) : FP.f2d a = UInt64.ofNat (s.toNat * 9223372036854775808 + wdn Z) := by
  have e : FP.Core.fIsNaN a = false := by
    show decide (FP.Core.decode FP.Core.b32 a.toNat = .nan) = false
    rw [ha]
    simp [nn32 s h]
  unfold FP.f2d
  rw [e]
  show UInt64.ofNat (FP.Core.convert FP.Core.b32 FP.Core.b64 a.toNat) = _
  rw [ha, cv64 s h]
theorem d2f_N {a : UInt64} {s : Bool} {Z : Nat} (ha : a.toNat = s.toNat * 9223372036854775808 + Z) (h : Z ≤ 9218868437227405312) : FP.d2f a = UInt32.ofNat (s.toNat * 2147483648 + nrw Z) := by
  have e : FP.Core.dIsNaN a = false := by
    show decide (FP.Core.decode FP.Core.b64 a.toNat = .nan) = false
    rw [ha]
    simp [nn64 s h]
  unfold FP.d2f
  rw [e]
  show UInt32.ofNat (FP.Core.convert FP.Core.b64 FP.Core.b32 a.toNat) = _
  rw [ha, (cv32 s h).1]
theorem ofN64 {n : Nat} (h : n < 18446744073709551616) : (UInt64.ofNat n).toNat = n := Nat.mod_eq_of_lt h
theorem ofN32 {n : Nat} (h : n < 4294967296) : (UInt32.ofNat n).toNat = n := Nat.mod_eq_of_lt h
theorem b_le (s : Bool) : s.toNat ≤ 1 := by cases s <;> decide
theorem toInt_N (lo hi : Int) (hlo : lo ≤ 0) (hhi : 0 ≤ hi) (s : Bool) {Z : Nat} (h : Z ≤ 9218868437227405312) :
    FP.Core.toInt lo hi (FP.Core.decode FP.Core.b64 (s.toNat * 9223372036854775808 + Z)) = if Z / 4503599627370496 < 1023 then 0 else if Z = 9218868437227405312 then (if s then lo else hi) else max lo (min hi (FP.Core.signed s (twP 52 (4503599627370496 + Z % 4503599627370496) (Z / 4503599627370496 - 1023)))) := by
  have z0 : max lo (min hi (FP.Core.signed s 0)) = 0 := by
    have : FP.Core.signed s 0 = 0 := by unfold FP.Core.signed; cases s <;> rfl
    rw [this]; omega
  rw [d64 s h]
  by_cases c1 : Z = 9218868437227405312
  · rw [if_pos c1, if_neg (by omega), if_pos c1]
    rfl
  · rw [if_neg c1, if_neg c1]
    by_cases c2 : Z < 4503599627370496
    · rw [if_pos c2, if_pos (by omega)]
      show max lo (min hi (FP.Core.truncate s Z (-1074))) = 0
      unfold FP.Core.truncate
      rw [show (-1074 : Int).toNat = 0 from by decide, show (-(-1074 : Int)).toNat = 1074 from by decide, Nat.pow_zero, Nat.mul_one]
      have hp : (2 : Nat) ^ 52 ≤ 2 ^ 1074 := Nat.pow_le_pow_right (by decide) (by decide)
      rw [Nat.div_eq_of_lt (by
        have : (2 : Nat) ^ 52 = 4503599627370496 := by decide
        omega)]
      exact z0
    · rw [if_neg c2]
      show max lo (min hi (FP.Core.truncate s _ _)) = _
      unfold FP.Core.truncate
      by_cases c3 : Z / 4503599627370496 < 1023
      · rw [if_pos c3]
        rw [show (((Z / 4503599627370496 : Nat) : Int) - 1075).toNat = 0 from by omega, Nat.pow_zero, Nat.mul_one]
        have hp : (2 : Nat) ^ 53 ≤ 2 ^ (-(((Z / 4503599627370496 : Nat) : Int) - 1075)).toNat := Nat.pow_le_pow_right (by decide) (by omega)
        have h53 : (2 : Nat) ^ 53 = 9007199254740992 := by decide
        rw [Nat.div_eq_of_lt (by omega)]
        exact z0
      · rw [if_neg c3]
        refine congrArg (fun x => max lo (min hi (FP.Core.signed s x))) ?_
        unfold twP
        by_cases c4 : Z / 4503599627370496 - 1023 ≤ 52
        · rw [if_pos c4, show (((Z / 4503599627370496 : Nat) : Int) - 1075).toNat = 0 from by omega, show (-(((Z / 4503599627370496 : Nat) : Int) - 1075)).toNat = 52 - (Z / 4503599627370496 - 1023) from by omega, Nat.pow_zero, Nat.mul_one]
        · rw [if_neg c4, show (((Z / 4503599627370496 : Nat) : Int) - 1075).toNat = Z / 4503599627370496 - 1023 - 52 from by omega, show (-(((Z / 4503599627370496 : Nat) : Int) - 1075)).toNat = 0 from by omega, Nat.pow_zero, Nat.div_one]
