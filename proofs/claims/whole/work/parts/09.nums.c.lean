/-! nearest, and rounding to whole ends -/
theorem near_N {n k : Nat} (hn : n < 2 ^ 64) (h1 : 1 ≤ k) (hk : k ≤ 62) : nNear (lN n) (nI k) = lN (FP.Core.nearest n (2 ^ k)) := by
  have hp : (2 : Nat) ^ k = 2 * 2 ^ (k - 1) := by rw [← Nat.pow_succ']; congr 1; omega
  have hq : (2 : Nat) ^ k ≤ 2 ^ 62 := Nat.pow_le_pow_right (by decide) hk
  have hpos : 0 < 2 ^ (k - 1) := Nat.two_pow_pos _
  have hm : n % 2 ^ k < 2 ^ k := Nat.mod_lt _ (Nat.two_pow_pos k)
  have e1 : jushr (lN n) (nI k) = lN (n / 2 ^ k) := j_ushr hn (by omega)
  have e2 : jshl 1 (nI k) - 1 = lN (2 ^ k - 1) := by
    rw [show (1 : Int64) = lN 1 from rfl, j_shl 1 (by omega), Nat.one_mul, lN_sub (by omega)]
  have e3 : lN n &&& (jshl 1 (nI k) - 1) = lN (n % 2 ^ k) := by rw [e2, wb_mask hn (by omega)]
  have e4 : jshl 1 (nI k - 1) = lN (2 ^ (k - 1)) := by
    rw [show nI k - 1 = nI (k - 1) from pk_sub (a := k) (b := 1) h1, show (1 : Int64) = lN 1 from rfl, j_shl 1 (by omega), Nat.one_mul]
  have hd : n / 2 ^ k < 2 ^ 64 := Nat.lt_of_le_of_lt (Nat.div_le_self _ _) hn
  have e5 : (jushr (lN n) (nI k) &&& 1) = 1 ↔ n / 2 ^ k % 2 = 1 := by
    rw [e1, wb_a1 hd]
    constructor
    · intro h; exact l_inj (by omega) (by decide) h
    · intro h; rw [h]; rfl
  have e6 : jshl 1 (nI k - 1) < (lN n &&& (jshl 1 (nI k) - 1)) ↔ 2 ^ (k - 1) < n % 2 ^ k := by
    rw [e3, e4]
    exact l_lt (by omega) (by omega)
  have e7 : (lN n &&& (jshl 1 (nI k) - 1)) = jshl 1 (nI k - 1) ↔ n % 2 ^ k = 2 ^ (k - 1) := by
    rw [e3, e4]
    constructor
    · intro h; exact l_inj (by omega) (by omega) h
    · intro h; rw [h]
  unfold nNear
  simp only [e6, e7, e5]
  rw [e1]
  unfold FP.Core.nearest
  by_cases c1 : 2 ^ (k - 1) < n % 2 ^ k
  · rw [if_pos (Or.inl c1), if_neg (by omega), if_pos (by omega)]
    exact lN_1 _
  · by_cases c2 : n % 2 ^ k = 2 ^ (k - 1)
    · rw [if_neg (show ¬ 2 * (n % 2 ^ k) < 2 ^ k by omega), if_neg (show ¬ 2 ^ k < 2 * (n % 2 ^ k) by omega)]
      by_cases c3 : n / 2 ^ k % 2 = 1
      · rw [if_pos (Or.inr ⟨c2, c3⟩), c3]
        exact lN_1 _
      · rw [if_neg (fun q => by rcases q with q | q; exact c1 q; exact c3 q.2), show n / 2 ^ k % 2 = 0 by omega]
        rfl
    · rw [if_neg (fun q => by rcases q with q | q; exact c1 q; exact c2 q.1), if_pos (by omega)]
def sF (t : Int32) : Nat := if t = 2 then 23 else 52
def sC (t : Int32) : Nat := if t = 2 then 127 else 1023
theorem nFrac_N {t : Int32} : nFrac t = nI (sF t) := by
  unfold nFrac sF
  by_cases h : t = 2
  · rw [if_pos h, if_pos h]; rfl
  · rw [if_neg h, if_neg h]; rfl
theorem nBias_N {t : Int32} : nBias t = nI (sC t) := by
  unfold nBias sC
  by_cases h : t = 2
  · rw [if_pos h, if_pos h]; rfl
  · rw [if_neg h, if_neg h]; rfl
theorem sF_fact {t : Int32} (ht : t = 2 ∨ t = 3) : sF t ≤ 52 ∧ 23 ≤ sF t ∧ sC t ≤ 1023 ∧ 127 ≤ sC t ∧ sI t = (2 * sC t + 1) * 2 ^ sF t ∧ sI t < 2 ^ 63 ∧ sC t + sF t + 1 ≤ 2 * sC t := by
  rcases ht with rfl | rfl <;> decide
theorem sE_le {t : Int32} {Z : Nat} (ht : t = 2 ∨ t = 3) (h : Z ≤ sI t) : Z / 2 ^ sF t ≤ 2047 := by
  obtain ⟨h1, h2, h3, h4, h5, h6, h7⟩ := sF_fact ht
  have : Z / 2 ^ sF t ≤ sI t / 2 ^ sF t := Nat.div_le_div_right h
  rw [h5, Nat.mul_div_cancel _ (Nat.two_pow_pos _)] at this
  omega
theorem nPow_N {t : Int32} {Z : Nat} (ht : t = 2 ∨ t = 3) (h : Z ≤ sI t) : nPow t (lN Z) = nI (Z / 2 ^ sF t) - nI (sC t) ∧ kPow t (lN Z) = nI (Z / 2 ^ sF t) - nI (sC t) ∧ (nI (Z / 2 ^ sF t) - nI (sC t)).toInt = ((Z / 2 ^ sF t : Nat) : Int) - sC t := by
  obtain ⟨h1, h2, h3, h4, h5, h6, h7⟩ := sF_fact ht
  have hE := sE_le ht h
  refine ⟨?_, ?_, pk_sub_toInt (by omega) (by omega)⟩
  · unfold nPow
    rw [nFrac_N, nBias_N, j_ushr (by omega) (by omega), lN_i]
  · unfold kPow
    rw [nFrac_N, nBias_N, j_shr (by omega) (by omega), lN_i]
theorem nHalf_eq (t : Int32) : nHalf t = jshl ((nBias t).toInt64 - 1) (nFrac t) := by
  unfold nHalf nBias nFrac
  by_cases h : t = 2
  · simp only [if_pos h]; decide
  · simp only [if_neg h]; decide
set_option maxRecDepth 100000 in
set_option maxHeartbeats 4000000 in
/-- both round a number to the same whole one -/
theorem whole_eq {t : Int32} {v : Int64} (ht : t = 2 ∨ t = 3) (hv : nOk t v) (w : Int32) : nWhole t v w = kWhole t v w ∧ nOk t (nWhole t v w) := by
  obtain ⟨s, Z, hZ, rfl⟩ := nOk_sg ht hv
  have hP := sIP ht hZ
  obtain ⟨f1, f2, f3, f4, f5, f6, f7⟩ := sF_fact ht
  have hE := sE_le ht hZ
  obtain ⟨p1, p2, p3⟩ := nPow_N ht hZ
  have hl := sg_lt (s := s) ht hP
  generalize hAw : (if (sgN t s Z < 0 ∧ w = 0) ∨ (¬ sgN t s Z < 0 ∧ w = 1) then (1 : Int32) else 0) = aw
  have haw : ¬ aw = 0 ↔ kMore (sgN t s Z) w := by
    rw [← hAw]
    by_cases c1 : sgN t s Z < 0 <;> by_cases c2 : w = 0 <;> by_cases c3 : w = 1 <;> simp [kMore, c1, c2, c3]
  generalize hNr : (if w = 2 then (1 : Int32) else 0) = nr
  have hnr : ¬ nr = 0 ↔ w = 2 := by
    rw [← hNr]
    by_cases c1 : w = 2 <;> simp [c1]
  have hsg : ∀ R, R < sP t → kSgn t (lN R) (if sgN t s Z < 0 then 1 else 0) = sgN t s R := by
    intro R hR
    rw [sg_sgn ht hR]
    cases s
    · rw [if_neg (fun q => by have := hl.mp q; cases this)]; simp
    · rw [if_pos (hl.mpr rfl)]; simp
  have hwith : ∀ R, R < sP t → nWith t (lN R) (sgN t s Z) = sgN t s R := fun R hR => nWith_sg (s := false) ht hR hP
  -- it is enough to find the magnitude
  suffices K : ∃ R, R ≤ sI t ∧ nWMag t (lN Z) nr aw = lN R ∧ kWhole t (sgN t s Z) w = sgN t s R by
    obtain ⟨R, hR, e1, e2⟩ := K
    have e3 : nWhole t (sgN t s Z) w = sgN t s R := by
      unfold nWhole
      rw [hAw, hNr, nMag_eq, sg_mag ht hP, e1, hwith R (sIP ht hR)]
    rw [e3, e2]
    exact ⟨rfl, sg_nOk ht hR⟩
  unfold nWMag kWhole
  simp only [sg_mag ht hP, p1, p2, nFrac_N (t := t)]
  have q1 : nI (Z / 2 ^ sF t) - nI (sC t) < nI (sF t) ↔ Z / 2 ^ sF t < sC t + sF t := by
    rw [Int32.lt_iff_toInt_lt, p3, nI_toInt (by omega)]; omega
  have q2 : nI (Z / 2 ^ sF t) - nI (sC t) < 0 ↔ Z / 2 ^ sF t < sC t := by
    rw [Int32.lt_iff_toInt_lt, p3, show (0 : Int32).toInt = 0 from by decide]; omega
  simp only [q1, q2, l_eq0 (show Z < 2 ^ 64 by omega)]
  by_cases c1 : Z = 0 ∨ ¬ Z / 2 ^ sF t < sC t + sF t
  · refine ⟨Z, hZ, by rw [if_pos c1], ?_⟩
    rw [if_pos (c1.symm)]
  · rw [if_neg c1, if_neg (show ¬ (¬ Z / 2 ^ sF t < sC t + sF t ∨ Z = 0) from fun q => c1 q.symm)]
    have c1a : Z / 2 ^ sF t < sC t + sF t := by
      rcases Nat.lt_or_ge (Z / 2 ^ sF t) (sC t + sF t) with h | h
      · exact h
      · exact absurd (Or.inr (by omega)) c1
    by_cases c2 : Z / 2 ^ sF t < sC t
    · rw [if_pos c2, if_pos c2]
      have ec : ((¬ nr = 0 ∧ nHalf t < lN Z) ∨ (nr = 0 ∧ ¬ aw = 0)) ↔ kMoreS t (sgN t s Z) (lN Z) w := by
        unfold kMoreS
        rw [← haw, ← hnr, nHalf_eq]
        constructor
        · intro q
          rcases q with q | q
          · exact Or.inl q
          · exact Or.inr ⟨fun z => z q.1, q.2⟩
        · intro q
          rcases q with q | q
          · exact Or.inl q
          · refine Or.inr ⟨?_, q.2⟩
            by_cases z : nr = 0
            · exact z
            · exact absurd z q.1
      by_cases c3 : kMoreS t (sgN t s Z) (lN Z) w
      · rw [if_pos (ec.mpr c3), if_pos c3, nOne_eq, kOne_N]
        exact ⟨sOne t, sOne_le ht, rfl, hsg _ (sIP ht (sOne_le ht))⟩
      · rw [if_neg (fun q => c3 (ec.mp q)), if_neg c3]
        exact ⟨0, Nat.zero_le _, rfl, hsg 0 (sIP ht (Nat.zero_le _))⟩
    · rw [if_neg c2, if_neg c2]
      -- a number with a whole part and a broken one
      obtain ⟨k, hk⟩ : ∃ k, k = sF t - (Z / 2 ^ sF t - sC t) := ⟨_, rfl⟩
      have hk1 : 1 ≤ k := by omega
      have hk2 : k ≤ sF t := by omega
      have ek : nI (sF t) - (nI (Z / 2 ^ sF t) - nI (sC t)) = nI k := by
        rw [pk_sub (by omega), pk_sub (by omega), hk]
      have hpk : (2 : Nat) ^ k = 2 * 2 ^ (k - 1) := by rw [← Nat.pow_succ']; congr 1; omega
      have hpF : (2 : Nat) ^ k ≤ 2 ^ sF t := Nat.pow_le_pow_right (by decide) hk2
      have hpF2 : (2 : Nat) ^ sF t ≤ 2 ^ 52 := Nat.pow_le_pow_right (by decide) f1
      have hpos : 0 < 2 ^ (k - 1) := Nat.two_pow_pos _
      have eu : jshl 1 (nI k) = lN (2 ^ k) := by rw [show (1 : Int64) = lN 1 from rfl, j_shl 1 (by omega), Nat.one_mul]
      have eU : kUnit t (lN Z) = lN (2 ^ k) := by unfold kUnit; rw [p2, nFrac_N, ek, eu]
      have eR : kRest t (lN Z) = lN (Z % 2 ^ k) := by
        unfold kRest
        rw [eU, show (1 : Int64) = lN 1 from rfl, lN_sub (by omega), wb_mask (by omega) (by omega)]
      have hm : Z % 2 ^ k < 2 ^ k := Nat.mod_lt _ (Nat.two_pow_pos k)
      have hdm := Nat.div_add_mod Z (2 ^ k)
      have eC : lN Z - lN (Z % 2 ^ k) = lN (Z / 2 ^ k * 2 ^ k) := by
        rw [lN_sub (Nat.mod_le _ _)]
        exact congrArg lN (by rw [Nat.mul_comm] at hdm; omega)
      have hcut : Z / 2 ^ k * 2 ^ k ≤ Z := Nat.div_mul_le_self _ _
      have hZb : Z < (sC t + sF t) * 2 ^ sF t := (Nat.div_lt_iff_lt_mul (Nat.two_pow_pos _)).mp c1a
      have hup : Z / 2 ^ k * 2 ^ k + 2 ^ k ≤ sI t := by
        rw [f5]
        have h8 : (sC t + sF t + 1) * 2 ^ sF t ≤ (2 * sC t + 1) * 2 ^ sF t := Nat.mul_le_mul_right _ (by omega)
        rw [Nat.add_mul, Nat.one_mul] at h8
        omega
      simp only [ek, eR, eU, eu, eC]
      have eM : lN Z &&& (lN (2 ^ k) - 1) = lN (Z % 2 ^ k) := by
        rw [show (1 : Int64) = lN 1 from rfl, lN_sub (by omega), wb_mask (by omega) (by omega)]
      have eD : lN Z &&& -(lN (2 ^ k)) = lN (Z / 2 ^ k * 2 ^ k) := by
        have h9 := wb_lt2 (show k < 64 by omega)
        rw [l_neg (by omega), wb_and (by omega) (by omega), b_and_top (by omega) (by omega)]
      have eN : jshl (nNear (lN Z) (nI k)) (nI k) = lN (FP.Core.nearest Z (2 ^ k) * 2 ^ k) := by
        rw [near_N (by omega) hk1 (by omega), j_shl _ (by omega)]
      simp only [eM, eD, eN, l_eq0 (show Z % 2 ^ k < 2 ^ 64 by omega)]
      have eML : kMoreL t (sgN t s Z) (lN Z) w ↔ (w = 2 ∧ (2 ^ (k - 1) < Z % 2 ^ k ∨ (Z % 2 ^ k = 2 ^ (k - 1) ∧ Z / 2 ^ k % 2 = 1))) ∨ (¬ w = 2 ∧ kMore (sgN t s Z) w) := by
        have a1 : lN (2 ^ k) / 2 = lN (2 ^ (k - 1)) := by
          rw [show (2 : Int64) = lN 2 from rfl, pk_lDiv (by omega) (by decide) (by decide)]
          exact congrArg lN (by omega)
        have a2 : (lN (Z / 2 ^ k * 2 ^ k) &&& lN (2 ^ k)) = 0 ↔ ¬ Z / 2 ^ k % 2 = 1 := by
          have b1 : Z / 2 ^ k * 2 ^ k &&& 2 ^ k = (Z / 2 ^ k % 2) * 2 ^ k := by
            apply Nat.eq_of_testBit_eq
            intro i
            rw [Nat.testBit_and, Nat.testBit_mul_two_pow, Nat.testBit_mul_two_pow, Nat.testBit_two_pow]
            by_cases hi : k = i
            · subst hi
              simp [Nat.testBit_zero]
            · by_cases h2 : k ≤ i
              · have h3 : (Z / 2 ^ k % 2).testBit (i - k) = false := Nat.testBit_lt_two_pow (Nat.lt_of_lt_of_le (Nat.mod_lt _ (by decide)) (show 2 ≤ 2 ^ (i - k) from by
                  have := Nat.pow_le_pow_right (show 0 < 2 by decide) (show 1 ≤ i - k by omega)
                  omega))
                simp [hi, h3]
              · simp [hi, h2]
          rw [wb_and (by omega) (by omega), b1, l_eq0 (by
            have : Z / 2 ^ k % 2 < 2 := Nat.mod_lt _ (by decide)
            have : Z / 2 ^ k % 2 * 2 ^ k ≤ 1 * 2 ^ k := Nat.mul_le_mul_right _ (by omega)
            omega)]
          constructor
          · intro h1 h2
            rw [h2] at h1
            omega
          · intro h1
            rw [show Z / 2 ^ k % 2 = 0 by omega, Nat.zero_mul]
        unfold kMoreL
        rw [eU, eR, eC, a1, a2, l_lt (by omega) (by omega)]
        have a3 : (lN (Z % 2 ^ k) = lN (2 ^ (k - 1))) ↔ Z % 2 ^ k = 2 ^ (k - 1) := ⟨fun h => l_inj (by omega) (by omega) h, fun h => by rw [h]⟩
        rw [a3]
        by_cases z1 : Z / 2 ^ k % 2 = 1 <;> simp [z1]
      by_cases c4 : Z % 2 ^ k = 0
      · rw [if_pos c4]
        refine ⟨Z, hZ, ?_, rfl⟩
        by_cases c5 : w = 2
        · rw [if_pos (hnr.mpr c5)]
          unfold FP.Core.nearest
          rw [if_pos (by omega)]
          exact congrArg lN (by rw [Nat.mul_comm] at hdm; omega)
        · rw [if_neg (fun q => c5 (hnr.mp q)), if_neg (fun q => q.1 c4)]
          exact congrArg lN (by rw [Nat.mul_comm] at hdm; omega)
      · rw [if_neg c4]
        have hfin : ∀ P : Prop, ∀ dP : Decidable P, ∃ R, R ≤ sI t ∧ (if P then lN (Z / 2 ^ k * 2 ^ k) + lN (2 ^ k) else lN (Z / 2 ^ k * 2 ^ k)) = lN R := by
          intro P dP
          by_cases h : P
          · rw [if_pos h, lN_add]
            exact ⟨_, hup, rfl⟩
          · rw [if_neg h]
            exact ⟨_, by omega, rfl⟩
        obtain ⟨R, hR, eR2⟩ := hfin (kMoreL t (sgN t s Z) (lN Z) w) _
        rw [eR2]
        refine ⟨R, hR, ?_, hsg R (sIP ht hR)⟩
        rw [← eR2]
        by_cases c5 : w = 2
        · rw [if_pos (hnr.mpr c5)]
          unfold FP.Core.nearest
          have c6 : kMoreL t (sgN t s Z) (lN Z) w ↔ (2 ^ (k - 1) < Z % 2 ^ k ∨ (Z % 2 ^ k = 2 ^ (k - 1) ∧ Z / 2 ^ k % 2 = 1)) := by
            rw [eML]
            simp [c5]
          by_cases d1 : 2 ^ (k - 1) < Z % 2 ^ k
          · rw [if_pos (c6.mpr (Or.inl d1)), if_neg (by omega), if_pos (by omega), lN_add, Nat.add_mul, Nat.one_mul]
          · by_cases d2 : Z % 2 ^ k = 2 ^ (k - 1)
            · rw [if_neg (show ¬ 2 * (Z % 2 ^ k) < 2 ^ k by omega), if_neg (show ¬ 2 ^ k < 2 * (Z % 2 ^ k) by omega)]
              by_cases d3 : Z / 2 ^ k % 2 = 1
              · rw [if_pos (c6.mpr (Or.inr ⟨d2, d3⟩)), d3, lN_add, Nat.add_mul, Nat.one_mul]
              · rw [if_neg (fun q => by rcases c6.mp q with q | q; exact d1 q; exact d3 q.2), show Z / 2 ^ k % 2 = 0 by omega, Nat.add_zero]
            · rw [if_pos (show 2 * (Z % 2 ^ k) < 2 ^ k by omega), if_neg (fun q : kMoreL t (sgN t s Z) (lN Z) w => by rcases c6.mp q with q | q; exact d1 q; exact d2 q.1)]
        · rw [if_neg (fun q => c5 (hnr.mp q))]
          have c6 : kMoreL t (sgN t s Z) (lN Z) w ↔ ¬ aw = 0 := by
            rw [eML, haw]
            simp [c5]
          by_cases d1 : aw = 0
          · rw [if_neg (fun q => q.2 d1), if_neg (fun q => c6.mp q d1)]
          · rw [if_pos ⟨c4, d1⟩, if_pos (c6.mpr d1)]
