/-! the order, sizes, signs -/
theorem kRank_sg {t : Int32} {s : Bool} {Z : Nat} (ht : t = 2 ∨ t = 3) (h : Z < sP t) : (kRank t (sgN t s Z)).toInt = if s then -1 - (Z : Int) else (Z : Int) := by
  obtain ⟨h1, h2, h3⟩ := sBP ht h
  have hneg := sg_lt (s := s) ht h
  unfold kRank
  cases s
  · rw [if_neg (fun q => by have := hneg.mp q.2; cases this), sgN_f, j_ti (by omega), if_pos h1]
    rfl
  · have hk : kBroken t := by rcases ht with rfl | rfl <;> decide
    rw [if_pos ⟨hk, hneg.mpr rfl⟩, sgN_t]
    rcases ht with rfl | rfl
    · rw [sP_2] at h
      rw [if_pos rfl, show (2147483647 : Int64) = lN (2 ^ 31 - 1) from by decide, l_xor, show sB 2 = (2 ^ 33 - 1) * 2 ^ 31 from by decide, b_flip h, j_ti (by omega), if_neg (by omega)]
      show _ = -1 - (Z : Int)
      omega
    · rw [sP_3] at h
      rw [if_neg (by decide), show (9223372036854775807 : Int64) = lN (2 ^ 63 - 1) from by decide, l_xor, show sB 3 = 1 * 2 ^ 63 from by decide, b_flip h, j_ti (by omega), if_neg (by omega)]
      show _ = -1 - (Z : Int)
      omega
def sOff (t : Int32) : Int := if t = 2 then 2 ^ 63 - 2 ^ 31 else 0
theorem nRank_sg {t : Int32} {s : Bool} {Z : Nat} (ht : t = 2 ∨ t = 3) (h : Z < sP t) : (nRank (sgN t s Z)).toInt = if s then -1 - (Z : Int) - sOff t else (Z : Int) := by
  obtain ⟨h1, h2, h3⟩ := sBP ht h
  have hneg := sg_lt (s := s) ht h
  unfold nRank
  cases s
  · rw [if_neg (fun q => by have := hneg.mp q; cases this), sgN_f, j_ti (by omega), if_pos h1]
    rfl
  · rw [if_pos (hneg.mpr rfl), sgN_t, show (9223372036854775807 : Int64) = lN (2 ^ 63 - 1) from by decide, l_xor]
    have e : sB t + Z = 1 * 2 ^ 63 + (sB t + Z - 2 ^ 63) := by omega
    rw [e, b_flip (by omega), j_ti (by omega), if_neg (by omega)]
    rcases ht with rfl | rfl
    · rw [sP_2] at h
      rw [sB_2]
      show _ = -1 - (Z : Int) - (2 ^ 63 - 2 ^ 31)
      omega
    · rw [sP_3] at h
      rw [sB_3]
      show _ = -1 - (Z : Int) - 0
      omega
theorem nb_of {t : Int32} (h : nBroken t) : t = 2 ∨ t = 3 := h
theorem nLess_iff {t : Int32} {a b : Int64} (hz : zSort t) (ha : nOk t a) (hb : nOk t b) : nLess t a b ↔ kAbove t b a := by
  by_cases hB : nBroken t
  · obtain ⟨s1, Z1, h1, rfl⟩ := nOk_sg hB ha
    obtain ⟨s2, Z2, h2, rfl⟩ := nOk_sg hB hb
    have e : nLess t (sgN t s1 Z1) (sgN t s2 Z2) ↔ nRank (sgN t s1 Z1) < nRank (sgN t s2 Z2) := ⟨fun q => by rcases q with q | q; exact q.2; exact absurd hB q.1, fun q => Or.inl ⟨hB, q⟩⟩
    have g1 := sIP hB h1
    have g2 := sIP hB h2
    have o : 0 ≤ sOff t := by rcases hB with rfl | rfl <;> decide
    rw [e, Int64.lt_iff_toInt_lt, nRank_sg hB g1, nRank_sg hB g2]
    show _ ↔ kRank t (sgN t s1 Z1) < kRank t (sgN t s2 Z2)
    rw [Int64.lt_iff_toInt_lt, kRank_sg hB g1, kRank_sg hB g2]
    cases s1 <;> cases s2 <;> simp <;> omega
  · have hK : ¬ kBroken t := fun q => hB ((kB_iff hz).mp q)
    have e : ∀ v, kRank t v = v := fun v => by unfold kRank; rw [if_neg (fun q => hK q.1)]
    show _ ↔ kRank t a < kRank t b
    rw [e, e]
    exact ⟨fun q => by rcases q with q | q; exact absurd q.1 hB; exact q.2, fun q => Or.inr ⟨hB, q⟩⟩
theorem kRank_inj {t : Int32} {a b : Int64} (hz : zSort t) (ha : nOk t a) (hb : nOk t b) (h : (kRank t a).toInt = (kRank t b).toInt) : a = b := by
  by_cases hB : nBroken t
  · obtain ⟨s1, Z1, h1, rfl⟩ := nOk_sg hB ha
    obtain ⟨s2, Z2, h2, rfl⟩ := nOk_sg hB hb
    rw [kRank_sg hB (sIP hB h1), kRank_sg hB (sIP hB h2)] at h
    cases s1 <;> cases s2 <;> simp at h
    · rw [show Z1 = Z2 by omega]
    · omega
    · omega
    · rw [show Z1 = Z2 by omega]
  · have hK : ¬ kBroken t := fun q => hB ((kB_iff hz).mp q)
    have e : ∀ v, kRank t v = v := fun v => by unfold kRank; rw [if_neg (fun q => hK q.1)]
    rw [e, e] at h
    exact Int64.toInt_inj.mp h
theorem nLesser_eq {t : Int32} {a b : Int64} (hz : zSort t) (ha : nOk t a) (hb : nOk t b) : nLesser t a b = kLesser t a b := by
  unfold nLesser kLesser
  by_cases h : nLess t b a
  · rw [if_pos h, if_pos ((nLess_iff hz hb ha).mp h)]
  · rw [if_neg h, if_neg (fun q => h ((nLess_iff hz hb ha).mpr q))]
theorem nGreater_eq {t : Int32} {a b : Int64} (hz : zSort t) (ha : nOk t a) (hb : nOk t b) : nGreater t a b = kGreater t a b := by
  unfold nGreater kGreater
  by_cases h : nLess t a b
  · have h1 : kRank t a < kRank t b := (nLess_iff hz ha hb).mp h
    rw [if_pos h, if_neg (fun q : kRank t b < kRank t a => by rw [Int64.lt_iff_toInt_lt] at h1 q; omega)]
  · rw [if_neg h]
    by_cases h2 : kAbove t a b
    · rw [if_pos h2]
    · rw [if_neg h2]
      have h1 : ¬ kRank t a < kRank t b := fun q => h ((nLess_iff hz ha hb).mpr q)
      have h2 : ¬ kRank t b < kRank t a := h2
      rw [Int64.lt_iff_toInt_lt] at h1 h2
      exact kRank_inj hz ha hb (by omega)
theorem ok_lesser {t : Int32} {a b : Int64} (ha : nOk t a) (hb : nOk t b) : nOk t (nLesser t a b) := by
  unfold nLesser
  by_cases h : nLess t b a
  · rw [if_pos h]; exact hb
  · rw [if_neg h]; exact ha
theorem ok_greater {t : Int32} {a b : Int64} (ha : nOk t a) (hb : nOk t b) : nOk t (nGreater t a b) := by
  unfold nGreater
  by_cases h : nLess t a b
  · rw [if_pos h]; exact hb
  · rw [if_neg h]; exact ha
theorem nNeg_sg {t : Int32} {s : Bool} {Z : Nat} (ht : t = 2 ∨ t = 3) (h : Z < sP t) : nNeg t (sgN t s Z) = sgN t (!s) Z := by
  unfold nNeg
  rw [if_pos ht, sg_xor ht h]
theorem fit_fit (v : Int64) : v.toInt32.toInt64.toInt32.toInt64 = v.toInt32.toInt64 := by
  apply Int64.toInt_inj.mp
  congr 1
  simp
theorem ok_fit {t : Int32} (v : Int64) (h : ¬ nBroken t) : nOk t (nFit t v) := by
  refine ⟨fun q => ?_, fun q => absurd q h⟩
  unfold nFit
  rw [if_pos q]
  exact fit_fit v
theorem ok_num {t : Int32} {v : Int64} (h : nNum t v) : nOk t (nFit t v) := by
  by_cases hB : nBroken t
  · refine ⟨fun q => ?_, fun _ => ?_⟩
    · unfold nFit
      rw [if_pos q]
      exact fit_fit v
    · rcases h with h | h
      · exact absurd hB h
      · exact h
  · exact ok_fit v hB
theorem ok_zero {t : Int32} (_hz : zSort t) : nOk t 0 := by
  by_cases hB : nBroken t
  · exact sg_nOk (s := false) (Z := 0) hB (Nat.zero_le _)
  · exact ⟨fun _ => by decide, fun q => absurd q hB⟩
theorem nNeg_eq {t : Int32} {v : Int64} (hz : zSort t) (h : nOk t v) : nNeg t v = kTurned t v ∧ nOk t (nNeg t v) := by
  by_cases hB : nBroken t
  · obtain ⟨s, Z, hZ, rfl⟩ := nOk_sg hB h
    have hP := sIP hB hZ
    rw [nNeg_sg hB hP]
    refine ⟨?_, sg_nOk hB hZ⟩
    unfold kTurned
    rw [if_pos ((kB_iff hz).mpr hB), sg_mag hB hP, sg_sgn hB hP]
    have hl := sg_lt (s := s) hB hP
    cases s
    · rw [if_neg (fun q => by have := hl.mp q; cases this)]
      simp
    · rw [if_pos (hl.mpr rfl)]
      simp
  · unfold nNeg kTurned
    rw [if_neg hB, if_neg (fun q => hB ((kB_iff hz).mp q))]
    exact ⟨rfl, ok_fit _ hB⟩
theorem nSize_eq {t : Int32} {v : Int64} (hz : zSort t) (h : nOk t v) : nSize t v = kSize t v ∧ nOk t (nSize t v) := by
  by_cases hB : nBroken t
  · obtain ⟨s, Z, hZ, rfl⟩ := nOk_sg hB h
    have hP := sIP hB hZ
    have hl := sg_lt (s := s) hB hP
    have e : nSize t (sgN t s Z) = sgN t false Z := by
      unfold nSize
      cases s
      · rw [if_neg (fun q => by have := hl.mp q; cases this)]
      · rw [if_pos (hl.mpr rfl), nNeg_sg hB hP]
        rfl
    rw [e]
    refine ⟨?_, sg_nOk hB hZ⟩
    unfold kSize
    rw [if_pos ((kB_iff hz).mpr hB), sg_mag hB hP]
    rfl
  · unfold nSize kSize nNeg
    rw [if_neg hB, if_neg (fun q => hB ((kB_iff hz).mp q))]
    refine ⟨rfl, ?_⟩
    by_cases hv : v < 0
    · rw [if_pos hv]; exact ok_fit _ hB
    · rw [if_neg hv]; exact h
theorem nWith_sg {t : Int32} {s r : Bool} {Z Y : Nat} (ht : t = 2 ∨ t = 3) (h : Z < sP t) (h2 : Y < sP t) : nWith t (sgN t s Z) (sgN t r Y) = sgN t r Z := by
  unfold nWith
  rw [nMag_eq, sg_mag ht h, sg_and ht h2]
  cases r
  · show lN Z ||| 0 = lN Z
    rw [Int64.or_zero]
  · exact sg_or ht h
theorem nWith_eq {t : Int32} {v w : Int64} (ht : t = 2 ∨ t = 3) (hv : nOk t v) (hw : nOk t w) : nWith t v w = kSgn t (kMag t v) (if w < 0 then 1 else 0) ∧ nOk t (nWith t v w) := by
  obtain ⟨s, Z, hZ, rfl⟩ := nOk_sg ht hv
  obtain ⟨r, Y, hY, rfl⟩ := nOk_sg ht hw
  have hP := sIP ht hZ
  have hQ := sIP ht hY
  rw [nWith_sg ht hP hQ]
  refine ⟨?_, sg_nOk ht hZ⟩
  rw [sg_mag ht hP, sg_sgn ht hP]
  have hl := sg_lt (s := r) ht hQ
  cases r
  · rw [if_neg (fun q => by have := hl.mp q; cases this)]
    simp
  · rw [if_pos (hl.mpr rfl)]
    simp
def sOne (t : Int32) : Nat := if t = 2 then 1065353216 else 4607182418800017408
theorem kOne_N {t : Int32} : kOne t = lN (sOne t) := by
  unfold kOne sOne
  by_cases h : t = 2
  · rw [if_pos h, if_pos h]; rfl
  · rw [if_neg h, if_neg h]; rfl
theorem sOne_le {t : Int32} (ht : t = 2 ∨ t = 3) : sOne t ≤ sI t := by rcases ht with rfl | rfl <;> decide
theorem zero_iff {t : Int32} {v : Int64} (hz : zSort t) : nZero t v ↔ kZero t v := by
  unfold nZero kZero
  rw [kB_iff hz, nMag_eq]
theorem nSign_eq {t : Int32} {v : Int64} (ht : t = 2 ∨ t = 3) (hz : zSort t) (hv : nOk t v) : nSign t v = kSignOf t v ∧ nOk t (nSign t v) := by
  unfold nSign kSignOf
  by_cases h : nZero t v
  · rw [if_pos h, if_pos ((zero_iff hz).mp h)]
    exact ⟨rfl, hv⟩
  · rw [if_neg h, if_neg (fun q => h ((zero_iff hz).mpr q))]
    have ho : nOk t (nOne t) := by rw [nOne_eq, kOne_N]; exact sg_nOk (s := false) ht (sOne_le ht)
    have e := nWith_eq ht ho hv
    refine ⟨?_, e.2⟩
    rw [e.1, nOne_eq, kOne_N]
    congr 1
    exact sg_mag (s := false) ht (sIP ht (sOne_le ht))
theorem num_iff {t : Int32} {v : Int64} (hz : zSort t) : nNum t v ↔ kNum t (nFit t v) := by
  unfold nNum kNum
  rw [kB_iff hz, nMag_eq, nInf_eq]
