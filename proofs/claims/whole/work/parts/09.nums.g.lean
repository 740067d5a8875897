/-! a number made one of another sort: both alike -/
theorem clampI (s : Bool) {Z : Nat} (h : Z ≤ 9218868437227405312) (L : Nat) (hL : L = 31 ∨ L = 63) (x : Int)
    (hx : x = FP.Core.toInt (-(2 ^ L : Nat)) ((2 ^ L : Nat) - 1) (FP.Core.decode FP.Core.b64 (s.toNat * 9223372036854775808 + Z))) :
    x = (if Z / 4503599627370496 < 1023 then 0 else if Z / 4503599627370496 < 1023 + L then (if s then -((twP 52 (4503599627370496 + Z % 4503599627370496) (Z / 4503599627370496 - 1023) : Nat) : Int) else ((twP 52 (4503599627370496 + Z % 4503599627370496) (Z / 4503599627370496 - 1023) : Nat) : Int)) else (if s then -((2 ^ L : Nat) : Int) else ((2 ^ L : Nat) : Int) - 1)) ∧ (¬ Z / 4503599627370496 < 1023 → Z / 4503599627370496 < 1023 + L → 1 ≤ twP 52 (4503599627370496 + Z % 4503599627370496) (Z / 4503599627370496 - 1023) ∧ twP 52 (4503599627370496 + Z % 4503599627370496) (Z / 4503599627370496 - 1023) < 2 ^ L) := by
  have hp : 0 < 2 ^ L := Nat.two_pow_pos L
  rw [toInt_N _ _ (by omega) (by omega) s h] at hx
  obtain ⟨b1, b2⟩ := twP_bd (F := 52) (M := 4503599627370496 + Z % 4503599627370496) (Z / 4503599627370496 - 1023) (by omega) (by omega)
  generalize twP 52 (4503599627370496 + Z % 4503599627370496) (Z / 4503599627370496 - 1023) = T at hx b1 b2 ⊢
  have hp1 : 1 ≤ 2 ^ (Z / 4503599627370496 - 1023) := Nat.two_pow_pos _
  by_cases c1 : Z / 4503599627370496 < 1023
  · rw [if_pos c1] at hx ⊢
    exact ⟨hx, fun q => absurd c1 q⟩
  · rw [if_neg c1] at hx ⊢
    by_cases c2 : Z / 4503599627370496 < 1023 + L
    · have hc : (2 : Nat) * 2 ^ (Z / 4503599627370496 - 1023) ≤ 2 ^ L := by
        rw [← Nat.pow_succ']
        exact Nat.pow_le_pow_right (by decide) (by omega)
      rw [if_pos c2]
      rw [if_neg (by rcases hL with rfl | rfl <;> omega)] at hx
      refine ⟨?_, fun _ _ => ⟨by omega, by omega⟩⟩
      rw [hx]
      unfold FP.Core.signed
      cases s
      · simp only [Bool.false_eq_true, if_false]; omega
      · simp only [if_true]; omega
    · have hc : (2 : Nat) ^ L ≤ 2 ^ (Z / 4503599627370496 - 1023) := Nat.pow_le_pow_right (by decide) (by omega)
      rw [if_neg c2]
      refine ⟨?_, fun _ q => absurd q c2⟩
      by_cases c3 : Z = 9218868437227405312
      · rw [if_pos c3] at hx
        exact hx
      · rw [if_neg c3] at hx
        rw [hx]
        unfold FP.Core.signed
        cases s
        · simp only [Bool.false_eq_true, if_false]; omega
        · simp only [if_true]; omega
theorem neg_toInt {T : Nat} (h1 : 1 ≤ T) (h : T < 2 ^ 63) : (-(lN T)).toInt = -(T : Int) := by
  rw [l_negN (by omega) (by omega), j_ti (by omega), if_neg (by omega)]
  omega
theorem d2i_N {d : UInt64} {s : Bool} {Z : Nat} (hd : d.toNat = s.toNat * 9223372036854775808 + Z) (h : Z ≤ 9218868437227405312) : (FP.d2i d).toInt64 = bwR s (Z / 4503599627370496) 1023 (twP 52 (4503599627370496 + Z % 4503599627370496) (Z / 4503599627370496 - 1023)) 0 := by
  obtain ⟨e, b⟩ := clampI s h 31 (Or.inl rfl) _ rfl
  have e0 : FP.d2i d = Int32.ofInt (FP.Core.toInt (-(2 ^ 31 : Nat)) ((2 ^ 31 : Nat) - 1) (FP.Core.decode FP.Core.b64 (s.toNat * 9223372036854775808 + Z))) := by
    show Int32.ofInt (FP.Core.toInt (-2 ^ 31) (2 ^ 31 - 1) (FP.Core.decode FP.Core.b64 d.toNat)) = _
    rw [hd]
    rfl
  generalize twP 52 (4503599627370496 + Z % 4503599627370496) (Z / 4503599627370496 - 1023) = T at e b ⊢
  generalize FP.Core.toInt (-(2 ^ 31 : Nat)) ((2 ^ 31 : Nat) - 1) (FP.Core.decode FP.Core.b64 (s.toNat * 9223372036854775808 + Z)) = x at e e0
  rw [e0]
  apply Int64.toInt_inj.mp
  rw [Int32.toInt_toInt64]
  unfold bwR
  rw [if_pos (show (0 : Int32) = 0 from rfl)]
  by_cases c1 : Z / 4503599627370496 < 1023
  · rw [if_pos c1] at e ⊢
    rw [e]
    decide
  · rw [if_neg c1] at e ⊢
    by_cases c2 : Z / 4503599627370496 < 1023 + 31
    · rw [if_pos c2] at e ⊢
      obtain ⟨b1, b2⟩ := b c1 c2
      rw [fb_ofI (by cases s <;> simp at e <;> omega) (by cases s <;> simp at e <;> omega), e]
      cases s
      · show (T : Int) = (lN T).toInt
        rw [pk_lT (by omega)]
      · show -(T : Int) = (-(lN T)).toInt
        rw [neg_toInt b1 (by omega)]
    · rw [if_neg c2] at e ⊢
      rw [fb_ofI (by cases s <;> simp at e <;> omega) (by cases s <;> simp at e <;> omega), e]
      cases s <;> decide
theorem d2l_N {d : UInt64} {s : Bool} {Z : Nat} (hd : d.toNat = s.toNat * 9223372036854775808 + Z) (h : Z ≤ 9218868437227405312) : FP.d2l d = bwR s (Z / 4503599627370496) 1023 (twP 52 (4503599627370496 + Z % 4503599627370496) (Z / 4503599627370496 - 1023)) 1 := by
  obtain ⟨e, b⟩ := clampI s h 63 (Or.inr rfl) _ rfl
  have e0 : FP.d2l d = Int64.ofInt (FP.Core.toInt (-(2 ^ 63 : Nat)) ((2 ^ 63 : Nat) - 1) (FP.Core.decode FP.Core.b64 (s.toNat * 9223372036854775808 + Z))) := by
    show Int64.ofInt (FP.Core.toInt (-2 ^ 63) (2 ^ 63 - 1) (FP.Core.decode FP.Core.b64 d.toNat)) = _
    rw [hd]
    rfl
  generalize twP 52 (4503599627370496 + Z % 4503599627370496) (Z / 4503599627370496 - 1023) = T at e b ⊢
  generalize FP.Core.toInt (-(2 ^ 63 : Nat)) ((2 ^ 63 : Nat) - 1) (FP.Core.decode FP.Core.b64 (s.toNat * 9223372036854775808 + Z)) = x at e e0
  rw [e0]
  apply Int64.toInt_inj.mp
  unfold bwR
  rw [if_neg (show ¬ (1 : Int32) = 0 by decide)]
  by_cases c1 : Z / 4503599627370496 < 1023
  · rw [if_pos c1] at e ⊢
    rw [e]
    decide
  · rw [if_neg c1] at e ⊢
    by_cases c2 : Z / 4503599627370496 < 1023 + 63
    · rw [if_pos c2] at e ⊢
      obtain ⟨b1, b2⟩ := b c1 c2
      rw [zofL (by cases s <;> simp at e <;> omega) (by cases s <;> simp at e <;> omega), e]
      cases s
      · show (T : Int) = (lN T).toInt
        rw [pk_lT (by omega)]
      · show -(T : Int) = (-(lN T)).toInt
        rw [neg_toInt b1 (by omega)]
    · rw [if_neg c2] at e ⊢
      rw [zofL (by cases s <;> simp at e <;> omega) (by cases s <;> simp at e <;> omega), e]
      cases s <;> decide
/-- a FLOAT made whole is its DOUBLE made whole -/
theorem bw_wide (s : Bool) {Z : Nat} (h : Z ≤ 2139095040) (t : Int32) : bwR s (wdn Z / 4503599627370496) 1023 (twP 52 (4503599627370496 + wdn Z % 4503599627370496) (wdn Z / 4503599627370496 - 1023)) t = bwR s (Z / 8388608) 127 (twP 23 (8388608 + Z % 8388608) (Z / 8388608 - 127)) t := by
  have hlim : (if t = 0 then 31 else 63) ≤ 63 := by by_cases c : t = 0 <;> simp [c]
  by_cases c1 : Z = 2139095040
  · have ew : wdn Z = 9218868437227405312 := by unfold wdn; rw [if_neg (by omega), if_pos c1]
    rw [ew]
    unfold bwR
    rw [if_neg (show ¬ 9218868437227405312 / 4503599627370496 < 1023 by decide), if_neg (show ¬ 9218868437227405312 / 4503599627370496 < 1023 + (if t = 0 then 31 else 63) by omega), if_neg (show ¬ Z / 8388608 < 127 by omega), if_neg (show ¬ Z / 8388608 < 127 + (if t = 0 then 31 else 63) by omega)]
  · by_cases c2 : Z < 8388608
    · have ew : wdn Z / 4503599627370496 < 1023 := by
        unfold wdn
        by_cases c0 : Z = 0
        · rw [if_pos c0]; decide
        · rw [if_neg c0, if_neg c1, if_pos c2]
          have hL : Z.log2 < 23 := (Nat.log2_lt c0).mpr (by omega)
          have hw := (wM_bd (F := 52) c0).2
          rw [show wM 52 Z = Z * 2 ^ (52 - Z.log2) from by unfold wM; rw [if_neg (by omega)]] at hw
          omega
      unfold bwR
      rw [if_pos ew, if_pos (by omega)]
    · have ew : wdn Z = Z * 536870912 + 4035225266123964416 := by unfold wdn; rw [if_neg (by omega), if_neg c1, if_neg c2]
      have e1 : wdn Z / 4503599627370496 = Z / 8388608 + 896 := by rw [ew]; omega
      have e2 : 4503599627370496 + wdn Z % 4503599627370496 = (8388608 + Z % 8388608) * 2 ^ 29 := by rw [ew, show (2 : Nat) ^ 29 = 536870912 from by decide]; omega
      have e3 : Z / 8388608 + 896 - 1023 = Z / 8388608 - 127 := by omega
      rw [e1, e2, e3]
      have et : twP 52 ((8388608 + Z % 8388608) * 2 ^ 29) (Z / 8388608 - 127) = twP 23 (8388608 + Z % 8388608) (Z / 8388608 - 127) := by
        generalize Z / 8388608 - 127 = w
        generalize 8388608 + Z % 8388608 = M
        unfold twP
        by_cases d1 : w ≤ 23
        · rw [if_pos d1, if_pos (by omega), show 52 - w = (23 - w) + 29 from by omega, Nat.pow_add, Nat.mul_div_mul_right _ _ (Nat.two_pow_pos 29)]
        · rw [if_neg d1]
          by_cases d2 : w ≤ 52
          · have e29 : (2 : Nat) ^ (w - 23) * 2 ^ (52 - w) = 2 ^ 29 := by rw [← Nat.pow_add, show w - 23 + (52 - w) = 29 from by omega]
            rw [if_pos d2, ← e29, ← Nat.mul_assoc, Nat.mul_div_cancel _ (Nat.two_pow_pos _)]
          · rw [if_neg d2, Nat.mul_assoc, ← Nat.pow_add, show 29 + (w - 52) = w - 23 from by omega]
      rw [et]
      unfold bwR
      by_cases d1 : Z / 8388608 < 127
      · rw [if_pos d1, if_pos (by omega)]
      · rw [if_neg d1, if_neg (by omega)]
        by_cases d2 : Z / 8388608 < 127 + (if t = 0 then 31 else 63)
        · rw [if_pos d2, if_pos (by omega)]
        · rw [if_neg d2, if_neg (by omega)]
theorem dbl_N {f : Int32} {s : Bool} {Z : Nat} (hf : f = 2 ∨ f = 3) (h : Z ≤ sI f) : ∃ D, (kDbl f (sgN f s Z)).toNat = s.toNat * 9223372036854775808 + D ∧ D ≤ 9218868437227405312 ∧ D = (if f = 2 then wdn Z else Z) := by
  have hb := b_le s
  rcases hf with rfl | rfl
  · rw [sI_2] at h
    have hw := (widen_N h).2
    refine ⟨wdn Z, ?_, hw, rfl⟩
    unfold kDbl
    rw [if_pos rfl, f2d_N (bits32 s (by omega)) h, ofN64 (by omega)]
  · rw [sI_3] at h
    refine ⟨Z, ?_, h, rfl⟩
    unfold kDbl
    rw [if_neg (by decide)]
    exact bits64 s (by omega)
theorem sort_cases {t : Int32} (h : zSort t) : t = 0 ∨ t = 1 ∨ t = 2 ∨ t = 3 := by
  obtain ⟨a, b⟩ := h
  simp only [Int32.lt_iff_toInt_lt, ← Int32.toInt_inj] at a b ⊢
  simp at a b ⊢
  omega
theorem bw_ok (s : Bool) (E C T : Nat) {t : Int32} (ht : t = 0 ∨ t = 1) (hT : ¬ E < C → E < C + (if t = 0 then 31 else 63) → 1 ≤ T ∧ T < 2 ^ (if t = 0 then 31 else 63)) : nOk t (bwR s E C T t) := by
  have nb : ¬ nBroken t := by rcases ht with rfl | rfl <;> decide
  refine ⟨fun q => ?_, fun q => absurd q nb⟩
  have t0 : t = 0 := by
    rcases ht with h | h
    · exact h
    · rw [h] at q; exact absurd q (by decide)
  subst t0
  unfold bwR
  by_cases c1 : E < C
  · rw [if_pos c1]; decide
  · rw [if_neg c1]
    by_cases c2 : E < C + (if (0 : Int32) = 0 then 31 else 63)
    · rw [if_pos c2]
      obtain ⟨b1, b2⟩ := hT c1 c2
      rw [if_pos rfl] at b2
      apply Int64.toInt_inj.mp
      rw [Int32.toInt_toInt64]
      cases s
      · show (lN T).toInt32.toInt = (lN T).toInt
        rw [lN_i, nI_toInt b2, pk_lT (by omega)]
      · show (-(lN T)).toInt32.toInt = (-(lN T)).toInt
        have e : (-(lN T)).toInt32 = -(nI T) := by rw [← lN_i]; simp
        rw [e, neg_toInt b1 (by omega), fb_negI (by rw [nI_toInt b2]; omega), nI_toInt b2]
    · rw [if_neg c2]
      cases s <;> decide
set_option maxRecDepth 100000 in
theorem made_eq {f t : Int32} {v : Int64} (hf : zSort f) (ht : zSort t) (hv : nOk f v) : nOf f v t = kMade f t v ∧ nOk t (nOf f v t) := by
  unfold nOf kMade
  by_cases c0 : f = t
  · rw [if_pos c0, if_pos c0]
    exact ⟨rfl, c0 ▸ hv⟩
  · rw [if_neg c0, if_neg c0]
    by_cases bf : nBroken f
    · rw [if_pos ((kB_iff hf).mpr bf)]
      obtain ⟨s, Z, hZ, rfl⟩ := nOk_sg bf hv
      have hP := sIP bf hZ
      have hl := sg_lt (s := s) bf hP
      obtain ⟨D, d1, d2, d3⟩ := dbl_N (s := s) bf hZ
      have hb := b_le s
      by_cases bt : nBroken t
      · rw [if_pos bt, if_pos bf]
        have key : ∀ Y, Y < sP t → nOfb f (sgN f s Z) t = lN Y → (if sgN f s Z < 0 then nOfb f (sgN f s Z) t ||| nMask t else nOfb f (sgN f s Z) t) = sgN t s Y := by
          intro Y hY e
          rw [e]
          cases s
          · rw [if_neg (fun q => by have := hl.mp q; cases this)]; rfl
          · rw [if_pos (hl.mpr rfl), sg_or bt hY]
        rcases bt with rfl | rfl
        · -- DOUBLE to FLOAT
          have f3 : f = 3 := by rcases bf with h | h; exact absurd h c0; exact h
          subst f3
          rw [if_neg (by decide)] at d3
          subst d3
          have hn := (cv32 s d2).2
          rw [key (nrw D) (by rw [sP_2]; omega) (by unfold nOfb; rw [if_neg (by decide), nMag_eq, sg_mag bf hP, narrow_N d2])]
          refine ⟨?_, sg_nOk (Or.inl rfl) (by rw [sI_2]; exact hn)⟩
          rw [if_neg (by decide), if_neg (by decide), if_pos rfl, d2f_N d1 d2, show ∀ m, (UInt32.ofNat m).toInt32 = nI m from fun m => rfl, sg32 s (by omega)]
        · -- FLOAT to DOUBLE
          have f2 : f = 2 := by rcases bf with h | h; exact h; exact absurd h c0
          subst f2
          rw [if_pos rfl] at d3
          subst d3
          rw [sI_2] at hZ
          rw [key (wdn Z) (by rw [sP_3]; omega) (by unfold nOfb; rw [if_pos rfl, nMag_eq, sg_mag (Or.inl rfl) hP, (widen_N hZ).1])]
          refine ⟨?_, sg_nOk (Or.inr rfl) (by rw [sI_3]; exact d2)⟩
          rw [if_neg (by decide), if_neg (by decide), if_neg (by decide)]
          rw [← sg64]
          have e : kDbl 2 (sgN 2 s Z) = UInt64.ofNat (s.toNat * 9223372036854775808 + wdn Z) := by
            apply UInt64.toNat_inj.mp
            rw [d1, ofN64 (by omega)]
          rw [e]
          rfl
      · rw [if_neg bt, if_pos bf]
        have tt : t = 0 ∨ t = 1 := by
          rcases sort_cases ht with h | h | h | h
          · exact Or.inl h
          · exact Or.inr h
          · exact absurd (Or.inl h) bt
          · exact absurd (Or.inr h) bt
        have eX : nB2W f (sgN f s Z) t = bwR s (D / 4503599627370496) 1023 (twP 52 (4503599627370496 + D % 4503599627370496) (D / 4503599627370496 - 1023)) t := by
          rw [b2w_N bf hZ t tt]
          rcases bf with rfl | rfl
          · rw [if_pos rfl] at d3
            subst d3
            rw [sI_2] at hZ
            exact (bw_wide s hZ t).symm
          · rw [if_neg (by decide)] at d3
            subst d3
            rfl
        rw [eX]
        refine ⟨?_, ?_⟩
        · rcases tt with rfl | rfl
          · rw [if_pos rfl]
            exact (d2i_N d1 d2).symm
          · rw [if_neg (by decide), if_pos rfl]
            exact (d2l_N d1 d2).symm
        · refine bw_ok s _ _ _ tt ?_
          rcases tt with rfl | rfl
          · exact (clampI s d2 31 (Or.inl rfl) _ rfl).2
          · exact (clampI s d2 63 (Or.inr rfl) _ rfl).2
    · rw [if_neg (fun q => bf ((kB_iff hf).mp q))]
      by_cases bt : nBroken t
      · rw [if_pos bt, if_neg bf, if_pos ((kB_iff ht).mpr bt)]
        exact w2b_eq bt v
      · rw [if_neg bt, if_neg bf, if_neg (fun q => bt ((kB_iff ht).mp q))]
        exact ⟨rfl, ok_fit v bt⟩
theorem l2d_N (v : Int64) : ∃ (s : Bool) (Y : Nat), (FP.l2d v).toNat = s.toNat * 9223372036854775808 + Y ∧ Y ≤ 9218868437227405312 := by
  obtain ⟨e, o⟩ := w2b_eq (t := 3) (Or.inr rfl) v
  rw [if_neg (by decide)] at e
  obtain ⟨s, Y, hY, e2⟩ := nOk_sg (Or.inr rfl) o
  rw [sI_3] at hY
  refine ⟨s, Y, ?_, hY⟩
  have e3 : (FP.l2d v).toInt64 = sgN 3 s Y := e.symm.trans e2
  have e4 : (FP.l2d v).toInt64.toUInt64.toNat = (sgN 3 s Y).toUInt64.toNat := by rw [e3]
  rw [bits64 s (by omega)] at e4
  exact e4
theorem l2f_N (v : Int64) : ∃ (s : Bool) (Y : Nat), (FP.l2f v).toNat = s.toNat * 2147483648 + Y ∧ Y ≤ 2139095040 := by
  obtain ⟨e, o⟩ := w2b_eq (t := 2) (Or.inl rfl) v
  rw [if_pos rfl] at e
  obtain ⟨s, Y, hY, e2⟩ := nOk_sg (Or.inl rfl) o
  rw [sI_2] at hY
  refine ⟨s, Y, ?_, hY⟩
  have e3 : (FP.l2f v).toInt32.toInt64 = sgN 2 s Y := e.symm.trans e2
  have e4 : (FP.l2f v).toInt32.toInt64.toInt32.toUInt32.toNat = (sgN 2 s Y).toInt32.toUInt32.toNat := by rw [e3]
  rw [bits32 s (by omega)] at e4
  have e5 : (FP.l2f v).toInt32.toInt64.toInt32 = (FP.l2f v).toInt32 := by simp
  rw [e5] at e4
  exact e4
theorem fine_all {f : Int32} {v : Int64} (hf : zSort f) (hv : nOk f v) (t : Int32) : kFine f t v := by
  obtain ⟨s1, Y1, g1, g2⟩ := l2f_N v
  obtain ⟨s2, Y2, k1, k2⟩ := l2d_N v
  refine ⟨fun q => ?_, fun q => ?_, fun q => ?_, cmp32 g1 g2, cmp64 k1 k2⟩
  · subst q
    obtain ⟨s, Z, hZ, rfl⟩ := nOk_sg (Or.inl rfl) hv
    rw [sI_2] at hZ
    have hb := b_le s
    have hB := bits32 s (show Z < 2147483648 by omega)
    refine ⟨?_, ?_⟩
    · unfold vn_sni2f
      have h := mask32 hB hZ
      have h2 : ¬ ((sgN 2 s Z).toInt32.toUInt32 &&& 0x7fffffff > 0x7f800000) := fun z => by
        have z : (0x7f800000 : UInt32) < (sgN 2 s Z).toInt32.toUInt32 &&& 0x7fffffff := z
        rw [UInt32.lt_iff_toNat_lt, h, show (0x7f800000 : UInt32).toNat = 2139095040 from by decide] at z
        omega
      simp [h2]
    · have e := f2d_N hB hZ
      have hw := (widen_N hZ).2
      refine vf64 (s := s) (Z := wdn Z) ?_ hw
      rw [e, ofN64 (by omega)]
  · subst q
    obtain ⟨s, Z, hZ, rfl⟩ := nOk_sg (Or.inr rfl) hv
    rw [sI_3] at hZ
    have hB := bits64 s (show Z < 9223372036854775808 by omega)
    unfold vn_snl2d
    have h := mask64 hB hZ
    have h2 : ¬ ((sgN 3 s Z).toUInt64 &&& 0x7fffffffffffffff > 0x7ff0000000000000) := fun z => by
      have z : (0x7ff0000000000000 : UInt64) < (sgN 3 s Z).toUInt64 &&& 0x7fffffffffffffff := z
      rw [UInt64.lt_iff_toNat_lt, h, show (0x7ff0000000000000 : UInt64).toNat = 9218868437227405312 from by decide] at z
      omega
    simp [h2]
  · have bf := (kB_iff hf).mp q
    obtain ⟨s, Z, hZ, rfl⟩ := nOk_sg bf hv
    obtain ⟨D, d1, d2, d3⟩ := dbl_N (s := s) bf hZ
    have hb := b_le s
    have hn := (cv32 s d2).2
    have e : (FP.d2f (kDbl f (sgN f s Z))).toNat = s.toNat * 2147483648 + nrw D := by rw [d2f_N d1 d2, ofN32 (by omega)]
    exact ⟨cmp64 d1 d2, vf32 e hn, cmp32 e hn⟩
