def zCnt (f : Nat → Int32) : Nat → Int32
  | 0 => 0
  | n + 1 => if f n = -1 then zCnt f n else zCnt f n + 1
def zCntB (f : Nat → Int32) : Nat → Int32
  | 0 => 0
  | n + 1 => if f n = 0 then zCntB f n else zCntB f n + 1
def xAbout (w : Int32) (S : XS) : Int32 := if w = 0 then zCnt (xso S) 16 else if w = 1 then zCnt (xwh S) 12 else if w = 2 then xrf S else if w = 3 then xet S else if w = 4 then xsd S else -1
def mAbout (w : Int32) (S : MS) : Int32 := if w = 0 then zCnt (mso S) 16 else if w = 1 then zCntB (mth S) 12 else if w = 2 then mrf S else if w = 3 then met S else if w = 4 then msd S else -1
def xGo (i : Nat) (S : XS) : Int32 × XS := xN (xPerf (xwh S i) (xas S i) (xbs S i) (xts S i) S)
def xLp (n : Int32) : Nat → Nat → XS → Nat × XS
  | 0, d, S => (d, S)
  | f + 1, d, S => if nI d < n then (if xwh S (11 - f) = -1 then (d, S) else if (xGo (11 - f) S).1 < 0 then (d, (xGo (11 - f) S).2) else xLp n f (d + 1) (xGo (11 - f) S).2) else (d, S)
def xEnd (p : Nat × XS) : Int32 × XS := (nI p.1, (xso p.2, xlo p.2, xhi p.2, xwh p.2, xas p.2, xbs p.2, xts p.2, xst p.2, xrf p.2, xet p.2, xsd p.2 + nI p.1))
def xCalm (S : XS) : XS := (xso S, xlo S, xhi S, xwh S, xas S, xbs S, xts S, 0, xrf S, xet S, xsd S)
def xRun (k n : Int32) (S : XS) : Int32 × XS := if zSt k ∧ ¬ n < 0 ∧ ¬ 12 < n then xEnd (xLp n (12 - k.toNatClampNeg) 0 (xCalm S)) else xN (-5, S)
def mDone (S : MS) : MS := (mso S, mlo S, mhi S, mth S, mwh S, mas S, mbs S, mts S, mst S, mrf S, met S, msd S + 1)
def mLp (n : Int32) : Nat → Nat → MS → Nat × MS
  | 0, d, S => (d, S)
  | f + 1, d, S => if nI d < n then (if mth S (11 - f) = 0 then (d, S) else if (mDoes (nI (11 - f)) S).1 < 0 then (d, (mDoes (nI (11 - f)) S).2) else mLp n f (d + 1) (mDone (mDoes (nI (11 - f)) S).2)) else (d, S)
def mRun (k n : Int32) (S : MS) : Int32 × MS := if zSt k ∧ ¬ n < 0 ∧ ¬ 12 < n then (nI (mLp n (12 - k.toNatClampNeg) 0 (mSays S)).1, (mLp n (12 - k.toNatClampNeg) 0 (mSays S)).2) else (-5, mRef (-5) S)
/-- what 'does' asks before an 'as' -/
def mAsk (k : Int32) (S : MS) : Prop := ¬ ixI (mwh S) k = 0 → ¬ ixI (mwh S) k = 1 → ¬ ixI (mwh S) k = 2 → ¬ ixI (mwh S) k = 3 → ¬ ixI (mwh S) k = 4 → ¬ ixI (mwh S) k = 5 → ¬ ixI (mwh S) k = 6 → zSl (ixI (mas S) k) → ¬ mWhy (ixI (mas S) k) (ixI (mas S) k) (ixI (mts S) k) S < 0 → zSort (ixI (mso S) (ixI (mas S) k)) ∧ kFine (ixI (mso S) (ixI (mas S) k)) (ixI (mbs S) k) (ixL (mlo S) (ixI (mas S) k)) ∧ kFine (ixI (mso S) (ixI (mas S) k)) (ixI (mbs S) k) (ixL (mhi S) (ixI (mas S) k))
theorem zinc (i : Nat) : nI i + Int32.ofInt 1 = nI (i + 1) := by rw [show Int32.ofInt 1 = 1 from by decide]; exact nI_1 i
theorem zinc' (i : Nat) : nI i + 1 = nI (i + 1) := nI_1 i
theorem zst_nI {i : Nat} (h : i < 12) : zSt (nI i) := ⟨nI_pos (by omega), nI_lt (b := 12) h (by decide)⟩
theorem zsl_nI {i : Nat} (h : i < 16) : zSl (nI i) := ⟨nI_pos (by omega), nI_lt (b := 16) h (by decide)⟩
theorem zst_ex {k : Int32} (h : zSt k) : ∃ j : Nat, j < 12 ∧ k = nI j := vp_in_of (zIn12 h) (by decide)
theorem ixI_nI {f : Nat → Int32} {i : Nat} (h : i < 2 ^ 31) : ixI f (nI i) = f i := by show f (nI i).toNatClampNeg = f i; rw [nI_clamp h]
theorem qX1_present : yX1_present.cls ≠ "java/lang/invoke/MethodHandle" ∧ yX1_present.cls ≠ "java/lang/invoke/VarHandle" ∧ (parseMethodDescriptor yX1_present.desc).map (fun d => d.parameters.length) = some 1 := by decide +kernel
set_option maxHeartbeats 4000000 in
set_option maxRecDepth 100000 in
theorem c_X1_present (l : Launch) (D : va_G) (ad : Nat → Nat) (cy : Nat → ClassId) (A : Nat → Prop) (S : XS) (a q0 t0 N : Nat) (cA : ClassId) (f : Nat → Int32) (hN : N < 2 ^ 31) (ha : (xW ad cy S)[q0]? = some (a, .inl (cA, N, .inl f))) (ht : (xT cy)[t0]? = some (cA, .int)) : OM l D (xT cy) A yX1_present wsX1_present 0 0 [.ref a] (xW ad cy S) (xW ad cy S) (some (.int (zCnt f N))) := by
  refine OM.of (cc := cX1_present) (maxL := 3) (ret := some .int) (own := RX1) (by decide) rfl rfl (Nat.le_of_ble_eq_true rfl) ?_
  intro p e s m below meth c ls S0 hr hlk hl hw
  have hx := S0.1
  have hb := S0.2.1
  have hl : lv_has ls 3 [(0, .ref a)] := hl
  have K : ∀ (n i : Nat), i + n = N → ∀ (ls : Array Slot), lv_has ls 3 [(2, .int (nI i)), (1, .int (zCnt f i)), (0, .ref a)] → W p l e { frames := 0, cells := 0, slots := 0, locals := 0 } s m [Value.ref a].toArray below meth c s.heap [] 0 0 (MQ below (OMq D A (xW ad cy S) (some (.int (zCnt f N)))) [Value.ref a].toArray s 0 0 A) (F0 m 4 ls []) := by
    intro n
    induction n with
    | zero =>
      intro i hi ls hl
      have hi : i = N := hi
      subst hi
      refine lv_iload_n hx hb dX1_present_4 rfl (lv_at hl 0 rfl) ?_
      refine lv_aload_n hx hb dX1_present_5 rfl (lv_at hl 2 rfl) ?_
      refine va_alen hx hb hw.2.2.1 hw.1 q0 t0 ha ht (v := nI i) rfl dX1_present_6 ?_
      refine zc_ge (tgt := 26) hx hb dX1_present_7 (by decide) (fun _ => ?_) (fun q => absurd q (nI_nlt (Nat.le_refl i) hN))
      refine lv_iload_n hx hb dX1_present_26 rfl (lv_at hl 1 rfl) ?_
      exact io_iret S0 hr hlk hw dX1_present_27 rfl rfl
    | succ n ih =>
      intro i hi ls hl
      have hlt : i < N := by omega
      refine lv_iload_n hx hb dX1_present_4 rfl (lv_at hl 0 rfl) ?_
      refine lv_aload_n hx hb dX1_present_5 rfl (lv_at hl 2 rfl) ?_
      refine va_alen hx hb hw.2.2.1 hw.1 q0 t0 ha ht (v := nI N) rfl dX1_present_6 ?_
      refine zc_ge (tgt := 26) hx hb dX1_present_7 (by decide) (fun q => absurd (nI_lt hlt hN) q) (fun _ => ?_)
      refine lv_aload_n hx hb dX1_present_10 rfl (lv_at hl 2 rfl) ?_
      refine lv_iload_n hx hb dX1_present_11 rfl (lv_at hl 0 rfl) ?_
      refine va_iald hx hb hw.2.2.1 hw.1 q0 t0 ha ht (vp_in_nI hlt hN) dX1_present_12 ?_
      rw [nI_clamp (show i < 2 ^ 31 by omega)]
      refine lv_iconst (v := -1) hx hb dX1_present_13 (by decide) ?_
      refine zc_eq (tgt := 20) hx hb dX1_present_14 (by decide) (fun c_1 => ?_) (fun c_1 => ?_)
      · refine lv_iinc (v := nI (i + 1)) (lv' := [(2, .int (nI (i + 1))), (1, .int (zCnt f i)), (0, .ref a)]) hx hb dX1_present_20 hl (k := 0) rfl (zinc i) (by decide) rfl (fun ls hl => ?_)
        refine lv_goto (tgt := 4) hx hb dX1_present_23 (by decide) ?_
        exact ih (i + 1) (by omega) ls (by rw [show zCnt f (i + 1) = zCnt f i from by simp [zCnt, c_1]]; exact hl)
      · refine lv_iinc (v := zCnt f i + 1) (lv' := [(1, .int (zCnt f i + 1)), (2, .int (nI i)), (0, .ref a)]) hx hb dX1_present_17 hl (k := 1) rfl (by rw [show Int32.ofInt 1 = 1 from by decide]) (by decide) rfl (fun ls hl => ?_)
        refine lv_iinc (v := nI (i + 1)) (lv' := [(2, .int (nI (i + 1))), (1, .int (zCnt f i + 1)), (0, .ref a)]) hx hb dX1_present_20 hl (k := 1) rfl (zinc i) (by decide) rfl (fun ls hl => ?_)
        refine lv_goto (tgt := 4) hx hb dX1_present_23 (by decide) ?_
        exact ih (i + 1) (by omega) ls (by rw [show zCnt f (i + 1) = zCnt f i + 1 from by simp [zCnt, c_1]]; exact hl)
  refine lv_iconst (v := 0) hx hb dX1_present_0 (by decide) ?_
  refine lv_istore_n (lv' := [(1, .int 0), (0, .ref a)]) hx hb dX1_present_1 rfl hl (by decide) rfl (fun ls hl => ?_)
  refine lv_iconst (v := 0) hx hb dX1_present_2 (by decide) ?_
  refine lv_istore_n (lv' := [(2, .int 0), (1, .int 0), (0, .ref a)]) hx hb dX1_present_3 rfl hl (by decide) rfl (fun ls hl => ?_)
  exact K N 0 (by omega) ls hl
theorem qX1_about : yX1_about.cls = RX1 ∧ yX1_about.cls ≠ "java/lang/invoke/MethodHandle" ∧ yX1_about.cls ≠ "java/lang/invoke/VarHandle" ∧ (parseMethodDescriptor yX1_about.desc).map (fun d => d.parameters.length) = some 1 := by decide +kernel
set_option maxHeartbeats 4000000 in
set_option maxRecDepth 100000 in
theorem c_X1_about (l : Launch) (D : va_G) (ad : Nat → Nat) (cy : Nat → ClassId) (A : Nat → Prop) (S : XS) (w : Int32) : OM l D (xT cy) A yX1_about wsX1_about 1 22 [.ref (ad 0), .int w] (xW ad cy S) (xW ad cy S) (some (.int (xAbout w S))) := by
  refine OM.of (cc := cX1_about) (maxL := 2) (ret := some .int) (own := RX1) (by decide) rfl rfl (Nat.le_of_ble_eq_true rfl) ?_
  intro p e s m below meth c ls S0 hr hlk hl hw
  have hx := S0.1
  have hb := S0.2.1
  have hl : lv_has ls 2 [(0, .ref (ad 0)), (1, .int w)] := hl
  have hin : ∀ w ∈ wsX10, w ∈ wsX1_about := fun w h => List.mem_cons_of_mem _ (List.mem_append_right _ h)
  refine lv_iload_n hx hb dX1_about_0 rfl (lv_at hl 1 rfl) ?_
  by_cases c_1 : w = 0
  · refine lv_tableIn (x := w) (off := 35) (tgt := 36) hx hb dX1_about_1 (by rw [c_1]; decide) (by rw [c_1]; decide) (by rw [c_1]; decide) (by decide) ?_
    refine lv_aload_n hx hb dX1_about_36 rfl (lv_at hl 0 rfl) ?_
    refine gd_get S0 hin hw rfl rfl 0 (by decide) (S0.2.2.2.2 (.fieldLink RX1 9 "StretchDesk" "sorts" "[I") (by decide +kernel)) rfl (v := .ref (ad 1)) rfl dX1_about_37 ?_
    refine io_callS (rest := []) (w1 := xW ad cy S) S0 (c_X1_present l D ad cy A S (ad 1) 1 0 16 (cy 1) (xso S) (by decide) rfl rfl) gX1_about_X1_present hw rfl qX1_present ⟨Nat.le_of_ble_eq_true rfl, Nat.le_of_ble_eq_true rfl⟩ ⟨Nat.le_of_ble_eq_true rfl, Nat.le_of_ble_eq_true rfl⟩ hl.1 rfl (Nat.le_of_ble_eq_true rfl) dX1_about_40 (fun H locs hw => ?_)
    exact io_iret S0 hr hlk hw dX1_about_43 (congrArg (fun z => some (Value.int z)) (show xAbout w S = zCnt (xso S) 16 from (by first | (simp [xAbout, if_pos c_1]; done) | (simp [xAbout, eq_true c_1]; done) | (simp [xAbout, xso, xlo, xhi, xwh, xas, xbs, xts, xst, xrf, xet, xsd, eq_true c_1]; done) | (simp [xAbout, xso, xlo, xhi, xwh, xas, xbs, xts, xst, xrf, xet, xsd, c_1]; done) | contradiction | rfl))) (congrArg (xW ad cy) (show S = S from (by first | (simp [xAbout, if_pos c_1]; done) | (simp [xAbout, eq_true c_1]; done) | (simp [xAbout, xso, xlo, xhi, xwh, xas, xbs, xts, xst, xrf, xet, xsd, eq_true c_1]; done) | (simp [xAbout, xso, xlo, xhi, xwh, xas, xbs, xts, xst, xrf, xet, xsd, c_1]; done) | contradiction | rfl)))
  by_cases c_2 : w = 1
  · refine lv_tableIn (x := w) (off := 43) (tgt := 44) hx hb dX1_about_1 (by rw [c_2]; decide) (by rw [c_2]; decide) (by rw [c_2]; decide) (by decide) ?_
    refine lv_aload_n hx hb dX1_about_44 rfl (lv_at hl 0 rfl) ?_
    refine gd_get S0 hin hw rfl rfl 3 (by decide) (S0.2.2.2.2 (.fieldLink RX1 20 "StretchDesk" "stepWhats" "[I") (by decide +kernel)) rfl (v := .ref (ad 4)) rfl dX1_about_45 ?_
    refine io_callS (rest := []) (w1 := xW ad cy S) S0 (c_X1_present l D ad cy A S (ad 4) 4 3 12 (cy 4) (xwh S) (by decide) rfl rfl) gX1_about_X1_present hw rfl qX1_present ⟨Nat.le_of_ble_eq_true rfl, Nat.le_of_ble_eq_true rfl⟩ ⟨Nat.le_of_ble_eq_true rfl, Nat.le_of_ble_eq_true rfl⟩ hl.1 rfl (Nat.le_of_ble_eq_true rfl) dX1_about_48 (fun H locs hw => ?_)
    exact io_iret S0 hr hlk hw dX1_about_51 (congrArg (fun z => some (Value.int z)) (show xAbout w S = zCnt (xwh S) 12 from (by first | (simp [xAbout, eq_false c_1, if_pos c_2]; done) | (simp [xAbout, eq_false c_1, eq_true c_2]; done) | (simp [xAbout, xso, xlo, xhi, xwh, xas, xbs, xts, xst, xrf, xet, xsd, eq_false c_1, eq_true c_2]; done) | (simp [xAbout, xso, xlo, xhi, xwh, xas, xbs, xts, xst, xrf, xet, xsd, c_1, c_2]; done) | contradiction | rfl))) (congrArg (xW ad cy) (show S = S from (by first | (simp [xAbout, eq_false c_1, if_pos c_2]; done) | (simp [xAbout, eq_false c_1, eq_true c_2]; done) | (simp [xAbout, xso, xlo, xhi, xwh, xas, xbs, xts, xst, xrf, xet, xsd, eq_false c_1, eq_true c_2]; done) | (simp [xAbout, xso, xlo, xhi, xwh, xas, xbs, xts, xst, xrf, xet, xsd, c_1, c_2]; done) | contradiction | rfl)))
  by_cases c_3 : w = 2
  · refine lv_tableIn (x := w) (off := 51) (tgt := 52) hx hb dX1_about_1 (by rw [c_3]; decide) (by rw [c_3]; decide) (by rw [c_3]; decide) (by decide) ?_
    refine lv_aload_n hx hb dX1_about_52 rfl (lv_at hl 0 rfl) ?_
    refine gd_get S0 hin hw rfl rfl 8 (by decide) (S0.2.2.2.2 (.fieldLink RX1 93 "StretchDesk" "refusals" "I") (by decide +kernel)) rfl (v := .int (xrf S)) rfl dX1_about_53 ?_
    exact io_iret S0 hr hlk hw dX1_about_56 (congrArg (fun z => some (Value.int z)) (show xAbout w S = xrf S from (by first | (simp [xAbout, eq_false c_1, eq_false c_2, if_pos c_3]; done) | (simp [xAbout, eq_false c_1, eq_false c_2, eq_true c_3]; done) | (simp [xAbout, xso, xlo, xhi, xwh, xas, xbs, xts, xst, xrf, xet, xsd, eq_false c_1, eq_false c_2, eq_true c_3]; done) | (simp [xAbout, xso, xlo, xhi, xwh, xas, xbs, xts, xst, xrf, xet, xsd, c_1, c_2, c_3]; done) | contradiction | rfl))) (congrArg (xW ad cy) (show S = S from (by first | (simp [xAbout, eq_false c_1, eq_false c_2, if_pos c_3]; done) | (simp [xAbout, eq_false c_1, eq_false c_2, eq_true c_3]; done) | (simp [xAbout, xso, xlo, xhi, xwh, xas, xbs, xts, xst, xrf, xet, xsd, eq_false c_1, eq_false c_2, eq_true c_3]; done) | (simp [xAbout, xso, xlo, xhi, xwh, xas, xbs, xts, xst, xrf, xet, xsd, c_1, c_2, c_3]; done) | contradiction | rfl)))
  by_cases c_4 : w = 3
  · refine lv_tableIn (x := w) (off := 56) (tgt := 57) hx hb dX1_about_1 (by rw [c_4]; decide) (by rw [c_4]; decide) (by rw [c_4]; decide) (by decide) ?_
    refine lv_aload_n hx hb dX1_about_57 rfl (lv_at hl 0 rfl) ?_
    refine gd_get S0 hin hw rfl rfl 9 (by decide) (S0.2.2.2.2 (.fieldLink RX1 47 "StretchDesk" "endsTold" "I") (by decide +kernel)) rfl (v := .int (xet S)) rfl dX1_about_58 ?_
    exact io_iret S0 hr hlk hw dX1_about_61 (congrArg (fun z => some (Value.int z)) (show xAbout w S = xet S from (by first | (simp [xAbout, eq_false c_1, eq_false c_2, eq_false c_3, if_pos c_4]; done) | (simp [xAbout, eq_false c_1, eq_false c_2, eq_false c_3, eq_true c_4]; done) | (simp [xAbout, xso, xlo, xhi, xwh, xas, xbs, xts, xst, xrf, xet, xsd, eq_false c_1, eq_false c_2, eq_false c_3, eq_true c_4]; done) | (simp [xAbout, xso, xlo, xhi, xwh, xas, xbs, xts, xst, xrf, xet, xsd, c_1, c_2, c_3, c_4]; done) | contradiction | rfl))) (congrArg (xW ad cy) (show S = S from (by first | (simp [xAbout, eq_false c_1, eq_false c_2, eq_false c_3, if_pos c_4]; done) | (simp [xAbout, eq_false c_1, eq_false c_2, eq_false c_3, eq_true c_4]; done) | (simp [xAbout, xso, xlo, xhi, xwh, xas, xbs, xts, xst, xrf, xet, xsd, eq_false c_1, eq_false c_2, eq_false c_3, eq_true c_4]; done) | (simp [xAbout, xso, xlo, xhi, xwh, xas, xbs, xts, xst, xrf, xet, xsd, c_1, c_2, c_3, c_4]; done) | contradiction | rfl)))
  by_cases c_5 : w = 4
  · refine lv_tableIn (x := w) (off := 61) (tgt := 62) hx hb dX1_about_1 (by rw [c_5]; decide) (by rw [c_5]; decide) (by rw [c_5]; decide) (by decide) ?_
    refine lv_aload_n hx hb dX1_about_62 rfl (lv_at hl 0 rfl) ?_
    refine gd_get S0 hin hw rfl rfl 10 (by decide) (S0.2.2.2.2 (.fieldLink RX1 86 "StretchDesk" "stepsDone" "I") (by decide +kernel)) rfl (v := .int (xsd S)) rfl dX1_about_63 ?_
    exact io_iret S0 hr hlk hw dX1_about_66 (congrArg (fun z => some (Value.int z)) (show xAbout w S = xsd S from (by first | (simp [xAbout, eq_false c_1, eq_false c_2, eq_false c_3, eq_false c_4, if_pos c_5]; done) | (simp [xAbout, eq_false c_1, eq_false c_2, eq_false c_3, eq_false c_4, eq_true c_5]; done) | (simp [xAbout, xso, xlo, xhi, xwh, xas, xbs, xts, xst, xrf, xet, xsd, eq_false c_1, eq_false c_2, eq_false c_3, eq_false c_4, eq_true c_5]; done) | (simp [xAbout, xso, xlo, xhi, xwh, xas, xbs, xts, xst, xrf, xet, xsd, c_1, c_2, c_3, c_4, c_5]; done) | contradiction | rfl))) (congrArg (xW ad cy) (show S = S from (by first | (simp [xAbout, eq_false c_1, eq_false c_2, eq_false c_3, eq_false c_4, if_pos c_5]; done) | (simp [xAbout, eq_false c_1, eq_false c_2, eq_false c_3, eq_false c_4, eq_true c_5]; done) | (simp [xAbout, xso, xlo, xhi, xwh, xas, xbs, xts, xst, xrf, xet, xsd, eq_false c_1, eq_false c_2, eq_false c_3, eq_false c_4, eq_true c_5]; done) | (simp [xAbout, xso, xlo, xhi, xwh, xas, xbs, xts, xst, xrf, xet, xsd, c_1, c_2, c_3, c_4, c_5]; done) | contradiction | rfl)))
  refine lv_tableOut (x := w) (tgt := 67) hx hb dX1_about_1 (zout5 c_1 c_2 c_3 c_4 c_5) (by decide) ?_
  refine lv_iconst (v := -1) hx hb dX1_about_67 (by decide) ?_
  exact io_iret S0 hr hlk hw dX1_about_68 (congrArg (fun z => some (Value.int z)) (show xAbout w S = -1 from (by first | (simp [xAbout, eq_false c_1, eq_false c_2, eq_false c_3, eq_false c_4, eq_false c_5]; done) | (simp [xAbout, xso, xlo, xhi, xwh, xas, xbs, xts, xst, xrf, xet, xsd, eq_false c_1, eq_false c_2, eq_false c_3, eq_false c_4, eq_false c_5]; done) | (simp [xAbout, xso, xlo, xhi, xwh, xas, xbs, xts, xst, xrf, xet, xsd, c_1, c_2, c_3, c_4, c_5]; done) | contradiction | rfl))) (congrArg (xW ad cy) (show S = S from (by first | (simp [xAbout, eq_false c_1, eq_false c_2, eq_false c_3, eq_false c_4, eq_false c_5]; done) | (simp [xAbout, xso, xlo, xhi, xwh, xas, xbs, xts, xst, xrf, xet, xsd, eq_false c_1, eq_false c_2, eq_false c_3, eq_false c_4, eq_false c_5]; done) | (simp [xAbout, xso, xlo, xhi, xwh, xas, xbs, xts, xst, xrf, xet, xsd, c_1, c_2, c_3, c_4, c_5]; done) | contradiction | rfl)))
theorem qX1_run : yX1_run.cls = RX1 ∧ yX1_run.cls ≠ "java/lang/invoke/MethodHandle" ∧ yX1_run.cls ≠ "java/lang/invoke/VarHandle" ∧ (parseMethodDescriptor yX1_run.desc).map (fun d => d.parameters.length) = some 2 := by decide +kernel
set_option maxHeartbeats 4000000 in
set_option maxRecDepth 100000 in
theorem c_X1_run (l : Launch) (D : va_G) (ad : Nat → Nat) (cy : Nat → ClassId) (A : Nat → Prop) (S : XS) (k n : Int32) : OM l D (xT cy) A yX1_run wsX1_run 6 154 [.ref (ad 0), .int k, .int n] (xW ad cy S) (xW ad cy (xRun k n S).2) (some (.int (xRun k n S).1)) := by
  refine OM.of (cc := cX1_run) (maxL := 5) (ret := some .int) (own := RX1) (by decide) rfl rfl (Nat.le_of_ble_eq_true rfl) ?_
  intro p e s m below meth c ls S0 hr hlk hl hw
  have hx := S0.1
  have hb := S0.2.1
  have hl : lv_has ls 5 [(0, .ref (ad 0)), (1, .int k), (2, .int n)] := hl
  have hin : ∀ w ∈ wsX10, w ∈ wsX1_run := fun w h => List.mem_cons_of_mem _ (List.mem_append_right _ h)
  have E : ∀ (d : Nat) (S1 : XS) (ls : Array Slot) (H : Heap) (locs : List Loc), lv_has ls 5 [(0, .ref (ad 0)), (3, .int (nI d))] → Gd D (xT cy) A s (xW ad cy S1) H locs → xEnd (d, S1) = xRun k n S → W p l e { frames := 6, cells := 0, slots := 0, locals := 154 } s m [Value.ref (ad 0), Value.int k, Value.int n].toArray below meth c H locs 0 0 (MQ below (OMq D A (xW ad cy (xRun k n S).2) (some (.int ((xRun k n S).1)))) [Value.ref (ad 0), Value.int k, Value.int n].toArray s 0 0 A) (F0 m 111 ls []) := by
    intro d S1 ls H locs hl hw he
    refine lv_aload_n hx hb dX1_run_111 rfl (lv_at hl 0 rfl) ?_
    refine lv_dup hx hb dX1_run_112 rfl ?_
    refine gd_get S0 hin hw rfl rfl 10 (by decide) (S0.2.2.2.2 (.fieldLink RX1 86 "StretchDesk" "stepsDone" "I") (by decide +kernel)) rfl (v := .int (xsd S1)) rfl dX1_run_113 ?_
    refine lv_iload_n hx hb dX1_run_116 rfl (lv_at hl 1 rfl) ?_
    refine lv_iadd hx hb dX1_run_117 ?_
    refine gd_put (w1 := (xW ad cy (xso S1, xlo S1, xhi S1, xwh S1, xas S1, xbs S1, xts S1, xst S1, xrf S1, xet S1, (xsd S1) + (nI d)))) S0 hin tyX1 tyX1_ok nmX1 hw rfl rfl 10 (by decide) (S0.2.2.2.2 (.fieldLink RX1 86 "StretchDesk" "stepsDone" "I") (by decide +kernel)) rfl rfl (by decide +kernel) (Nat.le_of_ble_eq_true rfl) rfl dX1_run_118 (fun H locs hw => ?_)
    refine lv_iload_n hx hb dX1_run_121 rfl (lv_at hl 1 rfl) ?_
    exact io_iret S0 hr hlk hw dX1_run_122 (by rw [← he]; rfl) (by rw [← he]; rfl)
  have K : ∀ (f d : Nat) (S1 : XS) (ls : Array Slot) (H : Heap) (locs : List Loc), f ≤ 12 → d + f ≤ 12 → lv_has ls 5 [(4, .int (nI (12 - f))), (3, .int (nI d)), (0, .ref (ad 0)), (1, .int k), (2, .int n)] → Gd D (xT cy) A s (xW ad cy S1) H locs → xEnd (xLp n f d S1) = xRun k n S → W p l e { frames := 6, cells := 0, slots := 0, locals := 154 } s m [Value.ref (ad 0), Value.int k, Value.int n].toArray below meth c H locs 0 0 (MQ below (OMq D A (xW ad cy (xRun k n S).2) (some (.int ((xRun k n S).1)))) [Value.ref (ad 0), Value.int k, Value.int n].toArray s 0 0 A) (F0 m 34 ls []) := by
    intro f
    induction f with
    | zero =>
      intro d S1 ls H locs _ _ hl hw he
      refine lv_iload hx hb dX1_run_34 (lv_at hl 0 rfl) ?_
      refine lv_bipush (v := 12) hx hb dX1_run_36 (by decide) ?_
      refine zc_ge (tgt := 111) hx hb dX1_run_38 (by decide) (fun _ => ?_) (fun q => absurd q (by decide))
      exact E d S1 ls H locs (lv_sub hl [2, 1] rfl) hw he
    | succ f ih =>
      intro d S1 ls H locs hf hd hl hw he
      have hi : 11 - f < 12 := by omega
      have hl : lv_has ls 5 [(4, .int (nI (11 - f))), (3, .int (nI d)), (0, .ref (ad 0)), (1, .int k), (2, .int n)] := by rw [show 11 - f = 12 - (f + 1) from by omega]; exact hl
      have hst : zSt (nI (11 - f)) := zst_nI hi
      have c_lt : nI (11 - f) < 12 := hst.2
      have e1 : ixI (xwh S1) (nI (11 - f)) = xwh S1 (11 - f) := ixI_nI (by omega)
      have e2 : ixI (xas S1) (nI (11 - f)) = xas S1 (11 - f) := ixI_nI (by omega)
      have e3 : ixI (xbs S1) (nI (11 - f)) = xbs S1 (11 - f) := ixI_nI (by omega)
      have e4 : ixI (xts S1) (nI (11 - f)) = xts S1 (11 - f) := ixI_nI (by omega)
      refine lv_iload hx hb dX1_run_34 (lv_at hl 0 rfl) ?_
      refine lv_bipush (v := 12) hx hb dX1_run_36 (by decide) ?_
      refine zc_ge (tgt := 111) hx hb dX1_run_38 (by decide) (fun q => absurd c_lt q) (fun _ => ?_)
      refine lv_iload_n hx hb dX1_run_41 rfl (lv_at hl 1 rfl) ?_
      refine lv_iload_n hx hb dX1_run_42 rfl (lv_at hl 4 rfl) ?_
      refine zc_ge (tgt := 111) hx hb dX1_run_43 (by decide) (fun c_101 => ?_) (fun c_101 => ?_)
      · exact E d S1 ls _ _ (lv_sub hl [2, 1] rfl) hw (by rw [← he]; simp [xLp, eq_false c_101])
      · refine lv_aload_n hx hb dX1_run_46 rfl (lv_at hl 2 rfl) ?_
        refine gd_get S0 hin hw rfl rfl 3 (by decide) (S0.2.2.2.2 (.fieldLink RX1 20 "StretchDesk" "stepWhats" "[I") (by decide +kernel)) rfl (v := .ref (ad 4)) rfl dX1_run_47 ?_
        refine lv_iload hx hb dX1_run_50 (lv_at hl 0 rfl) ?_
        refine va_iald hx hb hw.2.2.1 hw.1 4 3 rfl rfl (zIn12 (by assumption)) dX1_run_52 ?_
        refine lv_iconst (v := -1) hx hb dX1_run_53 (by decide) ?_
        refine zc_ne (tgt := 60) hx hb dX1_run_54 (by decide) (fun c_102 => ?_) (fun c_102 => ?_)
        · refine lv_aload_n hx hb dX1_run_60 rfl (lv_at hl 2 rfl) ?_
          refine lv_aload_n hx hb dX1_run_61 rfl (lv_at hl 2 rfl) ?_
          refine lv_aload_n hx hb dX1_run_62 rfl (lv_at hl 2 rfl) ?_
          refine gd_get S0 hin hw rfl rfl 3 (by decide) (S0.2.2.2.2 (.fieldLink RX1 20 "StretchDesk" "stepWhats" "[I") (by decide +kernel)) rfl (v := .ref (ad 4)) rfl dX1_run_63 ?_
          refine lv_iload hx hb dX1_run_66 (lv_at hl 0 rfl) ?_
          refine va_iald hx hb hw.2.2.1 hw.1 4 3 rfl rfl (zIn12 (by assumption)) dX1_run_68 ?_
          refine lv_aload_n hx hb dX1_run_69 rfl (lv_at hl 2 rfl) ?_
          refine gd_get S0 hin hw rfl rfl 4 (by decide) (S0.2.2.2.2 (.fieldLink RX1 23 "StretchDesk" "stepAs" "[I") (by decide +kernel)) rfl (v := .ref (ad 5)) rfl dX1_run_70 ?_
          refine lv_iload hx hb dX1_run_73 (lv_at hl 0 rfl) ?_
          refine va_iald hx hb hw.2.2.1 hw.1 5 4 rfl rfl (zIn12 (by assumption)) dX1_run_75 ?_
          refine lv_aload_n hx hb dX1_run_76 rfl (lv_at hl 2 rfl) ?_
          refine gd_get S0 hin hw rfl rfl 5 (by decide) (S0.2.2.2.2 (.fieldLink RX1 26 "StretchDesk" "stepBs" "[I") (by decide +kernel)) rfl (v := .ref (ad 6)) rfl dX1_run_77 ?_
          refine lv_iload hx hb dX1_run_80 (lv_at hl 0 rfl) ?_
          refine va_iald hx hb hw.2.2.1 hw.1 6 5 rfl rfl (zIn12 (by assumption)) dX1_run_82 ?_
          refine lv_aload_n hx hb dX1_run_83 rfl (lv_at hl 2 rfl) ?_
          refine gd_get S0 hin hw rfl rfl 6 (by decide) (S0.2.2.2.2 (.fieldLink RX1 29 "StretchDesk" "stepTos" "[I") (by decide +kernel)) rfl (v := .ref (ad 7)) rfl dX1_run_84 ?_
          refine lv_iload hx hb dX1_run_87 (lv_at hl 0 rfl) ?_
          refine va_iald hx hb hw.2.2.1 hw.1 7 6 rfl rfl (zIn12 (by assumption)) dX1_run_89 ?_
          refine io_call (rest := [.ref (ad 0)]) (w1 := (xW ad cy ((xPerf (ixI (xwh S1) (nI (11 - f))) (ixI (xas S1) (nI (11 - f))) (ixI (xbs S1) (nI (11 - f))) (ixI (xts S1) (nI (11 - f))) S1).2))) S0 (c_X1_performed l D ad cy A S1 (ixI (xwh S1) (nI (11 - f))) (ixI (xas S1) (nI (11 - f))) (ixI (xbs S1) (nI (11 - f))) (ixI (xts S1) (nI (11 - f)))) gX1_run_X1_performed hw rfl qX1_performed ⟨Nat.le_of_ble_eq_true rfl, Nat.le_of_ble_eq_true rfl⟩ ⟨Nat.le_of_ble_eq_true rfl, Nat.le_of_ble_eq_true rfl⟩ rfl rfl rfl hl.1 rfl (Nat.le_of_ble_eq_true rfl) dX1_run_90 (fun H locs hw => ?_)
          refine io_call (rest := []) (w1 := (xW ad cy (xNoted ((xPerf (ixI (xwh S1) (nI (11 - f))) (ixI (xas S1) (nI (11 - f))) (ixI (xbs S1) (nI (11 - f))) (ixI (xts S1) (nI (11 - f))) S1).1) ((xPerf (ixI (xwh S1) (nI (11 - f))) (ixI (xas S1) (nI (11 - f))) (ixI (xbs S1) (nI (11 - f))) (ixI (xts S1) (nI (11 - f))) S1).2)))) S0 (c_X1_noted l D ad cy A ((xPerf (ixI (xwh S1) (nI (11 - f))) (ixI (xas S1) (nI (11 - f))) (ixI (xbs S1) (nI (11 - f))) (ixI (xts S1) (nI (11 - f))) S1).2) ((xPerf (ixI (xwh S1) (nI (11 - f))) (ixI (xas S1) (nI (11 - f))) (ixI (xbs S1) (nI (11 - f))) (ixI (xts S1) (nI (11 - f))) S1).1)) gX1_run_X1_noted hw rfl qX1_noted ⟨Nat.le_of_ble_eq_true rfl, Nat.le_of_ble_eq_true rfl⟩ ⟨Nat.le_of_ble_eq_true rfl, Nat.le_of_ble_eq_true rfl⟩ rfl rfl rfl hl.1 rfl (Nat.le_of_ble_eq_true rfl) dX1_run_93 (fun H locs hw => ?_)
          refine zi_ge (tgt := 102) hx hb dX1_run_96 (by decide) (fun c_103 => ?_) (fun c_103 => ?_)
          · refine lv_iinc (v := (nI d) + 1) (lv' := [(3, .int ((nI d) + 1)), (4, .int (nI (11 - f))), (0, .ref (ad 0)), (1, .int k), (2, .int n)]) hx hb dX1_run_102 hl (k := 1) rfl rfl (by decide) rfl (fun ls hl => ?_)
            refine lv_iinc (v := (nI (11 - f)) + 1) (lv' := [(4, .int ((nI (11 - f)) + 1)), (3, .int ((nI d) + 1)), (0, .ref (ad 0)), (1, .int k), (2, .int n)]) hx hb dX1_run_105 hl (k := 1) rfl rfl (by decide) rfl (fun ls hl => ?_)
            refine lv_goto (tgt := 34) hx hb dX1_run_108 (by decide) ?_
            refine ih (d + 1) (xNoted ((xPerf (ixI (xwh S1) (nI (11 - f))) (ixI (xas S1) (nI (11 - f))) (ixI (xbs S1) (nI (11 - f))) (ixI (xts S1) (nI (11 - f))) S1).1) ((xPerf (ixI (xwh S1) (nI (11 - f))) (ixI (xas S1) (nI (11 - f))) (ixI (xbs S1) (nI (11 - f))) (ixI (xts S1) (nI (11 - f))) S1).2)) ls _ _ (by omega) (by omega) ?_ hw ?_
            · have hl := lv_sub hl [0, 1, 2, 3, 4] rfl
              rw [zinc' d, zinc' (11 - f), show 11 - f + 1 = 12 - f from by omega] at hl
              exact hl
            · rw [← he]
              have hc : ¬ xwh S1 (11 - f) = -1 := (by rw [← e1]; exact c_102)
              have hz : ¬ (xGo (11 - f) S1).1 < 0 := by { unfold xGo; rw [← e1, ← e2, ← e3, ← e4]; exact c_103 }
              simp only [xLp, if_pos c_101, if_neg hc, if_neg hz]
              unfold xGo
              rw [← e1, ← e2, ← e3, ← e4]
              rfl
          · refine lv_goto (tgt := 111) hx hb dX1_run_99 (by decide) ?_
            exact E d (xNoted ((xPerf (ixI (xwh S1) (nI (11 - f))) (ixI (xas S1) (nI (11 - f))) (ixI (xbs S1) (nI (11 - f))) (ixI (xts S1) (nI (11 - f))) S1).1) ((xPerf (ixI (xwh S1) (nI (11 - f))) (ixI (xas S1) (nI (11 - f))) (ixI (xbs S1) (nI (11 - f))) (ixI (xts S1) (nI (11 - f))) S1).2)) ls _ _ (lv_sub hl [2, 1] rfl) hw (by rw [← he]; have hc : ¬ xwh S1 (11 - f) = -1 := (by rw [← e1]; exact c_102); have hz : (xGo (11 - f) S1).1 < 0 := by { unfold xGo; rw [← e1, ← e2, ← e3, ← e4]; exact c_103 }; simp only [xLp, if_pos c_101, if_neg hc, if_pos hz]; unfold xGo; rw [← e1, ← e2, ← e3, ← e4]; rfl)
        · refine lv_goto (tgt := 111) hx hb dX1_run_57 (by decide) ?_
          exact E d S1 ls _ _ (lv_sub hl [2, 1] rfl) hw (by rw [← he]; have hc : xwh S1 (11 - f) = -1 := (by rw [← e1]; exact c_102); simp only [xLp, if_pos c_101, if_pos hc])
  refine lv_iload_n hx hb dX1_run_0 rfl (lv_at hl 1 rfl) ?_
  refine ps_call (rest := []) S0 (c_X1_isStep l k) gX1_run_X1_isStep rfl qX1_isStep ⟨Nat.le_of_ble_eq_true rfl, Nat.le_of_ble_eq_true rfl⟩ ⟨Nat.le_of_ble_eq_true rfl, Nat.le_of_ble_eq_true rfl⟩ hl.1 rfl (Nat.le_of_ble_eq_true rfl) dX1_run_1 ?_
  refine zb_eq (P := zSt k) (tgt := 17) hx hb dX1_run_4 (by decide) (fun c_104 => ?_) (fun c_104 => ?_)
  · refine lv_aload_n hx hb dX1_run_17 rfl (lv_at hl 0 rfl) ?_
    refine lv_bipush (v := -5) hx hb dX1_run_18 (by decide) ?_
    refine io_call (rest := []) (w1 := (xW ad cy (xNoted (-5) S))) S0 (c_X1_noted l D ad cy A S (-5)) gX1_run_X1_noted hw rfl qX1_noted ⟨Nat.le_of_ble_eq_true rfl, Nat.le_of_ble_eq_true rfl⟩ ⟨Nat.le_of_ble_eq_true rfl, Nat.le_of_ble_eq_true rfl⟩ rfl rfl rfl hl.1 rfl (Nat.le_of_ble_eq_true rfl) dX1_run_20 (fun H locs hw => ?_)
    exact io_iret S0 hr hlk hw dX1_run_23 (congrArg (fun z => some (Value.int z)) (show (xRun k n S).1 = -5 from (by first | (simp [xRun, xN, eq_false c_104]; done) | (simp [xRun, xN, c_104]; done) | contradiction | rfl))) (congrArg (xW ad cy) (show (xRun k n S).2 = xNoted (-5) S from (by first | (simp [xRun, xN, eq_false c_104]; done) | (simp [xRun, xN, c_104]; done) | contradiction | rfl)))
  · refine lv_iload_n hx hb dX1_run_7 rfl (lv_at hl 2 rfl) ?_
    refine zi_lt (tgt := 17) hx hb dX1_run_8 (by decide) (fun c_105 => ?_) (fun c_105 => ?_)
    · refine lv_aload_n hx hb dX1_run_17 rfl (lv_at hl 0 rfl) ?_
      refine lv_bipush (v := -5) hx hb dX1_run_18 (by decide) ?_
      refine io_call (rest := []) (w1 := (xW ad cy (xNoted (-5) S))) S0 (c_X1_noted l D ad cy A S (-5)) gX1_run_X1_noted hw rfl qX1_noted ⟨Nat.le_of_ble_eq_true rfl, Nat.le_of_ble_eq_true rfl⟩ ⟨Nat.le_of_ble_eq_true rfl, Nat.le_of_ble_eq_true rfl⟩ rfl rfl rfl hl.1 rfl (Nat.le_of_ble_eq_true rfl) dX1_run_20 (fun H locs hw => ?_)
      exact io_iret S0 hr hlk hw dX1_run_23 (congrArg (fun z => some (Value.int z)) (show (xRun k n S).1 = -5 from (by first | (simp [xRun, xN, eq_true c_104, eq_true c_105]; done) | (simp [xRun, xN, c_104, c_105]; done) | contradiction | rfl))) (congrArg (xW ad cy) (show (xRun k n S).2 = xNoted (-5) S from (by first | (simp [xRun, xN, eq_true c_104, eq_true c_105]; done) | (simp [xRun, xN, c_104, c_105]; done) | contradiction | rfl)))
    · refine lv_iload_n hx hb dX1_run_11 rfl (lv_at hl 2 rfl) ?_
      refine lv_bipush (v := 12) hx hb dX1_run_12 (by decide) ?_
      refine zc_le (tgt := 24) hx hb dX1_run_14 (by decide) (fun c_106 => ?_) (fun c_106 => ?_)
      · refine lv_aload_n hx hb dX1_run_24 rfl (lv_at hl 0 rfl) ?_
        refine lv_iconst (v := 0) hx hb dX1_run_25 (by decide) ?_
        refine gd_put (w1 := (xW ad cy (xso S, xlo S, xhi S, xwh S, xas S, xbs S, xts S, 0, xrf S, xet S, xsd S))) S0 hin tyX1 tyX1_ok nmX1 hw rfl rfl 7 (by decide) (S0.2.2.2.2 (.fieldLink RX1 83 "StretchDesk" "latestRefusal" "I") (by decide +kernel)) rfl rfl (by decide +kernel) (Nat.le_of_ble_eq_true rfl) rfl dX1_run_26 (fun H locs hw => ?_)
        refine lv_iconst (v := 0) hx hb dX1_run_29 (by decide) ?_
        refine lv_istore_n (lv' := [(3, .int 0), (0, .ref (ad 0)), (1, .int k), (2, .int n)]) hx hb dX1_run_30 rfl hl (by decide) rfl (fun ls hl => ?_)
        refine lv_iload_n hx hb dX1_run_31 rfl (lv_at hl 2 rfl) ?_
        refine lv_istore (lv' := [(4, .int k), (3, .int 0), (0, .ref (ad 0)), (1, .int k), (2, .int n)]) hx hb dX1_run_32 hl (by decide) rfl (fun ls hl => ?_)
        obtain ⟨j, hj, hkj⟩ := zst_ex c_104
        refine K (12 - j) 0 (xCalm S) ls _ _ (by omega) (by omega) ?_ hw ?_
        · rw [show 12 - (12 - j) = j from by omega, ← hkj]
          exact lv_sub hl [0, 1, 2, 3, 4] rfl
        · unfold xRun
          rw [if_pos ⟨c_104, c_105, c_106⟩]
          rw [show k.toNatClampNeg = j from by rw [hkj]; exact nI_clamp (by omega)]
      · refine lv_aload_n hx hb dX1_run_17 rfl (lv_at hl 0 rfl) ?_
        refine lv_bipush (v := -5) hx hb dX1_run_18 (by decide) ?_
        refine io_call (rest := []) (w1 := (xW ad cy (xNoted (-5) S))) S0 (c_X1_noted l D ad cy A S (-5)) gX1_run_X1_noted hw rfl qX1_noted ⟨Nat.le_of_ble_eq_true rfl, Nat.le_of_ble_eq_true rfl⟩ ⟨Nat.le_of_ble_eq_true rfl, Nat.le_of_ble_eq_true rfl⟩ rfl rfl rfl hl.1 rfl (Nat.le_of_ble_eq_true rfl) dX1_run_20 (fun H locs hw => ?_)
        exact io_iret S0 hr hlk hw dX1_run_23 (congrArg (fun z => some (Value.int z)) (show (xRun k n S).1 = -5 from (by first | (simp [xRun, xN, eq_true c_104, eq_false c_105, eq_true c_106]; done) | (simp [xRun, xN, c_104, c_105, c_106]; done) | contradiction | rfl))) (congrArg (xW ad cy) (show (xRun k n S).2 = xNoted (-5) S from (by first | (simp [xRun, xN, eq_true c_104, eq_false c_105, eq_true c_106]; done) | (simp [xRun, xN, c_104, c_105, c_106]; done) | contradiction | rfl)))
