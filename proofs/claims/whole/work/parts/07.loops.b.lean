theorem qX2_run : yX2_run.cls = RX2 ∧ yX2_run.cls ≠ "java/lang/invoke/MethodHandle" ∧ yX2_run.cls ≠ "java/lang/invoke/VarHandle" ∧ (parseMethodDescriptor yX2_run.desc).map (fun d => d.parameters.length) = some 2 := by decide +kernel
set_option maxHeartbeats 4000000 in
set_option maxRecDepth 100000 in
theorem c_X2_run (l : Launch) (D : va_G) (ad : Nat → Nat) (cy : Nat → ClassId) (A : Nat → Prop) (S : MS) (k n : Int32) (I : MS → Prop) (hI : I (mSays S)) (hask : ∀ (S1 : MS) (i : Nat), i < 12 → I S1 → ¬ mth S1 i = 0 → mAsk (nI i) S1) (hnx : ∀ (S1 : MS) (i : Nat), i < 12 → I S1 → ¬ mth S1 i = 0 → I (mDone (mDoes (nI i) S1).2)) : OM l D (mT cy) A yX2_run wsX2_run 7 169 [.ref (ad 0), .int k, .int n] (mW ad cy S) (mW ad cy (mRun k n S).2) (some (.int (mRun k n S).1)) := by
  refine OM.of (cc := cX2_run) (maxL := 5) (ret := some .int) (own := RX2) (by decide) rfl rfl (Nat.le_of_ble_eq_true rfl) ?_
  intro p e s m below meth c ls S0 hr hlk hl hw
  have hx := S0.1
  have hb := S0.2.1
  have hl : lv_has ls 5 [(0, .ref (ad 0)), (1, .int k), (2, .int n)] := hl
  have hin : ∀ w ∈ wsX20, w ∈ wsX2_run := fun w h => List.mem_cons_of_mem _ (List.mem_append_right _ h)
  have E : ∀ (d : Nat) (S1 : MS) (ls : Array Slot) (H : Heap) (locs : List Loc), lv_has ls 5 [(0, .ref (ad 0)), (3, .int (nI d))] → Gd D (mT cy) A s (mW ad cy S1) H locs → (nI d, S1) = mRun k n S → W p l e { frames := 7, cells := 0, slots := 0, locals := 169 } s m [Value.ref (ad 0), Value.int k, Value.int n].toArray below meth c H locs 0 0 (MQ below (OMq D A (mW ad cy (mRun k n S).2) (some (.int ((mRun k n S).1)))) [Value.ref (ad 0), Value.int k, Value.int n].toArray s 0 0 A) (F0 m 90 ls []) := by
    intro d S1 ls H locs hl hw he
    refine lv_iload_n hx hb dX2_run_90 rfl (lv_at hl 1 rfl) ?_
    exact io_iret S0 hr hlk hw dX2_run_91 (by rw [← he]) (by rw [← he])
  have K : ∀ (f d : Nat) (S1 : MS) (ls : Array Slot) (H : Heap) (locs : List Loc), f ≤ 12 → d + f ≤ 12 → I S1 → lv_has ls 5 [(4, .int (nI (12 - f))), (3, .int (nI d)), (0, .ref (ad 0)), (1, .int k), (2, .int n)] → Gd D (mT cy) A s (mW ad cy S1) H locs → (nI (mLp n f d S1).1, (mLp n f d S1).2) = mRun k n S → W p l e { frames := 7, cells := 0, slots := 0, locals := 169 } s m [Value.ref (ad 0), Value.int k, Value.int n].toArray below meth c H locs 0 0 (MQ below (OMq D A (mW ad cy (mRun k n S).2) (some (.int ((mRun k n S).1)))) [Value.ref (ad 0), Value.int k, Value.int n].toArray s 0 0 A) (F0 m 37 ls []) := by
    intro f
    induction f with
    | zero =>
      intro d S1 ls H locs _ _ _ hl hw he
      refine lv_iload hx hb dX2_run_37 (lv_at hl 0 rfl) ?_
      refine lv_bipush (v := 12) hx hb dX2_run_39 (by decide) ?_
      refine zc_ge (tgt := 90) hx hb dX2_run_41 (by decide) (fun _ => ?_) (fun q => absurd q (by decide))
      exact E d S1 ls H locs (lv_sub hl [2, 1] rfl) hw he
    | succ f ih =>
      intro d S1 ls H locs hf hd hi1 hl hw he
      have hi : 11 - f < 12 := by omega
      have hl : lv_has ls 5 [(4, .int (nI (11 - f))), (3, .int (nI d)), (0, .ref (ad 0)), (1, .int k), (2, .int n)] := by rw [show 11 - f = 12 - (f + 1) from by omega]; exact hl
      have hst : zSt (nI (11 - f)) := zst_nI hi
      have c_lt : nI (11 - f) < 12 := hst.2
      have e1 : ixI (mth S1) (nI (11 - f)) = mth S1 (11 - f) := ixI_nI (by omega)
      refine lv_iload hx hb dX2_run_37 (lv_at hl 0 rfl) ?_
      refine lv_bipush (v := 12) hx hb dX2_run_39 (by decide) ?_
      refine zc_ge (tgt := 90) hx hb dX2_run_41 (by decide) (fun q => absurd c_lt q) (fun _ => ?_)
      refine lv_iload_n hx hb dX2_run_44 rfl (lv_at hl 1 rfl) ?_
      refine lv_iload_n hx hb dX2_run_45 rfl (lv_at hl 4 rfl) ?_
      refine zc_ge (tgt := 90) hx hb dX2_run_46 (by decide) (fun c_107 => ?_) (fun c_107 => ?_)
      · exact E d S1 ls _ _ (lv_sub hl [2, 1] rfl) hw (by rw [← he]; simp [mLp, eq_false c_107])
      · refine lv_aload_n hx hb dX2_run_49 rfl (lv_at hl 2 rfl) ?_
        refine gd_get S0 hin hw rfl rfl 3 (by decide) (S0.2.2.2.2 (.fieldLink RX2 20 "StretchDeskModel" "there" "[Z") (by decide +kernel)) rfl (v := .ref (ad 4)) rfl dX2_run_50 ?_
        refine lv_iload hx hb dX2_run_53 (lv_at hl 0 rfl) ?_
        refine va_zald hx hb hw.2.2.1 hw.1 4 3 rfl rfl (zIn12 (by assumption)) dX2_run_55 ?_
        refine zi_eq (tgt := 90) hx hb dX2_run_56 (by decide) (fun c_108 => ?_) (fun c_108 => ?_)
        · exact E d S1 ls _ _ (lv_sub hl [2, 1] rfl) hw (by rw [← he]; have hc : mth S1 (11 - f) = 0 := (by rw [← e1]; exact c_108); simp only [mLp, if_pos c_107, if_pos hc])
        · have hc : ¬ mth S1 (11 - f) = 0 := (by rw [← e1]; exact c_108)
          have hfi := hask S1 (11 - f) hi hi1 hc
          unfold mAsk at hfi
          refine lv_aload_n hx hb dX2_run_59 rfl (lv_at hl 2 rfl) ?_
          refine lv_iload hx hb dX2_run_60 (lv_at hl 0 rfl) ?_
          refine io_call (rest := []) (w1 := (mW ad cy ((mDoes (nI (11 - f)) S1).2))) S0 (c_X2_does l D ad cy A S1 (nI (11 - f)) (by assumption) (by assumption)) gX2_run_X2_does hw rfl qX2_does ⟨Nat.le_of_ble_eq_true rfl, Nat.le_of_ble_eq_true rfl⟩ ⟨Nat.le_of_ble_eq_true rfl, Nat.le_of_ble_eq_true rfl⟩ rfl rfl rfl hl.1 rfl (Nat.le_of_ble_eq_true rfl) dX2_run_62 (fun H locs hw => ?_)
          refine zi_ge (tgt := 71) hx hb dX2_run_65 (by decide) (fun c_109 => ?_) (fun c_109 => ?_)
          · refine lv_iinc (v := (nI d) + 1) (lv' := [(3, .int ((nI d) + 1)), (4, .int (nI (11 - f))), (0, .ref (ad 0)), (1, .int k), (2, .int n)]) hx hb dX2_run_71 hl (k := 1) rfl rfl (by decide) rfl (fun ls hl => ?_)
            refine lv_aload_n hx hb dX2_run_74 rfl (lv_at hl 2 rfl) ?_
            refine lv_dup hx hb dX2_run_75 rfl ?_
            refine gd_get S0 hin hw rfl rfl 11 (by decide) (S0.2.2.2.2 (.fieldLink RX2 200 "StretchDeskModel" "done" "I") (by decide +kernel)) rfl (v := .int (msd ((mDoes (nI (11 - f)) S1).2))) rfl dX2_run_76 ?_
            refine lv_iconst (v := 1) hx hb dX2_run_79 (by decide) ?_
            refine lv_iadd hx hb dX2_run_80 ?_
            refine gd_put (w1 := (mW ad cy (mso ((mDoes (nI (11 - f)) S1).2), mlo ((mDoes (nI (11 - f)) S1).2), mhi ((mDoes (nI (11 - f)) S1).2), mth ((mDoes (nI (11 - f)) S1).2), mwh ((mDoes (nI (11 - f)) S1).2), mas ((mDoes (nI (11 - f)) S1).2), mbs ((mDoes (nI (11 - f)) S1).2), mts ((mDoes (nI (11 - f)) S1).2), mst ((mDoes (nI (11 - f)) S1).2), mrf ((mDoes (nI (11 - f)) S1).2), met ((mDoes (nI (11 - f)) S1).2), (msd ((mDoes (nI (11 - f)) S1).2)) + 1))) S0 hin tyX2 tyX2_ok nmX2 hw rfl rfl 11 (by decide) (S0.2.2.2.2 (.fieldLink RX2 200 "StretchDeskModel" "done" "I") (by decide +kernel)) rfl rfl (by decide +kernel) (Nat.le_of_ble_eq_true rfl) rfl dX2_run_81 (fun H locs hw => ?_)
            refine lv_iinc (v := (nI (11 - f)) + 1) (lv' := [(4, .int ((nI (11 - f)) + 1)), (3, .int ((nI d) + 1)), (0, .ref (ad 0)), (1, .int k), (2, .int n)]) hx hb dX2_run_84 hl (k := 1) rfl rfl (by decide) rfl (fun ls hl => ?_)
            refine lv_goto (tgt := 37) hx hb dX2_run_87 (by decide) ?_
            refine ih (d + 1) (mDone (mDoes (nI (11 - f)) S1).2) ls _ _ (by omega) (by omega) (hnx S1 (11 - f) hi hi1 hc) ?_ hw ?_
            · have hl := lv_sub hl [0, 1, 2, 3, 4] rfl
              rw [zinc' d, zinc' (11 - f), show 11 - f + 1 = 12 - f from by omega] at hl
              exact hl
            · rw [← he]
              simp only [mLp, if_pos c_107, if_neg hc, if_neg c_109]
          · refine lv_goto (tgt := 90) hx hb dX2_run_68 (by decide) ?_
            exact E d ((mDoes (nI (11 - f)) S1).2) ls _ _ (lv_sub hl [2, 1] rfl) hw (by rw [← he]; simp only [mLp, if_pos c_107, if_neg hc, if_pos c_109])
  refine lv_iload_n hx hb dX2_run_0 rfl (lv_at hl 1 rfl) ?_
  refine zi_lt (tgt := 20) hx hb dX2_run_1 (by decide) (fun c_110 => ?_) (fun c_110 => ?_)
  · refine lv_aload_n hx hb dX2_run_20 rfl (lv_at hl 0 rfl) ?_
    refine lv_bipush (v := -5) hx hb dX2_run_21 (by decide) ?_
    refine io_call (rest := []) (w1 := (mW ad cy (mRef (-5) S))) S0 (c_X2_refuses l D ad cy A S (-5)) gX2_run_X2_refuses hw rfl qX2_refuses ⟨Nat.le_of_ble_eq_true rfl, Nat.le_of_ble_eq_true rfl⟩ ⟨Nat.le_of_ble_eq_true rfl, Nat.le_of_ble_eq_true rfl⟩ rfl rfl rfl hl.1 rfl (Nat.le_of_ble_eq_true rfl) dX2_run_23 (fun H locs hw => ?_)
    exact io_iret S0 hr hlk hw dX2_run_26 (congrArg (fun z => some (Value.int z)) (show (mRun k n S).1 = -5 from (by first | (simp [mRun, zSt, eq_true c_110]; done) | (simp [mRun, zSt, c_110]; done) | contradiction | rfl))) (congrArg (mW ad cy) (show (mRun k n S).2 = mRef (-5) S from (by first | (simp [mRun, zSt, eq_true c_110]; done) | (simp [mRun, zSt, c_110]; done) | contradiction | rfl)))
  · refine lv_iload_n hx hb dX2_run_4 rfl (lv_at hl 1 rfl) ?_
    refine lv_bipush (v := 12) hx hb dX2_run_5 (by decide) ?_
    refine zc_ge (tgt := 20) hx hb dX2_run_7 (by decide) (fun c_111 => ?_) (fun c_111 => ?_)
    · refine lv_aload_n hx hb dX2_run_20 rfl (lv_at hl 0 rfl) ?_
      refine lv_bipush (v := -5) hx hb dX2_run_21 (by decide) ?_
      refine io_call (rest := []) (w1 := (mW ad cy (mRef (-5) S))) S0 (c_X2_refuses l D ad cy A S (-5)) gX2_run_X2_refuses hw rfl qX2_refuses ⟨Nat.le_of_ble_eq_true rfl, Nat.le_of_ble_eq_true rfl⟩ ⟨Nat.le_of_ble_eq_true rfl, Nat.le_of_ble_eq_true rfl⟩ rfl rfl rfl hl.1 rfl (Nat.le_of_ble_eq_true rfl) dX2_run_23 (fun H locs hw => ?_)
      exact io_iret S0 hr hlk hw dX2_run_26 (congrArg (fun z => some (Value.int z)) (show (mRun k n S).1 = -5 from (by first | (simp [mRun, zSt, eq_false c_110, eq_false c_111]; done) | (simp [mRun, zSt, c_110, c_111]; done) | contradiction | rfl))) (congrArg (mW ad cy) (show (mRun k n S).2 = mRef (-5) S from (by first | (simp [mRun, zSt, eq_false c_110, eq_false c_111]; done) | (simp [mRun, zSt, c_110, c_111]; done) | contradiction | rfl)))
    · refine lv_iload_n hx hb dX2_run_10 rfl (lv_at hl 2 rfl) ?_
      refine zi_lt (tgt := 20) hx hb dX2_run_11 (by decide) (fun c_112 => ?_) (fun c_112 => ?_)
      · refine lv_aload_n hx hb dX2_run_20 rfl (lv_at hl 0 rfl) ?_
        refine lv_bipush (v := -5) hx hb dX2_run_21 (by decide) ?_
        refine io_call (rest := []) (w1 := (mW ad cy (mRef (-5) S))) S0 (c_X2_refuses l D ad cy A S (-5)) gX2_run_X2_refuses hw rfl qX2_refuses ⟨Nat.le_of_ble_eq_true rfl, Nat.le_of_ble_eq_true rfl⟩ ⟨Nat.le_of_ble_eq_true rfl, Nat.le_of_ble_eq_true rfl⟩ rfl rfl rfl hl.1 rfl (Nat.le_of_ble_eq_true rfl) dX2_run_23 (fun H locs hw => ?_)
        exact io_iret S0 hr hlk hw dX2_run_26 (congrArg (fun z => some (Value.int z)) (show (mRun k n S).1 = -5 from (by first | (simp [mRun, zSt, eq_false c_110, eq_true c_111, eq_true c_112]; done) | (simp [mRun, zSt, c_110, c_111, c_112]; done) | contradiction | rfl))) (congrArg (mW ad cy) (show (mRun k n S).2 = mRef (-5) S from (by first | (simp [mRun, zSt, eq_false c_110, eq_true c_111, eq_true c_112]; done) | (simp [mRun, zSt, c_110, c_111, c_112]; done) | contradiction | rfl)))
      · refine lv_iload_n hx hb dX2_run_14 rfl (lv_at hl 2 rfl) ?_
        refine lv_bipush (v := 12) hx hb dX2_run_15 (by decide) ?_
        refine zc_le (tgt := 27) hx hb dX2_run_17 (by decide) (fun c_113 => ?_) (fun c_113 => ?_)
        · refine lv_aload_n hx hb dX2_run_27 rfl (lv_at hl 0 rfl) ?_
          refine lv_iconst (v := 0) hx hb dX2_run_28 (by decide) ?_
          refine gd_put (w1 := (mW ad cy (mso S, mlo S, mhi S, mth S, mwh S, mas S, mbs S, mts S, 0, mrf S, met S, msd S))) S0 hin tyX2 tyX2_ok nmX2 hw rfl rfl 8 (by decide) (S0.2.2.2.2 (.fieldLink RX2 36 "StretchDeskModel" "state" "I") (by decide +kernel)) rfl rfl (by decide +kernel) (Nat.le_of_ble_eq_true rfl) rfl dX2_run_29 (fun H locs hw => ?_)
          refine lv_iconst (v := 0) hx hb dX2_run_32 (by decide) ?_
          refine lv_istore_n (lv' := [(3, .int 0), (0, .ref (ad 0)), (1, .int k), (2, .int n)]) hx hb dX2_run_33 rfl hl (by decide) rfl (fun ls hl => ?_)
          refine lv_iload_n hx hb dX2_run_34 rfl (lv_at hl 2 rfl) ?_
          refine lv_istore (lv' := [(4, .int k), (3, .int 0), (0, .ref (ad 0)), (1, .int k), (2, .int n)]) hx hb dX2_run_35 hl (by decide) rfl (fun ls hl => ?_)
          have hk : zSt k := ⟨c_110, c_111⟩
          obtain ⟨j, hj, hkj⟩ := zst_ex hk
          refine K (12 - j) 0 (mSays S) ls _ _ (by omega) (by omega) hI ?_ hw ?_
          · rw [show 12 - (12 - j) = j from by omega, ← hkj]
            exact lv_sub hl [0, 1, 2, 3, 4] rfl
          · unfold mRun
            rw [if_pos ⟨hk, c_112, c_113⟩]
            rw [show k.toNatClampNeg = j from by rw [hkj]; exact nI_clamp (by omega)]
        · refine lv_aload_n hx hb dX2_run_20 rfl (lv_at hl 0 rfl) ?_
          refine lv_bipush (v := -5) hx hb dX2_run_21 (by decide) ?_
          refine io_call (rest := []) (w1 := (mW ad cy (mRef (-5) S))) S0 (c_X2_refuses l D ad cy A S (-5)) gX2_run_X2_refuses hw rfl qX2_refuses ⟨Nat.le_of_ble_eq_true rfl, Nat.le_of_ble_eq_true rfl⟩ ⟨Nat.le_of_ble_eq_true rfl, Nat.le_of_ble_eq_true rfl⟩ rfl rfl rfl hl.1 rfl (Nat.le_of_ble_eq_true rfl) dX2_run_23 (fun H locs hw => ?_)
          exact io_iret S0 hr hlk hw dX2_run_26 (congrArg (fun z => some (Value.int z)) (show (mRun k n S).1 = -5 from (by first | (simp [mRun, zSt, eq_false c_110, eq_true c_111, eq_false c_112, eq_true c_113]; done) | (simp [mRun, zSt, c_110, c_111, c_112, c_113]; done) | contradiction | rfl))) (congrArg (mW ad cy) (show (mRun k n S).2 = mRef (-5) S from (by first | (simp [mRun, zSt, eq_false c_110, eq_true c_111, eq_false c_112, eq_true c_113]; done) | (simp [mRun, zSt, c_110, c_111, c_112, c_113]; done) | contradiction | rfl)))
theorem qX2_about : yX2_about.cls = RX2 ∧ yX2_about.cls ≠ "java/lang/invoke/MethodHandle" ∧ yX2_about.cls ≠ "java/lang/invoke/VarHandle" ∧ (parseMethodDescriptor yX2_about.desc).map (fun d => d.parameters.length) = some 1 := by decide +kernel
set_option maxHeartbeats 4000000 in
set_option maxRecDepth 100000 in
theorem c_X2_about (l : Launch) (D : va_G) (ad : Nat → Nat) (cy : Nat → ClassId) (A : Nat → Prop) (S : MS) (w : Int32) : OM l D (mT cy) A yX2_about wsX2_about 0 0 [.ref (ad 0), .int w] (mW ad cy S) (mW ad cy S) (some (.int (mAbout w S))) := by
  refine OM.of (cc := cX2_about) (maxL := 4) (ret := some .int) (own := RX2) (by decide) rfl rfl (Nat.le_of_ble_eq_true rfl) ?_
  intro p e s m below meth c ls S0 hr hlk hl hw
  have hx := S0.1
  have hb := S0.2.1
  have hl : lv_has ls 4 [(0, .ref (ad 0)), (1, .int w)] := hl
  have hin : ∀ w ∈ wsX20, w ∈ wsX2_about := fun w h => List.mem_cons_of_mem _ (List.mem_append_right _ h)
  have E : ∀ (x : Int32) (ls : Array Slot), lv_has ls 4 [(0, .ref (ad 0)), (1, .int w), (2, .int x)] → (w = 0 ∨ w = 1 → x = mAbout w S) → W p l e { frames := 0, cells := 0, slots := 0, locals := 0 } s m [Value.ref (ad 0), Value.int w].toArray below meth c s.heap [] 0 0 (MQ below (OMq D A (mW ad cy S) (some (.int (mAbout w S)))) [Value.ref (ad 0), Value.int w].toArray s 0 0 A) (F0 m 74 ls []) := by
    intro x ls hl he
    refine lv_iload_n hx hb dX2_about_74 rfl (lv_at hl 1 rfl) ?_
    by_cases c_114 : w = 0
    · refine lv_tableIn (x := w) (off := 33) (tgt := 108) hx hb dX2_about_75 (by rw [c_114]; decide) (by rw [c_114]; decide) (by rw [c_114]; decide) (by decide) ?_
      refine lv_iload_n hx hb dX2_about_108 rfl (lv_at hl 2 rfl) ?_
      exact io_iret S0 hr hlk hw dX2_about_109 (by rw [he (by simp [c_114])]) rfl
    by_cases c_115 : w = 1
    · refine lv_tableIn (x := w) (off := 33) (tgt := 108) hx hb dX2_about_75 (by rw [c_115]; decide) (by rw [c_115]; decide) (by rw [c_115]; decide) (by decide) ?_
      refine lv_iload_n hx hb dX2_about_108 rfl (lv_at hl 2 rfl) ?_
      exact io_iret S0 hr hlk hw dX2_about_109 (by rw [he (by simp [c_115])]) rfl
    by_cases c_116 : w = 2
    · refine lv_tableIn (x := w) (off := 35) (tgt := 110) hx hb dX2_about_75 (by rw [c_116]; decide) (by rw [c_116]; decide) (by rw [c_116]; decide) (by decide) ?_
      refine lv_aload_n hx hb dX2_about_110 rfl (lv_at hl 0 rfl) ?_
      refine gd_get S0 hin hw rfl rfl 9 (by decide) (S0.2.2.2.2 (.fieldLink RX2 40 "StretchDeskModel" "refused" "I") (by decide +kernel)) rfl (v := .int (mrf S)) rfl dX2_about_111 ?_
      exact io_iret S0 hr hlk hw dX2_about_114 (congrArg (fun z => some (Value.int z)) (show mAbout w S = mrf S from (by first | (simp [mAbout, eq_false c_114, eq_false c_115, if_pos c_116]; done) | (simp [mAbout, eq_false c_114, eq_false c_115, eq_true c_116]; done) | (simp [mAbout, c_114, c_115, c_116]; done) | contradiction | rfl))) rfl
    by_cases c_117 : w = 3
    · refine lv_tableIn (x := w) (off := 40) (tgt := 115) hx hb dX2_about_75 (by rw [c_117]; decide) (by rw [c_117]; decide) (by rw [c_117]; decide) (by decide) ?_
      refine lv_aload_n hx hb dX2_about_115 rfl (lv_at hl 0 rfl) ?_
      refine gd_get S0 hin hw rfl rfl 10 (by decide) (S0.2.2.2.2 (.fieldLink RX2 139 "StretchDeskModel" "told" "I") (by decide +kernel)) rfl (v := .int (met S)) rfl dX2_about_116 ?_
      exact io_iret S0 hr hlk hw dX2_about_119 (congrArg (fun z => some (Value.int z)) (show mAbout w S = met S from (by first | (simp [mAbout, eq_false c_114, eq_false c_115, eq_false c_116, if_pos c_117]; done) | (simp [mAbout, eq_false c_114, eq_false c_115, eq_false c_116, eq_true c_117]; done) | (simp [mAbout, c_114, c_115, c_116, c_117]; done) | contradiction | rfl))) rfl
    by_cases c_118 : w = 4
    · refine lv_tableIn (x := w) (off := 45) (tgt := 120) hx hb dX2_about_75 (by rw [c_118]; decide) (by rw [c_118]; decide) (by rw [c_118]; decide) (by decide) ?_
      refine lv_aload_n hx hb dX2_about_120 rfl (lv_at hl 0 rfl) ?_
      refine gd_get S0 hin hw rfl rfl 11 (by decide) (S0.2.2.2.2 (.fieldLink RX2 200 "StretchDeskModel" "done" "I") (by decide +kernel)) rfl (v := .int (msd S)) rfl dX2_about_121 ?_
      exact io_iret S0 hr hlk hw dX2_about_124 (congrArg (fun z => some (Value.int z)) (show mAbout w S = msd S from (by first | (simp [mAbout, eq_false c_114, eq_false c_115, eq_false c_116, eq_false c_117, if_pos c_118]; done) | (simp [mAbout, eq_false c_114, eq_false c_115, eq_false c_116, eq_false c_117, eq_true c_118]; done) | (simp [mAbout, c_114, c_115, c_116, c_117, c_118]; done) | contradiction | rfl))) rfl
    refine lv_tableOut (x := w) (tgt := 125) hx hb dX2_about_75 (zout5 c_114 c_115 c_116 c_117 c_118) (by decide) ?_
    refine lv_iconst (v := -1) hx hb dX2_about_125 (by decide) ?_
    exact io_iret S0 hr hlk hw dX2_about_126 (congrArg (fun z => some (Value.int z)) (show mAbout w S = -1 from (by first | (simp [mAbout, eq_false c_114, eq_false c_115, eq_false c_116, eq_false c_117, eq_false c_118]; done) | (simp [mAbout, c_114, c_115, c_116, c_117, c_118]; done) | contradiction | rfl))) rfl
  have K2 : w = 1 → ∀ (n i : Nat), i + n = 12 → ∀ (ls : Array Slot), lv_has ls 4 [(3, .int (nI i)), (2, .int (zCntB (mth S) i)), (0, .ref (ad 0)), (1, .int w)] → W p l e { frames := 0, cells := 0, slots := 0, locals := 0 } s m [Value.ref (ad 0), Value.int w].toArray below meth c s.heap [] 0 0 (MQ below (OMq D A (mW ad cy S) (some (.int (mAbout w S)))) [Value.ref (ad 0), Value.int w].toArray s 0 0 A) (F0 m 40 ls []) := by
    intro hw1 n
    induction n with
    | zero =>
      intro i hi ls hl
      have hi : i = 12 := hi
      subst hi
      refine lv_iload_n hx hb dX2_about_40 rfl (lv_at hl 0 rfl) ?_
      refine lv_bipush (v := 12) hx hb dX2_about_41 (by decide) ?_
      refine zc_ge (tgt := 74) hx hb dX2_about_43 (by decide) (fun _ => ?_) (fun q => absurd q (by decide))
      exact E _ ls (lv_sub hl [2, 3, 1] rfl) (fun _ => by simp [mAbout, hw1])
    | succ n ih =>
      intro i hi ls hl
      have hst : zSt (nI i) := zst_nI (by omega)
      have c_lt : nI i < 12 := hst.2
      have e1 : ixI (mth S) (nI i) = mth S i := ixI_nI (by omega)
      refine lv_iload_n hx hb dX2_about_40 rfl (lv_at hl 0 rfl) ?_
      refine lv_bipush (v := 12) hx hb dX2_about_41 (by decide) ?_
      refine zc_ge (tgt := 74) hx hb dX2_about_43 (by decide) (fun q => absurd c_lt q) (fun _ => ?_)
      refine lv_iload_n hx hb dX2_about_46 rfl (lv_at hl 3 rfl) ?_
      refine lv_iconst (v := 1) hx hb dX2_about_47 (by decide) ?_
      refine zc_ne (tgt := 74) hx hb dX2_about_48 (by decide) (fun q => absurd hw1 q) (fun _ => ?_)
      refine lv_iload_n hx hb dX2_about_51 rfl (lv_at hl 1 rfl) ?_
      refine lv_aload_n hx hb dX2_about_52 rfl (lv_at hl 2 rfl) ?_
      refine gd_get S0 hin hw rfl rfl 3 (by decide) (S0.2.2.2.2 (.fieldLink RX2 20 "StretchDeskModel" "there" "[Z") (by decide +kernel)) rfl (v := .ref (ad 4)) rfl dX2_about_53 ?_
      refine lv_iload_n hx hb dX2_about_56 rfl (lv_at hl 0 rfl) ?_
      refine va_zald hx hb hw.2.2.1 hw.1 4 3 rfl rfl (zIn12 (by assumption)) dX2_about_57 ?_
      refine zi_eq (tgt := 65) hx hb dX2_about_58 (by decide) (fun c_119 => ?_) (fun c_119 => ?_)
      · refine lv_iconst (v := 0) hx hb dX2_about_65 (by decide) ?_
        refine lv_iadd hx hb dX2_about_66 ?_
        refine lv_istore_n (lv' := [(2, .int ((zCntB (mth S) i) + 0)), (3, .int (nI i)), (0, .ref (ad 0)), (1, .int w)]) hx hb dX2_about_67 rfl hl (by decide) rfl (fun ls hl => ?_)
        refine lv_iinc (v := (nI i) + 1) (lv' := [(3, .int ((nI i) + 1)), (2, .int ((zCntB (mth S) i) + 0)), (0, .ref (ad 0)), (1, .int w)]) hx hb dX2_about_68 hl (k := 1) rfl rfl (by decide) rfl (fun ls hl => ?_)
        refine lv_goto (tgt := 40) hx hb dX2_about_71 (by decide) ?_
        refine ih (i + 1) (by omega) ls ?_
        have hl := lv_sub hl [0, 1, 2, 3] rfl
        rw [zinc' i] at hl
        have hc : mth S i = 0 := by rw [← e1]; exact c_119
        have e2 : zCntB (mth S) (i + 1) = zCntB (mth S) i + 0 := by simp [zCntB, hc]
        rw [e2]
        exact hl
      · refine lv_iconst (v := 1) hx hb dX2_about_61 (by decide) ?_
        refine lv_goto (tgt := 66) hx hb dX2_about_62 (by decide) ?_
        refine lv_iadd hx hb dX2_about_66 ?_
        refine lv_istore_n (lv' := [(2, .int ((zCntB (mth S) i) + 1)), (3, .int (nI i)), (0, .ref (ad 0)), (1, .int w)]) hx hb dX2_about_67 rfl hl (by decide) rfl (fun ls hl => ?_)
        refine lv_iinc (v := (nI i) + 1) (lv' := [(3, .int ((nI i) + 1)), (2, .int ((zCntB (mth S) i) + 1)), (0, .ref (ad 0)), (1, .int w)]) hx hb dX2_about_68 hl (k := 1) rfl rfl (by decide) rfl (fun ls hl => ?_)
        refine lv_goto (tgt := 40) hx hb dX2_about_71 (by decide) ?_
        refine ih (i + 1) (by omega) ls ?_
        have hl := lv_sub hl [0, 1, 2, 3] rfl
        rw [zinc' i] at hl
        have hc : ¬ mth S i = 0 := by rw [← e1]; exact c_119
        have e2 : zCntB (mth S) (i + 1) = zCntB (mth S) i + 1 := by simp [zCntB, hc]
        rw [e2]
        exact hl
  have M : ∀ (x : Int32) (ls : Array Slot), lv_has ls 4 [(2, .int x), (0, .ref (ad 0)), (1, .int w)] → (w = 0 → x = mAbout w S) → (w = 1 → x = 0) → W p l e { frames := 0, cells := 0, slots := 0, locals := 0 } s m [Value.ref (ad 0), Value.int w].toArray below meth c s.heap [] 0 0 (MQ below (OMq D A (mW ad cy S) (some (.int (mAbout w S)))) [Value.ref (ad 0), Value.int w].toArray s 0 0 A) (F0 m 38 ls []) := by
    intro x ls hl h0 h1
    by_cases hw1 : w = 1
    · refine lv_iconst (v := 0) hx hb dX2_about_38 (by decide) ?_
      refine lv_istore_n (lv' := [(3, .int 0), (2, .int x), (0, .ref (ad 0)), (1, .int w)]) hx hb dX2_about_39 rfl hl (by decide) rfl (fun ls hl => ?_)
      exact K2 hw1 12 0 (by omega) ls (by have hl := lv_sub hl [0, 1, 2, 3] rfl; rw [h1 hw1] at hl; exact hl)
    · refine lv_iconst (v := 0) hx hb dX2_about_38 (by decide) ?_
      refine lv_istore_n (lv' := [(3, .int 0), (2, .int x), (0, .ref (ad 0)), (1, .int w)]) hx hb dX2_about_39 rfl hl (by decide) rfl (fun ls hl => ?_)
      refine lv_iload_n hx hb dX2_about_40 rfl (lv_at hl 0 rfl) ?_
      refine lv_bipush (v := 12) hx hb dX2_about_41 (by decide) ?_
      refine zc_ge (tgt := 74) hx hb dX2_about_43 (by decide) (fun q => absurd (by decide) q) (fun _ => ?_)
      refine lv_iload_n hx hb dX2_about_46 rfl (lv_at hl 3 rfl) ?_
      refine lv_iconst (v := 1) hx hb dX2_about_47 (by decide) ?_
      refine zc_ne (tgt := 74) hx hb dX2_about_48 (by decide) (fun _ => ?_) (fun q => absurd q hw1)
      exact E x ls (lv_sub hl [2, 3, 1] rfl) (fun q => h0 (q.resolve_right hw1))
  have K1 : w = 0 → ∀ (n i : Nat), i + n = 16 → ∀ (ls : Array Slot), lv_has ls 4 [(3, .int (nI i)), (2, .int (zCnt (mso S) i)), (0, .ref (ad 0)), (1, .int w)] → W p l e { frames := 0, cells := 0, slots := 0, locals := 0 } s m [Value.ref (ad 0), Value.int w].toArray below meth c s.heap [] 0 0 (MQ below (OMq D A (mW ad cy S) (some (.int (mAbout w S)))) [Value.ref (ad 0), Value.int w].toArray s 0 0 A) (F0 m 4 ls []) := by
    intro hw0 n
    induction n with
    | zero =>
      intro i hi ls hl
      have hi : i = 16 := hi
      subst hi
      refine lv_iload_n hx hb dX2_about_4 rfl (lv_at hl 0 rfl) ?_
      refine lv_bipush (v := 16) hx hb dX2_about_5 (by decide) ?_
      refine zc_ge (tgt := 38) hx hb dX2_about_7 (by decide) (fun _ => ?_) (fun q => absurd q (by decide))
      exact M _ ls (lv_sub hl [1, 2, 3] rfl) (fun _ => by simp [mAbout, hw0]) (fun q => absurd (hw0.symm.trans q) (by decide))
    | succ n ih =>
      intro i hi ls hl
      have hst : zSl (nI i) := zsl_nI (by omega)
      have c_lt : nI i < 16 := hst.2
      have e1 : ixI (mso S) (nI i) = mso S i := ixI_nI (by omega)
      refine lv_iload_n hx hb dX2_about_4 rfl (lv_at hl 0 rfl) ?_
      refine lv_bipush (v := 16) hx hb dX2_about_5 (by decide) ?_
      refine zc_ge (tgt := 38) hx hb dX2_about_7 (by decide) (fun q => absurd c_lt q) (fun _ => ?_)
      refine lv_iload_n hx hb dX2_about_10 rfl (lv_at hl 3 rfl) ?_
      refine zi_ne (tgt := 38) hx hb dX2_about_11 (by decide) (fun q => absurd hw0 q) (fun _ => ?_)
      refine lv_iload_n hx hb dX2_about_14 rfl (lv_at hl 1 rfl) ?_
      refine lv_aload_n hx hb dX2_about_15 rfl (lv_at hl 2 rfl) ?_
      refine gd_get S0 hin hw rfl rfl 0 (by decide) (S0.2.2.2.2 (.fieldLink RX2 7 "StretchDeskModel" "sorts" "[I") (by decide +kernel)) rfl (v := .ref (ad 1)) rfl dX2_about_16 ?_
      refine lv_iload_n hx hb dX2_about_19 rfl (lv_at hl 0 rfl) ?_
      refine va_iald hx hb hw.2.2.1 hw.1 1 0 rfl rfl (zIn (by assumption)) dX2_about_20 ?_
      refine lv_iconst (v := -1) hx hb dX2_about_21 (by decide) ?_
      refine zc_ne (tgt := 29) hx hb dX2_about_22 (by decide) (fun c_120 => ?_) (fun c_120 => ?_)
      · refine lv_iconst (v := 1) hx hb dX2_about_29 (by decide) ?_
        refine lv_iadd hx hb dX2_about_30 ?_
        refine lv_istore_n (lv' := [(2, .int ((zCnt (mso S) i) + 1)), (3, .int (nI i)), (0, .ref (ad 0)), (1, .int w)]) hx hb dX2_about_31 rfl hl (by decide) rfl (fun ls hl => ?_)
        refine lv_iinc (v := (nI i) + 1) (lv' := [(3, .int ((nI i) + 1)), (2, .int ((zCnt (mso S) i) + 1)), (0, .ref (ad 0)), (1, .int w)]) hx hb dX2_about_32 hl (k := 1) rfl rfl (by decide) rfl (fun ls hl => ?_)
        refine lv_goto (tgt := 4) hx hb dX2_about_35 (by decide) ?_
        refine ih (i + 1) (by omega) ls ?_
        have hl := lv_sub hl [0, 1, 2, 3] rfl
        rw [zinc' i] at hl
        have hc : ¬ mso S i = -1 := by rw [← e1]; exact c_120
        have e2 : zCnt (mso S) (i + 1) = zCnt (mso S) i + 1 := by simp [zCnt, hc]
        rw [e2]
        exact hl
      · refine lv_iconst (v := 0) hx hb dX2_about_25 (by decide) ?_
        refine lv_goto (tgt := 30) hx hb dX2_about_26 (by decide) ?_
        refine lv_iadd hx hb dX2_about_30 ?_
        refine lv_istore_n (lv' := [(2, .int ((zCnt (mso S) i) + 0)), (3, .int (nI i)), (0, .ref (ad 0)), (1, .int w)]) hx hb dX2_about_31 rfl hl (by decide) rfl (fun ls hl => ?_)
        refine lv_iinc (v := (nI i) + 1) (lv' := [(3, .int ((nI i) + 1)), (2, .int ((zCnt (mso S) i) + 0)), (0, .ref (ad 0)), (1, .int w)]) hx hb dX2_about_32 hl (k := 1) rfl rfl (by decide) rfl (fun ls hl => ?_)
        refine lv_goto (tgt := 4) hx hb dX2_about_35 (by decide) ?_
        refine ih (i + 1) (by omega) ls ?_
        have hl := lv_sub hl [0, 1, 2, 3] rfl
        rw [zinc' i] at hl
        have hc : mso S i = -1 := by rw [← e1]; exact c_120
        have e2 : zCnt (mso S) (i + 1) = zCnt (mso S) i + 0 := by simp [zCnt, hc]
        rw [e2]
        exact hl
  by_cases hw0 : w = 0
  · refine lv_iconst (v := 0) hx hb dX2_about_0 (by decide) ?_
    refine lv_istore_n (lv' := [(2, .int 0), (0, .ref (ad 0)), (1, .int w)]) hx hb dX2_about_1 rfl hl (by decide) rfl (fun ls hl => ?_)
    refine lv_iconst (v := 0) hx hb dX2_about_2 (by decide) ?_
    refine lv_istore_n (lv' := [(3, .int 0), (2, .int 0), (0, .ref (ad 0)), (1, .int w)]) hx hb dX2_about_3 rfl hl (by decide) rfl (fun ls hl => ?_)
    exact K1 hw0 16 0 (by omega) ls (lv_sub hl [0, 1, 2, 3] rfl)
  · refine lv_iconst (v := 0) hx hb dX2_about_0 (by decide) ?_
    refine lv_istore_n (lv' := [(2, .int 0), (0, .ref (ad 0)), (1, .int w)]) hx hb dX2_about_1 rfl hl (by decide) rfl (fun ls hl => ?_)
    refine lv_iconst (v := 0) hx hb dX2_about_2 (by decide) ?_
    refine lv_istore_n (lv' := [(3, .int 0), (2, .int 0), (0, .ref (ad 0)), (1, .int w)]) hx hb dX2_about_3 rfl hl (by decide) rfl (fun ls hl => ?_)
    refine lv_iload_n hx hb dX2_about_4 rfl (lv_at hl 0 rfl) ?_
    refine lv_bipush (v := 16) hx hb dX2_about_5 (by decide) ?_
    refine zc_ge (tgt := 38) hx hb dX2_about_7 (by decide) (fun q => absurd (by decide) q) (fun _ => ?_)
    refine lv_iload_n hx hb dX2_about_10 rfl (lv_at hl 3 rfl) ?_
    refine zi_ne (tgt := 38) hx hb dX2_about_11 (by decide) (fun _ => ?_) (fun q => absurd q hw0)
    exact M 0 ls (lv_sub hl [1, 2, 3] rfl) (fun q => absurd q hw0) (fun _ => rfl)
