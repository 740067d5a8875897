theorem zd1 : ((-2 : Int32) < 0) = True := by decide
theorem zd2 : ((-3 : Int32) < 0) = True := by decide
theorem zd3 : ((0 : Int32) < 0) = False := by decide
theorem zd4 : ((-2 : Int32) = 0) = False := by decide
theorem zd5 : ((-3 : Int32) = 0) = False := by decide
theorem zd6 : ((-4 : Int32) < 0) = True := by decide
theorem qX2_refuses : yX2_refuses.cls = RX2 ∧ yX2_refuses.cls ≠ "java/lang/invoke/MethodHandle" ∧ yX2_refuses.cls ≠ "java/lang/invoke/VarHandle" ∧ (parseMethodDescriptor yX2_refuses.desc).map (fun d => d.parameters.length) = some 1 := by decide +kernel
set_option maxHeartbeats 4000000 in
set_option maxRecDepth 100000 in
theorem c_X2_refuses (l : Launch) (D : va_G) (ad : Nat → Nat) (cy : Nat → ClassId) (A : Nat → Prop) (S : MS) (y : Int32) : OM l D (mT cy) A yX2_refuses wsX2_refuses 0 0 [.ref (ad 0), .int y] (mW ad cy S) (mW ad cy (mRef y S)) (some (.int y)) := by
  refine OM.of (cc := cX2_refuses) (maxL := 2) (ret := some .int) (own := RX2) (by decide) rfl rfl (Nat.le_of_ble_eq_true rfl) ?_
  intro p e s m below meth c ls S0 hr hlk hl hw
  have hx := S0.1
  have hb := S0.2.1
  have hl : lv_has ls 2 [(0, .ref (ad 0)), (1, .int y)] := hl
  have hin : ∀ w ∈ wsX20, w ∈ wsX2_refuses := fun w h => List.mem_cons_of_mem _ (List.mem_append_right _ h)
  refine lv_aload_n hx hb dX2_refuses_0 rfl (lv_at hl 0 rfl) ?_
  refine lv_iload_n hx hb dX2_refuses_1 rfl (lv_at hl 1 rfl) ?_
  refine gd_put (w1 := (mW ad cy (mso S, mlo S, mhi S, mth S, mwh S, mas S, mbs S, mts S, y, mrf S, met S, msd S))) S0 hin tyX2 tyX2_ok nmX2 hw rfl rfl 8 (by decide) (S0.2.2.2.2 (.fieldLink RX2 36 "StretchDeskModel" "state" "I") (by decide +kernel)) rfl rfl (by decide +kernel) (Nat.le_of_ble_eq_true rfl) rfl dX2_refuses_2 (fun H locs hw => ?_)
  refine lv_aload_n hx hb dX2_refuses_5 rfl (lv_at hl 0 rfl) ?_
  refine lv_dup hx hb dX2_refuses_6 rfl ?_
  refine gd_get S0 hin hw rfl rfl 9 (by decide) (S0.2.2.2.2 (.fieldLink RX2 40 "StretchDeskModel" "refused" "I") (by decide +kernel)) rfl (v := .int (mrf S)) rfl dX2_refuses_7 ?_
  refine lv_iconst (v := 1) hx hb dX2_refuses_10 (by decide) ?_
  refine lv_iadd hx hb dX2_refuses_11 ?_
  refine gd_put (w1 := (mW ad cy (mso S, mlo S, mhi S, mth S, mwh S, mas S, mbs S, mts S, y, (mrf S) + 1, met S, msd S))) S0 hin tyX2 tyX2_ok nmX2 hw rfl rfl 9 (by decide) (S0.2.2.2.2 (.fieldLink RX2 40 "StretchDeskModel" "refused" "I") (by decide +kernel)) rfl rfl (by decide +kernel) (Nat.le_of_ble_eq_true rfl) rfl dX2_refuses_12 (fun H locs hw => ?_)
  refine lv_iload_n hx hb dX2_refuses_15 rfl (lv_at hl 1 rfl) ?_
  exact io_iret S0 hr hlk hw dX2_refuses_16 (congrArg (fun z => some (Value.int z)) (show y = y from (by first | (simp [mRef]; done) | (simp [mRef, mso, mlo, mhi, mth, mwh, mas, mbs, mts, mst, mrf, met, msd]; done) | contradiction | rfl))) (congrArg (mW ad cy) (show mRef y S = (mso S, mlo S, mhi S, mth S, mwh S, mas S, mbs S, mts S, y, (mrf S) + 1, met S, msd S) from (by first | (simp [mRef]; done) | (simp [mRef, mso, mlo, mhi, mth, mwh, mas, mbs, mts, mst, mrf, met, msd]; done) | contradiction | rfl)))
theorem qX2_says : yX2_says.cls = RX2 ∧ yX2_says.cls ≠ "java/lang/invoke/MethodHandle" ∧ yX2_says.cls ≠ "java/lang/invoke/VarHandle" ∧ (parseMethodDescriptor yX2_says.desc).map (fun d => d.parameters.length) = some 1 := by decide +kernel
set_option maxHeartbeats 4000000 in
set_option maxRecDepth 100000 in
theorem c_X2_says (l : Launch) (D : va_G) (ad : Nat → Nat) (cy : Nat → ClassId) (A : Nat → Prop) (S : MS) (y : Int32) : OM l D (mT cy) A yX2_says wsX2_says 0 0 [.ref (ad 0), .int y] (mW ad cy S) (mW ad cy (mSays S)) (some (.int y)) := by
  refine OM.of (cc := cX2_says) (maxL := 2) (ret := some .int) (own := RX2) (by decide) rfl rfl (Nat.le_of_ble_eq_true rfl) ?_
  intro p e s m below meth c ls S0 hr hlk hl hw
  have hx := S0.1
  have hb := S0.2.1
  have hl : lv_has ls 2 [(0, .ref (ad 0)), (1, .int y)] := hl
  have hin : ∀ w ∈ wsX20, w ∈ wsX2_says := fun w h => List.mem_cons_of_mem _ (List.mem_append_right _ h)
  refine lv_aload_n hx hb dX2_says_0 rfl (lv_at hl 0 rfl) ?_
  refine lv_iconst (v := 0) hx hb dX2_says_1 (by decide) ?_
  refine gd_put (w1 := (mW ad cy (mso S, mlo S, mhi S, mth S, mwh S, mas S, mbs S, mts S, 0, mrf S, met S, msd S))) S0 hin tyX2 tyX2_ok nmX2 hw rfl rfl 8 (by decide) (S0.2.2.2.2 (.fieldLink RX2 36 "StretchDeskModel" "state" "I") (by decide +kernel)) rfl rfl (by decide +kernel) (Nat.le_of_ble_eq_true rfl) rfl dX2_says_2 (fun H locs hw => ?_)
  refine lv_iload_n hx hb dX2_says_5 rfl (lv_at hl 1 rfl) ?_
  exact io_iret S0 hr hlk hw dX2_says_6 (congrArg (fun z => some (Value.int z)) (show y = y from (by first | (simp [mSays]; done) | (simp [mSays, mso, mlo, mhi, mth, mwh, mas, mbs, mts, mst, mrf, met, msd]; done) | contradiction | rfl))) (congrArg (mW ad cy) (show mSays S = (mso S, mlo S, mhi S, mth S, mwh S, mas S, mbs S, mts S, 0, mrf S, met S, msd S) from (by first | (simp [mSays]; done) | (simp [mSays, mso, mlo, mhi, mth, mwh, mas, mbs, mts, mst, mrf, met, msd]; done) | contradiction | rfl)))
theorem qX2_whyNot : yX2_whyNot.cls = RX2 ∧ yX2_whyNot.cls ≠ "java/lang/invoke/MethodHandle" ∧ yX2_whyNot.cls ≠ "java/lang/invoke/VarHandle" ∧ (parseMethodDescriptor yX2_whyNot.desc).map (fun d => d.parameters.length) = some 3 := by decide +kernel
set_option maxHeartbeats 4000000 in
set_option maxRecDepth 100000 in
theorem c_X2_whyNot (l : Launch) (D : va_G) (ad : Nat → Nat) (cy : Nat → ClassId) (A : Nat → Prop) (S : MS) (a : Int32) (b : Int32) (to : Int32) : OM l D (mT cy) A yX2_whyNot wsX2_whyNot 1 20 [.ref (ad 0), .int a, .int b, .int to] (mW ad cy S) (mW ad cy S) (some (.int (mWhy a b to S))) := by
  refine OM.of (cc := cX2_whyNot) (maxL := 4) (ret := some .int) (own := RX2) (by decide) rfl rfl (Nat.le_of_ble_eq_true rfl) ?_
  intro p e s m below meth c ls S0 hr hlk hl hw
  have hx := S0.1
  have hb := S0.2.1
  have hl : lv_has ls 4 [(0, .ref (ad 0)), (1, .int a), (2, .int b), (3, .int to)] := hl
  have hin : ∀ w ∈ wsX20, w ∈ wsX2_whyNot := fun w h => List.mem_cons_of_mem _ (List.mem_append_right _ h)
  refine lv_iload_n hx hb dX2_whyNot_0 rfl (lv_at hl 1 rfl) ?_
  refine ps_call (rest := []) S0 (c_X2_isSlot l a) gX2_whyNot_X2_isSlot rfl qX2_isSlot ⟨Nat.le_of_ble_eq_true rfl, Nat.le_of_ble_eq_true rfl⟩ ⟨Nat.le_of_ble_eq_true rfl, Nat.le_of_ble_eq_true rfl⟩ hl.1 rfl (Nat.le_of_ble_eq_true rfl) dX2_whyNot_1 ?_
  refine zb_eq (P := zSl a) (tgt := 21) hx hb dX2_whyNot_4 (by decide) (fun c_1 => ?_) (fun c_1 => ?_)
  · refine lv_bipush (v := -2) hx hb dX2_whyNot_21 (by decide) ?_
    exact io_iret S0 hr hlk hw dX2_whyNot_23 (congrArg (fun z => some (Value.int z)) (show mWhy a b to S = -2 from (by first | (simp [mWhy, eq_false c_1]; done) | (simp [mWhy, mso, mlo, mhi, mth, mwh, mas, mbs, mts, mst, mrf, met, msd, eq_false c_1]; done) | (simp [mWhy, mso, mlo, mhi, mth, mwh, mas, mbs, mts, mst, mrf, met, msd, c_1]; done) | contradiction | rfl))) (congrArg (mW ad cy) (show S = S from (by first | (simp [mWhy, eq_false c_1]; done) | (simp [mWhy, mso, mlo, mhi, mth, mwh, mas, mbs, mts, mst, mrf, met, msd, eq_false c_1]; done) | (simp [mWhy, mso, mlo, mhi, mth, mwh, mas, mbs, mts, mst, mrf, met, msd, c_1]; done) | contradiction | rfl)))
  · refine lv_iload_n hx hb dX2_whyNot_7 rfl (lv_at hl 2 rfl) ?_
    refine ps_call (rest := []) S0 (c_X2_isSlot l b) gX2_whyNot_X2_isSlot rfl qX2_isSlot ⟨Nat.le_of_ble_eq_true rfl, Nat.le_of_ble_eq_true rfl⟩ ⟨Nat.le_of_ble_eq_true rfl, Nat.le_of_ble_eq_true rfl⟩ hl.1 rfl (Nat.le_of_ble_eq_true rfl) dX2_whyNot_8 ?_
    refine zb_eq (P := zSl b) (tgt := 21) hx hb dX2_whyNot_11 (by decide) (fun c_2 => ?_) (fun c_2 => ?_)
    · refine lv_bipush (v := -2) hx hb dX2_whyNot_21 (by decide) ?_
      exact io_iret S0 hr hlk hw dX2_whyNot_23 (congrArg (fun z => some (Value.int z)) (show mWhy a b to S = -2 from (by first | (simp [mWhy, eq_true c_1, eq_false c_2]; done) | (simp [mWhy, mso, mlo, mhi, mth, mwh, mas, mbs, mts, mst, mrf, met, msd, eq_true c_1, eq_false c_2]; done) | (simp [mWhy, mso, mlo, mhi, mth, mwh, mas, mbs, mts, mst, mrf, met, msd, c_1, c_2]; done) | contradiction | rfl))) (congrArg (mW ad cy) (show S = S from (by first | (simp [mWhy, eq_true c_1, eq_false c_2]; done) | (simp [mWhy, mso, mlo, mhi, mth, mwh, mas, mbs, mts, mst, mrf, met, msd, eq_true c_1, eq_false c_2]; done) | (simp [mWhy, mso, mlo, mhi, mth, mwh, mas, mbs, mts, mst, mrf, met, msd, c_1, c_2]; done) | contradiction | rfl)))
    · refine lv_iload_n hx hb dX2_whyNot_14 rfl (lv_at hl 3 rfl) ?_
      refine ps_call (rest := []) S0 (c_X2_isSlot l to) gX2_whyNot_X2_isSlot rfl qX2_isSlot ⟨Nat.le_of_ble_eq_true rfl, Nat.le_of_ble_eq_true rfl⟩ ⟨Nat.le_of_ble_eq_true rfl, Nat.le_of_ble_eq_true rfl⟩ hl.1 rfl (Nat.le_of_ble_eq_true rfl) dX2_whyNot_15 ?_
      refine zb_ne (P := zSl to) (tgt := 24) hx hb dX2_whyNot_18 (by decide) (fun c_3 => ?_) (fun c_3 => ?_)
      · refine lv_aload_n hx hb dX2_whyNot_24 rfl (lv_at hl 0 rfl) ?_
        refine gd_get S0 hin hw rfl rfl 0 (by decide) (S0.2.2.2.2 (.fieldLink RX2 7 "StretchDeskModel" "sorts" "[I") (by decide +kernel)) rfl (v := .ref (ad 1)) rfl dX2_whyNot_25 ?_
        refine lv_iload_n hx hb dX2_whyNot_28 rfl (lv_at hl 1 rfl) ?_
        refine va_iald hx hb hw.2.2.1 hw.1 1 0 rfl rfl (zIn (by assumption)) dX2_whyNot_29 ?_
        refine lv_iconst (v := -1) hx hb dX2_whyNot_30 (by decide) ?_
        refine zc_eq (tgt := 44) hx hb dX2_whyNot_31 (by decide) (fun c_4 => ?_) (fun c_4 => ?_)
        · refine lv_bipush (v := -3) hx hb dX2_whyNot_44 (by decide) ?_
          refine lv_goto (tgt := 50) hx hb dX2_whyNot_46 (by decide) ?_
          exact io_iret S0 hr hlk hw dX2_whyNot_50 (congrArg (fun z => some (Value.int z)) (show mWhy a b to S = -3 from (by first | (simp [mWhy, eq_true c_1, eq_true c_2, eq_true c_3, if_pos c_4]; done) | (simp [mWhy, eq_true c_1, eq_true c_2, eq_true c_3, eq_true c_4]; done) | (simp [mWhy, mso, mlo, mhi, mth, mwh, mas, mbs, mts, mst, mrf, met, msd, eq_true c_1, eq_true c_2, eq_true c_3, eq_true c_4]; done) | (simp [mWhy, mso, mlo, mhi, mth, mwh, mas, mbs, mts, mst, mrf, met, msd, c_1, c_2, c_3, c_4]; done) | contradiction | rfl))) (congrArg (mW ad cy) (show S = S from (by first | (simp [mWhy, eq_true c_1, eq_true c_2, eq_true c_3, if_pos c_4]; done) | (simp [mWhy, eq_true c_1, eq_true c_2, eq_true c_3, eq_true c_4]; done) | (simp [mWhy, mso, mlo, mhi, mth, mwh, mas, mbs, mts, mst, mrf, met, msd, eq_true c_1, eq_true c_2, eq_true c_3, eq_true c_4]; done) | (simp [mWhy, mso, mlo, mhi, mth, mwh, mas, mbs, mts, mst, mrf, met, msd, c_1, c_2, c_3, c_4]; done) | contradiction | rfl)))
        · refine lv_aload_n hx hb dX2_whyNot_34 rfl (lv_at hl 0 rfl) ?_
          refine gd_get S0 hin hw rfl rfl 0 (by decide) (S0.2.2.2.2 (.fieldLink RX2 7 "StretchDeskModel" "sorts" "[I") (by decide +kernel)) rfl (v := .ref (ad 1)) rfl dX2_whyNot_35 ?_
          refine lv_iload_n hx hb dX2_whyNot_38 rfl (lv_at hl 2 rfl) ?_
          refine va_iald hx hb hw.2.2.1 hw.1 1 0 rfl rfl (zIn (by assumption)) dX2_whyNot_39 ?_
          refine lv_iconst (v := -1) hx hb dX2_whyNot_40 (by decide) ?_
          refine zc_ne (tgt := 49) hx hb dX2_whyNot_41 (by decide) (fun c_5 => ?_) (fun c_5 => ?_)
          · refine lv_iconst (v := 0) hx hb dX2_whyNot_49 (by decide) ?_
            exact io_iret S0 hr hlk hw dX2_whyNot_50 (congrArg (fun z => some (Value.int z)) (show mWhy a b to S = 0 from (by first | (simp [mWhy, eq_true c_1, eq_true c_2, eq_true c_3, eq_false c_4, eq_false c_5]; done) | (simp [mWhy, mso, mlo, mhi, mth, mwh, mas, mbs, mts, mst, mrf, met, msd, eq_true c_1, eq_true c_2, eq_true c_3, eq_false c_4, eq_false c_5]; done) | (simp [mWhy, mso, mlo, mhi, mth, mwh, mas, mbs, mts, mst, mrf, met, msd, c_1, c_2, c_3, c_4, c_5]; done) | contradiction | rfl))) (congrArg (mW ad cy) (show S = S from (by first | (simp [mWhy, eq_true c_1, eq_true c_2, eq_true c_3, eq_false c_4, eq_false c_5]; done) | (simp [mWhy, mso, mlo, mhi, mth, mwh, mas, mbs, mts, mst, mrf, met, msd, eq_true c_1, eq_true c_2, eq_true c_3, eq_false c_4, eq_false c_5]; done) | (simp [mWhy, mso, mlo, mhi, mth, mwh, mas, mbs, mts, mst, mrf, met, msd, c_1, c_2, c_3, c_4, c_5]; done) | contradiction | rfl)))
          · refine lv_bipush (v := -3) hx hb dX2_whyNot_44 (by decide) ?_
            refine lv_goto (tgt := 50) hx hb dX2_whyNot_46 (by decide) ?_
            exact io_iret S0 hr hlk hw dX2_whyNot_50 (congrArg (fun z => some (Value.int z)) (show mWhy a b to S = -3 from (by first | (simp [mWhy, eq_true c_1, eq_true c_2, eq_true c_3, eq_false c_4, if_pos c_5]; done) | (simp [mWhy, eq_true c_1, eq_true c_2, eq_true c_3, eq_false c_4, eq_true c_5]; done) | (simp [mWhy, mso, mlo, mhi, mth, mwh, mas, mbs, mts, mst, mrf, met, msd, eq_true c_1, eq_true c_2, eq_true c_3, eq_false c_4, eq_true c_5]; done) | (simp [mWhy, mso, mlo, mhi, mth, mwh, mas, mbs, mts, mst, mrf, met, msd, c_1, c_2, c_3, c_4, c_5]; done) | contradiction | rfl))) (congrArg (mW ad cy) (show S = S from (by first | (simp [mWhy, eq_true c_1, eq_true c_2, eq_true c_3, eq_false c_4, if_pos c_5]; done) | (simp [mWhy, eq_true c_1, eq_true c_2, eq_true c_3, eq_false c_4, eq_true c_5]; done) | (simp [mWhy, mso, mlo, mhi, mth, mwh, mas, mbs, mts, mst, mrf, met, msd, eq_true c_1, eq_true c_2, eq_true c_3, eq_false c_4, eq_true c_5]; done) | (simp [mWhy, mso, mlo, mhi, mth, mwh, mas, mbs, mts, mst, mrf, met, msd, c_1, c_2, c_3, c_4, c_5]; done) | contradiction | rfl)))
      · refine lv_bipush (v := -2) hx hb dX2_whyNot_21 (by decide) ?_
        exact io_iret S0 hr hlk hw dX2_whyNot_23 (congrArg (fun z => some (Value.int z)) (show mWhy a b to S = -2 from (by first | (simp [mWhy, eq_true c_1, eq_true c_2, eq_false c_3]; done) | (simp [mWhy, mso, mlo, mhi, mth, mwh, mas, mbs, mts, mst, mrf, met, msd, eq_true c_1, eq_true c_2, eq_false c_3]; done) | (simp [mWhy, mso, mlo, mhi, mth, mwh, mas, mbs, mts, mst, mrf, met, msd, c_1, c_2, c_3]; done) | contradiction | rfl))) (congrArg (mW ad cy) (show S = S from (by first | (simp [mWhy, eq_true c_1, eq_true c_2, eq_false c_3]; done) | (simp [mWhy, mso, mlo, mhi, mth, mwh, mas, mbs, mts, mst, mrf, met, msd, eq_true c_1, eq_true c_2, eq_false c_3]; done) | (simp [mWhy, mso, mlo, mhi, mth, mwh, mas, mbs, mts, mst, mrf, met, msd, c_1, c_2, c_3]; done) | contradiction | rfl)))
theorem qX2_comes : yX2_comes.cls = RX2 ∧ yX2_comes.cls ≠ "java/lang/invoke/MethodHandle" ∧ yX2_comes.cls ≠ "java/lang/invoke/VarHandle" ∧ (parseMethodDescriptor yX2_comes.desc).map (fun d => d.parameters.length) = some 4 := by decide +kernel
set_option maxHeartbeats 4000000 in
set_option maxRecDepth 100000 in
theorem c_X2_comes (l : Launch) (D : va_G) (ad : Nat → Nat) (cy : Nat → ClassId) (A : Nat → Prop) (S : MS) (to : Int32) (t : Int32) (u : Int64) (v : Int64) (h1 : zSl to) : OM l D (mT cy) A yX2_comes wsX2_comes 1 21 [.ref (ad 0), .int to, .int t, .long u, .long v] (mW ad cy S) (mW ad cy (mComes to t u v S)) (some (.int 1)) := by
  refine OM.of (cc := cX2_comes) (maxL := 7) (ret := some .int) (own := RX2) (by decide) rfl rfl (Nat.le_of_ble_eq_true rfl) ?_
  intro p e s m below meth c ls S0 hr hlk hl hw
  have hx := S0.1
  have hb := S0.2.1
  have hl : lv_has ls 7 [(0, .ref (ad 0)), (1, .int to), (2, .int t), (3, .long u), (5, .long v)] := hl
  have hin : ∀ w ∈ wsX20, w ∈ wsX2_comes := fun w h => List.mem_cons_of_mem _ (List.mem_append_right _ h)
  refine lv_aload_n hx hb dX2_comes_0 rfl (lv_at hl 0 rfl) ?_
  refine gd_get S0 hin hw rfl rfl 0 (by decide) (S0.2.2.2.2 (.fieldLink RX2 7 "StretchDeskModel" "sorts" "[I") (by decide +kernel)) rfl (v := .ref (ad 1)) rfl dX2_comes_1 ?_
  refine lv_iload_n hx hb dX2_comes_4 rfl (lv_at hl 1 rfl) ?_
  refine lv_iload_n hx hb dX2_comes_5 rfl (lv_at hl 2 rfl) ?_
  refine gd_iast (w1 := (mW ad cy (upd (mso S) (Int32.toNatClampNeg to) t, mlo S, mhi S, mth S, mwh S, mas S, mbs S, mts S, mst S, mrf S, met S, msd S))) (f := _) S0 hw 1 0 rfl rfl (zIn (by assumption)) rfl dX2_comes_6 (fun H locs hw => ?_)
  refine lv_aload_n hx hb dX2_comes_7 rfl (lv_at hl 0 rfl) ?_
  refine gd_get S0 hin hw rfl rfl 1 (by decide) (S0.2.2.2.2 (.fieldLink RX2 13 "StretchDeskModel" "lows" "[J") (by decide +kernel)) rfl (v := .ref (ad 2)) rfl dX2_comes_8 ?_
  refine lv_iload_n hx hb dX2_comes_11 rfl (lv_at hl 1 rfl) ?_
  refine lv_lload_n hx hb dX2_comes_12 rfl (lv_at hl 3 rfl) ?_
  refine gd_last (w1 := (mW ad cy (upd (mso S) (Int32.toNatClampNeg to) t, vp_updL (mlo S) (Int32.toNatClampNeg to) u, mhi S, mth S, mwh S, mas S, mbs S, mts S, mst S, mrf S, met S, msd S))) (f := _) S0 hw 2 1 rfl rfl (zIn (by assumption)) rfl dX2_comes_13 (fun H locs hw => ?_)
  refine lv_aload_n hx hb dX2_comes_14 rfl (lv_at hl 0 rfl) ?_
  refine gd_get S0 hin hw rfl rfl 2 (by decide) (S0.2.2.2.2 (.fieldLink RX2 17 "StretchDeskModel" "highs" "[J") (by decide +kernel)) rfl (v := .ref (ad 3)) rfl dX2_comes_15 ?_
  refine lv_iload_n hx hb dX2_comes_18 rfl (lv_at hl 1 rfl) ?_
  refine lv_lload hx hb dX2_comes_19 (lv_at hl 4 rfl) ?_
  refine gd_last (w1 := (mW ad cy (upd (mso S) (Int32.toNatClampNeg to) t, vp_updL (mlo S) (Int32.toNatClampNeg to) u, vp_updL (mhi S) (Int32.toNatClampNeg to) v, mth S, mwh S, mas S, mbs S, mts S, mst S, mrf S, met S, msd S))) (f := _) S0 hw 3 2 rfl rfl (zIn (by assumption)) rfl dX2_comes_21 (fun H locs hw => ?_)
  refine lv_aload_n hx hb dX2_comes_22 rfl (lv_at hl 0 rfl) ?_
  refine lv_iconst (v := 1) hx hb dX2_comes_23 (by decide) ?_
  refine io_call (rest := []) (w1 := (mW ad cy (mSays (upd (mso S) (Int32.toNatClampNeg to) t, vp_updL (mlo S) (Int32.toNatClampNeg to) u, vp_updL (mhi S) (Int32.toNatClampNeg to) v, mth S, mwh S, mas S, mbs S, mts S, mst S, mrf S, met S, msd S)))) S0 (c_X2_says l D ad cy A (upd (mso S) (Int32.toNatClampNeg to) t, vp_updL (mlo S) (Int32.toNatClampNeg to) u, vp_updL (mhi S) (Int32.toNatClampNeg to) v, mth S, mwh S, mas S, mbs S, mts S, mst S, mrf S, met S, msd S) 1) gX2_comes_X2_says hw rfl qX2_says ⟨Nat.le_of_ble_eq_true rfl, Nat.le_of_ble_eq_true rfl⟩ ⟨Nat.le_of_ble_eq_true rfl, Nat.le_of_ble_eq_true rfl⟩ rfl rfl rfl hl.1 rfl (Nat.le_of_ble_eq_true rfl) dX2_comes_24 (fun H locs hw => ?_)
  exact io_iret S0 hr hlk hw dX2_comes_27 (congrArg (fun z => some (Value.int z)) (show 1 = 1 from (by first | (simp [mComes, mPut]; done) | (simp [mComes, mPut, mso, mlo, mhi, mth, mwh, mas, mbs, mts, mst, mrf, met, msd]; done) | contradiction | rfl))) (congrArg (mW ad cy) (show mComes to t u v S = mSays (upd (mso S) (Int32.toNatClampNeg to) t, vp_updL (mlo S) (Int32.toNatClampNeg to) u, vp_updL (mhi S) (Int32.toNatClampNeg to) v, mth S, mwh S, mas S, mbs S, mts S, mst S, mrf S, met S, msd S) from (by first | (simp [mComes, mPut]; done) | (simp [mComes, mPut, mso, mlo, mhi, mth, mwh, mas, mbs, mts, mst, mrf, met, msd]; done) | contradiction | rfl)))
theorem qX2_ordered : yX2_ordered.cls = RX2 ∧ yX2_ordered.cls ≠ "java/lang/invoke/MethodHandle" ∧ yX2_ordered.cls ≠ "java/lang/invoke/VarHandle" ∧ (parseMethodDescriptor yX2_ordered.desc).map (fun d => d.parameters.length) = some 4 := by decide +kernel
set_option maxHeartbeats 4000000 in
set_option maxRecDepth 100000 in
theorem c_X2_ordered (l : Launch) (D : va_G) (ad : Nat → Nat) (cy : Nat → ClassId) (A : Nat → Prop) (S : MS) (to : Int32) (t : Int32) (u : Int64) (v : Int64) (h1 : zSl to) : OM l D (mT cy) A yX2_ordered wsX2_ordered 4 90 [.ref (ad 0), .int to, .int t, .long u, .long v] (mW ad cy S) (mW ad cy (mOrd to t u v S)) (some (.int 1)) := by
  refine OM.of (cc := cX2_ordered) (maxL := 7) (ret := some .int) (own := RX2) (by decide) rfl rfl (Nat.le_of_ble_eq_true rfl) ?_
  intro p e s m below meth c ls S0 hr hlk hl hw
  have hx := S0.1
  have hb := S0.2.1
  have hl : lv_has ls 7 [(0, .ref (ad 0)), (1, .int to), (2, .int t), (3, .long u), (5, .long v)] := hl
  refine lv_aload_n hx hb dX2_ordered_0 rfl (lv_at hl 0 rfl) ?_
  refine lv_iload_n hx hb dX2_ordered_1 rfl (lv_at hl 1 rfl) ?_
  refine lv_iload_n hx hb dX2_ordered_2 rfl (lv_at hl 2 rfl) ?_
  refine lv_iload_n hx hb dX2_ordered_3 rfl (lv_at hl 2 rfl) ?_
  refine lv_lload_n hx hb dX2_ordered_4 rfl (lv_at hl 3 rfl) ?_
  refine lv_lload hx hb dX2_ordered_5 (lv_at hl 4 rfl) ?_
  refine ps_call (rest := [.int t, .int to, .ref (ad 0)]) S0 (c_X2_lesser l t u v) gX2_ordered_X2_lesser rfl qX2_lesser ⟨Nat.le_of_ble_eq_true rfl, Nat.le_of_ble_eq_true rfl⟩ ⟨Nat.le_of_ble_eq_true rfl, Nat.le_of_ble_eq_true rfl⟩ hl.1 rfl (Nat.le_of_ble_eq_true rfl) dX2_ordered_7 ?_
  refine lv_iload_n hx hb dX2_ordered_10 rfl (lv_at hl 2 rfl) ?_
  refine lv_lload_n hx hb dX2_ordered_11 rfl (lv_at hl 3 rfl) ?_
  refine lv_lload hx hb dX2_ordered_12 (lv_at hl 4 rfl) ?_
  refine ps_call (rest := [.long (kLesser t u v), .int t, .int to, .ref (ad 0)]) S0 (c_X2_greater l t u v) gX2_ordered_X2_greater rfl qX2_greater ⟨Nat.le_of_ble_eq_true rfl, Nat.le_of_ble_eq_true rfl⟩ ⟨Nat.le_of_ble_eq_true rfl, Nat.le_of_ble_eq_true rfl⟩ hl.1 rfl (Nat.le_of_ble_eq_true rfl) dX2_ordered_14 ?_
  refine io_call (rest := []) (w1 := (mW ad cy (mComes to t (kLesser t u v) (kGreater t u v) S))) S0 (c_X2_comes l D ad cy A S to t (kLesser t u v) (kGreater t u v) (by assumption)) gX2_ordered_X2_comes hw rfl qX2_comes ⟨Nat.le_of_ble_eq_true rfl, Nat.le_of_ble_eq_true rfl⟩ ⟨Nat.le_of_ble_eq_true rfl, Nat.le_of_ble_eq_true rfl⟩ rfl rfl rfl hl.1 rfl (Nat.le_of_ble_eq_true rfl) dX2_ordered_17 (fun H locs hw => ?_)
  exact io_iret S0 hr hlk hw dX2_ordered_20 (congrArg (fun z => some (Value.int z)) (show 1 = 1 from (by first | (simp [mOrd]; done) | (simp [mOrd, mso, mlo, mhi, mth, mwh, mas, mbs, mts, mst, mrf, met, msd]; done) | contradiction | rfl))) (congrArg (mW ad cy) (show mOrd to t u v S = mComes to t (kLesser t u v) (kGreater t u v) S from (by first | (simp [mOrd]; done) | (simp [mOrd, mso, mlo, mhi, mth, mwh, mas, mbs, mts, mst, mrf, met, msd]; done) | contradiction | rfl)))
theorem qX2_emptied : yX2_emptied.cls = RX2 ∧ yX2_emptied.cls ≠ "java/lang/invoke/MethodHandle" ∧ yX2_emptied.cls ≠ "java/lang/invoke/VarHandle" ∧ (parseMethodDescriptor yX2_emptied.desc).map (fun d => d.parameters.length) = some 1 := by decide +kernel
set_option maxHeartbeats 4000000 in
set_option maxRecDepth 100000 in
theorem c_X2_emptied (l : Launch) (D : va_G) (ad : Nat → Nat) (cy : Nat → ClassId) (A : Nat → Prop) (S : MS) (to : Int32) (h1 : zSl to) : OM l D (mT cy) A yX2_emptied wsX2_emptied 1 21 [.ref (ad 0), .int to] (mW ad cy S) (mW ad cy (mEmpty to S)) (some (.int 0)) := by
  refine OM.of (cc := cX2_emptied) (maxL := 2) (ret := some .int) (own := RX2) (by decide) rfl rfl (Nat.le_of_ble_eq_true rfl) ?_
  intro p e s m below meth c ls S0 hr hlk hl hw
  have hx := S0.1
  have hb := S0.2.1
  have hl : lv_has ls 2 [(0, .ref (ad 0)), (1, .int to)] := hl
  have hin : ∀ w ∈ wsX20, w ∈ wsX2_emptied := fun w h => List.mem_cons_of_mem _ (List.mem_append_right _ h)
  refine lv_aload_n hx hb dX2_emptied_0 rfl (lv_at hl 0 rfl) ?_
  refine gd_get S0 hin hw rfl rfl 0 (by decide) (S0.2.2.2.2 (.fieldLink RX2 7 "StretchDeskModel" "sorts" "[I") (by decide +kernel)) rfl (v := .ref (ad 1)) rfl dX2_emptied_1 ?_
  refine lv_iload_n hx hb dX2_emptied_4 rfl (lv_at hl 1 rfl) ?_
  refine lv_iconst (v := -1) hx hb dX2_emptied_5 (by decide) ?_
  refine gd_iast (w1 := (mW ad cy (upd (mso S) (Int32.toNatClampNeg to) (-1), mlo S, mhi S, mth S, mwh S, mas S, mbs S, mts S, mst S, mrf S, met S, msd S))) (f := _) S0 hw 1 0 rfl rfl (zIn (by assumption)) rfl dX2_emptied_6 (fun H locs hw => ?_)
  refine lv_aload_n hx hb dX2_emptied_7 rfl (lv_at hl 0 rfl) ?_
  refine lv_iconst (v := 0) hx hb dX2_emptied_8 (by decide) ?_
  refine io_call (rest := []) (w1 := (mW ad cy (mSays (upd (mso S) (Int32.toNatClampNeg to) (-1), mlo S, mhi S, mth S, mwh S, mas S, mbs S, mts S, mst S, mrf S, met S, msd S)))) S0 (c_X2_says l D ad cy A (upd (mso S) (Int32.toNatClampNeg to) (-1), mlo S, mhi S, mth S, mwh S, mas S, mbs S, mts S, mst S, mrf S, met S, msd S) 0) gX2_emptied_X2_says hw rfl qX2_says ⟨Nat.le_of_ble_eq_true rfl, Nat.le_of_ble_eq_true rfl⟩ ⟨Nat.le_of_ble_eq_true rfl, Nat.le_of_ble_eq_true rfl⟩ rfl rfl rfl hl.1 rfl (Nat.le_of_ble_eq_true rfl) dX2_emptied_9 (fun H locs hw => ?_)
  exact io_iret S0 hr hlk hw dX2_emptied_12 (congrArg (fun z => some (Value.int z)) (show 0 = 0 from (by first | (simp [mEmpty, mVoid]; done) | (simp [mEmpty, mVoid, mso, mlo, mhi, mth, mwh, mas, mbs, mts, mst, mrf, met, msd]; done) | contradiction | rfl))) (congrArg (mW ad cy) (show mEmpty to S = mSays (upd (mso S) (Int32.toNatClampNeg to) (-1), mlo S, mhi S, mth S, mwh S, mas S, mbs S, mts S, mst S, mrf S, met S, msd S) from (by first | (simp [mEmpty, mVoid]; done) | (simp [mEmpty, mVoid, mso, mlo, mhi, mth, mwh, mas, mbs, mts, mst, mrf, met, msd]; done) | contradiction | rfl)))
theorem qX2_set : yX2_set.cls = RX2 ∧ yX2_set.cls ≠ "java/lang/invoke/MethodHandle" ∧ yX2_set.cls ≠ "java/lang/invoke/VarHandle" ∧ (parseMethodDescriptor yX2_set.desc).map (fun d => d.parameters.length) = some 4 := by decide +kernel
set_option maxHeartbeats 4000000 in
set_option maxRecDepth 100000 in
theorem c_X2_set (l : Launch) (D : va_G) (ad : Nat → Nat) (cy : Nat → ClassId) (A : Nat → Prop) (S : MS) (i : Int32) (t : Int32) (u : Int64) (v : Int64) : OM l D (mT cy) A yX2_set wsX2_set 3 66 [.ref (ad 0), .int i, .int t, .long u, .long v] (mW ad cy S) (mW ad cy ((mSet i t u v S).2)) (some (.int ((mSet i t u v S).1))) := by
  refine OM.of (cc := cX2_set) (maxL := 11) (ret := some .int) (own := RX2) (by decide) rfl rfl (Nat.le_of_ble_eq_true rfl) ?_
  intro p e s m below meth c ls S0 hr hlk hl hw
  have hx := S0.1
  have hb := S0.2.1
  have hl : lv_has ls 11 [(0, .ref (ad 0)), (1, .int i), (2, .int t), (3, .long u), (5, .long v)] := hl
  refine lv_iload_n hx hb dX2_set_0 rfl (lv_at hl 1 rfl) ?_
  refine ps_call (rest := []) S0 (c_X2_isSlot l i) gX2_set_X2_isSlot rfl qX2_isSlot ⟨Nat.le_of_ble_eq_true rfl, Nat.le_of_ble_eq_true rfl⟩ ⟨Nat.le_of_ble_eq_true rfl, Nat.le_of_ble_eq_true rfl⟩ hl.1 rfl (Nat.le_of_ble_eq_true rfl) dX2_set_1 ?_
  refine zb_ne (P := zSl i) (tgt := 14) hx hb dX2_set_4 (by decide) (fun c_1 => ?_) (fun c_1 => ?_)
  · refine lv_iload_n hx hb dX2_set_14 rfl (lv_at hl 2 rfl) ?_
    refine zi_lt (tgt := 23) hx hb dX2_set_15 (by decide) (fun c_2 => ?_) (fun c_2 => ?_)
    · refine lv_aload_n hx hb dX2_set_23 rfl (lv_at hl 0 rfl) ?_
      refine lv_bipush (v := -4) hx hb dX2_set_24 (by decide) ?_
      refine io_call (rest := []) (w1 := (mW ad cy (mRef (-4) S))) S0 (c_X2_refuses l D ad cy A S (-4)) gX2_set_X2_refuses hw rfl qX2_refuses ⟨Nat.le_of_ble_eq_true rfl, Nat.le_of_ble_eq_true rfl⟩ ⟨Nat.le_of_ble_eq_true rfl, Nat.le_of_ble_eq_true rfl⟩ rfl rfl rfl hl.1 rfl (Nat.le_of_ble_eq_true rfl) dX2_set_26 (fun H locs hw => ?_)
      exact io_iret S0 hr hlk hw dX2_set_29 (congrArg (fun z => some (Value.int z)) (show (mSet i t u v S).1 = (-4) from (by first | (simp [mSet, zSort, eq_true c_1, eq_true c_2]; done) | (simp [mSet, zSort, mso, mlo, mhi, mth, mwh, mas, mbs, mts, mst, mrf, met, msd, eq_true c_1, eq_true c_2]; done) | (simp [mSet, zSort, mso, mlo, mhi, mth, mwh, mas, mbs, mts, mst, mrf, met, msd, c_1, c_2]; done) | contradiction | rfl))) (congrArg (mW ad cy) (show (mSet i t u v S).2 = mRef (-4) S from (by first | (simp [mSet, zSort, eq_true c_1, eq_true c_2]; done) | (simp [mSet, zSort, mso, mlo, mhi, mth, mwh, mas, mbs, mts, mst, mrf, met, msd, eq_true c_1, eq_true c_2]; done) | (simp [mSet, zSort, mso, mlo, mhi, mth, mwh, mas, mbs, mts, mst, mrf, met, msd, c_1, c_2]; done) | contradiction | rfl)))
    · refine lv_iload_n hx hb dX2_set_18 rfl (lv_at hl 2 rfl) ?_
      refine lv_iconst (v := 3) hx hb dX2_set_19 (by decide) ?_
      refine zc_le (tgt := 30) hx hb dX2_set_20 (by decide) (fun c_3 => ?_) (fun c_3 => ?_)
      · refine lv_iload_n hx hb dX2_set_30 rfl (lv_at hl 2 rfl) ?_
        refine lv_lload_n hx hb dX2_set_31 rfl (lv_at hl 3 rfl) ?_
        refine ps_call (rest := []) S0 (c_X2_taken l t u) gX2_set_X2_taken rfl qX2_taken ⟨Nat.le_of_ble_eq_true rfl, Nat.le_of_ble_eq_true rfl⟩ ⟨Nat.le_of_ble_eq_true rfl, Nat.le_of_ble_eq_true rfl⟩ hl.1 rfl (Nat.le_of_ble_eq_true rfl) dX2_set_32 ?_
        refine lv_lstore (lv' := [(7, .long (nFit t u)), (0, .ref (ad 0)), (1, .int i), (2, .int t), (3, .long u), (5, .long v)]) hx hb dX2_set_35 hl (by decide) rfl (fun ls hl => ?_)
        refine lv_iload_n hx hb dX2_set_37 rfl (lv_at hl 3 rfl) ?_
        refine lv_lload hx hb dX2_set_38 (lv_at hl 5 rfl) ?_
        refine ps_call (rest := []) S0 (c_X2_taken l t v) gX2_set_X2_taken rfl qX2_taken ⟨Nat.le_of_ble_eq_true rfl, Nat.le_of_ble_eq_true rfl⟩ ⟨Nat.le_of_ble_eq_true rfl, Nat.le_of_ble_eq_true rfl⟩ hl.1 rfl (Nat.le_of_ble_eq_true rfl) dX2_set_40 ?_
        refine lv_lstore (lv' := [(9, .long (nFit t v)), (7, .long (nFit t u)), (0, .ref (ad 0)), (1, .int i), (2, .int t), (3, .long u), (5, .long v)]) hx hb dX2_set_43 hl (by decide) rfl (fun ls hl => ?_)
        refine lv_iload_n hx hb dX2_set_45 rfl (lv_at hl 4 rfl) ?_
        refine lv_lload hx hb dX2_set_46 (lv_at hl 1 rfl) ?_
        refine ps_call (rest := []) S0 (c_X2_isNumber l t (nFit t u)) gX2_set_X2_isNumber rfl qX2_isNumber ⟨Nat.le_of_ble_eq_true rfl, Nat.le_of_ble_eq_true rfl⟩ ⟨Nat.le_of_ble_eq_true rfl, Nat.le_of_ble_eq_true rfl⟩ hl.1 rfl (Nat.le_of_ble_eq_true rfl) dX2_set_48 ?_
        refine zb_eq (P := kNum t (nFit t u)) (tgt := 63) hx hb dX2_set_51 (by decide) (fun c_4 => ?_) (fun c_4 => ?_)
        · refine lv_aload_n hx hb dX2_set_63 rfl (lv_at hl 2 rfl) ?_
          refine lv_bipush (v := -4) hx hb dX2_set_64 (by decide) ?_
          refine io_call (rest := []) (w1 := (mW ad cy (mRef (-4) S))) S0 (c_X2_refuses l D ad cy A S (-4)) gX2_set_X2_refuses hw rfl qX2_refuses ⟨Nat.le_of_ble_eq_true rfl, Nat.le_of_ble_eq_true rfl⟩ ⟨Nat.le_of_ble_eq_true rfl, Nat.le_of_ble_eq_true rfl⟩ rfl rfl rfl hl.1 rfl (Nat.le_of_ble_eq_true rfl) dX2_set_66 (fun H locs hw => ?_)
          exact io_iret S0 hr hlk hw dX2_set_69 (congrArg (fun z => some (Value.int z)) (show (mSet i t u v S).1 = (-4) from (by first | (simp [mSet, zSort, eq_true c_1, eq_false c_2, eq_false c_3, eq_false c_4]; done) | (simp [mSet, zSort, mso, mlo, mhi, mth, mwh, mas, mbs, mts, mst, mrf, met, msd, eq_true c_1, eq_false c_2, eq_false c_3, eq_false c_4]; done) | (simp [mSet, zSort, mso, mlo, mhi, mth, mwh, mas, mbs, mts, mst, mrf, met, msd, c_1, c_2, c_3, c_4]; done) | contradiction | rfl))) (congrArg (mW ad cy) (show (mSet i t u v S).2 = mRef (-4) S from (by first | (simp [mSet, zSort, eq_true c_1, eq_false c_2, eq_false c_3, eq_false c_4]; done) | (simp [mSet, zSort, mso, mlo, mhi, mth, mwh, mas, mbs, mts, mst, mrf, met, msd, eq_true c_1, eq_false c_2, eq_false c_3, eq_false c_4]; done) | (simp [mSet, zSort, mso, mlo, mhi, mth, mwh, mas, mbs, mts, mst, mrf, met, msd, c_1, c_2, c_3, c_4]; done) | contradiction | rfl)))
        · refine lv_iload_n hx hb dX2_set_54 rfl (lv_at hl 4 rfl) ?_
          refine lv_lload hx hb dX2_set_55 (lv_at hl 0 rfl) ?_
          refine ps_call (rest := []) S0 (c_X2_isNumber l t (nFit t v)) gX2_set_X2_isNumber rfl qX2_isNumber ⟨Nat.le_of_ble_eq_true rfl, Nat.le_of_ble_eq_true rfl⟩ ⟨Nat.le_of_ble_eq_true rfl, Nat.le_of_ble_eq_true rfl⟩ hl.1 rfl (Nat.le_of_ble_eq_true rfl) dX2_set_57 ?_
          refine zb_ne (P := kNum t (nFit t v)) (tgt := 70) hx hb dX2_set_60 (by decide) (fun c_5 => ?_) (fun c_5 => ?_)
          · refine lv_iload_n hx hb dX2_set_70 rfl (lv_at hl 4 rfl) ?_
            refine lv_lload hx hb dX2_set_71 (lv_at hl 1 rfl) ?_
            refine lv_lload hx hb dX2_set_73 (lv_at hl 0 rfl) ?_
            refine ps_call (rest := []) S0 (c_X2_isAbove l t (nFit t u) (nFit t v)) gX2_set_X2_isAbove rfl qX2_isAbove ⟨Nat.le_of_ble_eq_true rfl, Nat.le_of_ble_eq_true rfl⟩ ⟨Nat.le_of_ble_eq_true rfl, Nat.le_of_ble_eq_true rfl⟩ hl.1 rfl (Nat.le_of_ble_eq_true rfl) dX2_set_75 ?_
            refine zb_eq (P := kAbove t (nFit t u) (nFit t v)) (tgt := 90) hx hb dX2_set_78 (by decide) (fun c_6 => ?_) (fun c_6 => ?_)
            · refine lv_aload_n hx hb dX2_set_90 rfl (lv_at hl 2 rfl) ?_
              refine lv_iload_n hx hb dX2_set_91 rfl (lv_at hl 3 rfl) ?_
              refine lv_iload_n hx hb dX2_set_92 rfl (lv_at hl 4 rfl) ?_
              refine lv_lload hx hb dX2_set_93 (lv_at hl 1 rfl) ?_
              refine lv_lload hx hb dX2_set_95 (lv_at hl 0 rfl) ?_
              refine io_call (rest := []) (w1 := (mW ad cy (mComes i t (nFit t u) (nFit t v) S))) S0 (c_X2_comes l D ad cy A S i t (nFit t u) (nFit t v) (by assumption)) gX2_set_X2_comes hw rfl qX2_comes ⟨Nat.le_of_ble_eq_true rfl, Nat.le_of_ble_eq_true rfl⟩ ⟨Nat.le_of_ble_eq_true rfl, Nat.le_of_ble_eq_true rfl⟩ rfl rfl rfl hl.1 rfl (Nat.le_of_ble_eq_true rfl) dX2_set_97 (fun H locs hw => ?_)
              exact io_iret S0 hr hlk hw dX2_set_100 (congrArg (fun z => some (Value.int z)) (show (mSet i t u v S).1 = 1 from (by first | (simp [mSet, zSort, eq_true c_1, eq_false c_2, eq_false c_3, eq_true c_4, eq_true c_5, eq_false c_6]; done) | (simp [mSet, zSort, mso, mlo, mhi, mth, mwh, mas, mbs, mts, mst, mrf, met, msd, eq_true c_1, eq_false c_2, eq_false c_3, eq_true c_4, eq_true c_5, eq_false c_6]; done) | (simp [mSet, zSort, mso, mlo, mhi, mth, mwh, mas, mbs, mts, mst, mrf, met, msd, c_1, c_2, c_3, c_4, c_5, c_6]; done) | contradiction | rfl))) (congrArg (mW ad cy) (show (mSet i t u v S).2 = mComes i t (nFit t u) (nFit t v) S from (by first | (simp [mSet, zSort, eq_true c_1, eq_false c_2, eq_false c_3, eq_true c_4, eq_true c_5, eq_false c_6]; done) | (simp [mSet, zSort, mso, mlo, mhi, mth, mwh, mas, mbs, mts, mst, mrf, met, msd, eq_true c_1, eq_false c_2, eq_false c_3, eq_true c_4, eq_true c_5, eq_false c_6]; done) | (simp [mSet, zSort, mso, mlo, mhi, mth, mwh, mas, mbs, mts, mst, mrf, met, msd, c_1, c_2, c_3, c_4, c_5, c_6]; done) | contradiction | rfl)))
            · refine lv_aload_n hx hb dX2_set_81 rfl (lv_at hl 2 rfl) ?_
              refine lv_bipush (v := -5) hx hb dX2_set_82 (by decide) ?_
              refine io_call (rest := []) (w1 := (mW ad cy (mRef (-5) S))) S0 (c_X2_refuses l D ad cy A S (-5)) gX2_set_X2_refuses hw rfl qX2_refuses ⟨Nat.le_of_ble_eq_true rfl, Nat.le_of_ble_eq_true rfl⟩ ⟨Nat.le_of_ble_eq_true rfl, Nat.le_of_ble_eq_true rfl⟩ rfl rfl rfl hl.1 rfl (Nat.le_of_ble_eq_true rfl) dX2_set_84 (fun H locs hw => ?_)
              refine lv_goto (tgt := 100) hx hb dX2_set_87 (by decide) ?_
              exact io_iret S0 hr hlk hw dX2_set_100 (congrArg (fun z => some (Value.int z)) (show (mSet i t u v S).1 = (-5) from (by first | (simp [mSet, zSort, eq_true c_1, eq_false c_2, eq_false c_3, eq_true c_4, eq_true c_5, eq_true c_6]; done) | (simp [mSet, zSort, mso, mlo, mhi, mth, mwh, mas, mbs, mts, mst, mrf, met, msd, eq_true c_1, eq_false c_2, eq_false c_3, eq_true c_4, eq_true c_5, eq_true c_6]; done) | (simp [mSet, zSort, mso, mlo, mhi, mth, mwh, mas, mbs, mts, mst, mrf, met, msd, c_1, c_2, c_3, c_4, c_5, c_6]; done) | contradiction | rfl))) (congrArg (mW ad cy) (show (mSet i t u v S).2 = mRef (-5) S from (by first | (simp [mSet, zSort, eq_true c_1, eq_false c_2, eq_false c_3, eq_true c_4, eq_true c_5, eq_true c_6]; done) | (simp [mSet, zSort, mso, mlo, mhi, mth, mwh, mas, mbs, mts, mst, mrf, met, msd, eq_true c_1, eq_false c_2, eq_false c_3, eq_true c_4, eq_true c_5, eq_true c_6]; done) | (simp [mSet, zSort, mso, mlo, mhi, mth, mwh, mas, mbs, mts, mst, mrf, met, msd, c_1, c_2, c_3, c_4, c_5, c_6]; done) | contradiction | rfl)))
          · refine lv_aload_n hx hb dX2_set_63 rfl (lv_at hl 2 rfl) ?_
            refine lv_bipush (v := -4) hx hb dX2_set_64 (by decide) ?_
            refine io_call (rest := []) (w1 := (mW ad cy (mRef (-4) S))) S0 (c_X2_refuses l D ad cy A S (-4)) gX2_set_X2_refuses hw rfl qX2_refuses ⟨Nat.le_of_ble_eq_true rfl, Nat.le_of_ble_eq_true rfl⟩ ⟨Nat.le_of_ble_eq_true rfl, Nat.le_of_ble_eq_true rfl⟩ rfl rfl rfl hl.1 rfl (Nat.le_of_ble_eq_true rfl) dX2_set_66 (fun H locs hw => ?_)
            exact io_iret S0 hr hlk hw dX2_set_69 (congrArg (fun z => some (Value.int z)) (show (mSet i t u v S).1 = (-4) from (by first | (simp [mSet, zSort, eq_true c_1, eq_false c_2, eq_false c_3, eq_true c_4, eq_false c_5]; done) | (simp [mSet, zSort, mso, mlo, mhi, mth, mwh, mas, mbs, mts, mst, mrf, met, msd, eq_true c_1, eq_false c_2, eq_false c_3, eq_true c_4, eq_false c_5]; done) | (simp [mSet, zSort, mso, mlo, mhi, mth, mwh, mas, mbs, mts, mst, mrf, met, msd, c_1, c_2, c_3, c_4, c_5]; done) | contradiction | rfl))) (congrArg (mW ad cy) (show (mSet i t u v S).2 = mRef (-4) S from (by first | (simp [mSet, zSort, eq_true c_1, eq_false c_2, eq_false c_3, eq_true c_4, eq_false c_5]; done) | (simp [mSet, zSort, mso, mlo, mhi, mth, mwh, mas, mbs, mts, mst, mrf, met, msd, eq_true c_1, eq_false c_2, eq_false c_3, eq_true c_4, eq_false c_5]; done) | (simp [mSet, zSort, mso, mlo, mhi, mth, mwh, mas, mbs, mts, mst, mrf, met, msd, c_1, c_2, c_3, c_4, c_5]; done) | contradiction | rfl)))
      · refine lv_aload_n hx hb dX2_set_23 rfl (lv_at hl 0 rfl) ?_
        refine lv_bipush (v := -4) hx hb dX2_set_24 (by decide) ?_
        refine io_call (rest := []) (w1 := (mW ad cy (mRef (-4) S))) S0 (c_X2_refuses l D ad cy A S (-4)) gX2_set_X2_refuses hw rfl qX2_refuses ⟨Nat.le_of_ble_eq_true rfl, Nat.le_of_ble_eq_true rfl⟩ ⟨Nat.le_of_ble_eq_true rfl, Nat.le_of_ble_eq_true rfl⟩ rfl rfl rfl hl.1 rfl (Nat.le_of_ble_eq_true rfl) dX2_set_26 (fun H locs hw => ?_)
        exact io_iret S0 hr hlk hw dX2_set_29 (congrArg (fun z => some (Value.int z)) (show (mSet i t u v S).1 = (-4) from (by first | (simp [mSet, zSort, eq_true c_1, eq_false c_2, eq_true c_3]; done) | (simp [mSet, zSort, mso, mlo, mhi, mth, mwh, mas, mbs, mts, mst, mrf, met, msd, eq_true c_1, eq_false c_2, eq_true c_3]; done) | (simp [mSet, zSort, mso, mlo, mhi, mth, mwh, mas, mbs, mts, mst, mrf, met, msd, c_1, c_2, c_3]; done) | contradiction | rfl))) (congrArg (mW ad cy) (show (mSet i t u v S).2 = mRef (-4) S from (by first | (simp [mSet, zSort, eq_true c_1, eq_false c_2, eq_true c_3]; done) | (simp [mSet, zSort, mso, mlo, mhi, mth, mwh, mas, mbs, mts, mst, mrf, met, msd, eq_true c_1, eq_false c_2, eq_true c_3]; done) | (simp [mSet, zSort, mso, mlo, mhi, mth, mwh, mas, mbs, mts, mst, mrf, met, msd, c_1, c_2, c_3]; done) | contradiction | rfl)))
  · refine lv_aload_n hx hb dX2_set_7 rfl (lv_at hl 0 rfl) ?_
    refine lv_bipush (v := -2) hx hb dX2_set_8 (by decide) ?_
    refine io_call (rest := []) (w1 := (mW ad cy (mRef (-2) S))) S0 (c_X2_refuses l D ad cy A S (-2)) gX2_set_X2_refuses hw rfl qX2_refuses ⟨Nat.le_of_ble_eq_true rfl, Nat.le_of_ble_eq_true rfl⟩ ⟨Nat.le_of_ble_eq_true rfl, Nat.le_of_ble_eq_true rfl⟩ rfl rfl rfl hl.1 rfl (Nat.le_of_ble_eq_true rfl) dX2_set_10 (fun H locs hw => ?_)
    exact io_iret S0 hr hlk hw dX2_set_13 (congrArg (fun z => some (Value.int z)) (show (mSet i t u v S).1 = (-2) from (by first | (simp [mSet, zSort, eq_false c_1]; done) | (simp [mSet, zSort, mso, mlo, mhi, mth, mwh, mas, mbs, mts, mst, mrf, met, msd, eq_false c_1]; done) | (simp [mSet, zSort, mso, mlo, mhi, mth, mwh, mas, mbs, mts, mst, mrf, met, msd, c_1]; done) | contradiction | rfl))) (congrArg (mW ad cy) (show (mSet i t u v S).2 = mRef (-2) S from (by first | (simp [mSet, zSort, eq_false c_1]; done) | (simp [mSet, zSort, mso, mlo, mhi, mth, mwh, mas, mbs, mts, mst, mrf, met, msd, eq_false c_1]; done) | (simp [mSet, zSort, mso, mlo, mhi, mth, mwh, mas, mbs, mts, mst, mrf, met, msd, c_1]; done) | contradiction | rfl)))
theorem qX2_clear : yX2_clear.cls = RX2 ∧ yX2_clear.cls ≠ "java/lang/invoke/MethodHandle" ∧ yX2_clear.cls ≠ "java/lang/invoke/VarHandle" ∧ (parseMethodDescriptor yX2_clear.desc).map (fun d => d.parameters.length) = some 1 := by decide +kernel
set_option maxHeartbeats 4000000 in
set_option maxRecDepth 100000 in
theorem c_X2_clear (l : Launch) (D : va_G) (ad : Nat → Nat) (cy : Nat → ClassId) (A : Nat → Prop) (S : MS) (i : Int32) : OM l D (mT cy) A yX2_clear wsX2_clear 1 21 [.ref (ad 0), .int i] (mW ad cy S) (mW ad cy ((mClear i S).2)) (some (.int ((mClear i S).1))) := by
  refine OM.of (cc := cX2_clear) (maxL := 3) (ret := some .int) (own := RX2) (by decide) rfl rfl (Nat.le_of_ble_eq_true rfl) ?_
  intro p e s m below meth c ls S0 hr hlk hl hw
  have hx := S0.1
  have hb := S0.2.1
  have hl : lv_has ls 3 [(0, .ref (ad 0)), (1, .int i)] := hl
  have hin : ∀ w ∈ wsX20, w ∈ wsX2_clear := fun w h => List.mem_cons_of_mem _ (List.mem_append_right _ h)
  refine lv_iload_n hx hb dX2_clear_0 rfl (lv_at hl 1 rfl) ?_
  refine ps_call (rest := []) S0 (c_X2_isSlot l i) gX2_clear_X2_isSlot rfl qX2_isSlot ⟨Nat.le_of_ble_eq_true rfl, Nat.le_of_ble_eq_true rfl⟩ ⟨Nat.le_of_ble_eq_true rfl, Nat.le_of_ble_eq_true rfl⟩ hl.1 rfl (Nat.le_of_ble_eq_true rfl) dX2_clear_1 ?_
  refine zb_ne (P := zSl i) (tgt := 14) hx hb dX2_clear_4 (by decide) (fun c_1 => ?_) (fun c_1 => ?_)
  · refine lv_aload_n hx hb dX2_clear_14 rfl (lv_at hl 0 rfl) ?_
    refine gd_get S0 hin hw rfl rfl 0 (by decide) (S0.2.2.2.2 (.fieldLink RX2 7 "StretchDeskModel" "sorts" "[I") (by decide +kernel)) rfl (v := .ref (ad 1)) rfl dX2_clear_15 ?_
    refine lv_iload_n hx hb dX2_clear_18 rfl (lv_at hl 1 rfl) ?_
    refine va_iald hx hb hw.2.2.1 hw.1 1 0 rfl rfl (zIn (by assumption)) dX2_clear_19 ?_
    refine lv_iconst (v := -1) hx hb dX2_clear_20 (by decide) ?_
    refine zc_ne (tgt := 28) hx hb dX2_clear_21 (by decide) (fun c_2 => ?_) (fun c_2 => ?_)
    · refine lv_iconst (v := 1) hx hb dX2_clear_28 (by decide) ?_
      refine lv_istore_n (lv' := [(2, .int 1), (0, .ref (ad 0)), (1, .int i)]) hx hb dX2_clear_29 rfl hl (by decide) rfl (fun ls hl => ?_)
      refine lv_aload_n hx hb dX2_clear_30 rfl (lv_at hl 1 rfl) ?_
      refine gd_get S0 hin hw rfl rfl 0 (by decide) (S0.2.2.2.2 (.fieldLink RX2 7 "StretchDeskModel" "sorts" "[I") (by decide +kernel)) rfl (v := .ref (ad 1)) rfl dX2_clear_31 ?_
      refine lv_iload_n hx hb dX2_clear_34 rfl (lv_at hl 2 rfl) ?_
      refine lv_iconst (v := -1) hx hb dX2_clear_35 (by decide) ?_
      refine gd_iast (w1 := (mW ad cy (upd (mso S) (Int32.toNatClampNeg i) (-1), mlo S, mhi S, mth S, mwh S, mas S, mbs S, mts S, mst S, mrf S, met S, msd S))) (f := _) S0 hw 1 0 rfl rfl (zIn (by assumption)) rfl dX2_clear_36 (fun H locs hw => ?_)
      refine lv_aload_n hx hb dX2_clear_37 rfl (lv_at hl 1 rfl) ?_
      refine lv_iload_n hx hb dX2_clear_38 rfl (lv_at hl 0 rfl) ?_
      refine io_call (rest := []) (w1 := (mW ad cy (mSays (upd (mso S) (Int32.toNatClampNeg i) (-1), mlo S, mhi S, mth S, mwh S, mas S, mbs S, mts S, mst S, mrf S, met S, msd S)))) S0 (c_X2_says l D ad cy A (upd (mso S) (Int32.toNatClampNeg i) (-1), mlo S, mhi S, mth S, mwh S, mas S, mbs S, mts S, mst S, mrf S, met S, msd S) 1) gX2_clear_X2_says hw rfl qX2_says ⟨Nat.le_of_ble_eq_true rfl, Nat.le_of_ble_eq_true rfl⟩ ⟨Nat.le_of_ble_eq_true rfl, Nat.le_of_ble_eq_true rfl⟩ rfl rfl rfl hl.1 rfl (Nat.le_of_ble_eq_true rfl) dX2_clear_39 (fun H locs hw => ?_)
      exact io_iret S0 hr hlk hw dX2_clear_42 (congrArg (fun z => some (Value.int z)) (show (mClear i S).1 = 1 from (by first | (simp [mClear, mVoid, eq_true c_1, eq_false c_2]; done) | (simp [mClear, mVoid, mso, mlo, mhi, mth, mwh, mas, mbs, mts, mst, mrf, met, msd, eq_true c_1, eq_false c_2]; done) | (simp [mClear, mVoid, mso, mlo, mhi, mth, mwh, mas, mbs, mts, mst, mrf, met, msd, c_1, c_2]; done) | contradiction | rfl))) (congrArg (mW ad cy) (show (mClear i S).2 = mSays (upd (mso S) (Int32.toNatClampNeg i) (-1), mlo S, mhi S, mth S, mwh S, mas S, mbs S, mts S, mst S, mrf S, met S, msd S) from (by first | (simp [mClear, mVoid, eq_true c_1, eq_false c_2]; done) | (simp [mClear, mVoid, mso, mlo, mhi, mth, mwh, mas, mbs, mts, mst, mrf, met, msd, eq_true c_1, eq_false c_2]; done) | (simp [mClear, mVoid, mso, mlo, mhi, mth, mwh, mas, mbs, mts, mst, mrf, met, msd, c_1, c_2]; done) | contradiction | rfl)))
    · refine lv_iconst (v := 0) hx hb dX2_clear_24 (by decide) ?_
      refine lv_goto (tgt := 29) hx hb dX2_clear_25 (by decide) ?_
      refine lv_istore_n (lv' := [(2, .int 0), (0, .ref (ad 0)), (1, .int i)]) hx hb dX2_clear_29 rfl hl (by decide) rfl (fun ls hl => ?_)
      refine lv_aload_n hx hb dX2_clear_30 rfl (lv_at hl 1 rfl) ?_
      refine gd_get S0 hin hw rfl rfl 0 (by decide) (S0.2.2.2.2 (.fieldLink RX2 7 "StretchDeskModel" "sorts" "[I") (by decide +kernel)) rfl (v := .ref (ad 1)) rfl dX2_clear_31 ?_
      refine lv_iload_n hx hb dX2_clear_34 rfl (lv_at hl 2 rfl) ?_
      refine lv_iconst (v := -1) hx hb dX2_clear_35 (by decide) ?_
      refine gd_iast (w1 := (mW ad cy (upd (mso S) (Int32.toNatClampNeg i) (-1), mlo S, mhi S, mth S, mwh S, mas S, mbs S, mts S, mst S, mrf S, met S, msd S))) (f := _) S0 hw 1 0 rfl rfl (zIn (by assumption)) rfl dX2_clear_36 (fun H locs hw => ?_)
      refine lv_aload_n hx hb dX2_clear_37 rfl (lv_at hl 1 rfl) ?_
      refine lv_iload_n hx hb dX2_clear_38 rfl (lv_at hl 0 rfl) ?_
      refine io_call (rest := []) (w1 := (mW ad cy (mSays (upd (mso S) (Int32.toNatClampNeg i) (-1), mlo S, mhi S, mth S, mwh S, mas S, mbs S, mts S, mst S, mrf S, met S, msd S)))) S0 (c_X2_says l D ad cy A (upd (mso S) (Int32.toNatClampNeg i) (-1), mlo S, mhi S, mth S, mwh S, mas S, mbs S, mts S, mst S, mrf S, met S, msd S) 0) gX2_clear_X2_says hw rfl qX2_says ⟨Nat.le_of_ble_eq_true rfl, Nat.le_of_ble_eq_true rfl⟩ ⟨Nat.le_of_ble_eq_true rfl, Nat.le_of_ble_eq_true rfl⟩ rfl rfl rfl hl.1 rfl (Nat.le_of_ble_eq_true rfl) dX2_clear_39 (fun H locs hw => ?_)
      exact io_iret S0 hr hlk hw dX2_clear_42 (congrArg (fun z => some (Value.int z)) (show (mClear i S).1 = 0 from (by first | (simp [mClear, mVoid, eq_true c_1, if_pos c_2]; done) | (simp [mClear, mVoid, eq_true c_1, eq_true c_2]; done) | (simp [mClear, mVoid, mso, mlo, mhi, mth, mwh, mas, mbs, mts, mst, mrf, met, msd, eq_true c_1, eq_true c_2]; done) | (simp [mClear, mVoid, mso, mlo, mhi, mth, mwh, mas, mbs, mts, mst, mrf, met, msd, c_1, c_2]; done) | contradiction | rfl))) (congrArg (mW ad cy) (show (mClear i S).2 = mSays (upd (mso S) (Int32.toNatClampNeg i) (-1), mlo S, mhi S, mth S, mwh S, mas S, mbs S, mts S, mst S, mrf S, met S, msd S) from (by first | (simp [mClear, mVoid, eq_true c_1, if_pos c_2]; done) | (simp [mClear, mVoid, eq_true c_1, eq_true c_2]; done) | (simp [mClear, mVoid, mso, mlo, mhi, mth, mwh, mas, mbs, mts, mst, mrf, met, msd, eq_true c_1, eq_true c_2]; done) | (simp [mClear, mVoid, mso, mlo, mhi, mth, mwh, mas, mbs, mts, mst, mrf, met, msd, c_1, c_2]; done) | contradiction | rfl)))
  · refine lv_aload_n hx hb dX2_clear_7 rfl (lv_at hl 0 rfl) ?_
    refine lv_bipush (v := -2) hx hb dX2_clear_8 (by decide) ?_
    refine io_call (rest := []) (w1 := (mW ad cy (mRef (-2) S))) S0 (c_X2_refuses l D ad cy A S (-2)) gX2_clear_X2_refuses hw rfl qX2_refuses ⟨Nat.le_of_ble_eq_true rfl, Nat.le_of_ble_eq_true rfl⟩ ⟨Nat.le_of_ble_eq_true rfl, Nat.le_of_ble_eq_true rfl⟩ rfl rfl rfl hl.1 rfl (Nat.le_of_ble_eq_true rfl) dX2_clear_10 (fun H locs hw => ?_)
    exact io_iret S0 hr hlk hw dX2_clear_13 (congrArg (fun z => some (Value.int z)) (show (mClear i S).1 = (-2) from (by first | (simp [mClear, mVoid, eq_false c_1]; done) | (simp [mClear, mVoid, mso, mlo, mhi, mth, mwh, mas, mbs, mts, mst, mrf, met, msd, eq_false c_1]; done) | (simp [mClear, mVoid, mso, mlo, mhi, mth, mwh, mas, mbs, mts, mst, mrf, met, msd, c_1]; done) | contradiction | rfl))) (congrArg (mW ad cy) (show (mClear i S).2 = mRef (-2) S from (by first | (simp [mClear, mVoid, eq_false c_1]; done) | (simp [mClear, mVoid, mso, mlo, mhi, mth, mwh, mas, mbs, mts, mst, mrf, met, msd, eq_false c_1]; done) | (simp [mClear, mVoid, mso, mlo, mhi, mth, mwh, mas, mbs, mts, mst, mrf, met, msd, c_1]; done) | contradiction | rfl)))
theorem qX2_sort : yX2_sort.cls = RX2 ∧ yX2_sort.cls ≠ "java/lang/invoke/MethodHandle" ∧ yX2_sort.cls ≠ "java/lang/invoke/VarHandle" ∧ (parseMethodDescriptor yX2_sort.desc).map (fun d => d.parameters.length) = some 1 := by decide +kernel
set_option maxHeartbeats 4000000 in
set_option maxRecDepth 100000 in
theorem c_X2_sort (l : Launch) (D : va_G) (ad : Nat → Nat) (cy : Nat → ClassId) (A : Nat → Prop) (S : MS) (i : Int32) : OM l D (mT cy) A yX2_sort wsX2_sort 2 43 [.ref (ad 0), .int i] (mW ad cy S) (mW ad cy ((mSort i S).2)) (some (.int ((mSort i S).1))) := by
  refine OM.of (cc := cX2_sort) (maxL := 3) (ret := some .int) (own := RX2) (by decide) rfl rfl (Nat.le_of_ble_eq_true rfl) ?_
  intro p e s m below meth c ls S0 hr hlk hl hw
  have hx := S0.1
  have hb := S0.2.1
  have hl : lv_has ls 3 [(0, .ref (ad 0)), (1, .int i)] := hl
  have hin : ∀ w ∈ wsX20, w ∈ wsX2_sort := fun w h => List.mem_cons_of_mem _ (List.mem_append_right _ h)
  refine lv_aload_n hx hb dX2_sort_0 rfl (lv_at hl 0 rfl) ?_
  refine lv_iload_n hx hb dX2_sort_1 rfl (lv_at hl 1 rfl) ?_
  refine lv_iload_n hx hb dX2_sort_2 rfl (lv_at hl 1 rfl) ?_
  refine lv_iload_n hx hb dX2_sort_3 rfl (lv_at hl 1 rfl) ?_
  refine io_call (rest := []) (w1 := (mW ad cy S)) S0 (c_X2_whyNot l D ad cy A S i i i) gX2_sort_X2_whyNot hw rfl qX2_whyNot ⟨Nat.le_of_ble_eq_true rfl, Nat.le_of_ble_eq_true rfl⟩ ⟨Nat.le_of_ble_eq_true rfl, Nat.le_of_ble_eq_true rfl⟩ rfl rfl rfl hl.1 rfl (Nat.le_of_ble_eq_true rfl) dX2_sort_4 (fun H locs hw => ?_)
  rcases mWhy_cases i i i S with hq | hq | ⟨hq, hs1, hs2, hs3⟩
  · rw [hq]
    refine lv_istore_n (lv' := [(2, .int (-2)), (0, .ref (ad 0)), (1, .int i)]) hx hb dX2_sort_7 rfl hl (by decide) rfl (fun ls hl => ?_)
    refine lv_iload_n hx hb dX2_sort_8 rfl (lv_at hl 0 rfl) ?_
    refine zi_ge (tgt := 20) hx hb dX2_sort_9 (by decide) (fun q => absurd (by decide) q) (fun _ => ?_)
    refine lv_aload_n hx hb dX2_sort_12 rfl (lv_at hl 1 rfl) ?_
    refine lv_iload_n hx hb dX2_sort_13 rfl (lv_at hl 0 rfl) ?_
    refine io_call (rest := []) (w1 := (mW ad cy (mRef (-2) S))) S0 (c_X2_refuses l D ad cy A S (-2)) gX2_sort_X2_refuses hw rfl qX2_refuses ⟨Nat.le_of_ble_eq_true rfl, Nat.le_of_ble_eq_true rfl⟩ ⟨Nat.le_of_ble_eq_true rfl, Nat.le_of_ble_eq_true rfl⟩ rfl rfl rfl hl.1 rfl (Nat.le_of_ble_eq_true rfl) dX2_sort_14 (fun H locs hw => ?_)
    refine lv_goto (tgt := 30) hx hb dX2_sort_17 (by decide) ?_
    exact io_iret S0 hr hlk hw dX2_sort_30 (congrArg (fun z => some (Value.int z)) (show (mSort i S).1 = (-2) from (by first | (simp [mSort, zd1, zd2, zd3, zd4, zd5, zd6, hq]; done) | (simp [mSort, zd1, zd2, zd3, zd4, zd5, zd6, eq_true hq]; done) | (simp [mSort, zd1, zd2, zd3, zd4, zd5, zd6, mso, mlo, mhi, mth, mwh, mas, mbs, mts, mst, mrf, met, msd, eq_true hq]; done) | (simp [mSort, zd1, zd2, zd3, zd4, zd5, zd6, mso, mlo, mhi, mth, mwh, mas, mbs, mts, mst, mrf, met, msd, hq]; done) | contradiction | rfl))) (congrArg (mW ad cy) (show (mSort i S).2 = mRef (-2) S from (by first | (simp [mSort, zd1, zd2, zd3, zd4, zd5, zd6, hq]; done) | (simp [mSort, zd1, zd2, zd3, zd4, zd5, zd6, eq_true hq]; done) | (simp [mSort, zd1, zd2, zd3, zd4, zd5, zd6, mso, mlo, mhi, mth, mwh, mas, mbs, mts, mst, mrf, met, msd, eq_true hq]; done) | (simp [mSort, zd1, zd2, zd3, zd4, zd5, zd6, mso, mlo, mhi, mth, mwh, mas, mbs, mts, mst, mrf, met, msd, hq]; done) | contradiction | rfl)))
  · rw [hq]
    refine lv_istore_n (lv' := [(2, .int (-3)), (0, .ref (ad 0)), (1, .int i)]) hx hb dX2_sort_7 rfl hl (by decide) rfl (fun ls hl => ?_)
    refine lv_iload_n hx hb dX2_sort_8 rfl (lv_at hl 0 rfl) ?_
    refine zi_ge (tgt := 20) hx hb dX2_sort_9 (by decide) (fun q => absurd (by decide) q) (fun _ => ?_)
    refine lv_aload_n hx hb dX2_sort_12 rfl (lv_at hl 1 rfl) ?_
    refine lv_iload_n hx hb dX2_sort_13 rfl (lv_at hl 0 rfl) ?_
    refine io_call (rest := []) (w1 := (mW ad cy (mRef (-3) S))) S0 (c_X2_refuses l D ad cy A S (-3)) gX2_sort_X2_refuses hw rfl qX2_refuses ⟨Nat.le_of_ble_eq_true rfl, Nat.le_of_ble_eq_true rfl⟩ ⟨Nat.le_of_ble_eq_true rfl, Nat.le_of_ble_eq_true rfl⟩ rfl rfl rfl hl.1 rfl (Nat.le_of_ble_eq_true rfl) dX2_sort_14 (fun H locs hw => ?_)
    refine lv_goto (tgt := 30) hx hb dX2_sort_17 (by decide) ?_
    exact io_iret S0 hr hlk hw dX2_sort_30 (congrArg (fun z => some (Value.int z)) (show (mSort i S).1 = (-3) from (by first | (simp [mSort, zd1, zd2, zd3, zd4, zd5, zd6, hq]; done) | (simp [mSort, zd1, zd2, zd3, zd4, zd5, zd6, eq_true hq]; done) | (simp [mSort, zd1, zd2, zd3, zd4, zd5, zd6, mso, mlo, mhi, mth, mwh, mas, mbs, mts, mst, mrf, met, msd, eq_true hq]; done) | (simp [mSort, zd1, zd2, zd3, zd4, zd5, zd6, mso, mlo, mhi, mth, mwh, mas, mbs, mts, mst, mrf, met, msd, hq]; done) | contradiction | rfl))) (congrArg (mW ad cy) (show (mSort i S).2 = mRef (-3) S from (by first | (simp [mSort, zd1, zd2, zd3, zd4, zd5, zd6, hq]; done) | (simp [mSort, zd1, zd2, zd3, zd4, zd5, zd6, eq_true hq]; done) | (simp [mSort, zd1, zd2, zd3, zd4, zd5, zd6, mso, mlo, mhi, mth, mwh, mas, mbs, mts, mst, mrf, met, msd, eq_true hq]; done) | (simp [mSort, zd1, zd2, zd3, zd4, zd5, zd6, mso, mlo, mhi, mth, mwh, mas, mbs, mts, mst, mrf, met, msd, hq]; done) | contradiction | rfl)))
  · rw [hq]
    refine lv_istore_n (lv' := [(2, .int 0), (0, .ref (ad 0)), (1, .int i)]) hx hb dX2_sort_7 rfl hl (by decide) rfl (fun ls hl => ?_)
    refine lv_iload_n hx hb dX2_sort_8 rfl (lv_at hl 0 rfl) ?_
    refine zi_ge (tgt := 20) hx hb dX2_sort_9 (by decide) (fun _ => ?_) (fun q => absurd q (by decide))
    refine lv_aload_n hx hb dX2_sort_20 rfl (lv_at hl 1 rfl) ?_
    refine lv_aload_n hx hb dX2_sort_21 rfl (lv_at hl 1 rfl) ?_
    refine gd_get S0 hin hw rfl rfl 0 (by decide) (S0.2.2.2.2 (.fieldLink RX2 7 "StretchDeskModel" "sorts" "[I") (by decide +kernel)) rfl (v := .ref (ad 1)) rfl dX2_sort_22 ?_
    refine lv_iload_n hx hb dX2_sort_25 rfl (lv_at hl 2 rfl) ?_
    refine va_iald hx hb hw.2.2.1 hw.1 1 0 rfl rfl (zIn (by assumption)) dX2_sort_26 ?_
    refine io_call (rest := []) (w1 := (mW ad cy (mSays S))) S0 (c_X2_says l D ad cy A S (ixI (mso S) i)) gX2_sort_X2_says hw rfl qX2_says ⟨Nat.le_of_ble_eq_true rfl, Nat.le_of_ble_eq_true rfl⟩ ⟨Nat.le_of_ble_eq_true rfl, Nat.le_of_ble_eq_true rfl⟩ rfl rfl rfl hl.1 rfl (Nat.le_of_ble_eq_true rfl) dX2_sort_27 (fun H locs hw => ?_)
    exact io_iret S0 hr hlk hw dX2_sort_30 (congrArg (fun z => some (Value.int z)) (show (mSort i S).1 = (ixI (mso S) i) from (by first | (simp [mSort, zd1, zd2, zd3, zd4, zd5, zd6, hq]; done) | (simp [mSort, zd1, zd2, zd3, zd4, zd5, zd6, eq_true hq]; done) | (simp [mSort, zd1, zd2, zd3, zd4, zd5, zd6, mso, mlo, mhi, mth, mwh, mas, mbs, mts, mst, mrf, met, msd, eq_true hq]; done) | (simp [mSort, zd1, zd2, zd3, zd4, zd5, zd6, mso, mlo, mhi, mth, mwh, mas, mbs, mts, mst, mrf, met, msd, hq]; done) | contradiction | rfl))) (congrArg (mW ad cy) (show (mSort i S).2 = mSays S from (by first | (simp [mSort, zd1, zd2, zd3, zd4, zd5, zd6, hq]; done) | (simp [mSort, zd1, zd2, zd3, zd4, zd5, zd6, eq_true hq]; done) | (simp [mSort, zd1, zd2, zd3, zd4, zd5, zd6, mso, mlo, mhi, mth, mwh, mas, mbs, mts, mst, mrf, met, msd, eq_true hq]; done) | (simp [mSort, zd1, zd2, zd3, zd4, zd5, zd6, mso, mlo, mhi, mth, mwh, mas, mbs, mts, mst, mrf, met, msd, hq]; done) | contradiction | rfl)))
theorem qX2_end : yX2_end.cls = RX2 ∧ yX2_end.cls ≠ "java/lang/invoke/MethodHandle" ∧ yX2_end.cls ≠ "java/lang/invoke/VarHandle" ∧ (parseMethodDescriptor yX2_end.desc).map (fun d => d.parameters.length) = some 2 := by decide +kernel
set_option maxHeartbeats 4000000 in
set_option maxRecDepth 100000 in
theorem c_X2_end (l : Launch) (D : va_G) (ad : Nat → Nat) (cy : Nat → ClassId) (A : Nat → Prop) (S : MS) (i : Int32) (hi : Int32) : OM l D (mT cy) A yX2_end wsX2_end 2 43 [.ref (ad 0), .int i, .int hi] (mW ad cy S) (mW ad cy ((mEnd i hi S).2)) (some (.long ((mEnd i hi S).1))) := by
  refine OM.of (cc := cX2_end) (maxL := 4) (ret := some .long) (own := RX2) (by decide) rfl rfl (Nat.le_of_ble_eq_true rfl) ?_
  intro p e s m below meth c ls S0 hr hlk hl hw
  have hx := S0.1
  have hb := S0.2.1
  have hl : lv_has ls 4 [(0, .ref (ad 0)), (1, .int i), (2, .int hi)] := hl
  have hin : ∀ w ∈ wsX20, w ∈ wsX2_end := fun w h => List.mem_cons_of_mem _ (List.mem_append_right _ h)
  refine lv_aload_n hx hb dX2_end_0 rfl (lv_at hl 0 rfl) ?_
  refine lv_iload_n hx hb dX2_end_1 rfl (lv_at hl 1 rfl) ?_
  refine lv_iload_n hx hb dX2_end_2 rfl (lv_at hl 1 rfl) ?_
  refine lv_iload_n hx hb dX2_end_3 rfl (lv_at hl 1 rfl) ?_
  refine io_call (rest := []) (w1 := (mW ad cy S)) S0 (c_X2_whyNot l D ad cy A S i i i) gX2_end_X2_whyNot hw rfl qX2_whyNot ⟨Nat.le_of_ble_eq_true rfl, Nat.le_of_ble_eq_true rfl⟩ ⟨Nat.le_of_ble_eq_true rfl, Nat.le_of_ble_eq_true rfl⟩ rfl rfl rfl hl.1 rfl (Nat.le_of_ble_eq_true rfl) dX2_end_4 (fun H locs hw => ?_)
  rcases mWhy_cases i i i S with hq | hq | ⟨hq, hs1, hs2, hs3⟩
  · rw [hq]
    refine lv_istore_n (lv' := [(3, .int (-2)), (0, .ref (ad 0)), (1, .int i), (2, .int hi)]) hx hb dX2_end_7 rfl hl (by decide) rfl (fun ls hl => ?_)
    refine lv_iload_n hx hb dX2_end_8 rfl (lv_at hl 0 rfl) ?_
    refine zi_ge (tgt := 20) hx hb dX2_end_9 (by decide) (fun q => absurd (by decide) q) (fun _ => ?_)
    refine lv_aload_n hx hb dX2_end_12 rfl (lv_at hl 1 rfl) ?_
    refine lv_iload_n hx hb dX2_end_13 rfl (lv_at hl 0 rfl) ?_
    refine io_call (rest := []) (w1 := (mW ad cy (mRef (-2) S))) S0 (c_X2_refuses l D ad cy A S (-2)) gX2_end_X2_refuses hw rfl qX2_refuses ⟨Nat.le_of_ble_eq_true rfl, Nat.le_of_ble_eq_true rfl⟩ ⟨Nat.le_of_ble_eq_true rfl, Nat.le_of_ble_eq_true rfl⟩ rfl rfl rfl hl.1 rfl (Nat.le_of_ble_eq_true rfl) dX2_end_14 (fun H locs hw => ?_)
    refine lv_istore_n (lv' := [(3, .int (-2)), (0, .ref (ad 0)), (1, .int i), (2, .int hi)]) hx hb dX2_end_17 rfl hl (by decide) rfl (fun ls hl => ?_)
    refine lv_lconst (v := 0) hx hb dX2_end_18 (by decide) ?_
    exact io_lret S0 hr hlk hw dX2_end_19 (congrArg (fun z => some (Value.long z)) (show (mEnd i hi S).1 = 0 from (by first | (simp [mEnd, mTold, zd1, zd2, zd3, zd4, zd5, zd6, hq]; done) | (simp [mEnd, mTold, zd1, zd2, zd3, zd4, zd5, zd6, eq_true hq]; done) | (simp [mEnd, mTold, zd1, zd2, zd3, zd4, zd5, zd6, mso, mlo, mhi, mth, mwh, mas, mbs, mts, mst, mrf, met, msd, eq_true hq]; done) | (simp [mEnd, mTold, zd1, zd2, zd3, zd4, zd5, zd6, mso, mlo, mhi, mth, mwh, mas, mbs, mts, mst, mrf, met, msd, hq]; done) | contradiction | rfl))) (congrArg (mW ad cy) (show (mEnd i hi S).2 = mRef (-2) S from (by first | (simp [mEnd, mTold, zd1, zd2, zd3, zd4, zd5, zd6, hq]; done) | (simp [mEnd, mTold, zd1, zd2, zd3, zd4, zd5, zd6, eq_true hq]; done) | (simp [mEnd, mTold, zd1, zd2, zd3, zd4, zd5, zd6, mso, mlo, mhi, mth, mwh, mas, mbs, mts, mst, mrf, met, msd, eq_true hq]; done) | (simp [mEnd, mTold, zd1, zd2, zd3, zd4, zd5, zd6, mso, mlo, mhi, mth, mwh, mas, mbs, mts, mst, mrf, met, msd, hq]; done) | contradiction | rfl)))
  · rw [hq]
    refine lv_istore_n (lv' := [(3, .int (-3)), (0, .ref (ad 0)), (1, .int i), (2, .int hi)]) hx hb dX2_end_7 rfl hl (by decide) rfl (fun ls hl => ?_)
    refine lv_iload_n hx hb dX2_end_8 rfl (lv_at hl 0 rfl) ?_
    refine zi_ge (tgt := 20) hx hb dX2_end_9 (by decide) (fun q => absurd (by decide) q) (fun _ => ?_)
    refine lv_aload_n hx hb dX2_end_12 rfl (lv_at hl 1 rfl) ?_
    refine lv_iload_n hx hb dX2_end_13 rfl (lv_at hl 0 rfl) ?_
    refine io_call (rest := []) (w1 := (mW ad cy (mRef (-3) S))) S0 (c_X2_refuses l D ad cy A S (-3)) gX2_end_X2_refuses hw rfl qX2_refuses ⟨Nat.le_of_ble_eq_true rfl, Nat.le_of_ble_eq_true rfl⟩ ⟨Nat.le_of_ble_eq_true rfl, Nat.le_of_ble_eq_true rfl⟩ rfl rfl rfl hl.1 rfl (Nat.le_of_ble_eq_true rfl) dX2_end_14 (fun H locs hw => ?_)
    refine lv_istore_n (lv' := [(3, .int (-3)), (0, .ref (ad 0)), (1, .int i), (2, .int hi)]) hx hb dX2_end_17 rfl hl (by decide) rfl (fun ls hl => ?_)
    refine lv_lconst (v := 0) hx hb dX2_end_18 (by decide) ?_
    exact io_lret S0 hr hlk hw dX2_end_19 (congrArg (fun z => some (Value.long z)) (show (mEnd i hi S).1 = 0 from (by first | (simp [mEnd, mTold, zd1, zd2, zd3, zd4, zd5, zd6, hq]; done) | (simp [mEnd, mTold, zd1, zd2, zd3, zd4, zd5, zd6, eq_true hq]; done) | (simp [mEnd, mTold, zd1, zd2, zd3, zd4, zd5, zd6, mso, mlo, mhi, mth, mwh, mas, mbs, mts, mst, mrf, met, msd, eq_true hq]; done) | (simp [mEnd, mTold, zd1, zd2, zd3, zd4, zd5, zd6, mso, mlo, mhi, mth, mwh, mas, mbs, mts, mst, mrf, met, msd, hq]; done) | contradiction | rfl))) (congrArg (mW ad cy) (show (mEnd i hi S).2 = mRef (-3) S from (by first | (simp [mEnd, mTold, zd1, zd2, zd3, zd4, zd5, zd6, hq]; done) | (simp [mEnd, mTold, zd1, zd2, zd3, zd4, zd5, zd6, eq_true hq]; done) | (simp [mEnd, mTold, zd1, zd2, zd3, zd4, zd5, zd6, mso, mlo, mhi, mth, mwh, mas, mbs, mts, mst, mrf, met, msd, eq_true hq]; done) | (simp [mEnd, mTold, zd1, zd2, zd3, zd4, zd5, zd6, mso, mlo, mhi, mth, mwh, mas, mbs, mts, mst, mrf, met, msd, hq]; done) | contradiction | rfl)))
  · rw [hq]
    refine lv_istore_n (lv' := [(3, .int 0), (0, .ref (ad 0)), (1, .int i), (2, .int hi)]) hx hb dX2_end_7 rfl hl (by decide) rfl (fun ls hl => ?_)
    refine lv_iload_n hx hb dX2_end_8 rfl (lv_at hl 0 rfl) ?_
    refine zi_ge (tgt := 20) hx hb dX2_end_9 (by decide) (fun _ => ?_) (fun q => absurd q (by decide))
    refine lv_aload_n hx hb dX2_end_20 rfl (lv_at hl 1 rfl) ?_
    refine lv_iconst (v := 0) hx hb dX2_end_21 (by decide) ?_
    refine gd_put (w1 := (mW ad cy (mso S, mlo S, mhi S, mth S, mwh S, mas S, mbs S, mts S, 0, mrf S, met S, msd S))) S0 hin tyX2 tyX2_ok nmX2 hw rfl rfl 8 (by decide) (S0.2.2.2.2 (.fieldLink RX2 36 "StretchDeskModel" "state" "I") (by decide +kernel)) rfl rfl (by decide +kernel) (Nat.le_of_ble_eq_true rfl) rfl dX2_end_22 (fun H locs hw => ?_)
    refine lv_aload_n hx hb dX2_end_25 rfl (lv_at hl 1 rfl) ?_
    refine lv_dup hx hb dX2_end_26 rfl ?_
    refine gd_get S0 hin hw rfl rfl 10 (by decide) (S0.2.2.2.2 (.fieldLink RX2 139 "StretchDeskModel" "told" "I") (by decide +kernel)) rfl (v := .int (met S)) rfl dX2_end_27 ?_
    refine lv_iconst (v := 1) hx hb dX2_end_30 (by decide) ?_
    refine lv_iadd hx hb dX2_end_31 ?_
    refine gd_put (w1 := (mW ad cy (mso S, mlo S, mhi S, mth S, mwh S, mas S, mbs S, mts S, 0, mrf S, (met S) + 1, msd S))) S0 hin tyX2 tyX2_ok nmX2 hw rfl rfl 10 (by decide) (S0.2.2.2.2 (.fieldLink RX2 139 "StretchDeskModel" "told" "I") (by decide +kernel)) rfl rfl (by decide +kernel) (Nat.le_of_ble_eq_true rfl) rfl dX2_end_32 (fun H locs hw => ?_)
    refine lv_iload_n hx hb dX2_end_35 rfl (lv_at hl 3 rfl) ?_
    refine zi_eq (tgt := 48) hx hb dX2_end_36 (by decide) (fun c_1 => ?_) (fun c_1 => ?_)
    · refine lv_aload_n hx hb dX2_end_48 rfl (lv_at hl 1 rfl) ?_
      refine gd_get S0 hin hw rfl rfl 1 (by decide) (S0.2.2.2.2 (.fieldLink RX2 13 "StretchDeskModel" "lows" "[J") (by decide +kernel)) rfl (v := .ref (ad 2)) rfl dX2_end_49 ?_
      refine lv_iload_n hx hb dX2_end_52 rfl (lv_at hl 2 rfl) ?_
      refine va_lald hx hb hw.2.2.1 hw.1 2 1 rfl rfl (zIn (by assumption)) dX2_end_53 ?_
      exact io_lret S0 hr hlk hw dX2_end_54 (congrArg (fun z => some (Value.long z)) (show (mEnd i hi S).1 = ixL (mlo S) i from (by first | (simp [mEnd, mTold, zd1, zd2, zd3, zd4, zd5, zd6, hq, if_pos c_1]; done) | (simp [mEnd, mTold, zd1, zd2, zd3, zd4, zd5, zd6, eq_true hq, eq_true c_1]; done) | (simp [mEnd, mTold, zd1, zd2, zd3, zd4, zd5, zd6, mso, mlo, mhi, mth, mwh, mas, mbs, mts, mst, mrf, met, msd, eq_true hq, eq_true c_1]; done) | (simp [mEnd, mTold, zd1, zd2, zd3, zd4, zd5, zd6, mso, mlo, mhi, mth, mwh, mas, mbs, mts, mst, mrf, met, msd, hq, c_1]; done) | contradiction | rfl))) (congrArg (mW ad cy) (show (mEnd i hi S).2 = (mso S, mlo S, mhi S, mth S, mwh S, mas S, mbs S, mts S, 0, mrf S, (met S) + 1, msd S) from (by first | (simp [mEnd, mTold, zd1, zd2, zd3, zd4, zd5, zd6, hq, if_pos c_1]; done) | (simp [mEnd, mTold, zd1, zd2, zd3, zd4, zd5, zd6, eq_true hq, eq_true c_1]; done) | (simp [mEnd, mTold, zd1, zd2, zd3, zd4, zd5, zd6, mso, mlo, mhi, mth, mwh, mas, mbs, mts, mst, mrf, met, msd, eq_true hq, eq_true c_1]; done) | (simp [mEnd, mTold, zd1, zd2, zd3, zd4, zd5, zd6, mso, mlo, mhi, mth, mwh, mas, mbs, mts, mst, mrf, met, msd, hq, c_1]; done) | contradiction | rfl)))
    · refine lv_aload_n hx hb dX2_end_39 rfl (lv_at hl 1 rfl) ?_
      refine gd_get S0 hin hw rfl rfl 2 (by decide) (S0.2.2.2.2 (.fieldLink RX2 17 "StretchDeskModel" "highs" "[J") (by decide +kernel)) rfl (v := .ref (ad 3)) rfl dX2_end_40 ?_
      refine lv_iload_n hx hb dX2_end_43 rfl (lv_at hl 2 rfl) ?_
      refine va_lald hx hb hw.2.2.1 hw.1 3 2 rfl rfl (zIn (by assumption)) dX2_end_44 ?_
      refine lv_goto (tgt := 54) hx hb dX2_end_45 (by decide) ?_
      exact io_lret S0 hr hlk hw dX2_end_54 (congrArg (fun z => some (Value.long z)) (show (mEnd i hi S).1 = ixL (mhi S) i from (by first | (simp [mEnd, mTold, zd1, zd2, zd3, zd4, zd5, zd6, hq, eq_false c_1]; done) | (simp [mEnd, mTold, zd1, zd2, zd3, zd4, zd5, zd6, eq_true hq, eq_false c_1]; done) | (simp [mEnd, mTold, zd1, zd2, zd3, zd4, zd5, zd6, mso, mlo, mhi, mth, mwh, mas, mbs, mts, mst, mrf, met, msd, eq_true hq, eq_false c_1]; done) | (simp [mEnd, mTold, zd1, zd2, zd3, zd4, zd5, zd6, mso, mlo, mhi, mth, mwh, mas, mbs, mts, mst, mrf, met, msd, hq, c_1]; done) | contradiction | rfl))) (congrArg (mW ad cy) (show (mEnd i hi S).2 = (mso S, mlo S, mhi S, mth S, mwh S, mas S, mbs S, mts S, 0, mrf S, (met S) + 1, msd S) from (by first | (simp [mEnd, mTold, zd1, zd2, zd3, zd4, zd5, zd6, hq, eq_false c_1]; done) | (simp [mEnd, mTold, zd1, zd2, zd3, zd4, zd5, zd6, eq_true hq, eq_false c_1]; done) | (simp [mEnd, mTold, zd1, zd2, zd3, zd4, zd5, zd6, mso, mlo, mhi, mth, mwh, mas, mbs, mts, mst, mrf, met, msd, eq_true hq, eq_false c_1]; done) | (simp [mEnd, mTold, zd1, zd2, zd3, zd4, zd5, zd6, mso, mlo, mhi, mth, mwh, mas, mbs, mts, mst, mrf, met, msd, hq, c_1]; done) | contradiction | rfl)))
theorem qX2_low : yX2_low.cls = RX2 ∧ yX2_low.cls ≠ "java/lang/invoke/MethodHandle" ∧ yX2_low.cls ≠ "java/lang/invoke/VarHandle" ∧ (parseMethodDescriptor yX2_low.desc).map (fun d => d.parameters.length) = some 1 := by decide +kernel
set_option maxHeartbeats 4000000 in
set_option maxRecDepth 100000 in
theorem c_X2_low (l : Launch) (D : va_G) (ad : Nat → Nat) (cy : Nat → ClassId) (A : Nat → Prop) (S : MS) (i : Int32) : OM l D (mT cy) A yX2_low wsX2_low 3 66 [.ref (ad 0), .int i] (mW ad cy S) (mW ad cy ((mEnd i 0 S).2)) (some (.long ((mEnd i 0 S).1))) := by
  refine OM.of (cc := cX2_low) (maxL := 2) (ret := some .long) (own := RX2) (by decide) rfl rfl (Nat.le_of_ble_eq_true rfl) ?_
  intro p e s m below meth c ls S0 hr hlk hl hw
  have hx := S0.1
  have hb := S0.2.1
  have hl : lv_has ls 2 [(0, .ref (ad 0)), (1, .int i)] := hl
  refine lv_aload_n hx hb dX2_low_0 rfl (lv_at hl 0 rfl) ?_
  refine lv_iload_n hx hb dX2_low_1 rfl (lv_at hl 1 rfl) ?_
  refine lv_iconst (v := 0) hx hb dX2_low_2 (by decide) ?_
  refine io_call (rest := []) (w1 := (mW ad cy ((mEnd i 0 S).2))) S0 (c_X2_end l D ad cy A S i 0) gX2_low_X2_end hw rfl qX2_end ⟨Nat.le_of_ble_eq_true rfl, Nat.le_of_ble_eq_true rfl⟩ ⟨Nat.le_of_ble_eq_true rfl, Nat.le_of_ble_eq_true rfl⟩ rfl rfl rfl hl.1 rfl (Nat.le_of_ble_eq_true rfl) dX2_low_3 (fun H locs hw => ?_)
  exact io_lret S0 hr hlk hw dX2_low_6 (congrArg (fun z => some (Value.long z)) (show (mEnd i 0 S).1 = (mEnd i 0 S).1 from (by first | (simp []; done) | (simp [mso, mlo, mhi, mth, mwh, mas, mbs, mts, mst, mrf, met, msd]; done) | contradiction | rfl))) (congrArg (mW ad cy) (show (mEnd i 0 S).2 = (mEnd i 0 S).2 from (by first | (simp []; done) | (simp [mso, mlo, mhi, mth, mwh, mas, mbs, mts, mst, mrf, met, msd]; done) | contradiction | rfl)))
theorem qX2_high : yX2_high.cls = RX2 ∧ yX2_high.cls ≠ "java/lang/invoke/MethodHandle" ∧ yX2_high.cls ≠ "java/lang/invoke/VarHandle" ∧ (parseMethodDescriptor yX2_high.desc).map (fun d => d.parameters.length) = some 1 := by decide +kernel
set_option maxHeartbeats 4000000 in
set_option maxRecDepth 100000 in
theorem c_X2_high (l : Launch) (D : va_G) (ad : Nat → Nat) (cy : Nat → ClassId) (A : Nat → Prop) (S : MS) (i : Int32) : OM l D (mT cy) A yX2_high wsX2_high 3 66 [.ref (ad 0), .int i] (mW ad cy S) (mW ad cy ((mEnd i 1 S).2)) (some (.long ((mEnd i 1 S).1))) := by
  refine OM.of (cc := cX2_high) (maxL := 2) (ret := some .long) (own := RX2) (by decide) rfl rfl (Nat.le_of_ble_eq_true rfl) ?_
  intro p e s m below meth c ls S0 hr hlk hl hw
  have hx := S0.1
  have hb := S0.2.1
  have hl : lv_has ls 2 [(0, .ref (ad 0)), (1, .int i)] := hl
  refine lv_aload_n hx hb dX2_high_0 rfl (lv_at hl 0 rfl) ?_
  refine lv_iload_n hx hb dX2_high_1 rfl (lv_at hl 1 rfl) ?_
  refine lv_iconst (v := 1) hx hb dX2_high_2 (by decide) ?_
  refine io_call (rest := []) (w1 := (mW ad cy ((mEnd i 1 S).2))) S0 (c_X2_end l D ad cy A S i 1) gX2_high_X2_end hw rfl qX2_end ⟨Nat.le_of_ble_eq_true rfl, Nat.le_of_ble_eq_true rfl⟩ ⟨Nat.le_of_ble_eq_true rfl, Nat.le_of_ble_eq_true rfl⟩ rfl rfl rfl hl.1 rfl (Nat.le_of_ble_eq_true rfl) dX2_high_3 (fun H locs hw => ?_)
  exact io_lret S0 hr hlk hw dX2_high_6 (congrArg (fun z => some (Value.long z)) (show (mEnd i 1 S).1 = (mEnd i 1 S).1 from (by first | (simp []; done) | (simp [mso, mlo, mhi, mth, mwh, mas, mbs, mts, mst, mrf, met, msd]; done) | contradiction | rfl))) (congrArg (mW ad cy) (show (mEnd i 1 S).2 = (mEnd i 1 S).2 from (by first | (simp []; done) | (simp [mso, mlo, mhi, mth, mwh, mas, mbs, mts, mst, mrf, met, msd]; done) | contradiction | rfl)))
theorem qX2_hull : yX2_hull.cls = RX2 ∧ yX2_hull.cls ≠ "java/lang/invoke/MethodHandle" ∧ yX2_hull.cls ≠ "java/lang/invoke/VarHandle" ∧ (parseMethodDescriptor yX2_hull.desc).map (fun d => d.parameters.length) = some 3 := by decide +kernel
set_option maxHeartbeats 4000000 in
set_option maxRecDepth 100000 in
theorem c_X2_hull (l : Launch) (D : va_G) (ad : Nat → Nat) (cy : Nat → ClassId) (A : Nat → Prop) (S : MS) (a : Int32) (b : Int32) (to : Int32) : OM l D (mT cy) A yX2_hull wsX2_hull 4 90 [.ref (ad 0), .int a, .int b, .int to] (mW ad cy S) (mW ad cy ((mHull a b to S).2)) (some (.int ((mHull a b to S).1))) := by
  refine OM.of (cc := cX2_hull) (maxL := 6) (ret := some .int) (own := RX2) (by decide) rfl rfl (Nat.le_of_ble_eq_true rfl) ?_
  intro p e s m below meth c ls S0 hr hlk hl hw
  have hx := S0.1
  have hb := S0.2.1
  have hl : lv_has ls 6 [(0, .ref (ad 0)), (1, .int a), (2, .int b), (3, .int to)] := hl
  have hin : ∀ w ∈ wsX20, w ∈ wsX2_hull := fun w h => List.mem_cons_of_mem _ (List.mem_append_right _ h)
  refine lv_aload_n hx hb dX2_hull_0 rfl (lv_at hl 0 rfl) ?_
  refine lv_iload_n hx hb dX2_hull_1 rfl (lv_at hl 1 rfl) ?_
  refine lv_iload_n hx hb dX2_hull_2 rfl (lv_at hl 2 rfl) ?_
  refine lv_iload_n hx hb dX2_hull_3 rfl (lv_at hl 3 rfl) ?_
  refine io_call (rest := []) (w1 := (mW ad cy S)) S0 (c_X2_whyNot l D ad cy A S a b to) gX2_hull_X2_whyNot hw rfl qX2_whyNot ⟨Nat.le_of_ble_eq_true rfl, Nat.le_of_ble_eq_true rfl⟩ ⟨Nat.le_of_ble_eq_true rfl, Nat.le_of_ble_eq_true rfl⟩ rfl rfl rfl hl.1 rfl (Nat.le_of_ble_eq_true rfl) dX2_hull_4 (fun H locs hw => ?_)
  rcases mWhy_cases a b to S with hq | hq | ⟨hq, hs1, hs2, hs3⟩
  · rw [hq]
    refine lv_istore (lv' := [(4, .int (-2)), (0, .ref (ad 0)), (1, .int a), (2, .int b), (3, .int to)]) hx hb dX2_hull_7 hl (by decide) rfl (fun ls hl => ?_)
    refine lv_iload hx hb dX2_hull_9 (lv_at hl 0 rfl) ?_
    refine zi_ne (tgt := 33) hx hb dX2_hull_11 (by decide) (fun _ => ?_) (fun q => absurd q (by decide))
    refine lv_iload hx hb dX2_hull_33 (lv_at hl 0 rfl) ?_
    refine zi_ge (tgt := 45) hx hb dX2_hull_35 (by decide) (fun q => absurd (by decide) q) (fun _ => ?_)
    refine lv_aload_n hx hb dX2_hull_38 rfl (lv_at hl 1 rfl) ?_
    refine lv_iload hx hb dX2_hull_39 (lv_at hl 0 rfl) ?_
    refine io_call (rest := []) (w1 := (mW ad cy (mRef (-2) S))) S0 (c_X2_refuses l D ad cy A S (-2)) gX2_hull_X2_refuses hw rfl qX2_refuses ⟨Nat.le_of_ble_eq_true rfl, Nat.le_of_ble_eq_true rfl⟩ ⟨Nat.le_of_ble_eq_true rfl, Nat.le_of_ble_eq_true rfl⟩ rfl rfl rfl hl.1 rfl (Nat.le_of_ble_eq_true rfl) dX2_hull_41 (fun H locs hw => ?_)
    exact io_iret S0 hr hlk hw dX2_hull_44 (congrArg (fun z => some (Value.int z)) (show (mHull a b to S).1 = (-2) from (by first | (simp [mHull, zd1, zd2, zd3, zd4, zd5, zd6, hq]; done) | (simp [mHull, zd1, zd2, zd3, zd4, zd5, zd6, eq_true hq]; done) | (simp [mHull, zd1, zd2, zd3, zd4, zd5, zd6, mso, mlo, mhi, mth, mwh, mas, mbs, mts, mst, mrf, met, msd, eq_true hq]; done) | (simp [mHull, zd1, zd2, zd3, zd4, zd5, zd6, mso, mlo, mhi, mth, mwh, mas, mbs, mts, mst, mrf, met, msd, hq]; done) | contradiction | rfl))) (congrArg (mW ad cy) (show (mHull a b to S).2 = mRef (-2) S from (by first | (simp [mHull, zd1, zd2, zd3, zd4, zd5, zd6, hq]; done) | (simp [mHull, zd1, zd2, zd3, zd4, zd5, zd6, eq_true hq]; done) | (simp [mHull, zd1, zd2, zd3, zd4, zd5, zd6, mso, mlo, mhi, mth, mwh, mas, mbs, mts, mst, mrf, met, msd, eq_true hq]; done) | (simp [mHull, zd1, zd2, zd3, zd4, zd5, zd6, mso, mlo, mhi, mth, mwh, mas, mbs, mts, mst, mrf, met, msd, hq]; done) | contradiction | rfl)))
  · rw [hq]
    refine lv_istore (lv' := [(4, .int (-3)), (0, .ref (ad 0)), (1, .int a), (2, .int b), (3, .int to)]) hx hb dX2_hull_7 hl (by decide) rfl (fun ls hl => ?_)
    refine lv_iload hx hb dX2_hull_9 (lv_at hl 0 rfl) ?_
    refine zi_ne (tgt := 33) hx hb dX2_hull_11 (by decide) (fun _ => ?_) (fun q => absurd q (by decide))
    refine lv_iload hx hb dX2_hull_33 (lv_at hl 0 rfl) ?_
    refine zi_ge (tgt := 45) hx hb dX2_hull_35 (by decide) (fun q => absurd (by decide) q) (fun _ => ?_)
    refine lv_aload_n hx hb dX2_hull_38 rfl (lv_at hl 1 rfl) ?_
    refine lv_iload hx hb dX2_hull_39 (lv_at hl 0 rfl) ?_
    refine io_call (rest := []) (w1 := (mW ad cy (mRef (-3) S))) S0 (c_X2_refuses l D ad cy A S (-3)) gX2_hull_X2_refuses hw rfl qX2_refuses ⟨Nat.le_of_ble_eq_true rfl, Nat.le_of_ble_eq_true rfl⟩ ⟨Nat.le_of_ble_eq_true rfl, Nat.le_of_ble_eq_true rfl⟩ rfl rfl rfl hl.1 rfl (Nat.le_of_ble_eq_true rfl) dX2_hull_41 (fun H locs hw => ?_)
    exact io_iret S0 hr hlk hw dX2_hull_44 (congrArg (fun z => some (Value.int z)) (show (mHull a b to S).1 = (-3) from (by first | (simp [mHull, zd1, zd2, zd3, zd4, zd5, zd6, hq]; done) | (simp [mHull, zd1, zd2, zd3, zd4, zd5, zd6, eq_true hq]; done) | (simp [mHull, zd1, zd2, zd3, zd4, zd5, zd6, mso, mlo, mhi, mth, mwh, mas, mbs, mts, mst, mrf, met, msd, eq_true hq]; done) | (simp [mHull, zd1, zd2, zd3, zd4, zd5, zd6, mso, mlo, mhi, mth, mwh, mas, mbs, mts, mst, mrf, met, msd, hq]; done) | contradiction | rfl))) (congrArg (mW ad cy) (show (mHull a b to S).2 = mRef (-3) S from (by first | (simp [mHull, zd1, zd2, zd3, zd4, zd5, zd6, hq]; done) | (simp [mHull, zd1, zd2, zd3, zd4, zd5, zd6, eq_true hq]; done) | (simp [mHull, zd1, zd2, zd3, zd4, zd5, zd6, mso, mlo, mhi, mth, mwh, mas, mbs, mts, mst, mrf, met, msd, eq_true hq]; done) | (simp [mHull, zd1, zd2, zd3, zd4, zd5, zd6, mso, mlo, mhi, mth, mwh, mas, mbs, mts, mst, mrf, met, msd, hq]; done) | contradiction | rfl)))
  · rw [hq]
    refine lv_istore (lv' := [(4, .int 0), (0, .ref (ad 0)), (1, .int a), (2, .int b), (3, .int to)]) hx hb dX2_hull_7 hl (by decide) rfl (fun ls hl => ?_)
    refine lv_iload hx hb dX2_hull_9 (lv_at hl 0 rfl) ?_
    refine zi_ne (tgt := 33) hx hb dX2_hull_11 (by decide) (fun q => absurd (by decide) q) (fun _ => ?_)
    refine lv_aload_n hx hb dX2_hull_14 rfl (lv_at hl 1 rfl) ?_
    refine gd_get S0 hin hw rfl rfl 0 (by decide) (S0.2.2.2.2 (.fieldLink RX2 7 "StretchDeskModel" "sorts" "[I") (by decide +kernel)) rfl (v := .ref (ad 1)) rfl dX2_hull_15 ?_
    refine lv_iload_n hx hb dX2_hull_18 rfl (lv_at hl 2 rfl) ?_
    refine va_iald hx hb hw.2.2.1 hw.1 1 0 rfl rfl (zIn (by assumption)) dX2_hull_19 ?_
    refine lv_aload_n hx hb dX2_hull_20 rfl (lv_at hl 1 rfl) ?_
    refine gd_get S0 hin hw rfl rfl 0 (by decide) (S0.2.2.2.2 (.fieldLink RX2 7 "StretchDeskModel" "sorts" "[I") (by decide +kernel)) rfl (v := .ref (ad 1)) rfl dX2_hull_21 ?_
    refine lv_iload_n hx hb dX2_hull_24 rfl (lv_at hl 3 rfl) ?_
    refine va_iald hx hb hw.2.2.1 hw.1 1 0 rfl rfl (zIn (by assumption)) dX2_hull_25 ?_
    refine zc_eq (tgt := 33) hx hb dX2_hull_26 (by decide) (fun c_1 => ?_) (fun c_1 => ?_)
    · refine lv_iload hx hb dX2_hull_33 (lv_at hl 0 rfl) ?_
      refine zi_ge (tgt := 45) hx hb dX2_hull_35 (by decide) (fun _ => ?_) (fun q => absurd q (by decide))
      refine lv_aload_n hx hb dX2_hull_45 rfl (lv_at hl 1 rfl) ?_
      refine gd_get S0 hin hw rfl rfl 0 (by decide) (S0.2.2.2.2 (.fieldLink RX2 7 "StretchDeskModel" "sorts" "[I") (by decide +kernel)) rfl (v := .ref (ad 1)) rfl dX2_hull_46 ?_
      refine lv_iload_n hx hb dX2_hull_49 rfl (lv_at hl 2 rfl) ?_
      refine va_iald hx hb hw.2.2.1 hw.1 1 0 rfl rfl (zIn (by assumption)) dX2_hull_50 ?_
      refine lv_istore (lv' := [(5, .int (ixI (mso S) a)), (4, .int 0), (0, .ref (ad 0)), (1, .int a), (2, .int b), (3, .int to)]) hx hb dX2_hull_51 hl (by decide) rfl (fun ls hl => ?_)
      refine lv_aload_n hx hb dX2_hull_53 rfl (lv_at hl 2 rfl) ?_
      refine lv_iload_n hx hb dX2_hull_54 rfl (lv_at hl 5 rfl) ?_
      refine lv_iload hx hb dX2_hull_55 (lv_at hl 0 rfl) ?_
      refine lv_iload hx hb dX2_hull_57 (lv_at hl 0 rfl) ?_
      refine lv_aload_n hx hb dX2_hull_59 rfl (lv_at hl 2 rfl) ?_
      refine gd_get S0 hin hw rfl rfl 1 (by decide) (S0.2.2.2.2 (.fieldLink RX2 13 "StretchDeskModel" "lows" "[J") (by decide +kernel)) rfl (v := .ref (ad 2)) rfl dX2_hull_60 ?_
      refine lv_iload_n hx hb dX2_hull_63 rfl (lv_at hl 3 rfl) ?_
      refine va_lald hx hb hw.2.2.1 hw.1 2 1 rfl rfl (zIn (by assumption)) dX2_hull_64 ?_
      refine lv_aload_n hx hb dX2_hull_65 rfl (lv_at hl 2 rfl) ?_
      refine gd_get S0 hin hw rfl rfl 1 (by decide) (S0.2.2.2.2 (.fieldLink RX2 13 "StretchDeskModel" "lows" "[J") (by decide +kernel)) rfl (v := .ref (ad 2)) rfl dX2_hull_66 ?_
      refine lv_iload_n hx hb dX2_hull_69 rfl (lv_at hl 4 rfl) ?_
      refine va_lald hx hb hw.2.2.1 hw.1 2 1 rfl rfl (zIn (by assumption)) dX2_hull_70 ?_
      refine ps_call (rest := [.int (ixI (mso S) a), .int to, .ref (ad 0)]) S0 (c_X2_lesser l (ixI (mso S) a) (ixL (mlo S) a) (ixL (mlo S) b)) gX2_hull_X2_lesser rfl qX2_lesser ⟨Nat.le_of_ble_eq_true rfl, Nat.le_of_ble_eq_true rfl⟩ ⟨Nat.le_of_ble_eq_true rfl, Nat.le_of_ble_eq_true rfl⟩ hl.1 rfl (Nat.le_of_ble_eq_true rfl) dX2_hull_71 ?_
      refine lv_iload hx hb dX2_hull_74 (lv_at hl 0 rfl) ?_
      refine lv_aload_n hx hb dX2_hull_76 rfl (lv_at hl 2 rfl) ?_
      refine gd_get S0 hin hw rfl rfl 2 (by decide) (S0.2.2.2.2 (.fieldLink RX2 17 "StretchDeskModel" "highs" "[J") (by decide +kernel)) rfl (v := .ref (ad 3)) rfl dX2_hull_77 ?_
      refine lv_iload_n hx hb dX2_hull_80 rfl (lv_at hl 3 rfl) ?_
      refine va_lald hx hb hw.2.2.1 hw.1 3 2 rfl rfl (zIn (by assumption)) dX2_hull_81 ?_
      refine lv_aload_n hx hb dX2_hull_82 rfl (lv_at hl 2 rfl) ?_
      refine gd_get S0 hin hw rfl rfl 2 (by decide) (S0.2.2.2.2 (.fieldLink RX2 17 "StretchDeskModel" "highs" "[J") (by decide +kernel)) rfl (v := .ref (ad 3)) rfl dX2_hull_83 ?_
      refine lv_iload_n hx hb dX2_hull_86 rfl (lv_at hl 4 rfl) ?_
      refine va_lald hx hb hw.2.2.1 hw.1 3 2 rfl rfl (zIn (by assumption)) dX2_hull_87 ?_
      refine ps_call (rest := [.long (kLesser (ixI (mso S) a) (ixL (mlo S) a) (ixL (mlo S) b)), .int (ixI (mso S) a), .int to, .ref (ad 0)]) S0 (c_X2_greater l (ixI (mso S) a) (ixL (mhi S) a) (ixL (mhi S) b)) gX2_hull_X2_greater rfl qX2_greater ⟨Nat.le_of_ble_eq_true rfl, Nat.le_of_ble_eq_true rfl⟩ ⟨Nat.le_of_ble_eq_true rfl, Nat.le_of_ble_eq_true rfl⟩ hl.1 rfl (Nat.le_of_ble_eq_true rfl) dX2_hull_88 ?_
      refine io_call (rest := []) (w1 := (mW ad cy (mComes to (ixI (mso S) a) (kLesser (ixI (mso S) a) (ixL (mlo S) a) (ixL (mlo S) b)) (kGreater (ixI (mso S) a) (ixL (mhi S) a) (ixL (mhi S) b)) S))) S0 (c_X2_comes l D ad cy A S to (ixI (mso S) a) (kLesser (ixI (mso S) a) (ixL (mlo S) a) (ixL (mlo S) b)) (kGreater (ixI (mso S) a) (ixL (mhi S) a) (ixL (mhi S) b)) (by assumption)) gX2_hull_X2_comes hw rfl qX2_comes ⟨Nat.le_of_ble_eq_true rfl, Nat.le_of_ble_eq_true rfl⟩ ⟨Nat.le_of_ble_eq_true rfl, Nat.le_of_ble_eq_true rfl⟩ rfl rfl rfl hl.1 rfl (Nat.le_of_ble_eq_true rfl) dX2_hull_91 (fun H locs hw => ?_)
      exact io_iret S0 hr hlk hw dX2_hull_94 (congrArg (fun z => some (Value.int z)) (show (mHull a b to S).1 = 1 from (by first | (simp [mHull, zd1, zd2, zd3, zd4, zd5, zd6, hq, if_pos c_1]; done) | (simp [mHull, zd1, zd2, zd3, zd4, zd5, zd6, eq_true hq, eq_true c_1]; done) | (simp [mHull, zd1, zd2, zd3, zd4, zd5, zd6, mso, mlo, mhi, mth, mwh, mas, mbs, mts, mst, mrf, met, msd, eq_true hq, eq_true c_1]; done) | (simp [mHull, zd1, zd2, zd3, zd4, zd5, zd6, mso, mlo, mhi, mth, mwh, mas, mbs, mts, mst, mrf, met, msd, hq, c_1]; done) | contradiction | rfl))) (congrArg (mW ad cy) (show (mHull a b to S).2 = mComes to (ixI (mso S) a) (kLesser (ixI (mso S) a) (ixL (mlo S) a) (ixL (mlo S) b)) (kGreater (ixI (mso S) a) (ixL (mhi S) a) (ixL (mhi S) b)) S from (by first | (simp [mHull, zd1, zd2, zd3, zd4, zd5, zd6, hq, if_pos c_1]; done) | (simp [mHull, zd1, zd2, zd3, zd4, zd5, zd6, eq_true hq, eq_true c_1]; done) | (simp [mHull, zd1, zd2, zd3, zd4, zd5, zd6, mso, mlo, mhi, mth, mwh, mas, mbs, mts, mst, mrf, met, msd, eq_true hq, eq_true c_1]; done) | (simp [mHull, zd1, zd2, zd3, zd4, zd5, zd6, mso, mlo, mhi, mth, mwh, mas, mbs, mts, mst, mrf, met, msd, hq, c_1]; done) | contradiction | rfl)))
    · refine lv_bipush (v := -4) hx hb dX2_hull_29 (by decide) ?_
      refine lv_istore (lv' := [(4, .int (-4)), (0, .ref (ad 0)), (1, .int a), (2, .int b), (3, .int to)]) hx hb dX2_hull_31 hl (by decide) rfl (fun ls hl => ?_)
      refine lv_iload hx hb dX2_hull_33 (lv_at hl 0 rfl) ?_
      refine zi_ge (tgt := 45) hx hb dX2_hull_35 (by decide) (fun q => absurd (by decide) q) (fun _ => ?_)
      refine lv_aload_n hx hb dX2_hull_38 rfl (lv_at hl 1 rfl) ?_
      refine lv_iload hx hb dX2_hull_39 (lv_at hl 0 rfl) ?_
      refine io_call (rest := []) (w1 := (mW ad cy (mRef (-4) S))) S0 (c_X2_refuses l D ad cy A S (-4)) gX2_hull_X2_refuses hw rfl qX2_refuses ⟨Nat.le_of_ble_eq_true rfl, Nat.le_of_ble_eq_true rfl⟩ ⟨Nat.le_of_ble_eq_true rfl, Nat.le_of_ble_eq_true rfl⟩ rfl rfl rfl hl.1 rfl (Nat.le_of_ble_eq_true rfl) dX2_hull_41 (fun H locs hw => ?_)
      exact io_iret S0 hr hlk hw dX2_hull_44 (congrArg (fun z => some (Value.int z)) (show (mHull a b to S).1 = (-4) from (by first | (simp [mHull, zd1, zd2, zd3, zd4, zd5, zd6, hq, eq_false c_1]; done) | (simp [mHull, zd1, zd2, zd3, zd4, zd5, zd6, eq_true hq, eq_false c_1]; done) | (simp [mHull, zd1, zd2, zd3, zd4, zd5, zd6, mso, mlo, mhi, mth, mwh, mas, mbs, mts, mst, mrf, met, msd, eq_true hq, eq_false c_1]; done) | (simp [mHull, zd1, zd2, zd3, zd4, zd5, zd6, mso, mlo, mhi, mth, mwh, mas, mbs, mts, mst, mrf, met, msd, hq, c_1]; done) | contradiction | rfl))) (congrArg (mW ad cy) (show (mHull a b to S).2 = mRef (-4) S from (by first | (simp [mHull, zd1, zd2, zd3, zd4, zd5, zd6, hq, eq_false c_1]; done) | (simp [mHull, zd1, zd2, zd3, zd4, zd5, zd6, eq_true hq, eq_false c_1]; done) | (simp [mHull, zd1, zd2, zd3, zd4, zd5, zd6, mso, mlo, mhi, mth, mwh, mas, mbs, mts, mst, mrf, met, msd, eq_true hq, eq_false c_1]; done) | (simp [mHull, zd1, zd2, zd3, zd4, zd5, zd6, mso, mlo, mhi, mth, mwh, mas, mbs, mts, mst, mrf, met, msd, hq, c_1]; done) | contradiction | rfl)))
theorem qX2_meet : yX2_meet.cls = RX2 ∧ yX2_meet.cls ≠ "java/lang/invoke/MethodHandle" ∧ yX2_meet.cls ≠ "java/lang/invoke/VarHandle" ∧ (parseMethodDescriptor yX2_meet.desc).map (fun d => d.parameters.length) = some 3 := by decide +kernel
set_option maxHeartbeats 4000000 in
set_option maxRecDepth 100000 in
theorem c_X2_meet (l : Launch) (D : va_G) (ad : Nat → Nat) (cy : Nat → ClassId) (A : Nat → Prop) (S : MS) (a : Int32) (b : Int32) (to : Int32) : OM l D (mT cy) A yX2_meet wsX2_meet 4 90 [.ref (ad 0), .int a, .int b, .int to] (mW ad cy S) (mW ad cy ((mMeet a b to S).2)) (some (.int ((mMeet a b to S).1))) := by
  refine OM.of (cc := cX2_meet) (maxL := 10) (ret := some .int) (own := RX2) (by decide) rfl rfl (Nat.le_of_ble_eq_true rfl) ?_
  intro p e s m below meth c ls S0 hr hlk hl hw
  have hx := S0.1
  have hb := S0.2.1
  have hl : lv_has ls 10 [(0, .ref (ad 0)), (1, .int a), (2, .int b), (3, .int to)] := hl
  have hin : ∀ w ∈ wsX20, w ∈ wsX2_meet := fun w h => List.mem_cons_of_mem _ (List.mem_append_right _ h)
  refine lv_aload_n hx hb dX2_meet_0 rfl (lv_at hl 0 rfl) ?_
  refine lv_iload_n hx hb dX2_meet_1 rfl (lv_at hl 1 rfl) ?_
  refine lv_iload_n hx hb dX2_meet_2 rfl (lv_at hl 2 rfl) ?_
  refine lv_iload_n hx hb dX2_meet_3 rfl (lv_at hl 3 rfl) ?_
  refine io_call (rest := []) (w1 := (mW ad cy S)) S0 (c_X2_whyNot l D ad cy A S a b to) gX2_meet_X2_whyNot hw rfl qX2_whyNot ⟨Nat.le_of_ble_eq_true rfl, Nat.le_of_ble_eq_true rfl⟩ ⟨Nat.le_of_ble_eq_true rfl, Nat.le_of_ble_eq_true rfl⟩ rfl rfl rfl hl.1 rfl (Nat.le_of_ble_eq_true rfl) dX2_meet_4 (fun H locs hw => ?_)
  rcases mWhy_cases a b to S with hq | hq | ⟨hq, hs1, hs2, hs3⟩
  · rw [hq]
    refine lv_istore (lv' := [(4, .int (-2)), (0, .ref (ad 0)), (1, .int a), (2, .int b), (3, .int to)]) hx hb dX2_meet_7 hl (by decide) rfl (fun ls hl => ?_)
    refine lv_iload hx hb dX2_meet_9 (lv_at hl 0 rfl) ?_
    refine zi_ne (tgt := 33) hx hb dX2_meet_11 (by decide) (fun _ => ?_) (fun q => absurd q (by decide))
    refine lv_iload hx hb dX2_meet_33 (lv_at hl 0 rfl) ?_
    refine zi_ge (tgt := 45) hx hb dX2_meet_35 (by decide) (fun q => absurd (by decide) q) (fun _ => ?_)
    refine lv_aload_n hx hb dX2_meet_38 rfl (lv_at hl 1 rfl) ?_
    refine lv_iload hx hb dX2_meet_39 (lv_at hl 0 rfl) ?_
    refine io_call (rest := []) (w1 := (mW ad cy (mRef (-2) S))) S0 (c_X2_refuses l D ad cy A S (-2)) gX2_meet_X2_refuses hw rfl qX2_refuses ⟨Nat.le_of_ble_eq_true rfl, Nat.le_of_ble_eq_true rfl⟩ ⟨Nat.le_of_ble_eq_true rfl, Nat.le_of_ble_eq_true rfl⟩ rfl rfl rfl hl.1 rfl (Nat.le_of_ble_eq_true rfl) dX2_meet_41 (fun H locs hw => ?_)
    exact io_iret S0 hr hlk hw dX2_meet_44 (congrArg (fun z => some (Value.int z)) (show (mMeet a b to S).1 = (-2) from (by first | (simp [mMeet, mAny, zd1, zd2, zd3, zd4, zd5, zd6, hq]; done) | (simp [mMeet, mAny, zd1, zd2, zd3, zd4, zd5, zd6, eq_true hq]; done) | (simp [mMeet, mAny, zd1, zd2, zd3, zd4, zd5, zd6, mso, mlo, mhi, mth, mwh, mas, mbs, mts, mst, mrf, met, msd, eq_true hq]; done) | (simp [mMeet, mAny, zd1, zd2, zd3, zd4, zd5, zd6, mso, mlo, mhi, mth, mwh, mas, mbs, mts, mst, mrf, met, msd, hq]; done) | contradiction | rfl))) (congrArg (mW ad cy) (show (mMeet a b to S).2 = mRef (-2) S from (by first | (simp [mMeet, mAny, zd1, zd2, zd3, zd4, zd5, zd6, hq]; done) | (simp [mMeet, mAny, zd1, zd2, zd3, zd4, zd5, zd6, eq_true hq]; done) | (simp [mMeet, mAny, zd1, zd2, zd3, zd4, zd5, zd6, mso, mlo, mhi, mth, mwh, mas, mbs, mts, mst, mrf, met, msd, eq_true hq]; done) | (simp [mMeet, mAny, zd1, zd2, zd3, zd4, zd5, zd6, mso, mlo, mhi, mth, mwh, mas, mbs, mts, mst, mrf, met, msd, hq]; done) | contradiction | rfl)))
  · rw [hq]
    refine lv_istore (lv' := [(4, .int (-3)), (0, .ref (ad 0)), (1, .int a), (2, .int b), (3, .int to)]) hx hb dX2_meet_7 hl (by decide) rfl (fun ls hl => ?_)
    refine lv_iload hx hb dX2_meet_9 (lv_at hl 0 rfl) ?_
    refine zi_ne (tgt := 33) hx hb dX2_meet_11 (by decide) (fun _ => ?_) (fun q => absurd q (by decide))
    refine lv_iload hx hb dX2_meet_33 (lv_at hl 0 rfl) ?_
    refine zi_ge (tgt := 45) hx hb dX2_meet_35 (by decide) (fun q => absurd (by decide) q) (fun _ => ?_)
    refine lv_aload_n hx hb dX2_meet_38 rfl (lv_at hl 1 rfl) ?_
    refine lv_iload hx hb dX2_meet_39 (lv_at hl 0 rfl) ?_
    refine io_call (rest := []) (w1 := (mW ad cy (mRef (-3) S))) S0 (c_X2_refuses l D ad cy A S (-3)) gX2_meet_X2_refuses hw rfl qX2_refuses ⟨Nat.le_of_ble_eq_true rfl, Nat.le_of_ble_eq_true rfl⟩ ⟨Nat.le_of_ble_eq_true rfl, Nat.le_of_ble_eq_true rfl⟩ rfl rfl rfl hl.1 rfl (Nat.le_of_ble_eq_true rfl) dX2_meet_41 (fun H locs hw => ?_)
    exact io_iret S0 hr hlk hw dX2_meet_44 (congrArg (fun z => some (Value.int z)) (show (mMeet a b to S).1 = (-3) from (by first | (simp [mMeet, mAny, zd1, zd2, zd3, zd4, zd5, zd6, hq]; done) | (simp [mMeet, mAny, zd1, zd2, zd3, zd4, zd5, zd6, eq_true hq]; done) | (simp [mMeet, mAny, zd1, zd2, zd3, zd4, zd5, zd6, mso, mlo, mhi, mth, mwh, mas, mbs, mts, mst, mrf, met, msd, eq_true hq]; done) | (simp [mMeet, mAny, zd1, zd2, zd3, zd4, zd5, zd6, mso, mlo, mhi, mth, mwh, mas, mbs, mts, mst, mrf, met, msd, hq]; done) | contradiction | rfl))) (congrArg (mW ad cy) (show (mMeet a b to S).2 = mRef (-3) S from (by first | (simp [mMeet, mAny, zd1, zd2, zd3, zd4, zd5, zd6, hq]; done) | (simp [mMeet, mAny, zd1, zd2, zd3, zd4, zd5, zd6, eq_true hq]; done) | (simp [mMeet, mAny, zd1, zd2, zd3, zd4, zd5, zd6, mso, mlo, mhi, mth, mwh, mas, mbs, mts, mst, mrf, met, msd, eq_true hq]; done) | (simp [mMeet, mAny, zd1, zd2, zd3, zd4, zd5, zd6, mso, mlo, mhi, mth, mwh, mas, mbs, mts, mst, mrf, met, msd, hq]; done) | contradiction | rfl)))
  · rw [hq]
    refine lv_istore (lv' := [(4, .int 0), (0, .ref (ad 0)), (1, .int a), (2, .int b), (3, .int to)]) hx hb dX2_meet_7 hl (by decide) rfl (fun ls hl => ?_)
    refine lv_iload hx hb dX2_meet_9 (lv_at hl 0 rfl) ?_
    refine zi_ne (tgt := 33) hx hb dX2_meet_11 (by decide) (fun q => absurd (by decide) q) (fun _ => ?_)
    refine lv_aload_n hx hb dX2_meet_14 rfl (lv_at hl 1 rfl) ?_
    refine gd_get S0 hin hw rfl rfl 0 (by decide) (S0.2.2.2.2 (.fieldLink RX2 7 "StretchDeskModel" "sorts" "[I") (by decide +kernel)) rfl (v := .ref (ad 1)) rfl dX2_meet_15 ?_
    refine lv_iload_n hx hb dX2_meet_18 rfl (lv_at hl 2 rfl) ?_
    refine va_iald hx hb hw.2.2.1 hw.1 1 0 rfl rfl (zIn (by assumption)) dX2_meet_19 ?_
    refine lv_aload_n hx hb dX2_meet_20 rfl (lv_at hl 1 rfl) ?_
    refine gd_get S0 hin hw rfl rfl 0 (by decide) (S0.2.2.2.2 (.fieldLink RX2 7 "StretchDeskModel" "sorts" "[I") (by decide +kernel)) rfl (v := .ref (ad 1)) rfl dX2_meet_21 ?_
    refine lv_iload_n hx hb dX2_meet_24 rfl (lv_at hl 3 rfl) ?_
    refine va_iald hx hb hw.2.2.1 hw.1 1 0 rfl rfl (zIn (by assumption)) dX2_meet_25 ?_
    refine zc_eq (tgt := 33) hx hb dX2_meet_26 (by decide) (fun c_1 => ?_) (fun c_1 => ?_)
    · refine lv_iload hx hb dX2_meet_33 (lv_at hl 0 rfl) ?_
      refine zi_ge (tgt := 45) hx hb dX2_meet_35 (by decide) (fun _ => ?_) (fun q => absurd q (by decide))
      refine lv_aload_n hx hb dX2_meet_45 rfl (lv_at hl 1 rfl) ?_
      refine gd_get S0 hin hw rfl rfl 0 (by decide) (S0.2.2.2.2 (.fieldLink RX2 7 "StretchDeskModel" "sorts" "[I") (by decide +kernel)) rfl (v := .ref (ad 1)) rfl dX2_meet_46 ?_
      refine lv_iload_n hx hb dX2_meet_49 rfl (lv_at hl 2 rfl) ?_
      refine va_iald hx hb hw.2.2.1 hw.1 1 0 rfl rfl (zIn (by assumption)) dX2_meet_50 ?_
      refine lv_istore (lv' := [(5, .int (ixI (mso S) a)), (4, .int 0), (0, .ref (ad 0)), (1, .int a), (2, .int b), (3, .int to)]) hx hb dX2_meet_51 hl (by decide) rfl (fun ls hl => ?_)
      refine lv_iload hx hb dX2_meet_53 (lv_at hl 0 rfl) ?_
      refine lv_aload_n hx hb dX2_meet_55 rfl (lv_at hl 2 rfl) ?_
      refine gd_get S0 hin hw rfl rfl 1 (by decide) (S0.2.2.2.2 (.fieldLink RX2 13 "StretchDeskModel" "lows" "[J") (by decide +kernel)) rfl (v := .ref (ad 2)) rfl dX2_meet_56 ?_
      refine lv_iload_n hx hb dX2_meet_59 rfl (lv_at hl 3 rfl) ?_
      refine va_lald hx hb hw.2.2.1 hw.1 2 1 rfl rfl (zIn (by assumption)) dX2_meet_60 ?_
      refine lv_aload_n hx hb dX2_meet_61 rfl (lv_at hl 2 rfl) ?_
      refine gd_get S0 hin hw rfl rfl 1 (by decide) (S0.2.2.2.2 (.fieldLink RX2 13 "StretchDeskModel" "lows" "[J") (by decide +kernel)) rfl (v := .ref (ad 2)) rfl dX2_meet_62 ?_
      refine lv_iload_n hx hb dX2_meet_65 rfl (lv_at hl 4 rfl) ?_
      refine va_lald hx hb hw.2.2.1 hw.1 2 1 rfl rfl (zIn (by assumption)) dX2_meet_66 ?_
      refine ps_call (rest := []) S0 (c_X2_greater l (ixI (mso S) a) (ixL (mlo S) a) (ixL (mlo S) b)) gX2_meet_X2_greater rfl qX2_greater ⟨Nat.le_of_ble_eq_true rfl, Nat.le_of_ble_eq_true rfl⟩ ⟨Nat.le_of_ble_eq_true rfl, Nat.le_of_ble_eq_true rfl⟩ hl.1 rfl (Nat.le_of_ble_eq_true rfl) dX2_meet_67 ?_
      refine lv_lstore (lv' := [(6, .long (kGreater (ixI (mso S) a) (ixL (mlo S) a) (ixL (mlo S) b))), (5, .int (ixI (mso S) a)), (4, .int 0), (0, .ref (ad 0)), (1, .int a), (2, .int b), (3, .int to)]) hx hb dX2_meet_70 hl (by decide) rfl (fun ls hl => ?_)
      refine lv_iload hx hb dX2_meet_72 (lv_at hl 1 rfl) ?_
      refine lv_aload_n hx hb dX2_meet_74 rfl (lv_at hl 3 rfl) ?_
      refine gd_get S0 hin hw rfl rfl 2 (by decide) (S0.2.2.2.2 (.fieldLink RX2 17 "StretchDeskModel" "highs" "[J") (by decide +kernel)) rfl (v := .ref (ad 3)) rfl dX2_meet_75 ?_
      refine lv_iload_n hx hb dX2_meet_78 rfl (lv_at hl 4 rfl) ?_
      refine va_lald hx hb hw.2.2.1 hw.1 3 2 rfl rfl (zIn (by assumption)) dX2_meet_79 ?_
      refine lv_aload_n hx hb dX2_meet_80 rfl (lv_at hl 3 rfl) ?_
      refine gd_get S0 hin hw rfl rfl 2 (by decide) (S0.2.2.2.2 (.fieldLink RX2 17 "StretchDeskModel" "highs" "[J") (by decide +kernel)) rfl (v := .ref (ad 3)) rfl dX2_meet_81 ?_
      refine lv_iload_n hx hb dX2_meet_84 rfl (lv_at hl 5 rfl) ?_
      refine va_lald hx hb hw.2.2.1 hw.1 3 2 rfl rfl (zIn (by assumption)) dX2_meet_85 ?_
      refine ps_call (rest := []) S0 (c_X2_lesser l (ixI (mso S) a) (ixL (mhi S) a) (ixL (mhi S) b)) gX2_meet_X2_lesser rfl qX2_lesser ⟨Nat.le_of_ble_eq_true rfl, Nat.le_of_ble_eq_true rfl⟩ ⟨Nat.le_of_ble_eq_true rfl, Nat.le_of_ble_eq_true rfl⟩ hl.1 rfl (Nat.le_of_ble_eq_true rfl) dX2_meet_86 ?_
      refine lv_lstore (lv' := [(8, .long (kLesser (ixI (mso S) a) (ixL (mhi S) a) (ixL (mhi S) b))), (6, .long (kGreater (ixI (mso S) a) (ixL (mlo S) a) (ixL (mlo S) b))), (5, .int (ixI (mso S) a)), (4, .int 0), (0, .ref (ad 0)), (1, .int a), (2, .int b), (3, .int to)]) hx hb dX2_meet_89 hl (by decide) rfl (fun ls hl => ?_)
      refine lv_iload hx hb dX2_meet_91 (lv_at hl 2 rfl) ?_
      refine lv_lload hx hb dX2_meet_93 (lv_at hl 1 rfl) ?_
      refine lv_lload hx hb dX2_meet_95 (lv_at hl 0 rfl) ?_
      refine ps_call (rest := []) S0 (c_X2_isAbove l (ixI (mso S) a) (kGreater (ixI (mso S) a) (ixL (mlo S) a) (ixL (mlo S) b)) (kLesser (ixI (mso S) a) (ixL (mhi S) a) (ixL (mhi S) b))) gX2_meet_X2_isAbove rfl qX2_isAbove ⟨Nat.le_of_ble_eq_true rfl, Nat.le_of_ble_eq_true rfl⟩ ⟨Nat.le_of_ble_eq_true rfl, Nat.le_of_ble_eq_true rfl⟩ hl.1 rfl (Nat.le_of_ble_eq_true rfl) dX2_meet_97 ?_
      refine zb_eq (P := kAbove (ixI (mso S) a) (kGreater (ixI (mso S) a) (ixL (mlo S) a) (ixL (mlo S) b)) (kLesser (ixI (mso S) a) (ixL (mhi S) a) (ixL (mhi S) b))) (tgt := 111) hx hb dX2_meet_100 (by decide) (fun c_2 => ?_) (fun c_2 => ?_)
      · refine lv_aload_n hx hb dX2_meet_111 rfl (lv_at hl 4 rfl) ?_
        refine lv_iload_n hx hb dX2_meet_112 rfl (lv_at hl 7 rfl) ?_
        refine lv_iload hx hb dX2_meet_113 (lv_at hl 2 rfl) ?_
        refine lv_lload hx hb dX2_meet_115 (lv_at hl 1 rfl) ?_
        refine lv_lload hx hb dX2_meet_117 (lv_at hl 0 rfl) ?_
        refine io_call (rest := []) (w1 := (mW ad cy (mComes to (ixI (mso S) a) (kGreater (ixI (mso S) a) (ixL (mlo S) a) (ixL (mlo S) b)) (kLesser (ixI (mso S) a) (ixL (mhi S) a) (ixL (mhi S) b)) S))) S0 (c_X2_comes l D ad cy A S to (ixI (mso S) a) (kGreater (ixI (mso S) a) (ixL (mlo S) a) (ixL (mlo S) b)) (kLesser (ixI (mso S) a) (ixL (mhi S) a) (ixL (mhi S) b)) (by assumption)) gX2_meet_X2_comes hw rfl qX2_comes ⟨Nat.le_of_ble_eq_true rfl, Nat.le_of_ble_eq_true rfl⟩ ⟨Nat.le_of_ble_eq_true rfl, Nat.le_of_ble_eq_true rfl⟩ rfl rfl rfl hl.1 rfl (Nat.le_of_ble_eq_true rfl) dX2_meet_119 (fun H locs hw => ?_)
        exact io_iret S0 hr hlk hw dX2_meet_122 (congrArg (fun z => some (Value.int z)) (show (mMeet a b to S).1 = 1 from (by first | (simp [mMeet, mAny, zd1, zd2, zd3, zd4, zd5, zd6, hq, if_pos c_1, eq_false c_2]; done) | (simp [mMeet, mAny, zd1, zd2, zd3, zd4, zd5, zd6, eq_true hq, eq_true c_1, eq_false c_2]; done) | (simp [mMeet, mAny, zd1, zd2, zd3, zd4, zd5, zd6, mso, mlo, mhi, mth, mwh, mas, mbs, mts, mst, mrf, met, msd, eq_true hq, eq_true c_1, eq_false c_2]; done) | (simp [mMeet, mAny, zd1, zd2, zd3, zd4, zd5, zd6, mso, mlo, mhi, mth, mwh, mas, mbs, mts, mst, mrf, met, msd, hq, c_1, c_2]; done) | contradiction | rfl))) (congrArg (mW ad cy) (show (mMeet a b to S).2 = mComes to (ixI (mso S) a) (kGreater (ixI (mso S) a) (ixL (mlo S) a) (ixL (mlo S) b)) (kLesser (ixI (mso S) a) (ixL (mhi S) a) (ixL (mhi S) b)) S from (by first | (simp [mMeet, mAny, zd1, zd2, zd3, zd4, zd5, zd6, hq, if_pos c_1, eq_false c_2]; done) | (simp [mMeet, mAny, zd1, zd2, zd3, zd4, zd5, zd6, eq_true hq, eq_true c_1, eq_false c_2]; done) | (simp [mMeet, mAny, zd1, zd2, zd3, zd4, zd5, zd6, mso, mlo, mhi, mth, mwh, mas, mbs, mts, mst, mrf, met, msd, eq_true hq, eq_true c_1, eq_false c_2]; done) | (simp [mMeet, mAny, zd1, zd2, zd3, zd4, zd5, zd6, mso, mlo, mhi, mth, mwh, mas, mbs, mts, mst, mrf, met, msd, hq, c_1, c_2]; done) | contradiction | rfl)))
      · refine lv_aload_n hx hb dX2_meet_103 rfl (lv_at hl 4 rfl) ?_
        refine lv_iload_n hx hb dX2_meet_104 rfl (lv_at hl 7 rfl) ?_
        refine io_call (rest := []) (w1 := (mW ad cy (mEmpty to S))) S0 (c_X2_emptied l D ad cy A S to (by assumption)) gX2_meet_X2_emptied hw rfl qX2_emptied ⟨Nat.le_of_ble_eq_true rfl, Nat.le_of_ble_eq_true rfl⟩ ⟨Nat.le_of_ble_eq_true rfl, Nat.le_of_ble_eq_true rfl⟩ rfl rfl rfl hl.1 rfl (Nat.le_of_ble_eq_true rfl) dX2_meet_105 (fun H locs hw => ?_)
        refine lv_goto (tgt := 122) hx hb dX2_meet_108 (by decide) ?_
        exact io_iret S0 hr hlk hw dX2_meet_122 (congrArg (fun z => some (Value.int z)) (show (mMeet a b to S).1 = 0 from (by first | (simp [mMeet, mAny, zd1, zd2, zd3, zd4, zd5, zd6, hq, if_pos c_1, eq_true c_2]; done) | (simp [mMeet, mAny, zd1, zd2, zd3, zd4, zd5, zd6, eq_true hq, eq_true c_1, eq_true c_2]; done) | (simp [mMeet, mAny, zd1, zd2, zd3, zd4, zd5, zd6, mso, mlo, mhi, mth, mwh, mas, mbs, mts, mst, mrf, met, msd, eq_true hq, eq_true c_1, eq_true c_2]; done) | (simp [mMeet, mAny, zd1, zd2, zd3, zd4, zd5, zd6, mso, mlo, mhi, mth, mwh, mas, mbs, mts, mst, mrf, met, msd, hq, c_1, c_2]; done) | contradiction | rfl))) (congrArg (mW ad cy) (show (mMeet a b to S).2 = mEmpty to S from (by first | (simp [mMeet, mAny, zd1, zd2, zd3, zd4, zd5, zd6, hq, if_pos c_1, eq_true c_2]; done) | (simp [mMeet, mAny, zd1, zd2, zd3, zd4, zd5, zd6, eq_true hq, eq_true c_1, eq_true c_2]; done) | (simp [mMeet, mAny, zd1, zd2, zd3, zd4, zd5, zd6, mso, mlo, mhi, mth, mwh, mas, mbs, mts, mst, mrf, met, msd, eq_true hq, eq_true c_1, eq_true c_2]; done) | (simp [mMeet, mAny, zd1, zd2, zd3, zd4, zd5, zd6, mso, mlo, mhi, mth, mwh, mas, mbs, mts, mst, mrf, met, msd, hq, c_1, c_2]; done) | contradiction | rfl)))
    · refine lv_bipush (v := -4) hx hb dX2_meet_29 (by decide) ?_
      refine lv_istore (lv' := [(4, .int (-4)), (0, .ref (ad 0)), (1, .int a), (2, .int b), (3, .int to)]) hx hb dX2_meet_31 hl (by decide) rfl (fun ls hl => ?_)
      refine lv_iload hx hb dX2_meet_33 (lv_at hl 0 rfl) ?_
      refine zi_ge (tgt := 45) hx hb dX2_meet_35 (by decide) (fun q => absurd (by decide) q) (fun _ => ?_)
      refine lv_aload_n hx hb dX2_meet_38 rfl (lv_at hl 1 rfl) ?_
      refine lv_iload hx hb dX2_meet_39 (lv_at hl 0 rfl) ?_
      refine io_call (rest := []) (w1 := (mW ad cy (mRef (-4) S))) S0 (c_X2_refuses l D ad cy A S (-4)) gX2_meet_X2_refuses hw rfl qX2_refuses ⟨Nat.le_of_ble_eq_true rfl, Nat.le_of_ble_eq_true rfl⟩ ⟨Nat.le_of_ble_eq_true rfl, Nat.le_of_ble_eq_true rfl⟩ rfl rfl rfl hl.1 rfl (Nat.le_of_ble_eq_true rfl) dX2_meet_41 (fun H locs hw => ?_)
      exact io_iret S0 hr hlk hw dX2_meet_44 (congrArg (fun z => some (Value.int z)) (show (mMeet a b to S).1 = (-4) from (by first | (simp [mMeet, mAny, zd1, zd2, zd3, zd4, zd5, zd6, hq, eq_false c_1]; done) | (simp [mMeet, mAny, zd1, zd2, zd3, zd4, zd5, zd6, eq_true hq, eq_false c_1]; done) | (simp [mMeet, mAny, zd1, zd2, zd3, zd4, zd5, zd6, mso, mlo, mhi, mth, mwh, mas, mbs, mts, mst, mrf, met, msd, eq_true hq, eq_false c_1]; done) | (simp [mMeet, mAny, zd1, zd2, zd3, zd4, zd5, zd6, mso, mlo, mhi, mth, mwh, mas, mbs, mts, mst, mrf, met, msd, hq, c_1]; done) | contradiction | rfl))) (congrArg (mW ad cy) (show (mMeet a b to S).2 = mRef (-4) S from (by first | (simp [mMeet, mAny, zd1, zd2, zd3, zd4, zd5, zd6, hq, eq_false c_1]; done) | (simp [mMeet, mAny, zd1, zd2, zd3, zd4, zd5, zd6, eq_true hq, eq_false c_1]; done) | (simp [mMeet, mAny, zd1, zd2, zd3, zd4, zd5, zd6, mso, mlo, mhi, mth, mwh, mas, mbs, mts, mst, mrf, met, msd, eq_true hq, eq_false c_1]; done) | (simp [mMeet, mAny, zd1, zd2, zd3, zd4, zd5, zd6, mso, mlo, mhi, mth, mwh, mas, mbs, mts, mst, mrf, met, msd, hq, c_1]; done) | contradiction | rfl)))
