theorem xTake_in {i : Int32} {S : XS} (h : ¬ xTake i S < 0) : zSl i := by
  by_cases q : zSl i
  · exact q
  · exact absurd (by unfold xTake; rw [if_neg q]; decide) h
theorem xCmp_in {i : Int32} {v : Int64} {S : XS} (h : ¬ xCmp i v S < 0) : zSl i := by
  by_cases q : xTake i S < 0
  · exact absurd (by unfold xCmp; rw [if_pos q]; exact q) h
  · exact xTake_in q
theorem xRef_in {w a b to : Int32} {S : XS} (h : ¬ xRef w a b to S < 0) : zSlots w a b to := by
  by_cases q : zSlots w a b to
  · exact q
  · exact absurd (by unfold xRef; rw [if_neg q]; decide) h
theorem qX1_noted : yX1_noted.cls = RX1 ∧ yX1_noted.cls ≠ "java/lang/invoke/MethodHandle" ∧ yX1_noted.cls ≠ "java/lang/invoke/VarHandle" ∧ (parseMethodDescriptor yX1_noted.desc).map (fun d => d.parameters.length) = some 1 := by decide +kernel
set_option maxHeartbeats 4000000 in
set_option maxRecDepth 100000 in
theorem c_X1_noted (l : Launch) (D : va_G) (ad : Nat → Nat) (cy : Nat → ClassId) (A : Nat → Prop) (S : XS) (a : Int32) : OM l D (xT cy) A yX1_noted wsX1_noted 0 0 [.ref (ad 0), .int a] (xW ad cy S) (xW ad cy (xNoted a S)) (some (.int a)) := by
  refine OM.of (cc := cX1_noted) (maxL := 2) (ret := some .int) (own := RX1) (by decide) rfl rfl (Nat.le_of_ble_eq_true rfl) ?_
  intro p e s m below meth c ls S0 hr hlk hl hw
  have hx := S0.1
  have hb := S0.2.1
  have hl : lv_has ls 2 [(0, .ref (ad 0)), (1, .int a)] := hl
  have hin : ∀ w ∈ wsX10, w ∈ wsX1_noted := fun w h => List.mem_cons_of_mem _ (List.mem_append_right _ h)
  refine lv_aload_n hx hb dX1_noted_0 rfl (lv_at hl 0 rfl) ?_
  refine lv_iload_n hx hb dX1_noted_1 rfl (lv_at hl 1 rfl) ?_
  refine zi_ge (tgt := 9) hx hb dX1_noted_2 (by decide) (fun c_1 => ?_) (fun c_1 => ?_)
  · refine lv_iconst (v := 0) hx hb dX1_noted_9 (by decide) ?_
    refine gd_put (w1 := (xW ad cy (xso S, xlo S, xhi S, xwh S, xas S, xbs S, xts S, 0, xrf S, xet S, xsd S))) S0 hin tyX1 tyX1_ok nmX1 hw rfl rfl 7 (by decide) (S0.2.2.2.2 (.fieldLink RX1 83 "StretchDesk" "latestRefusal" "I") (by decide +kernel)) rfl rfl (by decide +kernel) (Nat.le_of_ble_eq_true rfl) rfl dX1_noted_10 (fun H locs hw => ?_)
    refine lv_iload_n hx hb dX1_noted_13 rfl (lv_at hl 1 rfl) ?_
    refine zi_ge (tgt := 27) hx hb dX1_noted_14 (by decide) (fun _ => ?_) (fun q => absurd q c_1)
    refine lv_iload_n hx hb dX1_noted_27 rfl (lv_at hl 1 rfl) ?_
    exact io_iret S0 hr hlk hw dX1_noted_28 (congrArg (fun z => some (Value.int z)) (show a = a from (by first | (simp [xNoted, xso, xlo, xhi, xwh, xas, xbs, xts, xst, xrf, xet, xsd, eq_false c_1]; done) | (simp [xNoted, xso, xlo, xhi, xwh, xas, xbs, xts, xst, xrf, xet, xsd, c_1]; done) | contradiction | rfl))) (congrArg (xW ad cy) (show xNoted a S = (xso S, xlo S, xhi S, xwh S, xas S, xbs S, xts S, 0, xrf S, xet S, xsd S) from (by first | (simp [xNoted, xso, xlo, xhi, xwh, xas, xbs, xts, xst, xrf, xet, xsd, eq_false c_1]; done) | (simp [xNoted, xso, xlo, xhi, xwh, xas, xbs, xts, xst, xrf, xet, xsd, c_1]; done) | contradiction | rfl)))
  · refine lv_iload_n hx hb dX1_noted_5 rfl (lv_at hl 1 rfl) ?_
    refine lv_goto (tgt := 10) hx hb dX1_noted_6 (by decide) ?_
    refine gd_put (w1 := (xW ad cy (xso S, xlo S, xhi S, xwh S, xas S, xbs S, xts S, a, xrf S, xet S, xsd S))) S0 hin tyX1 tyX1_ok nmX1 hw rfl rfl 7 (by decide) (S0.2.2.2.2 (.fieldLink RX1 83 "StretchDesk" "latestRefusal" "I") (by decide +kernel)) rfl rfl (by decide +kernel) (Nat.le_of_ble_eq_true rfl) rfl dX1_noted_10 (fun H locs hw => ?_)
    refine lv_iload_n hx hb dX1_noted_13 rfl (lv_at hl 1 rfl) ?_
    refine zi_ge (tgt := 27) hx hb dX1_noted_14 (by decide) (fun q => absurd c_1 q) (fun _ => ?_)
    refine lv_aload_n hx hb dX1_noted_17 rfl (lv_at hl 0 rfl) ?_
    refine lv_dup hx hb dX1_noted_18 rfl ?_
    refine gd_get S0 hin hw rfl rfl 8 (by decide) (S0.2.2.2.2 (.fieldLink RX1 93 "StretchDesk" "refusals" "I") (by decide +kernel)) rfl (v := .int (xrf S)) rfl dX1_noted_19 ?_
    refine lv_iconst (v := 1) hx hb dX1_noted_22 (by decide) ?_
    refine lv_iadd hx hb dX1_noted_23 ?_
    refine gd_put (w1 := (xW ad cy (xso S, xlo S, xhi S, xwh S, xas S, xbs S, xts S, a, (xrf S) + 1, xet S, xsd S))) S0 hin tyX1 tyX1_ok nmX1 hw rfl rfl 8 (by decide) (S0.2.2.2.2 (.fieldLink RX1 93 "StretchDesk" "refusals" "I") (by decide +kernel)) rfl rfl (by decide +kernel) (Nat.le_of_ble_eq_true rfl) rfl dX1_noted_24 (fun H locs hw => ?_)
    refine lv_iload_n hx hb dX1_noted_27 rfl (lv_at hl 1 rfl) ?_
    exact io_iret S0 hr hlk hw dX1_noted_28 (congrArg (fun z => some (Value.int z)) (show a = a from (by first | (simp [xNoted, xso, xlo, xhi, xwh, xas, xbs, xts, xst, xrf, xet, xsd, eq_true c_1]; done) | (simp [xNoted, xso, xlo, xhi, xwh, xas, xbs, xts, xst, xrf, xet, xsd, c_1]; done) | contradiction | rfl))) (congrArg (xW ad cy) (show xNoted a S = (xso S, xlo S, xhi S, xwh S, xas S, xbs S, xts S, a, (xrf S) + 1, xet S, xsd S) from (by first | (simp [xNoted, xso, xlo, xhi, xwh, xas, xbs, xts, xst, xrf, xet, xsd, eq_true c_1]; done) | (simp [xNoted, xso, xlo, xhi, xwh, xas, xbs, xts, xst, xrf, xet, xsd, c_1]; done) | contradiction | rfl)))
theorem qX1_put : yX1_put.cls = RX1 ∧ yX1_put.cls ≠ "java/lang/invoke/MethodHandle" ∧ yX1_put.cls ≠ "java/lang/invoke/VarHandle" ∧ (parseMethodDescriptor yX1_put.desc).map (fun d => d.parameters.length) = some 4 := by decide +kernel
set_option maxHeartbeats 4000000 in
set_option maxRecDepth 100000 in
theorem c_X1_put (l : Launch) (D : va_G) (ad : Nat → Nat) (cy : Nat → ClassId) (A : Nat → Prop) (S : XS) (to : Int32) (t : Int32) (u : Int64) (v : Int64) (h1 : zSl to) : OM l D (xT cy) A yX1_put wsX1_put 0 0 [.ref (ad 0), .int to, .int t, .long u, .long v] (xW ad cy S) (xW ad cy (xPut to t u v S)) (some (.int 1)) := by
  refine OM.of (cc := cX1_put) (maxL := 7) (ret := some .int) (own := RX1) (by decide) rfl rfl (Nat.le_of_ble_eq_true rfl) ?_
  intro p e s m below meth c ls S0 hr hlk hl hw
  have hx := S0.1
  have hb := S0.2.1
  have hl : lv_has ls 7 [(0, .ref (ad 0)), (1, .int to), (2, .int t), (3, .long u), (5, .long v)] := hl
  have hin : ∀ w ∈ wsX10, w ∈ wsX1_put := fun w h => List.mem_cons_of_mem _ (List.mem_append_right _ h)
  refine lv_aload_n hx hb dX1_put_0 rfl (lv_at hl 0 rfl) ?_
  refine gd_get S0 hin hw rfl rfl 0 (by decide) (S0.2.2.2.2 (.fieldLink RX1 9 "StretchDesk" "sorts" "[I") (by decide +kernel)) rfl (v := .ref (ad 1)) rfl dX1_put_1 ?_
  refine lv_iload_n hx hb dX1_put_4 rfl (lv_at hl 1 rfl) ?_
  refine lv_iload_n hx hb dX1_put_5 rfl (lv_at hl 2 rfl) ?_
  refine gd_iast (w1 := (xW ad cy (upd (xso S) (Int32.toNatClampNeg to) t, xlo S, xhi S, xwh S, xas S, xbs S, xts S, xst S, xrf S, xet S, xsd S))) (f := _) S0 hw 1 0 rfl rfl (zIn (by assumption)) rfl dX1_put_6 (fun H locs hw => ?_)
  refine lv_aload_n hx hb dX1_put_7 rfl (lv_at hl 0 rfl) ?_
  refine gd_get S0 hin hw rfl rfl 1 (by decide) (S0.2.2.2.2 (.fieldLink RX1 13 "StretchDesk" "lows" "[J") (by decide +kernel)) rfl (v := .ref (ad 2)) rfl dX1_put_8 ?_
  refine lv_iload_n hx hb dX1_put_11 rfl (lv_at hl 1 rfl) ?_
  refine lv_lload_n hx hb dX1_put_12 rfl (lv_at hl 3 rfl) ?_
  refine gd_last (w1 := (xW ad cy (upd (xso S) (Int32.toNatClampNeg to) t, vp_updL (xlo S) (Int32.toNatClampNeg to) u, xhi S, xwh S, xas S, xbs S, xts S, xst S, xrf S, xet S, xsd S))) (f := _) S0 hw 2 1 rfl rfl (zIn (by assumption)) rfl dX1_put_13 (fun H locs hw => ?_)
  refine lv_aload_n hx hb dX1_put_14 rfl (lv_at hl 0 rfl) ?_
  refine gd_get S0 hin hw rfl rfl 2 (by decide) (S0.2.2.2.2 (.fieldLink RX1 17 "StretchDesk" "highs" "[J") (by decide +kernel)) rfl (v := .ref (ad 3)) rfl dX1_put_15 ?_
  refine lv_iload_n hx hb dX1_put_18 rfl (lv_at hl 1 rfl) ?_
  refine lv_lload hx hb dX1_put_19 (lv_at hl 4 rfl) ?_
  refine gd_last (w1 := (xW ad cy (upd (xso S) (Int32.toNatClampNeg to) t, vp_updL (xlo S) (Int32.toNatClampNeg to) u, vp_updL (xhi S) (Int32.toNatClampNeg to) v, xwh S, xas S, xbs S, xts S, xst S, xrf S, xet S, xsd S))) (f := _) S0 hw 3 2 rfl rfl (zIn (by assumption)) rfl dX1_put_21 (fun H locs hw => ?_)
  refine lv_iconst (v := 1) hx hb dX1_put_22 (by decide) ?_
  exact io_iret S0 hr hlk hw dX1_put_23 (congrArg (fun z => some (Value.int z)) (show 1 = 1 from (by first | (simp [xPut, xso, xlo, xhi, xwh, xas, xbs, xts, xst, xrf, xet, xsd]; done) | (simp [xPut, xso, xlo, xhi, xwh, xas, xbs, xts, xst, xrf, xet, xsd]; done) | contradiction | rfl))) (congrArg (xW ad cy) (show xPut to t u v S = (upd (xso S) (Int32.toNatClampNeg to) t, vp_updL (xlo S) (Int32.toNatClampNeg to) u, vp_updL (xhi S) (Int32.toNatClampNeg to) v, xwh S, xas S, xbs S, xts S, xst S, xrf S, xet S, xsd S) from (by first | (simp [xPut, xso, xlo, xhi, xwh, xas, xbs, xts, xst, xrf, xet, xsd]; done) | (simp [xPut, xso, xlo, xhi, xwh, xas, xbs, xts, xst, xrf, xet, xsd]; done) | contradiction | rfl)))
theorem qX1_putOrdered : yX1_putOrdered.cls = RX1 ∧ yX1_putOrdered.cls ≠ "java/lang/invoke/MethodHandle" ∧ yX1_putOrdered.cls ≠ "java/lang/invoke/VarHandle" ∧ (parseMethodDescriptor yX1_putOrdered.desc).map (fun d => d.parameters.length) = some 4 := by decide +kernel
set_option maxHeartbeats 4000000 in
set_option maxRecDepth 100000 in
theorem c_X1_putOrdered (l : Launch) (D : va_G) (ad : Nat → Nat) (cy : Nat → ClassId) (A : Nat → Prop) (S : XS) (to : Int32) (t : Int32) (u : Int64) (v : Int64) (h1 : zSl to) : OM l D (xT cy) A yX1_putOrdered wsX1_putOrdered 3 69 [.ref (ad 0), .int to, .int t, .long u, .long v] (xW ad cy S) (xW ad cy (xPutOrd to t u v S)) (some (.int 1)) := by
  refine OM.of (cc := cX1_putOrdered) (maxL := 7) (ret := some .int) (own := RX1) (by decide) rfl rfl (Nat.le_of_ble_eq_true rfl) ?_
  intro p e s m below meth c ls S0 hr hlk hl hw
  have hx := S0.1
  have hb := S0.2.1
  have hl : lv_has ls 7 [(0, .ref (ad 0)), (1, .int to), (2, .int t), (3, .long u), (5, .long v)] := hl
  refine lv_aload_n hx hb dX1_putOrdered_0 rfl (lv_at hl 0 rfl) ?_
  refine lv_iload_n hx hb dX1_putOrdered_1 rfl (lv_at hl 1 rfl) ?_
  refine lv_iload_n hx hb dX1_putOrdered_2 rfl (lv_at hl 2 rfl) ?_
  refine lv_iload_n hx hb dX1_putOrdered_3 rfl (lv_at hl 2 rfl) ?_
  refine lv_lload_n hx hb dX1_putOrdered_4 rfl (lv_at hl 3 rfl) ?_
  refine lv_lload hx hb dX1_putOrdered_5 (lv_at hl 4 rfl) ?_
  refine ps_call (rest := [.int t, .int to, .ref (ad 0)]) S0 (c_X0_lesser l t u v) gX1_putOrdered_X0_lesser rfl qX0_lesser ⟨Nat.le_of_ble_eq_true rfl, Nat.le_of_ble_eq_true rfl⟩ ⟨Nat.le_of_ble_eq_true rfl, Nat.le_of_ble_eq_true rfl⟩ hl.1 rfl (Nat.le_of_ble_eq_true rfl) dX1_putOrdered_7 ?_
  refine lv_iload_n hx hb dX1_putOrdered_10 rfl (lv_at hl 2 rfl) ?_
  refine lv_lload_n hx hb dX1_putOrdered_11 rfl (lv_at hl 3 rfl) ?_
  refine lv_lload hx hb dX1_putOrdered_12 (lv_at hl 4 rfl) ?_
  refine ps_call (rest := [.long (nLesser t u v), .int t, .int to, .ref (ad 0)]) S0 (c_X0_greater l t u v) gX1_putOrdered_X0_greater rfl qX0_greater ⟨Nat.le_of_ble_eq_true rfl, Nat.le_of_ble_eq_true rfl⟩ ⟨Nat.le_of_ble_eq_true rfl, Nat.le_of_ble_eq_true rfl⟩ hl.1 rfl (Nat.le_of_ble_eq_true rfl) dX1_putOrdered_14 ?_
  refine io_call (rest := []) (w1 := (xW ad cy (xPut to t (nLesser t u v) (nGreater t u v) S))) S0 (c_X1_put l D ad cy A S to t (nLesser t u v) (nGreater t u v) (by assumption)) gX1_putOrdered_X1_put hw rfl qX1_put ⟨Nat.le_of_ble_eq_true rfl, Nat.le_of_ble_eq_true rfl⟩ ⟨Nat.le_of_ble_eq_true rfl, Nat.le_of_ble_eq_true rfl⟩ rfl rfl rfl hl.1 rfl (Nat.le_of_ble_eq_true rfl) dX1_putOrdered_17 (fun H locs hw => ?_)
  exact io_iret S0 hr hlk hw dX1_putOrdered_20 (congrArg (fun z => some (Value.int z)) (show 1 = 1 from (by first | (simp [xPutOrd, xso, xlo, xhi, xwh, xas, xbs, xts, xst, xrf, xet, xsd]; done) | (simp [xPutOrd, xso, xlo, xhi, xwh, xas, xbs, xts, xst, xrf, xet, xsd]; done) | contradiction | rfl))) (congrArg (xW ad cy) (show xPutOrd to t u v S = xPut to t (nLesser t u v) (nGreater t u v) S from (by first | (simp [xPutOrd, xso, xlo, xhi, xwh, xas, xbs, xts, xst, xrf, xet, xsd]; done) | (simp [xPutOrd, xso, xlo, xhi, xwh, xas, xbs, xts, xst, xrf, xet, xsd]; done) | contradiction | rfl)))
theorem qX1_putIfAny : yX1_putIfAny.cls = RX1 ∧ yX1_putIfAny.cls ≠ "java/lang/invoke/MethodHandle" ∧ yX1_putIfAny.cls ≠ "java/lang/invoke/VarHandle" ∧ (parseMethodDescriptor yX1_putIfAny.desc).map (fun d => d.parameters.length) = some 4 := by decide +kernel
set_option maxHeartbeats 4000000 in
set_option maxRecDepth 100000 in
theorem c_X1_putIfAny (l : Launch) (D : va_G) (ad : Nat → Nat) (cy : Nat → ClassId) (A : Nat → Prop) (S : XS) (to : Int32) (t : Int32) (u : Int64) (v : Int64) (h1 : zSl to) : OM l D (xT cy) A yX1_putIfAny wsX1_putIfAny 2 45 [.ref (ad 0), .int to, .int t, .long u, .long v] (xW ad cy S) (xW ad cy ((xPutAny to t u v S).2)) (some (.int ((xPutAny to t u v S).1))) := by
  refine OM.of (cc := cX1_putIfAny) (maxL := 7) (ret := some .int) (own := RX1) (by decide) rfl rfl (Nat.le_of_ble_eq_true rfl) ?_
  intro p e s m below meth c ls S0 hr hlk hl hw
  have hx := S0.1
  have hb := S0.2.1
  have hl : lv_has ls 7 [(0, .ref (ad 0)), (1, .int to), (2, .int t), (3, .long u), (5, .long v)] := hl
  have hin : ∀ w ∈ wsX10, w ∈ wsX1_putIfAny := fun w h => List.mem_cons_of_mem _ (List.mem_append_right _ h)
  refine lv_iload_n hx hb dX1_putIfAny_0 rfl (lv_at hl 2 rfl) ?_
  refine lv_lload hx hb dX1_putIfAny_1 (lv_at hl 4 rfl) ?_
  refine lv_lload_n hx hb dX1_putIfAny_3 rfl (lv_at hl 3 rfl) ?_
  refine ps_call (rest := []) S0 (c_X0_isLess l t v u) gX1_putIfAny_X0_isLess rfl qX0_isLess ⟨Nat.le_of_ble_eq_true rfl, Nat.le_of_ble_eq_true rfl⟩ ⟨Nat.le_of_ble_eq_true rfl, Nat.le_of_ble_eq_true rfl⟩ hl.1 rfl (Nat.le_of_ble_eq_true rfl) dX1_putIfAny_4 ?_
  refine zb_eq (P := nLess t v u) (tgt := 19) hx hb dX1_putIfAny_7 (by decide) (fun c_1 => ?_) (fun c_1 => ?_)
  · refine lv_aload_n hx hb dX1_putIfAny_19 rfl (lv_at hl 0 rfl) ?_
    refine lv_iload_n hx hb dX1_putIfAny_20 rfl (lv_at hl 1 rfl) ?_
    refine lv_iload_n hx hb dX1_putIfAny_21 rfl (lv_at hl 2 rfl) ?_
    refine lv_lload_n hx hb dX1_putIfAny_22 rfl (lv_at hl 3 rfl) ?_
    refine lv_lload hx hb dX1_putIfAny_23 (lv_at hl 4 rfl) ?_
    refine io_call (rest := []) (w1 := (xW ad cy (xPut to t u v S))) S0 (c_X1_put l D ad cy A S to t u v (by assumption)) gX1_putIfAny_X1_put hw rfl qX1_put ⟨Nat.le_of_ble_eq_true rfl, Nat.le_of_ble_eq_true rfl⟩ ⟨Nat.le_of_ble_eq_true rfl, Nat.le_of_ble_eq_true rfl⟩ rfl rfl rfl hl.1 rfl (Nat.le_of_ble_eq_true rfl) dX1_putIfAny_25 (fun H locs hw => ?_)
    exact io_iret S0 hr hlk hw dX1_putIfAny_28 (congrArg (fun z => some (Value.int z)) (show (xPutAny to t u v S).1 = 1 from (by first | (simp [xPutAny, xVoid, xso, xlo, xhi, xwh, xas, xbs, xts, xst, xrf, xet, xsd, eq_false c_1]; done) | (simp [xPutAny, xVoid, xso, xlo, xhi, xwh, xas, xbs, xts, xst, xrf, xet, xsd, c_1]; done) | contradiction | rfl))) (congrArg (xW ad cy) (show (xPutAny to t u v S).2 = xPut to t u v S from (by first | (simp [xPutAny, xVoid, xso, xlo, xhi, xwh, xas, xbs, xts, xst, xrf, xet, xsd, eq_false c_1]; done) | (simp [xPutAny, xVoid, xso, xlo, xhi, xwh, xas, xbs, xts, xst, xrf, xet, xsd, c_1]; done) | contradiction | rfl)))
  · refine lv_aload_n hx hb dX1_putIfAny_10 rfl (lv_at hl 0 rfl) ?_
    refine gd_get S0 hin hw rfl rfl 0 (by decide) (S0.2.2.2.2 (.fieldLink RX1 9 "StretchDesk" "sorts" "[I") (by decide +kernel)) rfl (v := .ref (ad 1)) rfl dX1_putIfAny_11 ?_
    refine lv_iload_n hx hb dX1_putIfAny_14 rfl (lv_at hl 1 rfl) ?_
    refine lv_iconst (v := -1) hx hb dX1_putIfAny_15 (by decide) ?_
    refine gd_iast (w1 := (xW ad cy (upd (xso S) (Int32.toNatClampNeg to) (-1), xlo S, xhi S, xwh S, xas S, xbs S, xts S, xst S, xrf S, xet S, xsd S))) (f := _) S0 hw 1 0 rfl rfl (zIn (by assumption)) rfl dX1_putIfAny_16 (fun H locs hw => ?_)
    refine lv_iconst (v := 0) hx hb dX1_putIfAny_17 (by decide) ?_
    exact io_iret S0 hr hlk hw dX1_putIfAny_18 (congrArg (fun z => some (Value.int z)) (show (xPutAny to t u v S).1 = 0 from (by first | (simp [xPutAny, xVoid, xso, xlo, xhi, xwh, xas, xbs, xts, xst, xrf, xet, xsd, eq_true c_1]; done) | (simp [xPutAny, xVoid, xso, xlo, xhi, xwh, xas, xbs, xts, xst, xrf, xet, xsd, c_1]; done) | contradiction | rfl))) (congrArg (xW ad cy) (show (xPutAny to t u v S).2 = (upd (xso S) (Int32.toNatClampNeg to) (-1), xlo S, xhi S, xwh S, xas S, xbs S, xts S, xst S, xrf S, xet S, xsd S) from (by first | (simp [xPutAny, xVoid, xso, xlo, xhi, xwh, xas, xbs, xts, xst, xrf, xet, xsd, eq_true c_1]; done) | (simp [xPutAny, xVoid, xso, xlo, xhi, xwh, xas, xbs, xts, xst, xrf, xet, xsd, c_1]; done) | contradiction | rfl)))
theorem qX1_joined : yX1_joined.cls = RX1 ∧ yX1_joined.cls ≠ "java/lang/invoke/MethodHandle" ∧ yX1_joined.cls ≠ "java/lang/invoke/VarHandle" ∧ (parseMethodDescriptor yX1_joined.desc).map (fun d => d.parameters.length) = some 3 := by decide +kernel
set_option maxHeartbeats 4000000 in
set_option maxRecDepth 100000 in
theorem c_X1_joined (l : Launch) (D : va_G) (ad : Nat → Nat) (cy : Nat → ClassId) (A : Nat → Prop) (S : XS) (a : Int32) (b : Int32) (to : Int32) (h1 : zSl a) (h2 : zSl b) (h3 : zSl to) : OM l D (xT cy) A yX1_joined wsX1_joined 3 69 [.ref (ad 0), .int a, .int b, .int to] (xW ad cy S) (xW ad cy ((xJoined a b to S).2)) (some (.int ((xJoined a b to S).1))) := by
  refine OM.of (cc := cX1_joined) (maxL := 9) (ret := some .int) (own := RX1) (by decide) rfl rfl (Nat.le_of_ble_eq_true rfl) ?_
  intro p e s m below meth c ls S0 hr hlk hl hw
  have hx := S0.1
  have hb := S0.2.1
  have hl : lv_has ls 9 [(0, .ref (ad 0)), (1, .int a), (2, .int b), (3, .int to)] := hl
  have hin : ∀ w ∈ wsX10, w ∈ wsX1_joined := fun w h => List.mem_cons_of_mem _ (List.mem_append_right _ h)
  refine lv_aload_n hx hb dX1_joined_0 rfl (lv_at hl 0 rfl) ?_
  refine gd_get S0 hin hw rfl rfl 0 (by decide) (S0.2.2.2.2 (.fieldLink RX1 9 "StretchDesk" "sorts" "[I") (by decide +kernel)) rfl (v := .ref (ad 1)) rfl dX1_joined_1 ?_
  refine lv_iload_n hx hb dX1_joined_4 rfl (lv_at hl 1 rfl) ?_
  refine va_iald hx hb hw.2.2.1 hw.1 1 0 rfl rfl (zIn (by assumption)) dX1_joined_5 ?_
  refine lv_istore (lv' := [(4, .int (ixI (xso S) a)), (0, .ref (ad 0)), (1, .int a), (2, .int b), (3, .int to)]) hx hb dX1_joined_6 hl (by decide) rfl (fun ls hl => ?_)
  refine lv_iload hx hb dX1_joined_8 (lv_at hl 0 rfl) ?_
  refine lv_aload_n hx hb dX1_joined_10 rfl (lv_at hl 1 rfl) ?_
  refine gd_get S0 hin hw rfl rfl 1 (by decide) (S0.2.2.2.2 (.fieldLink RX1 13 "StretchDesk" "lows" "[J") (by decide +kernel)) rfl (v := .ref (ad 2)) rfl dX1_joined_11 ?_
  refine lv_iload_n hx hb dX1_joined_14 rfl (lv_at hl 2 rfl) ?_
  refine va_lald hx hb hw.2.2.1 hw.1 2 1 rfl rfl (zIn (by assumption)) dX1_joined_15 ?_
  refine lv_aload_n hx hb dX1_joined_16 rfl (lv_at hl 1 rfl) ?_
  refine gd_get S0 hin hw rfl rfl 1 (by decide) (S0.2.2.2.2 (.fieldLink RX1 13 "StretchDesk" "lows" "[J") (by decide +kernel)) rfl (v := .ref (ad 2)) rfl dX1_joined_17 ?_
  refine lv_iload_n hx hb dX1_joined_20 rfl (lv_at hl 3 rfl) ?_
  refine va_lald hx hb hw.2.2.1 hw.1 2 1 rfl rfl (zIn (by assumption)) dX1_joined_21 ?_
  refine ps_call (rest := []) S0 (c_X0_lesser l (ixI (xso S) a) (ixL (xlo S) a) (ixL (xlo S) b)) gX1_joined_X0_lesser rfl qX0_lesser ⟨Nat.le_of_ble_eq_true rfl, Nat.le_of_ble_eq_true rfl⟩ ⟨Nat.le_of_ble_eq_true rfl, Nat.le_of_ble_eq_true rfl⟩ hl.1 rfl (Nat.le_of_ble_eq_true rfl) dX1_joined_22 ?_
  refine lv_lstore (lv' := [(5, .long (nLesser (ixI (xso S) a) (ixL (xlo S) a) (ixL (xlo S) b))), (4, .int (ixI (xso S) a)), (0, .ref (ad 0)), (1, .int a), (2, .int b), (3, .int to)]) hx hb dX1_joined_25 hl (by decide) rfl (fun ls hl => ?_)
  refine lv_iload hx hb dX1_joined_27 (lv_at hl 1 rfl) ?_
  refine lv_aload_n hx hb dX1_joined_29 rfl (lv_at hl 2 rfl) ?_
  refine gd_get S0 hin hw rfl rfl 2 (by decide) (S0.2.2.2.2 (.fieldLink RX1 17 "StretchDesk" "highs" "[J") (by decide +kernel)) rfl (v := .ref (ad 3)) rfl dX1_joined_30 ?_
  refine lv_iload_n hx hb dX1_joined_33 rfl (lv_at hl 3 rfl) ?_
  refine va_lald hx hb hw.2.2.1 hw.1 3 2 rfl rfl (zIn (by assumption)) dX1_joined_34 ?_
  refine lv_aload_n hx hb dX1_joined_35 rfl (lv_at hl 2 rfl) ?_
  refine gd_get S0 hin hw rfl rfl 2 (by decide) (S0.2.2.2.2 (.fieldLink RX1 17 "StretchDesk" "highs" "[J") (by decide +kernel)) rfl (v := .ref (ad 3)) rfl dX1_joined_36 ?_
  refine lv_iload_n hx hb dX1_joined_39 rfl (lv_at hl 4 rfl) ?_
  refine va_lald hx hb hw.2.2.1 hw.1 3 2 rfl rfl (zIn (by assumption)) dX1_joined_40 ?_
  refine ps_call (rest := []) S0 (c_X0_greater l (ixI (xso S) a) (ixL (xhi S) a) (ixL (xhi S) b)) gX1_joined_X0_greater rfl qX0_greater ⟨Nat.le_of_ble_eq_true rfl, Nat.le_of_ble_eq_true rfl⟩ ⟨Nat.le_of_ble_eq_true rfl, Nat.le_of_ble_eq_true rfl⟩ hl.1 rfl (Nat.le_of_ble_eq_true rfl) dX1_joined_41 ?_
  refine lv_lstore (lv' := [(7, .long (nGreater (ixI (xso S) a) (ixL (xhi S) a) (ixL (xhi S) b))), (5, .long (nLesser (ixI (xso S) a) (ixL (xlo S) a) (ixL (xlo S) b))), (4, .int (ixI (xso S) a)), (0, .ref (ad 0)), (1, .int a), (2, .int b), (3, .int to)]) hx hb dX1_joined_44 hl (by decide) rfl (fun ls hl => ?_)
  refine lv_aload_n hx hb dX1_joined_46 rfl (lv_at hl 3 rfl) ?_
  refine lv_iload_n hx hb dX1_joined_47 rfl (lv_at hl 6 rfl) ?_
  refine lv_iload hx hb dX1_joined_48 (lv_at hl 2 rfl) ?_
  refine lv_lload hx hb dX1_joined_50 (lv_at hl 1 rfl) ?_
  refine lv_lload hx hb dX1_joined_52 (lv_at hl 0 rfl) ?_
  refine io_call (rest := []) (w1 := (xW ad cy (xPut to (ixI (xso S) a) (nLesser (ixI (xso S) a) (ixL (xlo S) a) (ixL (xlo S) b)) (nGreater (ixI (xso S) a) (ixL (xhi S) a) (ixL (xhi S) b)) S))) S0 (c_X1_put l D ad cy A S to (ixI (xso S) a) (nLesser (ixI (xso S) a) (ixL (xlo S) a) (ixL (xlo S) b)) (nGreater (ixI (xso S) a) (ixL (xhi S) a) (ixL (xhi S) b)) (by assumption)) gX1_joined_X1_put hw rfl qX1_put ⟨Nat.le_of_ble_eq_true rfl, Nat.le_of_ble_eq_true rfl⟩ ⟨Nat.le_of_ble_eq_true rfl, Nat.le_of_ble_eq_true rfl⟩ rfl rfl rfl hl.1 rfl (Nat.le_of_ble_eq_true rfl) dX1_joined_54 (fun H locs hw => ?_)
  exact io_iret S0 hr hlk hw dX1_joined_57 (congrArg (fun z => some (Value.int z)) (show (xJoined a b to S).1 = 1 from (by first | (simp [xJoined, xso, xlo, xhi, xwh, xas, xbs, xts, xst, xrf, xet, xsd]; done) | (simp [xJoined, xso, xlo, xhi, xwh, xas, xbs, xts, xst, xrf, xet, xsd]; done) | contradiction | rfl))) (congrArg (xW ad cy) (show (xJoined a b to S).2 = xPut to (ixI (xso S) a) (nLesser (ixI (xso S) a) (ixL (xlo S) a) (ixL (xlo S) b)) (nGreater (ixI (xso S) a) (ixL (xhi S) a) (ixL (xhi S) b)) S from (by first | (simp [xJoined, xso, xlo, xhi, xwh, xas, xbs, xts, xst, xrf, xet, xsd]; done) | (simp [xJoined, xso, xlo, xhi, xwh, xas, xbs, xts, xst, xrf, xet, xsd]; done) | contradiction | rfl)))
theorem qX1_cut : yX1_cut.cls = RX1 ∧ yX1_cut.cls ≠ "java/lang/invoke/MethodHandle" ∧ yX1_cut.cls ≠ "java/lang/invoke/VarHandle" ∧ (parseMethodDescriptor yX1_cut.desc).map (fun d => d.parameters.length) = some 3 := by decide +kernel
set_option maxHeartbeats 4000000 in
set_option maxRecDepth 100000 in
theorem c_X1_cut (l : Launch) (D : va_G) (ad : Nat → Nat) (cy : Nat → ClassId) (A : Nat → Prop) (S : XS) (a : Int32) (b : Int32) (to : Int32) (h1 : zSl a) (h2 : zSl b) (h3 : zSl to) : OM l D (xT cy) A yX1_cut wsX1_cut 3 71 [.ref (ad 0), .int a, .int b, .int to] (xW ad cy S) (xW ad cy ((xCut a b to S).2)) (some (.int ((xCut a b to S).1))) := by
  refine OM.of (cc := cX1_cut) (maxL := 9) (ret := some .int) (own := RX1) (by decide) rfl rfl (Nat.le_of_ble_eq_true rfl) ?_
  intro p e s m below meth c ls S0 hr hlk hl hw
  have hx := S0.1
  have hb := S0.2.1
  have hl : lv_has ls 9 [(0, .ref (ad 0)), (1, .int a), (2, .int b), (3, .int to)] := hl
  have hin : ∀ w ∈ wsX10, w ∈ wsX1_cut := fun w h => List.mem_cons_of_mem _ (List.mem_append_right _ h)
  refine lv_aload_n hx hb dX1_cut_0 rfl (lv_at hl 0 rfl) ?_
  refine gd_get S0 hin hw rfl rfl 0 (by decide) (S0.2.2.2.2 (.fieldLink RX1 9 "StretchDesk" "sorts" "[I") (by decide +kernel)) rfl (v := .ref (ad 1)) rfl dX1_cut_1 ?_
  refine lv_iload_n hx hb dX1_cut_4 rfl (lv_at hl 1 rfl) ?_
  refine va_iald hx hb hw.2.2.1 hw.1 1 0 rfl rfl (zIn (by assumption)) dX1_cut_5 ?_
  refine lv_istore (lv' := [(4, .int (ixI (xso S) a)), (0, .ref (ad 0)), (1, .int a), (2, .int b), (3, .int to)]) hx hb dX1_cut_6 hl (by decide) rfl (fun ls hl => ?_)
  refine lv_iload hx hb dX1_cut_8 (lv_at hl 0 rfl) ?_
  refine lv_aload_n hx hb dX1_cut_10 rfl (lv_at hl 1 rfl) ?_
  refine gd_get S0 hin hw rfl rfl 1 (by decide) (S0.2.2.2.2 (.fieldLink RX1 13 "StretchDesk" "lows" "[J") (by decide +kernel)) rfl (v := .ref (ad 2)) rfl dX1_cut_11 ?_
  refine lv_iload_n hx hb dX1_cut_14 rfl (lv_at hl 2 rfl) ?_
  refine va_lald hx hb hw.2.2.1 hw.1 2 1 rfl rfl (zIn (by assumption)) dX1_cut_15 ?_
  refine lv_aload_n hx hb dX1_cut_16 rfl (lv_at hl 1 rfl) ?_
  refine gd_get S0 hin hw rfl rfl 1 (by decide) (S0.2.2.2.2 (.fieldLink RX1 13 "StretchDesk" "lows" "[J") (by decide +kernel)) rfl (v := .ref (ad 2)) rfl dX1_cut_17 ?_
  refine lv_iload_n hx hb dX1_cut_20 rfl (lv_at hl 3 rfl) ?_
  refine va_lald hx hb hw.2.2.1 hw.1 2 1 rfl rfl (zIn (by assumption)) dX1_cut_21 ?_
  refine ps_call (rest := []) S0 (c_X0_greater l (ixI (xso S) a) (ixL (xlo S) a) (ixL (xlo S) b)) gX1_cut_X0_greater rfl qX0_greater ⟨Nat.le_of_ble_eq_true rfl, Nat.le_of_ble_eq_true rfl⟩ ⟨Nat.le_of_ble_eq_true rfl, Nat.le_of_ble_eq_true rfl⟩ hl.1 rfl (Nat.le_of_ble_eq_true rfl) dX1_cut_22 ?_
  refine lv_lstore (lv' := [(5, .long (nGreater (ixI (xso S) a) (ixL (xlo S) a) (ixL (xlo S) b))), (4, .int (ixI (xso S) a)), (0, .ref (ad 0)), (1, .int a), (2, .int b), (3, .int to)]) hx hb dX1_cut_25 hl (by decide) rfl (fun ls hl => ?_)
  refine lv_iload hx hb dX1_cut_27 (lv_at hl 1 rfl) ?_
  refine lv_aload_n hx hb dX1_cut_29 rfl (lv_at hl 2 rfl) ?_
  refine gd_get S0 hin hw rfl rfl 2 (by decide) (S0.2.2.2.2 (.fieldLink RX1 17 "StretchDesk" "highs" "[J") (by decide +kernel)) rfl (v := .ref (ad 3)) rfl dX1_cut_30 ?_
  refine lv_iload_n hx hb dX1_cut_33 rfl (lv_at hl 3 rfl) ?_
  refine va_lald hx hb hw.2.2.1 hw.1 3 2 rfl rfl (zIn (by assumption)) dX1_cut_34 ?_
  refine lv_aload_n hx hb dX1_cut_35 rfl (lv_at hl 2 rfl) ?_
  refine gd_get S0 hin hw rfl rfl 2 (by decide) (S0.2.2.2.2 (.fieldLink RX1 17 "StretchDesk" "highs" "[J") (by decide +kernel)) rfl (v := .ref (ad 3)) rfl dX1_cut_36 ?_
  refine lv_iload_n hx hb dX1_cut_39 rfl (lv_at hl 4 rfl) ?_
  refine va_lald hx hb hw.2.2.1 hw.1 3 2 rfl rfl (zIn (by assumption)) dX1_cut_40 ?_
  refine ps_call (rest := []) S0 (c_X0_lesser l (ixI (xso S) a) (ixL (xhi S) a) (ixL (xhi S) b)) gX1_cut_X0_lesser rfl qX0_lesser ⟨Nat.le_of_ble_eq_true rfl, Nat.le_of_ble_eq_true rfl⟩ ⟨Nat.le_of_ble_eq_true rfl, Nat.le_of_ble_eq_true rfl⟩ hl.1 rfl (Nat.le_of_ble_eq_true rfl) dX1_cut_41 ?_
  refine lv_lstore (lv' := [(7, .long (nLesser (ixI (xso S) a) (ixL (xhi S) a) (ixL (xhi S) b))), (5, .long (nGreater (ixI (xso S) a) (ixL (xlo S) a) (ixL (xlo S) b))), (4, .int (ixI (xso S) a)), (0, .ref (ad 0)), (1, .int a), (2, .int b), (3, .int to)]) hx hb dX1_cut_44 hl (by decide) rfl (fun ls hl => ?_)
  refine lv_aload_n hx hb dX1_cut_46 rfl (lv_at hl 3 rfl) ?_
  refine lv_iload_n hx hb dX1_cut_47 rfl (lv_at hl 6 rfl) ?_
  refine lv_iload hx hb dX1_cut_48 (lv_at hl 2 rfl) ?_
  refine lv_lload hx hb dX1_cut_50 (lv_at hl 1 rfl) ?_
  refine lv_lload hx hb dX1_cut_52 (lv_at hl 0 rfl) ?_
  refine io_call (rest := []) (w1 := (xW ad cy ((xPutAny to (ixI (xso S) a) (nGreater (ixI (xso S) a) (ixL (xlo S) a) (ixL (xlo S) b)) (nLesser (ixI (xso S) a) (ixL (xhi S) a) (ixL (xhi S) b)) S).2))) S0 (c_X1_putIfAny l D ad cy A S to (ixI (xso S) a) (nGreater (ixI (xso S) a) (ixL (xlo S) a) (ixL (xlo S) b)) (nLesser (ixI (xso S) a) (ixL (xhi S) a) (ixL (xhi S) b)) (by assumption)) gX1_cut_X1_putIfAny hw rfl qX1_putIfAny ⟨Nat.le_of_ble_eq_true rfl, Nat.le_of_ble_eq_true rfl⟩ ⟨Nat.le_of_ble_eq_true rfl, Nat.le_of_ble_eq_true rfl⟩ rfl rfl rfl hl.1 rfl (Nat.le_of_ble_eq_true rfl) dX1_cut_54 (fun H locs hw => ?_)
  exact io_iret S0 hr hlk hw dX1_cut_57 (congrArg (fun z => some (Value.int z)) (show (xCut a b to S).1 = (xPutAny to (ixI (xso S) a) (nGreater (ixI (xso S) a) (ixL (xlo S) a) (ixL (xlo S) b)) (nLesser (ixI (xso S) a) (ixL (xhi S) a) (ixL (xhi S) b)) S).1 from (by first | (simp [xCut, xso, xlo, xhi, xwh, xas, xbs, xts, xst, xrf, xet, xsd]; done) | (simp [xCut, xso, xlo, xhi, xwh, xas, xbs, xts, xst, xrf, xet, xsd]; done) | contradiction | rfl))) (congrArg (xW ad cy) (show (xCut a b to S).2 = (xPutAny to (ixI (xso S) a) (nGreater (ixI (xso S) a) (ixL (xlo S) a) (ixL (xlo S) b)) (nLesser (ixI (xso S) a) (ixL (xhi S) a) (ixL (xhi S) b)) S).2 from (by first | (simp [xCut, xso, xlo, xhi, xwh, xas, xbs, xts, xst, xrf, xet, xsd]; done) | (simp [xCut, xso, xlo, xhi, xwh, xas, xbs, xts, xst, xrf, xet, xsd]; done) | contradiction | rfl)))
theorem qX1_sized : yX1_sized.cls = RX1 ∧ yX1_sized.cls ≠ "java/lang/invoke/MethodHandle" ∧ yX1_sized.cls ≠ "java/lang/invoke/VarHandle" ∧ (parseMethodDescriptor yX1_sized.desc).map (fun d => d.parameters.length) = some 2 := by decide +kernel
set_option maxHeartbeats 4000000 in
set_option maxRecDepth 100000 in
theorem c_X1_sized (l : Launch) (D : va_G) (ad : Nat → Nat) (cy : Nat → ClassId) (A : Nat → Prop) (S : XS) (a : Int32) (to : Int32) (h1 : zSl a) (h3 : zSl to) : OM l D (xT cy) A yX1_sized wsX1_sized 4 95 [.ref (ad 0), .int a, .int to] (xW ad cy S) (xW ad cy ((xSized a to S).2)) (some (.int ((xSized a to S).1))) := by
  refine OM.of (cc := cX1_sized) (maxL := 8) (ret := some .int) (own := RX1) (by decide) rfl rfl (Nat.le_of_ble_eq_true rfl) ?_
  intro p e s m below meth c ls S0 hr hlk hl hw
  have hx := S0.1
  have hb := S0.2.1
  have hl : lv_has ls 8 [(0, .ref (ad 0)), (1, .int a), (2, .int to)] := hl
  have hin : ∀ w ∈ wsX10, w ∈ wsX1_sized := fun w h => List.mem_cons_of_mem _ (List.mem_append_right _ h)
  refine lv_aload_n hx hb dX1_sized_0 rfl (lv_at hl 0 rfl) ?_
  refine gd_get S0 hin hw rfl rfl 0 (by decide) (S0.2.2.2.2 (.fieldLink RX1 9 "StretchDesk" "sorts" "[I") (by decide +kernel)) rfl (v := .ref (ad 1)) rfl dX1_sized_1 ?_
  refine lv_iload_n hx hb dX1_sized_4 rfl (lv_at hl 1 rfl) ?_
  refine va_iald hx hb hw.2.2.1 hw.1 1 0 rfl rfl (zIn (by assumption)) dX1_sized_5 ?_
  refine lv_istore_n (lv' := [(3, .int (ixI (xso S) a)), (0, .ref (ad 0)), (1, .int a), (2, .int to)]) hx hb dX1_sized_6 rfl hl (by decide) rfl (fun ls hl => ?_)
  refine lv_iload_n hx hb dX1_sized_7 rfl (lv_at hl 0 rfl) ?_
  refine lv_aload_n hx hb dX1_sized_8 rfl (lv_at hl 1 rfl) ?_
  refine gd_get S0 hin hw rfl rfl 1 (by decide) (S0.2.2.2.2 (.fieldLink RX1 13 "StretchDesk" "lows" "[J") (by decide +kernel)) rfl (v := .ref (ad 2)) rfl dX1_sized_9 ?_
  refine lv_iload_n hx hb dX1_sized_12 rfl (lv_at hl 2 rfl) ?_
  refine va_lald hx hb hw.2.2.1 hw.1 2 1 rfl rfl (zIn (by assumption)) dX1_sized_13 ?_
  refine ps_call (rest := []) S0 (c_X0_sizeOf l (ixI (xso S) a) (ixL (xlo S) a)) gX1_sized_X0_sizeOf rfl qX0_sizeOf ⟨Nat.le_of_ble_eq_true rfl, Nat.le_of_ble_eq_true rfl⟩ ⟨Nat.le_of_ble_eq_true rfl, Nat.le_of_ble_eq_true rfl⟩ hl.1 rfl (Nat.le_of_ble_eq_true rfl) dX1_sized_14 ?_
  refine lv_lstore (lv' := [(4, .long (nSize (ixI (xso S) a) (ixL (xlo S) a))), (3, .int (ixI (xso S) a)), (0, .ref (ad 0)), (1, .int a), (2, .int to)]) hx hb dX1_sized_17 hl (by decide) rfl (fun ls hl => ?_)
  refine lv_iload_n hx hb dX1_sized_19 rfl (lv_at hl 1 rfl) ?_
  refine lv_aload_n hx hb dX1_sized_20 rfl (lv_at hl 2 rfl) ?_
  refine gd_get S0 hin hw rfl rfl 2 (by decide) (S0.2.2.2.2 (.fieldLink RX1 17 "StretchDesk" "highs" "[J") (by decide +kernel)) rfl (v := .ref (ad 3)) rfl dX1_sized_21 ?_
  refine lv_iload_n hx hb dX1_sized_24 rfl (lv_at hl 3 rfl) ?_
  refine va_lald hx hb hw.2.2.1 hw.1 3 2 rfl rfl (zIn (by assumption)) dX1_sized_25 ?_
  refine ps_call (rest := []) S0 (c_X0_sizeOf l (ixI (xso S) a) (ixL (xhi S) a)) gX1_sized_X0_sizeOf rfl qX0_sizeOf ⟨Nat.le_of_ble_eq_true rfl, Nat.le_of_ble_eq_true rfl⟩ ⟨Nat.le_of_ble_eq_true rfl, Nat.le_of_ble_eq_true rfl⟩ hl.1 rfl (Nat.le_of_ble_eq_true rfl) dX1_sized_26 ?_
  refine lv_lstore (lv' := [(6, .long (nSize (ixI (xso S) a) (ixL (xhi S) a))), (4, .long (nSize (ixI (xso S) a) (ixL (xlo S) a))), (3, .int (ixI (xso S) a)), (0, .ref (ad 0)), (1, .int a), (2, .int to)]) hx hb dX1_sized_29 hl (by decide) rfl (fun ls hl => ?_)
  refine lv_iload_n hx hb dX1_sized_31 rfl (lv_at hl 2 rfl) ?_
  refine lv_aload_n hx hb dX1_sized_32 rfl (lv_at hl 3 rfl) ?_
  refine gd_get S0 hin hw rfl rfl 1 (by decide) (S0.2.2.2.2 (.fieldLink RX1 13 "StretchDesk" "lows" "[J") (by decide +kernel)) rfl (v := .ref (ad 2)) rfl dX1_sized_33 ?_
  refine lv_iload_n hx hb dX1_sized_36 rfl (lv_at hl 4 rfl) ?_
  refine va_lald hx hb hw.2.2.1 hw.1 2 1 rfl rfl (zIn (by assumption)) dX1_sized_37 ?_
  refine ps_call (rest := []) S0 (c_X0_isBelowZero l (ixI (xso S) a) (ixL (xlo S) a)) gX1_sized_X0_isBelowZero rfl qX0_isBelowZero ⟨Nat.le_of_ble_eq_true rfl, Nat.le_of_ble_eq_true rfl⟩ ⟨Nat.le_of_ble_eq_true rfl, Nat.le_of_ble_eq_true rfl⟩ hl.1 rfl (Nat.le_of_ble_eq_true rfl) dX1_sized_38 ?_
  refine zb_eq (P := nBelow (ixI (xso S) a) (ixL (xlo S) a)) (tgt := 72) hx hb dX1_sized_41 (by decide) (fun c_1 => ?_) (fun c_1 => ?_)
  · refine lv_aload_n hx hb dX1_sized_72 rfl (lv_at hl 3 rfl) ?_
    refine lv_iload_n hx hb dX1_sized_73 rfl (lv_at hl 5 rfl) ?_
    refine lv_iload_n hx hb dX1_sized_74 rfl (lv_at hl 2 rfl) ?_
    refine lv_lload hx hb dX1_sized_75 (lv_at hl 1 rfl) ?_
    refine lv_lload hx hb dX1_sized_77 (lv_at hl 0 rfl) ?_
    refine io_call (rest := []) (w1 := (xW ad cy (xPutOrd to (ixI (xso S) a) (nSize (ixI (xso S) a) (ixL (xlo S) a)) (nSize (ixI (xso S) a) (ixL (xhi S) a)) S))) S0 (c_X1_putOrdered l D ad cy A S to (ixI (xso S) a) (nSize (ixI (xso S) a) (ixL (xlo S) a)) (nSize (ixI (xso S) a) (ixL (xhi S) a)) (by assumption)) gX1_sized_X1_putOrdered hw rfl qX1_putOrdered ⟨Nat.le_of_ble_eq_true rfl, Nat.le_of_ble_eq_true rfl⟩ ⟨Nat.le_of_ble_eq_true rfl, Nat.le_of_ble_eq_true rfl⟩ rfl rfl rfl hl.1 rfl (Nat.le_of_ble_eq_true rfl) dX1_sized_79 (fun H locs hw => ?_)
    exact io_iret S0 hr hlk hw dX1_sized_82 (congrArg (fun z => some (Value.int z)) (show (xSized a to S).1 = 1 from (by first | (simp [xSized, xso, xlo, xhi, xwh, xas, xbs, xts, xst, xrf, xet, xsd, eq_false c_1]; done) | (simp [xSized, xso, xlo, xhi, xwh, xas, xbs, xts, xst, xrf, xet, xsd, c_1]; done) | contradiction | rfl))) (congrArg (xW ad cy) (show (xSized a to S).2 = xPutOrd to (ixI (xso S) a) (nSize (ixI (xso S) a) (ixL (xlo S) a)) (nSize (ixI (xso S) a) (ixL (xhi S) a)) S from (by first | (simp [xSized, xso, xlo, xhi, xwh, xas, xbs, xts, xst, xrf, xet, xsd, eq_false c_1]; done) | (simp [xSized, xso, xlo, xhi, xwh, xas, xbs, xts, xst, xrf, xet, xsd, c_1]; done) | contradiction | rfl)))
  · refine lv_aload_n hx hb dX1_sized_44 rfl (lv_at hl 3 rfl) ?_
    refine gd_get S0 hin hw rfl rfl 2 (by decide) (S0.2.2.2.2 (.fieldLink RX1 17 "StretchDesk" "highs" "[J") (by decide +kernel)) rfl (v := .ref (ad 3)) rfl dX1_sized_45 ?_
    refine lv_iload_n hx hb dX1_sized_48 rfl (lv_at hl 4 rfl) ?_
    refine va_lald hx hb hw.2.2.1 hw.1 3 2 rfl rfl (zIn (by assumption)) dX1_sized_49 ?_
    refine ps_call (rest := []) S0 (c_X0_isAboveZero l (ixL (xhi S) a)) gX1_sized_X0_isAboveZero rfl qX0_isAboveZero ⟨Nat.le_of_ble_eq_true rfl, Nat.le_of_ble_eq_true rfl⟩ ⟨Nat.le_of_ble_eq_true rfl, Nat.le_of_ble_eq_true rfl⟩ hl.1 rfl (Nat.le_of_ble_eq_true rfl) dX1_sized_50 ?_
    refine zb_eq (P := nAbove (ixL (xhi S) a)) (tgt := 72) hx hb dX1_sized_53 (by decide) (fun c_2 => ?_) (fun c_2 => ?_)
    · refine lv_aload_n hx hb dX1_sized_72 rfl (lv_at hl 3 rfl) ?_
      refine lv_iload_n hx hb dX1_sized_73 rfl (lv_at hl 5 rfl) ?_
      refine lv_iload_n hx hb dX1_sized_74 rfl (lv_at hl 2 rfl) ?_
      refine lv_lload hx hb dX1_sized_75 (lv_at hl 1 rfl) ?_
      refine lv_lload hx hb dX1_sized_77 (lv_at hl 0 rfl) ?_
      refine io_call (rest := []) (w1 := (xW ad cy (xPutOrd to (ixI (xso S) a) (nSize (ixI (xso S) a) (ixL (xlo S) a)) (nSize (ixI (xso S) a) (ixL (xhi S) a)) S))) S0 (c_X1_putOrdered l D ad cy A S to (ixI (xso S) a) (nSize (ixI (xso S) a) (ixL (xlo S) a)) (nSize (ixI (xso S) a) (ixL (xhi S) a)) (by assumption)) gX1_sized_X1_putOrdered hw rfl qX1_putOrdered ⟨Nat.le_of_ble_eq_true rfl, Nat.le_of_ble_eq_true rfl⟩ ⟨Nat.le_of_ble_eq_true rfl, Nat.le_of_ble_eq_true rfl⟩ rfl rfl rfl hl.1 rfl (Nat.le_of_ble_eq_true rfl) dX1_sized_79 (fun H locs hw => ?_)
      exact io_iret S0 hr hlk hw dX1_sized_82 (congrArg (fun z => some (Value.int z)) (show (xSized a to S).1 = 1 from (by first | (simp [xSized, xso, xlo, xhi, xwh, xas, xbs, xts, xst, xrf, xet, xsd, eq_true c_1, eq_false c_2]; done) | (simp [xSized, xso, xlo, xhi, xwh, xas, xbs, xts, xst, xrf, xet, xsd, c_1, c_2]; done) | contradiction | rfl))) (congrArg (xW ad cy) (show (xSized a to S).2 = xPutOrd to (ixI (xso S) a) (nSize (ixI (xso S) a) (ixL (xlo S) a)) (nSize (ixI (xso S) a) (ixL (xhi S) a)) S from (by first | (simp [xSized, xso, xlo, xhi, xwh, xas, xbs, xts, xst, xrf, xet, xsd, eq_true c_1, eq_false c_2]; done) | (simp [xSized, xso, xlo, xhi, xwh, xas, xbs, xts, xst, xrf, xet, xsd, c_1, c_2]; done) | contradiction | rfl)))
    · refine lv_aload_n hx hb dX1_sized_56 rfl (lv_at hl 3 rfl) ?_
      refine lv_iload_n hx hb dX1_sized_57 rfl (lv_at hl 5 rfl) ?_
      refine lv_iload_n hx hb dX1_sized_58 rfl (lv_at hl 2 rfl) ?_
      refine lv_lconst (v := 0) hx hb dX1_sized_59 (by decide) ?_
      refine lv_iload_n hx hb dX1_sized_60 rfl (lv_at hl 2 rfl) ?_
      refine lv_lload hx hb dX1_sized_61 (lv_at hl 1 rfl) ?_
      refine lv_lload hx hb dX1_sized_63 (lv_at hl 0 rfl) ?_
      refine ps_call (rest := [.long 0, .int (ixI (xso S) a), .int to, .ref (ad 0)]) S0 (c_X0_greater l (ixI (xso S) a) (nSize (ixI (xso S) a) (ixL (xlo S) a)) (nSize (ixI (xso S) a) (ixL (xhi S) a))) gX1_sized_X0_greater rfl qX0_greater ⟨Nat.le_of_ble_eq_true rfl, Nat.le_of_ble_eq_true rfl⟩ ⟨Nat.le_of_ble_eq_true rfl, Nat.le_of_ble_eq_true rfl⟩ hl.1 rfl (Nat.le_of_ble_eq_true rfl) dX1_sized_65 ?_
      refine io_call (rest := []) (w1 := (xW ad cy (xPutOrd to (ixI (xso S) a) 0 (nGreater (ixI (xso S) a) (nSize (ixI (xso S) a) (ixL (xlo S) a)) (nSize (ixI (xso S) a) (ixL (xhi S) a))) S))) S0 (c_X1_putOrdered l D ad cy A S to (ixI (xso S) a) 0 (nGreater (ixI (xso S) a) (nSize (ixI (xso S) a) (ixL (xlo S) a)) (nSize (ixI (xso S) a) (ixL (xhi S) a))) (by assumption)) gX1_sized_X1_putOrdered hw rfl qX1_putOrdered ⟨Nat.le_of_ble_eq_true rfl, Nat.le_of_ble_eq_true rfl⟩ ⟨Nat.le_of_ble_eq_true rfl, Nat.le_of_ble_eq_true rfl⟩ rfl rfl rfl hl.1 rfl (Nat.le_of_ble_eq_true rfl) dX1_sized_68 (fun H locs hw => ?_)
      exact io_iret S0 hr hlk hw dX1_sized_71 (congrArg (fun z => some (Value.int z)) (show (xSized a to S).1 = 1 from (by first | (simp [xSized, xso, xlo, xhi, xwh, xas, xbs, xts, xst, xrf, xet, xsd, eq_true c_1, eq_true c_2]; done) | (simp [xSized, xso, xlo, xhi, xwh, xas, xbs, xts, xst, xrf, xet, xsd, c_1, c_2]; done) | contradiction | rfl))) (congrArg (xW ad cy) (show (xSized a to S).2 = xPutOrd to (ixI (xso S) a) 0 (nGreater (ixI (xso S) a) (nSize (ixI (xso S) a) (ixL (xlo S) a)) (nSize (ixI (xso S) a) (ixL (xhi S) a))) S from (by first | (simp [xSized, xso, xlo, xhi, xwh, xas, xbs, xts, xst, xrf, xet, xsd, eq_true c_1, eq_true c_2]; done) | (simp [xSized, xso, xlo, xhi, xwh, xas, xbs, xts, xst, xrf, xet, xsd, c_1, c_2]; done) | contradiction | rfl)))
theorem qX1_rounded : yX1_rounded.cls = RX1 ∧ yX1_rounded.cls ≠ "java/lang/invoke/MethodHandle" ∧ yX1_rounded.cls ≠ "java/lang/invoke/VarHandle" ∧ (parseMethodDescriptor yX1_rounded.desc).map (fun d => d.parameters.length) = some 3 := by decide +kernel
set_option maxHeartbeats 4000000 in
set_option maxRecDepth 100000 in
theorem c_X1_rounded (l : Launch) (D : va_G) (ad : Nat → Nat) (cy : Nat → ClassId) (A : Nat → Prop) (S : XS) (a : Int32) (how : Int32) (to : Int32) (h1 : zSl a) (h3 : zSl to) : OM l D (xT cy) A yX1_rounded wsX1_rounded 4 99 [.ref (ad 0), .int a, .int how, .int to] (xW ad cy S) (xW ad cy ((xRounded a how to S).2)) (some (.int ((xRounded a how to S).1))) := by
  refine OM.of (cc := cX1_rounded) (maxL := 7) (ret := some .int) (own := RX1) (by decide) rfl rfl (Nat.le_of_ble_eq_true rfl) ?_
  intro p e s m below meth c ls S0 hr hlk hl hw
  have hx := S0.1
  have hb := S0.2.1
  have hl : lv_has ls 7 [(0, .ref (ad 0)), (1, .int a), (2, .int how), (3, .int to)] := hl
  have hin : ∀ w ∈ wsX10, w ∈ wsX1_rounded := fun w h => List.mem_cons_of_mem _ (List.mem_append_right _ h)
  refine lv_aload_n hx hb dX1_rounded_0 rfl (lv_at hl 0 rfl) ?_
  refine gd_get S0 hin hw rfl rfl 0 (by decide) (S0.2.2.2.2 (.fieldLink RX1 9 "StretchDesk" "sorts" "[I") (by decide +kernel)) rfl (v := .ref (ad 1)) rfl dX1_rounded_1 ?_
  refine lv_iload_n hx hb dX1_rounded_4 rfl (lv_at hl 1 rfl) ?_
  refine va_iald hx hb hw.2.2.1 hw.1 1 0 rfl rfl (zIn (by assumption)) dX1_rounded_5 ?_
  refine lv_istore (lv' := [(4, .int (ixI (xso S) a)), (0, .ref (ad 0)), (1, .int a), (2, .int how), (3, .int to)]) hx hb dX1_rounded_6 hl (by decide) rfl (fun ls hl => ?_)
  refine lv_iload hx hb dX1_rounded_8 (lv_at hl 0 rfl) ?_
  refine ps_call (rest := []) S0 (c_X0_isBroken l (ixI (xso S) a)) gX1_rounded_X0_isBroken rfl qX0_isBroken ⟨Nat.le_of_ble_eq_true rfl, Nat.le_of_ble_eq_true rfl⟩ ⟨Nat.le_of_ble_eq_true rfl, Nat.le_of_ble_eq_true rfl⟩ hl.1 rfl (Nat.le_of_ble_eq_true rfl) dX1_rounded_10 ?_
  refine zb_ne (P := nBroken (ixI (xso S) a)) (tgt := 19) hx hb dX1_rounded_13 (by decide) (fun c_1 => ?_) (fun c_1 => ?_)
  · refine lv_iload_n hx hb dX1_rounded_19 rfl (lv_at hl 3 rfl) ?_
    refine zi_lt (tgt := 28) hx hb dX1_rounded_20 (by decide) (fun c_2 => ?_) (fun c_2 => ?_)
    · refine lv_bipush (v := -5) hx hb dX1_rounded_28 (by decide) ?_
      exact io_iret S0 hr hlk hw dX1_rounded_30 (congrArg (fun z => some (Value.int z)) (show (xRounded a how to S).1 = -5 from (by first | (simp [xRounded, xso, xlo, xhi, xwh, xas, xbs, xts, xst, xrf, xet, xsd, eq_true c_1, eq_true c_2]; done) | (simp [xRounded, xso, xlo, xhi, xwh, xas, xbs, xts, xst, xrf, xet, xsd, c_1, c_2]; done) | contradiction | rfl))) (congrArg (xW ad cy) (show (xRounded a how to S).2 = S from (by first | (simp [xRounded, xso, xlo, xhi, xwh, xas, xbs, xts, xst, xrf, xet, xsd, eq_true c_1, eq_true c_2]; done) | (simp [xRounded, xso, xlo, xhi, xwh, xas, xbs, xts, xst, xrf, xet, xsd, c_1, c_2]; done) | contradiction | rfl)))
    · refine lv_iload_n hx hb dX1_rounded_23 rfl (lv_at hl 3 rfl) ?_
      refine lv_iconst (v := 4) hx hb dX1_rounded_24 (by decide) ?_
      refine zc_le (tgt := 31) hx hb dX1_rounded_25 (by decide) (fun c_3 => ?_) (fun c_3 => ?_)
      · refine lv_iload_n hx hb dX1_rounded_31 rfl (lv_at hl 3 rfl) ?_
        refine lv_istore (lv' := [(5, .int how), (4, .int (ixI (xso S) a)), (0, .ref (ad 0)), (1, .int a), (2, .int how), (3, .int to)]) hx hb dX1_rounded_32 hl (by decide) rfl (fun ls hl => ?_)
        refine lv_iload_n hx hb dX1_rounded_34 rfl (lv_at hl 4 rfl) ?_
        refine lv_istore (lv' := [(6, .int how), (5, .int how), (4, .int (ixI (xso S) a)), (0, .ref (ad 0)), (1, .int a), (2, .int how), (3, .int to)]) hx hb dX1_rounded_35 hl (by decide) rfl (fun ls hl => ?_)
        refine lv_iload_n hx hb dX1_rounded_37 rfl (lv_at hl 5 rfl) ?_
        refine lv_iconst (v := 3) hx hb dX1_rounded_38 (by decide) ?_
        refine zc_ne (tgt := 48) hx hb dX1_rounded_39 (by decide) (fun c_4 => ?_) (fun c_4 => ?_)
        · refine lv_iload_n hx hb dX1_rounded_48 rfl (lv_at hl 5 rfl) ?_
          refine lv_iconst (v := 4) hx hb dX1_rounded_49 (by decide) ?_
          refine zc_ne (tgt := 59) hx hb dX1_rounded_50 (by decide) (fun c_5 => ?_) (fun c_5 => ?_)
          · refine lv_aload_n hx hb dX1_rounded_59 rfl (lv_at hl 3 rfl) ?_
            refine lv_iload_n hx hb dX1_rounded_60 rfl (lv_at hl 6 rfl) ?_
            refine lv_iload hx hb dX1_rounded_61 (lv_at hl 2 rfl) ?_
            refine lv_iload hx hb dX1_rounded_63 (lv_at hl 2 rfl) ?_
            refine lv_aload_n hx hb dX1_rounded_65 rfl (lv_at hl 3 rfl) ?_
            refine gd_get S0 hin hw rfl rfl 1 (by decide) (S0.2.2.2.2 (.fieldLink RX1 13 "StretchDesk" "lows" "[J") (by decide +kernel)) rfl (v := .ref (ad 2)) rfl dX1_rounded_66 ?_
            refine lv_iload_n hx hb dX1_rounded_69 rfl (lv_at hl 4 rfl) ?_
            refine va_lald hx hb hw.2.2.1 hw.1 2 1 rfl rfl (zIn (by assumption)) dX1_rounded_70 ?_
            refine lv_iload hx hb dX1_rounded_71 (lv_at hl 1 rfl) ?_
            refine ps_call (rest := [.int (ixI (xso S) a), .int to, .ref (ad 0)]) S0 (c_X0_whole l (ixI (xso S) a) (ixL (xlo S) a) how) gX1_rounded_X0_whole rfl qX0_whole ⟨Nat.le_of_ble_eq_true rfl, Nat.le_of_ble_eq_true rfl⟩ ⟨Nat.le_of_ble_eq_true rfl, Nat.le_of_ble_eq_true rfl⟩ hl.1 rfl (Nat.le_of_ble_eq_true rfl) dX1_rounded_73 ?_
            refine lv_iload hx hb dX1_rounded_76 (lv_at hl 2 rfl) ?_
            refine lv_aload_n hx hb dX1_rounded_78 rfl (lv_at hl 3 rfl) ?_
            refine gd_get S0 hin hw rfl rfl 2 (by decide) (S0.2.2.2.2 (.fieldLink RX1 17 "StretchDesk" "highs" "[J") (by decide +kernel)) rfl (v := .ref (ad 3)) rfl dX1_rounded_79 ?_
            refine lv_iload_n hx hb dX1_rounded_82 rfl (lv_at hl 4 rfl) ?_
            refine va_lald hx hb hw.2.2.1 hw.1 3 2 rfl rfl (zIn (by assumption)) dX1_rounded_83 ?_
            refine lv_iload hx hb dX1_rounded_84 (lv_at hl 0 rfl) ?_
            refine ps_call (rest := [.long (nWhole (ixI (xso S) a) (ixL (xlo S) a) how), .int (ixI (xso S) a), .int to, .ref (ad 0)]) S0 (c_X0_whole l (ixI (xso S) a) (ixL (xhi S) a) how) gX1_rounded_X0_whole rfl qX0_whole ⟨Nat.le_of_ble_eq_true rfl, Nat.le_of_ble_eq_true rfl⟩ ⟨Nat.le_of_ble_eq_true rfl, Nat.le_of_ble_eq_true rfl⟩ hl.1 rfl (Nat.le_of_ble_eq_true rfl) dX1_rounded_86 ?_
            refine io_call (rest := []) (w1 := (xW ad cy ((xPutAny to (ixI (xso S) a) (nWhole (ixI (xso S) a) (ixL (xlo S) a) how) (nWhole (ixI (xso S) a) (ixL (xhi S) a) how) S).2))) S0 (c_X1_putIfAny l D ad cy A S to (ixI (xso S) a) (nWhole (ixI (xso S) a) (ixL (xlo S) a) how) (nWhole (ixI (xso S) a) (ixL (xhi S) a) how) (by assumption)) gX1_rounded_X1_putIfAny hw rfl qX1_putIfAny ⟨Nat.le_of_ble_eq_true rfl, Nat.le_of_ble_eq_true rfl⟩ ⟨Nat.le_of_ble_eq_true rfl, Nat.le_of_ble_eq_true rfl⟩ rfl rfl rfl hl.1 rfl (Nat.le_of_ble_eq_true rfl) dX1_rounded_89 (fun H locs hw => ?_)
            exact io_iret S0 hr hlk hw dX1_rounded_92 (congrArg (fun z => some (Value.int z)) (show (xRounded a how to S).1 = (xPutAny to (ixI (xso S) a) (nWhole (ixI (xso S) a) (ixL (xlo S) a) how) (nWhole (ixI (xso S) a) (ixL (xhi S) a) how) S).1 from (by first | (simp [xRounded, xso, xlo, xhi, xwh, xas, xbs, xts, xst, xrf, xet, xsd, eq_true c_1, eq_false c_2, eq_false c_3, eq_false c_4, eq_false c_5]; done) | (simp [xRounded, xso, xlo, xhi, xwh, xas, xbs, xts, xst, xrf, xet, xsd, c_1, c_2, c_3, c_4, c_5]; done) | contradiction | rfl))) (congrArg (xW ad cy) (show (xRounded a how to S).2 = (xPutAny to (ixI (xso S) a) (nWhole (ixI (xso S) a) (ixL (xlo S) a) how) (nWhole (ixI (xso S) a) (ixL (xhi S) a) how) S).2 from (by first | (simp [xRounded, xso, xlo, xhi, xwh, xas, xbs, xts, xst, xrf, xet, xsd, eq_true c_1, eq_false c_2, eq_false c_3, eq_false c_4, eq_false c_5]; done) | (simp [xRounded, xso, xlo, xhi, xwh, xas, xbs, xts, xst, xrf, xet, xsd, c_1, c_2, c_3, c_4, c_5]; done) | contradiction | rfl)))
          · refine lv_iconst (v := 1) hx hb dX1_rounded_53 (by decide) ?_
            refine lv_istore (lv' := [(5, .int 1), (6, .int how), (4, .int (ixI (xso S) a)), (0, .ref (ad 0)), (1, .int a), (2, .int how), (3, .int to)]) hx hb dX1_rounded_54 hl (by decide) rfl (fun ls hl => ?_)
            refine lv_iconst (v := 0) hx hb dX1_rounded_56 (by decide) ?_
            refine lv_istore (lv' := [(6, .int 0), (5, .int 1), (4, .int (ixI (xso S) a)), (0, .ref (ad 0)), (1, .int a), (2, .int how), (3, .int to)]) hx hb dX1_rounded_57 hl (by decide) rfl (fun ls hl => ?_)
            refine lv_aload_n hx hb dX1_rounded_59 rfl (lv_at hl 3 rfl) ?_
            refine lv_iload_n hx hb dX1_rounded_60 rfl (lv_at hl 6 rfl) ?_
            refine lv_iload hx hb dX1_rounded_61 (lv_at hl 2 rfl) ?_
            refine lv_iload hx hb dX1_rounded_63 (lv_at hl 2 rfl) ?_
            refine lv_aload_n hx hb dX1_rounded_65 rfl (lv_at hl 3 rfl) ?_
            refine gd_get S0 hin hw rfl rfl 1 (by decide) (S0.2.2.2.2 (.fieldLink RX1 13 "StretchDesk" "lows" "[J") (by decide +kernel)) rfl (v := .ref (ad 2)) rfl dX1_rounded_66 ?_
            refine lv_iload_n hx hb dX1_rounded_69 rfl (lv_at hl 4 rfl) ?_
            refine va_lald hx hb hw.2.2.1 hw.1 2 1 rfl rfl (zIn (by assumption)) dX1_rounded_70 ?_
            refine lv_iload hx hb dX1_rounded_71 (lv_at hl 1 rfl) ?_
            refine ps_call (rest := [.int (ixI (xso S) a), .int to, .ref (ad 0)]) S0 (c_X0_whole l (ixI (xso S) a) (ixL (xlo S) a) 1) gX1_rounded_X0_whole rfl qX0_whole ⟨Nat.le_of_ble_eq_true rfl, Nat.le_of_ble_eq_true rfl⟩ ⟨Nat.le_of_ble_eq_true rfl, Nat.le_of_ble_eq_true rfl⟩ hl.1 rfl (Nat.le_of_ble_eq_true rfl) dX1_rounded_73 ?_
            refine lv_iload hx hb dX1_rounded_76 (lv_at hl 2 rfl) ?_
            refine lv_aload_n hx hb dX1_rounded_78 rfl (lv_at hl 3 rfl) ?_
            refine gd_get S0 hin hw rfl rfl 2 (by decide) (S0.2.2.2.2 (.fieldLink RX1 17 "StretchDesk" "highs" "[J") (by decide +kernel)) rfl (v := .ref (ad 3)) rfl dX1_rounded_79 ?_
            refine lv_iload_n hx hb dX1_rounded_82 rfl (lv_at hl 4 rfl) ?_
            refine va_lald hx hb hw.2.2.1 hw.1 3 2 rfl rfl (zIn (by assumption)) dX1_rounded_83 ?_
            refine lv_iload hx hb dX1_rounded_84 (lv_at hl 0 rfl) ?_
            refine ps_call (rest := [.long (nWhole (ixI (xso S) a) (ixL (xlo S) a) 1), .int (ixI (xso S) a), .int to, .ref (ad 0)]) S0 (c_X0_whole l (ixI (xso S) a) (ixL (xhi S) a) 0) gX1_rounded_X0_whole rfl qX0_whole ⟨Nat.le_of_ble_eq_true rfl, Nat.le_of_ble_eq_true rfl⟩ ⟨Nat.le_of_ble_eq_true rfl, Nat.le_of_ble_eq_true rfl⟩ hl.1 rfl (Nat.le_of_ble_eq_true rfl) dX1_rounded_86 ?_
            refine io_call (rest := []) (w1 := (xW ad cy ((xPutAny to (ixI (xso S) a) (nWhole (ixI (xso S) a) (ixL (xlo S) a) 1) (nWhole (ixI (xso S) a) (ixL (xhi S) a) 0) S).2))) S0 (c_X1_putIfAny l D ad cy A S to (ixI (xso S) a) (nWhole (ixI (xso S) a) (ixL (xlo S) a) 1) (nWhole (ixI (xso S) a) (ixL (xhi S) a) 0) (by assumption)) gX1_rounded_X1_putIfAny hw rfl qX1_putIfAny ⟨Nat.le_of_ble_eq_true rfl, Nat.le_of_ble_eq_true rfl⟩ ⟨Nat.le_of_ble_eq_true rfl, Nat.le_of_ble_eq_true rfl⟩ rfl rfl rfl hl.1 rfl (Nat.le_of_ble_eq_true rfl) dX1_rounded_89 (fun H locs hw => ?_)
            exact io_iret S0 hr hlk hw dX1_rounded_92 (congrArg (fun z => some (Value.int z)) (show (xRounded a how to S).1 = (xPutAny to (ixI (xso S) a) (nWhole (ixI (xso S) a) (ixL (xlo S) a) 1) (nWhole (ixI (xso S) a) (ixL (xhi S) a) 0) S).1 from (by first | (simp [xRounded, xso, xlo, xhi, xwh, xas, xbs, xts, xst, xrf, xet, xsd, eq_true c_1, eq_false c_2, eq_false c_3, eq_false c_4, eq_true c_5]; done) | (simp [xRounded, xso, xlo, xhi, xwh, xas, xbs, xts, xst, xrf, xet, xsd, c_1, c_2, c_3, c_4, c_5]; done) | contradiction | rfl))) (congrArg (xW ad cy) (show (xRounded a how to S).2 = (xPutAny to (ixI (xso S) a) (nWhole (ixI (xso S) a) (ixL (xlo S) a) 1) (nWhole (ixI (xso S) a) (ixL (xhi S) a) 0) S).2 from (by first | (simp [xRounded, xso, xlo, xhi, xwh, xas, xbs, xts, xst, xrf, xet, xsd, eq_true c_1, eq_false c_2, eq_false c_3, eq_false c_4, eq_true c_5]; done) | (simp [xRounded, xso, xlo, xhi, xwh, xas, xbs, xts, xst, xrf, xet, xsd, c_1, c_2, c_3, c_4, c_5]; done) | contradiction | rfl)))
        · refine lv_iconst (v := 0) hx hb dX1_rounded_42 (by decide) ?_
          refine lv_istore (lv' := [(5, .int 0), (6, .int how), (4, .int (ixI (xso S) a)), (0, .ref (ad 0)), (1, .int a), (2, .int how), (3, .int to)]) hx hb dX1_rounded_43 hl (by decide) rfl (fun ls hl => ?_)
          refine lv_iconst (v := 1) hx hb dX1_rounded_45 (by decide) ?_
          refine lv_istore (lv' := [(6, .int 1), (5, .int 0), (4, .int (ixI (xso S) a)), (0, .ref (ad 0)), (1, .int a), (2, .int how), (3, .int to)]) hx hb dX1_rounded_46 hl (by decide) rfl (fun ls hl => ?_)
          refine lv_iload_n hx hb dX1_rounded_48 rfl (lv_at hl 5 rfl) ?_
          refine lv_iconst (v := 4) hx hb dX1_rounded_49 (by decide) ?_
          refine zc_ne (tgt := 59) hx hb dX1_rounded_50 (by decide) (fun _ => ?_) (fun q => absurd q (by rw [c_4]; decide))
          refine lv_aload_n hx hb dX1_rounded_59 rfl (lv_at hl 3 rfl) ?_
          refine lv_iload_n hx hb dX1_rounded_60 rfl (lv_at hl 6 rfl) ?_
          refine lv_iload hx hb dX1_rounded_61 (lv_at hl 2 rfl) ?_
          refine lv_iload hx hb dX1_rounded_63 (lv_at hl 2 rfl) ?_
          refine lv_aload_n hx hb dX1_rounded_65 rfl (lv_at hl 3 rfl) ?_
          refine gd_get S0 hin hw rfl rfl 1 (by decide) (S0.2.2.2.2 (.fieldLink RX1 13 "StretchDesk" "lows" "[J") (by decide +kernel)) rfl (v := .ref (ad 2)) rfl dX1_rounded_66 ?_
          refine lv_iload_n hx hb dX1_rounded_69 rfl (lv_at hl 4 rfl) ?_
          refine va_lald hx hb hw.2.2.1 hw.1 2 1 rfl rfl (zIn (by assumption)) dX1_rounded_70 ?_
          refine lv_iload hx hb dX1_rounded_71 (lv_at hl 1 rfl) ?_
          refine ps_call (rest := [.int (ixI (xso S) a), .int to, .ref (ad 0)]) S0 (c_X0_whole l (ixI (xso S) a) (ixL (xlo S) a) 0) gX1_rounded_X0_whole rfl qX0_whole ⟨Nat.le_of_ble_eq_true rfl, Nat.le_of_ble_eq_true rfl⟩ ⟨Nat.le_of_ble_eq_true rfl, Nat.le_of_ble_eq_true rfl⟩ hl.1 rfl (Nat.le_of_ble_eq_true rfl) dX1_rounded_73 ?_
          refine lv_iload hx hb dX1_rounded_76 (lv_at hl 2 rfl) ?_
          refine lv_aload_n hx hb dX1_rounded_78 rfl (lv_at hl 3 rfl) ?_
          refine gd_get S0 hin hw rfl rfl 2 (by decide) (S0.2.2.2.2 (.fieldLink RX1 17 "StretchDesk" "highs" "[J") (by decide +kernel)) rfl (v := .ref (ad 3)) rfl dX1_rounded_79 ?_
          refine lv_iload_n hx hb dX1_rounded_82 rfl (lv_at hl 4 rfl) ?_
          refine va_lald hx hb hw.2.2.1 hw.1 3 2 rfl rfl (zIn (by assumption)) dX1_rounded_83 ?_
          refine lv_iload hx hb dX1_rounded_84 (lv_at hl 0 rfl) ?_
          refine ps_call (rest := [.long (nWhole (ixI (xso S) a) (ixL (xlo S) a) 0), .int (ixI (xso S) a), .int to, .ref (ad 0)]) S0 (c_X0_whole l (ixI (xso S) a) (ixL (xhi S) a) 1) gX1_rounded_X0_whole rfl qX0_whole ⟨Nat.le_of_ble_eq_true rfl, Nat.le_of_ble_eq_true rfl⟩ ⟨Nat.le_of_ble_eq_true rfl, Nat.le_of_ble_eq_true rfl⟩ hl.1 rfl (Nat.le_of_ble_eq_true rfl) dX1_rounded_86 ?_
          refine io_call (rest := []) (w1 := (xW ad cy ((xPutAny to (ixI (xso S) a) (nWhole (ixI (xso S) a) (ixL (xlo S) a) 0) (nWhole (ixI (xso S) a) (ixL (xhi S) a) 1) S).2))) S0 (c_X1_putIfAny l D ad cy A S to (ixI (xso S) a) (nWhole (ixI (xso S) a) (ixL (xlo S) a) 0) (nWhole (ixI (xso S) a) (ixL (xhi S) a) 1) (by assumption)) gX1_rounded_X1_putIfAny hw rfl qX1_putIfAny ⟨Nat.le_of_ble_eq_true rfl, Nat.le_of_ble_eq_true rfl⟩ ⟨Nat.le_of_ble_eq_true rfl, Nat.le_of_ble_eq_true rfl⟩ rfl rfl rfl hl.1 rfl (Nat.le_of_ble_eq_true rfl) dX1_rounded_89 (fun H locs hw => ?_)
          exact io_iret S0 hr hlk hw dX1_rounded_92 (congrArg (fun z => some (Value.int z)) (show (xRounded a how to S).1 = (xPutAny to (ixI (xso S) a) (nWhole (ixI (xso S) a) (ixL (xlo S) a) 0) (nWhole (ixI (xso S) a) (ixL (xhi S) a) 1) S).1 from (by first | (simp [xRounded, xso, xlo, xhi, xwh, xas, xbs, xts, xst, xrf, xet, xsd, eq_true c_1, eq_false c_2, eq_false c_3, eq_true c_4]; done) | (simp [xRounded, xso, xlo, xhi, xwh, xas, xbs, xts, xst, xrf, xet, xsd, c_1, c_2, c_3, c_4]; done) | contradiction | rfl))) (congrArg (xW ad cy) (show (xRounded a how to S).2 = (xPutAny to (ixI (xso S) a) (nWhole (ixI (xso S) a) (ixL (xlo S) a) 0) (nWhole (ixI (xso S) a) (ixL (xhi S) a) 1) S).2 from (by first | (simp [xRounded, xso, xlo, xhi, xwh, xas, xbs, xts, xst, xrf, xet, xsd, eq_true c_1, eq_false c_2, eq_false c_3, eq_true c_4]; done) | (simp [xRounded, xso, xlo, xhi, xwh, xas, xbs, xts, xst, xrf, xet, xsd, c_1, c_2, c_3, c_4]; done) | contradiction | rfl)))
      · refine lv_bipush (v := -5) hx hb dX1_rounded_28 (by decide) ?_
        exact io_iret S0 hr hlk hw dX1_rounded_30 (congrArg (fun z => some (Value.int z)) (show (xRounded a how to S).1 = -5 from (by first | (simp [xRounded, xso, xlo, xhi, xwh, xas, xbs, xts, xst, xrf, xet, xsd, eq_true c_1, eq_false c_2, eq_true c_3]; done) | (simp [xRounded, xso, xlo, xhi, xwh, xas, xbs, xts, xst, xrf, xet, xsd, c_1, c_2, c_3]; done) | contradiction | rfl))) (congrArg (xW ad cy) (show (xRounded a how to S).2 = S from (by first | (simp [xRounded, xso, xlo, xhi, xwh, xas, xbs, xts, xst, xrf, xet, xsd, eq_true c_1, eq_false c_2, eq_true c_3]; done) | (simp [xRounded, xso, xlo, xhi, xwh, xas, xbs, xts, xst, xrf, xet, xsd, c_1, c_2, c_3]; done) | contradiction | rfl)))
  · refine lv_bipush (v := -4) hx hb dX1_rounded_16 (by decide) ?_
    exact io_iret S0 hr hlk hw dX1_rounded_18 (congrArg (fun z => some (Value.int z)) (show (xRounded a how to S).1 = -4 from (by first | (simp [xRounded, xso, xlo, xhi, xwh, xas, xbs, xts, xst, xrf, xet, xsd, eq_false c_1]; done) | (simp [xRounded, xso, xlo, xhi, xwh, xas, xbs, xts, xst, xrf, xet, xsd, c_1]; done) | contradiction | rfl))) (congrArg (xW ad cy) (show (xRounded a how to S).2 = S from (by first | (simp [xRounded, xso, xlo, xhi, xwh, xas, xbs, xts, xst, xrf, xet, xsd, eq_false c_1]; done) | (simp [xRounded, xso, xlo, xhi, xwh, xas, xbs, xts, xst, xrf, xet, xsd, c_1]; done) | contradiction | rfl)))
theorem qX1_signed : yX1_signed.cls = RX1 ∧ yX1_signed.cls ≠ "java/lang/invoke/MethodHandle" ∧ yX1_signed.cls ≠ "java/lang/invoke/VarHandle" ∧ (parseMethodDescriptor yX1_signed.desc).map (fun d => d.parameters.length) = some 2 := by decide +kernel
set_option maxHeartbeats 4000000 in
set_option maxRecDepth 100000 in
theorem c_X1_signed (l : Launch) (D : va_G) (ad : Nat → Nat) (cy : Nat → ClassId) (A : Nat → Prop) (S : XS) (a : Int32) (to : Int32) (h1 : zSl a) (h3 : zSl to) : OM l D (xT cy) A yX1_signed wsX1_signed 4 88 [.ref (ad 0), .int a, .int to] (xW ad cy S) (xW ad cy ((xSigned a to S).2)) (some (.int ((xSigned a to S).1))) := by
  refine OM.of (cc := cX1_signed) (maxL := 4) (ret := some .int) (own := RX1) (by decide) rfl rfl (Nat.le_of_ble_eq_true rfl) ?_
  intro p e s m below meth c ls S0 hr hlk hl hw
  have hx := S0.1
  have hb := S0.2.1
  have hl : lv_has ls 4 [(0, .ref (ad 0)), (1, .int a), (2, .int to)] := hl
  have hin : ∀ w ∈ wsX10, w ∈ wsX1_signed := fun w h => List.mem_cons_of_mem _ (List.mem_append_right _ h)
  refine lv_aload_n hx hb dX1_signed_0 rfl (lv_at hl 0 rfl) ?_
  refine gd_get S0 hin hw rfl rfl 0 (by decide) (S0.2.2.2.2 (.fieldLink RX1 9 "StretchDesk" "sorts" "[I") (by decide +kernel)) rfl (v := .ref (ad 1)) rfl dX1_signed_1 ?_
  refine lv_iload_n hx hb dX1_signed_4 rfl (lv_at hl 1 rfl) ?_
  refine va_iald hx hb hw.2.2.1 hw.1 1 0 rfl rfl (zIn (by assumption)) dX1_signed_5 ?_
  refine lv_istore_n (lv' := [(3, .int (ixI (xso S) a)), (0, .ref (ad 0)), (1, .int a), (2, .int to)]) hx hb dX1_signed_6 rfl hl (by decide) rfl (fun ls hl => ?_)
  refine lv_iload_n hx hb dX1_signed_7 rfl (lv_at hl 0 rfl) ?_
  refine ps_call (rest := []) S0 (c_X0_isBroken l (ixI (xso S) a)) gX1_signed_X0_isBroken rfl qX0_isBroken ⟨Nat.le_of_ble_eq_true rfl, Nat.le_of_ble_eq_true rfl⟩ ⟨Nat.le_of_ble_eq_true rfl, Nat.le_of_ble_eq_true rfl⟩ hl.1 rfl (Nat.le_of_ble_eq_true rfl) dX1_signed_8 ?_
  refine zb_ne (P := nBroken (ixI (xso S) a)) (tgt := 17) hx hb dX1_signed_11 (by decide) (fun c_1 => ?_) (fun c_1 => ?_)
  · refine lv_aload_n hx hb dX1_signed_17 rfl (lv_at hl 1 rfl) ?_
    refine lv_iload_n hx hb dX1_signed_18 rfl (lv_at hl 3 rfl) ?_
    refine lv_iload_n hx hb dX1_signed_19 rfl (lv_at hl 0 rfl) ?_
    refine lv_iload_n hx hb dX1_signed_20 rfl (lv_at hl 0 rfl) ?_
    refine lv_aload_n hx hb dX1_signed_21 rfl (lv_at hl 1 rfl) ?_
    refine gd_get S0 hin hw rfl rfl 1 (by decide) (S0.2.2.2.2 (.fieldLink RX1 13 "StretchDesk" "lows" "[J") (by decide +kernel)) rfl (v := .ref (ad 2)) rfl dX1_signed_22 ?_
    refine lv_iload_n hx hb dX1_signed_25 rfl (lv_at hl 2 rfl) ?_
    refine va_lald hx hb hw.2.2.1 hw.1 2 1 rfl rfl (zIn (by assumption)) dX1_signed_26 ?_
    refine ps_call (rest := [.int (ixI (xso S) a), .int to, .ref (ad 0)]) S0 (c_X0_signOf l (ixI (xso S) a) (ixL (xlo S) a)) gX1_signed_X0_signOf rfl qX0_signOf ⟨Nat.le_of_ble_eq_true rfl, Nat.le_of_ble_eq_true rfl⟩ ⟨Nat.le_of_ble_eq_true rfl, Nat.le_of_ble_eq_true rfl⟩ hl.1 rfl (Nat.le_of_ble_eq_true rfl) dX1_signed_27 ?_
    refine lv_iload_n hx hb dX1_signed_30 rfl (lv_at hl 0 rfl) ?_
    refine lv_aload_n hx hb dX1_signed_31 rfl (lv_at hl 1 rfl) ?_
    refine gd_get S0 hin hw rfl rfl 2 (by decide) (S0.2.2.2.2 (.fieldLink RX1 17 "StretchDesk" "highs" "[J") (by decide +kernel)) rfl (v := .ref (ad 3)) rfl dX1_signed_32 ?_
    refine lv_iload_n hx hb dX1_signed_35 rfl (lv_at hl 2 rfl) ?_
    refine va_lald hx hb hw.2.2.1 hw.1 3 2 rfl rfl (zIn (by assumption)) dX1_signed_36 ?_
    refine ps_call (rest := [.long (nSign (ixI (xso S) a) (ixL (xlo S) a)), .int (ixI (xso S) a), .int to, .ref (ad 0)]) S0 (c_X0_signOf l (ixI (xso S) a) (ixL (xhi S) a)) gX1_signed_X0_signOf rfl qX0_signOf ⟨Nat.le_of_ble_eq_true rfl, Nat.le_of_ble_eq_true rfl⟩ ⟨Nat.le_of_ble_eq_true rfl, Nat.le_of_ble_eq_true rfl⟩ hl.1 rfl (Nat.le_of_ble_eq_true rfl) dX1_signed_37 ?_
    refine io_call (rest := []) (w1 := (xW ad cy (xPut to (ixI (xso S) a) (nSign (ixI (xso S) a) (ixL (xlo S) a)) (nSign (ixI (xso S) a) (ixL (xhi S) a)) S))) S0 (c_X1_put l D ad cy A S to (ixI (xso S) a) (nSign (ixI (xso S) a) (ixL (xlo S) a)) (nSign (ixI (xso S) a) (ixL (xhi S) a)) (by assumption)) gX1_signed_X1_put hw rfl qX1_put ⟨Nat.le_of_ble_eq_true rfl, Nat.le_of_ble_eq_true rfl⟩ ⟨Nat.le_of_ble_eq_true rfl, Nat.le_of_ble_eq_true rfl⟩ rfl rfl rfl hl.1 rfl (Nat.le_of_ble_eq_true rfl) dX1_signed_40 (fun H locs hw => ?_)
    exact io_iret S0 hr hlk hw dX1_signed_43 (congrArg (fun z => some (Value.int z)) (show (xSigned a to S).1 = 1 from (by first | (simp [xSigned, xso, xlo, xhi, xwh, xas, xbs, xts, xst, xrf, xet, xsd, eq_true c_1]; done) | (simp [xSigned, xso, xlo, xhi, xwh, xas, xbs, xts, xst, xrf, xet, xsd, c_1]; done) | contradiction | rfl))) (congrArg (xW ad cy) (show (xSigned a to S).2 = xPut to (ixI (xso S) a) (nSign (ixI (xso S) a) (ixL (xlo S) a)) (nSign (ixI (xso S) a) (ixL (xhi S) a)) S from (by first | (simp [xSigned, xso, xlo, xhi, xwh, xas, xbs, xts, xst, xrf, xet, xsd, eq_true c_1]; done) | (simp [xSigned, xso, xlo, xhi, xwh, xas, xbs, xts, xst, xrf, xet, xsd, c_1]; done) | contradiction | rfl)))
  · refine lv_bipush (v := -4) hx hb dX1_signed_14 (by decide) ?_
    exact io_iret S0 hr hlk hw dX1_signed_16 (congrArg (fun z => some (Value.int z)) (show (xSigned a to S).1 = -4 from (by first | (simp [xSigned, xso, xlo, xhi, xwh, xas, xbs, xts, xst, xrf, xet, xsd, eq_false c_1]; done) | (simp [xSigned, xso, xlo, xhi, xwh, xas, xbs, xts, xst, xrf, xet, xsd, c_1]; done) | contradiction | rfl))) (congrArg (xW ad cy) (show (xSigned a to S).2 = S from (by first | (simp [xSigned, xso, xlo, xhi, xwh, xas, xbs, xts, xst, xrf, xet, xsd, eq_false c_1]; done) | (simp [xSigned, xso, xlo, xhi, xwh, xas, xbs, xts, xst, xrf, xet, xsd, c_1]; done) | contradiction | rfl)))
theorem qX1_lent : yX1_lent.cls = RX1 ∧ yX1_lent.cls ≠ "java/lang/invoke/MethodHandle" ∧ yX1_lent.cls ≠ "java/lang/invoke/VarHandle" ∧ (parseMethodDescriptor yX1_lent.desc).map (fun d => d.parameters.length) = some 3 := by decide +kernel
set_option maxHeartbeats 4000000 in
set_option maxRecDepth 100000 in
theorem c_X1_lent (l : Launch) (D : va_G) (ad : Nat → Nat) (cy : Nat → ClassId) (A : Nat → Prop) (S : XS) (a : Int32) (b : Int32) (to : Int32) (h1 : zSl a) (h2 : zSl b) (h3 : zSl to) : OM l D (xT cy) A yX1_lent wsX1_lent 4 95 [.ref (ad 0), .int a, .int b, .int to] (xW ad cy S) (xW ad cy ((xLent a b to S).2)) (some (.int ((xLent a b to S).1))) := by
  refine OM.of (cc := cX1_lent) (maxL := 9) (ret := some .int) (own := RX1) (by decide) rfl rfl (Nat.le_of_ble_eq_true rfl) ?_
  intro p e s m below meth c ls S0 hr hlk hl hw
  have hx := S0.1
  have hb := S0.2.1
  have hl : lv_has ls 9 [(0, .ref (ad 0)), (1, .int a), (2, .int b), (3, .int to)] := hl
  have hin : ∀ w ∈ wsX10, w ∈ wsX1_lent := fun w h => List.mem_cons_of_mem _ (List.mem_append_right _ h)
  refine lv_aload_n hx hb dX1_lent_0 rfl (lv_at hl 0 rfl) ?_
  refine gd_get S0 hin hw rfl rfl 0 (by decide) (S0.2.2.2.2 (.fieldLink RX1 9 "StretchDesk" "sorts" "[I") (by decide +kernel)) rfl (v := .ref (ad 1)) rfl dX1_lent_1 ?_
  refine lv_iload_n hx hb dX1_lent_4 rfl (lv_at hl 1 rfl) ?_
  refine va_iald hx hb hw.2.2.1 hw.1 1 0 rfl rfl (zIn (by assumption)) dX1_lent_5 ?_
  refine lv_istore (lv' := [(4, .int (ixI (xso S) a)), (0, .ref (ad 0)), (1, .int a), (2, .int b), (3, .int to)]) hx hb dX1_lent_6 hl (by decide) rfl (fun ls hl => ?_)
  refine lv_iload hx hb dX1_lent_8 (lv_at hl 0 rfl) ?_
  refine ps_call (rest := []) S0 (c_X0_isBroken l (ixI (xso S) a)) gX1_lent_X0_isBroken rfl qX0_isBroken ⟨Nat.le_of_ble_eq_true rfl, Nat.le_of_ble_eq_true rfl⟩ ⟨Nat.le_of_ble_eq_true rfl, Nat.le_of_ble_eq_true rfl⟩ hl.1 rfl (Nat.le_of_ble_eq_true rfl) dX1_lent_10 ?_
  refine zb_ne (P := nBroken (ixI (xso S) a)) (tgt := 19) hx hb dX1_lent_13 (by decide) (fun c_1 => ?_) (fun c_1 => ?_)
  · refine lv_iload hx hb dX1_lent_19 (lv_at hl 0 rfl) ?_
    refine lv_aload_n hx hb dX1_lent_21 rfl (lv_at hl 1 rfl) ?_
    refine gd_get S0 hin hw rfl rfl 1 (by decide) (S0.2.2.2.2 (.fieldLink RX1 13 "StretchDesk" "lows" "[J") (by decide +kernel)) rfl (v := .ref (ad 2)) rfl dX1_lent_22 ?_
    refine lv_iload_n hx hb dX1_lent_25 rfl (lv_at hl 2 rfl) ?_
    refine va_lald hx hb hw.2.2.1 hw.1 2 1 rfl rfl (zIn (by assumption)) dX1_lent_26 ?_
    refine lv_aload_n hx hb dX1_lent_27 rfl (lv_at hl 1 rfl) ?_
    refine gd_get S0 hin hw rfl rfl 1 (by decide) (S0.2.2.2.2 (.fieldLink RX1 13 "StretchDesk" "lows" "[J") (by decide +kernel)) rfl (v := .ref (ad 2)) rfl dX1_lent_28 ?_
    refine lv_iload_n hx hb dX1_lent_31 rfl (lv_at hl 3 rfl) ?_
    refine va_lald hx hb hw.2.2.1 hw.1 2 1 rfl rfl (zIn (by assumption)) dX1_lent_32 ?_
    refine ps_call (rest := []) S0 (c_X0_withSign l (ixI (xso S) a) (ixL (xlo S) a) (ixL (xlo S) b)) gX1_lent_X0_withSign rfl qX0_withSign ⟨Nat.le_of_ble_eq_true rfl, Nat.le_of_ble_eq_true rfl⟩ ⟨Nat.le_of_ble_eq_true rfl, Nat.le_of_ble_eq_true rfl⟩ hl.1 rfl (Nat.le_of_ble_eq_true rfl) dX1_lent_33 ?_
    refine lv_lstore (lv' := [(5, .long (nWith (ixI (xso S) a) (ixL (xlo S) a) (ixL (xlo S) b))), (4, .int (ixI (xso S) a)), (0, .ref (ad 0)), (1, .int a), (2, .int b), (3, .int to)]) hx hb dX1_lent_36 hl (by decide) rfl (fun ls hl => ?_)
    refine lv_iload hx hb dX1_lent_38 (lv_at hl 1 rfl) ?_
    refine lv_aload_n hx hb dX1_lent_40 rfl (lv_at hl 2 rfl) ?_
    refine gd_get S0 hin hw rfl rfl 2 (by decide) (S0.2.2.2.2 (.fieldLink RX1 17 "StretchDesk" "highs" "[J") (by decide +kernel)) rfl (v := .ref (ad 3)) rfl dX1_lent_41 ?_
    refine lv_iload_n hx hb dX1_lent_44 rfl (lv_at hl 3 rfl) ?_
    refine va_lald hx hb hw.2.2.1 hw.1 3 2 rfl rfl (zIn (by assumption)) dX1_lent_45 ?_
    refine lv_aload_n hx hb dX1_lent_46 rfl (lv_at hl 2 rfl) ?_
    refine gd_get S0 hin hw rfl rfl 2 (by decide) (S0.2.2.2.2 (.fieldLink RX1 17 "StretchDesk" "highs" "[J") (by decide +kernel)) rfl (v := .ref (ad 3)) rfl dX1_lent_47 ?_
    refine lv_iload_n hx hb dX1_lent_50 rfl (lv_at hl 4 rfl) ?_
    refine va_lald hx hb hw.2.2.1 hw.1 3 2 rfl rfl (zIn (by assumption)) dX1_lent_51 ?_
    refine ps_call (rest := []) S0 (c_X0_withSign l (ixI (xso S) a) (ixL (xhi S) a) (ixL (xhi S) b)) gX1_lent_X0_withSign rfl qX0_withSign ⟨Nat.le_of_ble_eq_true rfl, Nat.le_of_ble_eq_true rfl⟩ ⟨Nat.le_of_ble_eq_true rfl, Nat.le_of_ble_eq_true rfl⟩ hl.1 rfl (Nat.le_of_ble_eq_true rfl) dX1_lent_52 ?_
    refine lv_lstore (lv' := [(7, .long (nWith (ixI (xso S) a) (ixL (xhi S) a) (ixL (xhi S) b))), (5, .long (nWith (ixI (xso S) a) (ixL (xlo S) a) (ixL (xlo S) b))), (4, .int (ixI (xso S) a)), (0, .ref (ad 0)), (1, .int a), (2, .int b), (3, .int to)]) hx hb dX1_lent_55 hl (by decide) rfl (fun ls hl => ?_)
    refine lv_aload_n hx hb dX1_lent_57 rfl (lv_at hl 3 rfl) ?_
    refine lv_iload_n hx hb dX1_lent_58 rfl (lv_at hl 6 rfl) ?_
    refine lv_iload hx hb dX1_lent_59 (lv_at hl 2 rfl) ?_
    refine lv_lload hx hb dX1_lent_61 (lv_at hl 1 rfl) ?_
    refine lv_lload hx hb dX1_lent_63 (lv_at hl 0 rfl) ?_
    refine io_call (rest := []) (w1 := (xW ad cy (xPutOrd to (ixI (xso S) a) (nWith (ixI (xso S) a) (ixL (xlo S) a) (ixL (xlo S) b)) (nWith (ixI (xso S) a) (ixL (xhi S) a) (ixL (xhi S) b)) S))) S0 (c_X1_putOrdered l D ad cy A S to (ixI (xso S) a) (nWith (ixI (xso S) a) (ixL (xlo S) a) (ixL (xlo S) b)) (nWith (ixI (xso S) a) (ixL (xhi S) a) (ixL (xhi S) b)) (by assumption)) gX1_lent_X1_putOrdered hw rfl qX1_putOrdered ⟨Nat.le_of_ble_eq_true rfl, Nat.le_of_ble_eq_true rfl⟩ ⟨Nat.le_of_ble_eq_true rfl, Nat.le_of_ble_eq_true rfl⟩ rfl rfl rfl hl.1 rfl (Nat.le_of_ble_eq_true rfl) dX1_lent_65 (fun H locs hw => ?_)
    exact io_iret S0 hr hlk hw dX1_lent_68 (congrArg (fun z => some (Value.int z)) (show (xLent a b to S).1 = 1 from (by first | (simp [xLent, xso, xlo, xhi, xwh, xas, xbs, xts, xst, xrf, xet, xsd, eq_true c_1]; done) | (simp [xLent, xso, xlo, xhi, xwh, xas, xbs, xts, xst, xrf, xet, xsd, c_1]; done) | contradiction | rfl))) (congrArg (xW ad cy) (show (xLent a b to S).2 = xPutOrd to (ixI (xso S) a) (nWith (ixI (xso S) a) (ixL (xlo S) a) (ixL (xlo S) b)) (nWith (ixI (xso S) a) (ixL (xhi S) a) (ixL (xhi S) b)) S from (by first | (simp [xLent, xso, xlo, xhi, xwh, xas, xbs, xts, xst, xrf, xet, xsd, eq_true c_1]; done) | (simp [xLent, xso, xlo, xhi, xwh, xas, xbs, xts, xst, xrf, xet, xsd, c_1]; done) | contradiction | rfl)))
  · refine lv_bipush (v := -4) hx hb dX1_lent_16 (by decide) ?_
    exact io_iret S0 hr hlk hw dX1_lent_18 (congrArg (fun z => some (Value.int z)) (show (xLent a b to S).1 = -4 from (by first | (simp [xLent, xso, xlo, xhi, xwh, xas, xbs, xts, xst, xrf, xet, xsd, eq_false c_1]; done) | (simp [xLent, xso, xlo, xhi, xwh, xas, xbs, xts, xst, xrf, xet, xsd, c_1]; done) | contradiction | rfl))) (congrArg (xW ad cy) (show (xLent a b to S).2 = S from (by first | (simp [xLent, xso, xlo, xhi, xwh, xas, xbs, xts, xst, xrf, xet, xsd, eq_false c_1]; done) | (simp [xLent, xso, xlo, xhi, xwh, xas, xbs, xts, xst, xrf, xet, xsd, c_1]; done) | contradiction | rfl)))
theorem qX1_turned : yX1_turned.cls = RX1 ∧ yX1_turned.cls ≠ "java/lang/invoke/MethodHandle" ∧ yX1_turned.cls ≠ "java/lang/invoke/VarHandle" ∧ (parseMethodDescriptor yX1_turned.desc).map (fun d => d.parameters.length) = some 2 := by decide +kernel
set_option maxHeartbeats 4000000 in
set_option maxRecDepth 100000 in
theorem c_X1_turned (l : Launch) (D : va_G) (ad : Nat → Nat) (cy : Nat → ClassId) (A : Nat → Prop) (S : XS) (a : Int32) (to : Int32) (h1 : zSl a) (h3 : zSl to) : OM l D (xT cy) A yX1_turned wsX1_turned 4 95 [.ref (ad 0), .int a, .int to] (xW ad cy S) (xW ad cy ((xTurned a to S).2)) (some (.int ((xTurned a to S).1))) := by
  refine OM.of (cc := cX1_turned) (maxL := 4) (ret := some .int) (own := RX1) (by decide) rfl rfl (Nat.le_of_ble_eq_true rfl) ?_
  intro p e s m below meth c ls S0 hr hlk hl hw
  have hx := S0.1
  have hb := S0.2.1
  have hl : lv_has ls 4 [(0, .ref (ad 0)), (1, .int a), (2, .int to)] := hl
  have hin : ∀ w ∈ wsX10, w ∈ wsX1_turned := fun w h => List.mem_cons_of_mem _ (List.mem_append_right _ h)
  refine lv_aload_n hx hb dX1_turned_0 rfl (lv_at hl 0 rfl) ?_
  refine gd_get S0 hin hw rfl rfl 0 (by decide) (S0.2.2.2.2 (.fieldLink RX1 9 "StretchDesk" "sorts" "[I") (by decide +kernel)) rfl (v := .ref (ad 1)) rfl dX1_turned_1 ?_
  refine lv_iload_n hx hb dX1_turned_4 rfl (lv_at hl 1 rfl) ?_
  refine va_iald hx hb hw.2.2.1 hw.1 1 0 rfl rfl (zIn (by assumption)) dX1_turned_5 ?_
  refine lv_istore_n (lv' := [(3, .int (ixI (xso S) a)), (0, .ref (ad 0)), (1, .int a), (2, .int to)]) hx hb dX1_turned_6 rfl hl (by decide) rfl (fun ls hl => ?_)
  refine lv_aload_n hx hb dX1_turned_7 rfl (lv_at hl 1 rfl) ?_
  refine lv_iload_n hx hb dX1_turned_8 rfl (lv_at hl 3 rfl) ?_
  refine lv_iload_n hx hb dX1_turned_9 rfl (lv_at hl 0 rfl) ?_
  refine lv_iload_n hx hb dX1_turned_10 rfl (lv_at hl 0 rfl) ?_
  refine lv_aload_n hx hb dX1_turned_11 rfl (lv_at hl 1 rfl) ?_
  refine gd_get S0 hin hw rfl rfl 1 (by decide) (S0.2.2.2.2 (.fieldLink RX1 13 "StretchDesk" "lows" "[J") (by decide +kernel)) rfl (v := .ref (ad 2)) rfl dX1_turned_12 ?_
  refine lv_iload_n hx hb dX1_turned_15 rfl (lv_at hl 2 rfl) ?_
  refine va_lald hx hb hw.2.2.1 hw.1 2 1 rfl rfl (zIn (by assumption)) dX1_turned_16 ?_
  refine ps_call (rest := [.int (ixI (xso S) a), .int to, .ref (ad 0)]) S0 (c_X0_negated l (ixI (xso S) a) (ixL (xlo S) a)) gX1_turned_X0_negated rfl qX0_negated ⟨Nat.le_of_ble_eq_true rfl, Nat.le_of_ble_eq_true rfl⟩ ⟨Nat.le_of_ble_eq_true rfl, Nat.le_of_ble_eq_true rfl⟩ hl.1 rfl (Nat.le_of_ble_eq_true rfl) dX1_turned_17 ?_
  refine lv_iload_n hx hb dX1_turned_20 rfl (lv_at hl 0 rfl) ?_
  refine lv_aload_n hx hb dX1_turned_21 rfl (lv_at hl 1 rfl) ?_
  refine gd_get S0 hin hw rfl rfl 2 (by decide) (S0.2.2.2.2 (.fieldLink RX1 17 "StretchDesk" "highs" "[J") (by decide +kernel)) rfl (v := .ref (ad 3)) rfl dX1_turned_22 ?_
  refine lv_iload_n hx hb dX1_turned_25 rfl (lv_at hl 2 rfl) ?_
  refine va_lald hx hb hw.2.2.1 hw.1 3 2 rfl rfl (zIn (by assumption)) dX1_turned_26 ?_
  refine ps_call (rest := [.long (nNeg (ixI (xso S) a) (ixL (xlo S) a)), .int (ixI (xso S) a), .int to, .ref (ad 0)]) S0 (c_X0_negated l (ixI (xso S) a) (ixL (xhi S) a)) gX1_turned_X0_negated rfl qX0_negated ⟨Nat.le_of_ble_eq_true rfl, Nat.le_of_ble_eq_true rfl⟩ ⟨Nat.le_of_ble_eq_true rfl, Nat.le_of_ble_eq_true rfl⟩ hl.1 rfl (Nat.le_of_ble_eq_true rfl) dX1_turned_27 ?_
  refine io_call (rest := []) (w1 := (xW ad cy (xPutOrd to (ixI (xso S) a) (nNeg (ixI (xso S) a) (ixL (xlo S) a)) (nNeg (ixI (xso S) a) (ixL (xhi S) a)) S))) S0 (c_X1_putOrdered l D ad cy A S to (ixI (xso S) a) (nNeg (ixI (xso S) a) (ixL (xlo S) a)) (nNeg (ixI (xso S) a) (ixL (xhi S) a)) (by assumption)) gX1_turned_X1_putOrdered hw rfl qX1_putOrdered ⟨Nat.le_of_ble_eq_true rfl, Nat.le_of_ble_eq_true rfl⟩ ⟨Nat.le_of_ble_eq_true rfl, Nat.le_of_ble_eq_true rfl⟩ rfl rfl rfl hl.1 rfl (Nat.le_of_ble_eq_true rfl) dX1_turned_30 (fun H locs hw => ?_)
  exact io_iret S0 hr hlk hw dX1_turned_33 (congrArg (fun z => some (Value.int z)) (show (xTurned a to S).1 = 1 from (by first | (simp [xTurned, xso, xlo, xhi, xwh, xas, xbs, xts, xst, xrf, xet, xsd]; done) | (simp [xTurned, xso, xlo, xhi, xwh, xas, xbs, xts, xst, xrf, xet, xsd]; done) | contradiction | rfl))) (congrArg (xW ad cy) (show (xTurned a to S).2 = xPutOrd to (ixI (xso S) a) (nNeg (ixI (xso S) a) (ixL (xlo S) a)) (nNeg (ixI (xso S) a) (ixL (xhi S) a)) S from (by first | (simp [xTurned, xso, xlo, xhi, xwh, xas, xbs, xts, xst, xrf, xet, xsd]; done) | (simp [xTurned, xso, xlo, xhi, xwh, xas, xbs, xts, xst, xrf, xet, xsd]; done) | contradiction | rfl)))
theorem qX1_converted : yX1_converted.cls = RX1 ∧ yX1_converted.cls ≠ "java/lang/invoke/MethodHandle" ∧ yX1_converted.cls ≠ "java/lang/invoke/VarHandle" ∧ (parseMethodDescriptor yX1_converted.desc).map (fun d => d.parameters.length) = some 3 := by decide +kernel
set_option maxHeartbeats 4000000 in
set_option maxRecDepth 100000 in
theorem c_X1_converted (l : Launch) (D : va_G) (ad : Nat → Nat) (cy : Nat → ClassId) (A : Nat → Prop) (S : XS) (a : Int32) (t : Int32) (to : Int32) (h1 : zSl a) (h3 : zSl to) : OM l D (xT cy) A yX1_converted wsX1_converted 4 102 [.ref (ad 0), .int a, .int t, .int to] (xW ad cy S) (xW ad cy ((xConv a t to S).2)) (some (.int ((xConv a t to S).1))) := by
  refine OM.of (cc := cX1_converted) (maxL := 8) (ret := some .int) (own := RX1) (by decide) rfl rfl (Nat.le_of_ble_eq_true rfl) ?_
  intro p e s m below meth c ls S0 hr hlk hl hw
  have hx := S0.1
  have hb := S0.2.1
  have hl : lv_has ls 8 [(0, .ref (ad 0)), (1, .int a), (2, .int t), (3, .int to)] := hl
  have hin : ∀ w ∈ wsX10, w ∈ wsX1_converted := fun w h => List.mem_cons_of_mem _ (List.mem_append_right _ h)
  refine lv_iload_n hx hb dX1_converted_0 rfl (lv_at hl 2 rfl) ?_
  refine ps_call (rest := []) S0 (c_X1_isSort l t) gX1_converted_X1_isSort rfl qX1_isSort ⟨Nat.le_of_ble_eq_true rfl, Nat.le_of_ble_eq_true rfl⟩ ⟨Nat.le_of_ble_eq_true rfl, Nat.le_of_ble_eq_true rfl⟩ hl.1 rfl (Nat.le_of_ble_eq_true rfl) dX1_converted_1 ?_
  refine zb_ne (P := zSort t) (tgt := 10) hx hb dX1_converted_4 (by decide) (fun c_1 => ?_) (fun c_1 => ?_)
  · refine lv_aload_n hx hb dX1_converted_10 rfl (lv_at hl 0 rfl) ?_
    refine gd_get S0 hin hw rfl rfl 0 (by decide) (S0.2.2.2.2 (.fieldLink RX1 9 "StretchDesk" "sorts" "[I") (by decide +kernel)) rfl (v := .ref (ad 1)) rfl dX1_converted_11 ?_
    refine lv_iload_n hx hb dX1_converted_14 rfl (lv_at hl 1 rfl) ?_
    refine va_iald hx hb hw.2.2.1 hw.1 1 0 rfl rfl (zIn (by assumption)) dX1_converted_15 ?_
    refine lv_aload_n hx hb dX1_converted_16 rfl (lv_at hl 0 rfl) ?_
    refine gd_get S0 hin hw rfl rfl 1 (by decide) (S0.2.2.2.2 (.fieldLink RX1 13 "StretchDesk" "lows" "[J") (by decide +kernel)) rfl (v := .ref (ad 2)) rfl dX1_converted_17 ?_
    refine lv_iload_n hx hb dX1_converted_20 rfl (lv_at hl 1 rfl) ?_
    refine va_lald hx hb hw.2.2.1 hw.1 2 1 rfl rfl (zIn (by assumption)) dX1_converted_21 ?_
    refine lv_iload_n hx hb dX1_converted_22 rfl (lv_at hl 2 rfl) ?_
    refine ps_call (rest := []) S0 (c_X0_ofSort l (ixI (xso S) a) (ixL (xlo S) a) t) gX1_converted_X0_ofSort rfl qX0_ofSort ⟨Nat.le_of_ble_eq_true rfl, Nat.le_of_ble_eq_true rfl⟩ ⟨Nat.le_of_ble_eq_true rfl, Nat.le_of_ble_eq_true rfl⟩ hl.1 rfl (Nat.le_of_ble_eq_true rfl) dX1_converted_23 ?_
    refine lv_lstore (lv' := [(4, .long (nOf (ixI (xso S) a) (ixL (xlo S) a) t)), (0, .ref (ad 0)), (1, .int a), (2, .int t), (3, .int to)]) hx hb dX1_converted_26 hl (by decide) rfl (fun ls hl => ?_)
    refine lv_aload_n hx hb dX1_converted_28 rfl (lv_at hl 1 rfl) ?_
    refine gd_get S0 hin hw rfl rfl 0 (by decide) (S0.2.2.2.2 (.fieldLink RX1 9 "StretchDesk" "sorts" "[I") (by decide +kernel)) rfl (v := .ref (ad 1)) rfl dX1_converted_29 ?_
    refine lv_iload_n hx hb dX1_converted_32 rfl (lv_at hl 2 rfl) ?_
    refine va_iald hx hb hw.2.2.1 hw.1 1 0 rfl rfl (zIn (by assumption)) dX1_converted_33 ?_
    refine lv_aload_n hx hb dX1_converted_34 rfl (lv_at hl 1 rfl) ?_
    refine gd_get S0 hin hw rfl rfl 2 (by decide) (S0.2.2.2.2 (.fieldLink RX1 17 "StretchDesk" "highs" "[J") (by decide +kernel)) rfl (v := .ref (ad 3)) rfl dX1_converted_35 ?_
    refine lv_iload_n hx hb dX1_converted_38 rfl (lv_at hl 2 rfl) ?_
    refine va_lald hx hb hw.2.2.1 hw.1 3 2 rfl rfl (zIn (by assumption)) dX1_converted_39 ?_
    refine lv_iload_n hx hb dX1_converted_40 rfl (lv_at hl 3 rfl) ?_
    refine ps_call (rest := []) S0 (c_X0_ofSort l (ixI (xso S) a) (ixL (xhi S) a) t) gX1_converted_X0_ofSort rfl qX0_ofSort ⟨Nat.le_of_ble_eq_true rfl, Nat.le_of_ble_eq_true rfl⟩ ⟨Nat.le_of_ble_eq_true rfl, Nat.le_of_ble_eq_true rfl⟩ hl.1 rfl (Nat.le_of_ble_eq_true rfl) dX1_converted_41 ?_
    refine lv_lstore (lv' := [(6, .long (nOf (ixI (xso S) a) (ixL (xhi S) a) t)), (4, .long (nOf (ixI (xso S) a) (ixL (xlo S) a) t)), (0, .ref (ad 0)), (1, .int a), (2, .int t), (3, .int to)]) hx hb dX1_converted_44 hl (by decide) rfl (fun ls hl => ?_)
    refine lv_aload_n hx hb dX1_converted_46 rfl (lv_at hl 2 rfl) ?_
    refine lv_iload_n hx hb dX1_converted_47 rfl (lv_at hl 5 rfl) ?_
    refine lv_iload_n hx hb dX1_converted_48 rfl (lv_at hl 4 rfl) ?_
    refine lv_lload hx hb dX1_converted_49 (lv_at hl 1 rfl) ?_
    refine lv_lload hx hb dX1_converted_51 (lv_at hl 0 rfl) ?_
    refine io_call (rest := []) (w1 := (xW ad cy (xPutOrd to t (nOf (ixI (xso S) a) (ixL (xlo S) a) t) (nOf (ixI (xso S) a) (ixL (xhi S) a) t) S))) S0 (c_X1_putOrdered l D ad cy A S to t (nOf (ixI (xso S) a) (ixL (xlo S) a) t) (nOf (ixI (xso S) a) (ixL (xhi S) a) t) (by assumption)) gX1_converted_X1_putOrdered hw rfl qX1_putOrdered ⟨Nat.le_of_ble_eq_true rfl, Nat.le_of_ble_eq_true rfl⟩ ⟨Nat.le_of_ble_eq_true rfl, Nat.le_of_ble_eq_true rfl⟩ rfl rfl rfl hl.1 rfl (Nat.le_of_ble_eq_true rfl) dX1_converted_53 (fun H locs hw => ?_)
    exact io_iret S0 hr hlk hw dX1_converted_56 (congrArg (fun z => some (Value.int z)) (show (xConv a t to S).1 = 1 from (by first | (simp [xConv, xso, xlo, xhi, xwh, xas, xbs, xts, xst, xrf, xet, xsd, eq_true c_1]; done) | (simp [xConv, xso, xlo, xhi, xwh, xas, xbs, xts, xst, xrf, xet, xsd, c_1]; done) | contradiction | rfl))) (congrArg (xW ad cy) (show (xConv a t to S).2 = xPutOrd to t (nOf (ixI (xso S) a) (ixL (xlo S) a) t) (nOf (ixI (xso S) a) (ixL (xhi S) a) t) S from (by first | (simp [xConv, xso, xlo, xhi, xwh, xas, xbs, xts, xst, xrf, xet, xsd, eq_true c_1]; done) | (simp [xConv, xso, xlo, xhi, xwh, xas, xbs, xts, xst, xrf, xet, xsd, c_1]; done) | contradiction | rfl)))
  · refine lv_bipush (v := -4) hx hb dX1_converted_7 (by decide) ?_
    exact io_iret S0 hr hlk hw dX1_converted_9 (congrArg (fun z => some (Value.int z)) (show (xConv a t to S).1 = -4 from (by first | (simp [xConv, xso, xlo, xhi, xwh, xas, xbs, xts, xst, xrf, xet, xsd, eq_false c_1]; done) | (simp [xConv, xso, xlo, xhi, xwh, xas, xbs, xts, xst, xrf, xet, xsd, c_1]; done) | contradiction | rfl))) (congrArg (xW ad cy) (show (xConv a t to S).2 = S from (by first | (simp [xConv, xso, xlo, xhi, xwh, xas, xbs, xts, xst, xrf, xet, xsd, eq_false c_1]; done) | (simp [xConv, xso, xlo, xhi, xwh, xas, xbs, xts, xst, xrf, xet, xsd, c_1]; done) | contradiction | rfl)))
theorem qX1_refusalToTake : yX1_refusalToTake.cls = RX1 ∧ yX1_refusalToTake.cls ≠ "java/lang/invoke/MethodHandle" ∧ yX1_refusalToTake.cls ≠ "java/lang/invoke/VarHandle" ∧ (parseMethodDescriptor yX1_refusalToTake.desc).map (fun d => d.parameters.length) = some 1 := by decide +kernel
set_option maxHeartbeats 4000000 in
set_option maxRecDepth 100000 in
theorem c_X1_refusalToTake (l : Launch) (D : va_G) (ad : Nat → Nat) (cy : Nat → ClassId) (A : Nat → Prop) (S : XS) (i : Int32) : OM l D (xT cy) A yX1_refusalToTake wsX1_refusalToTake 1 20 [.ref (ad 0), .int i] (xW ad cy S) (xW ad cy S) (some (.int (xTake i S))) := by
  refine OM.of (cc := cX1_refusalToTake) (maxL := 2) (ret := some .int) (own := RX1) (by decide) rfl rfl (Nat.le_of_ble_eq_true rfl) ?_
  intro p e s m below meth c ls S0 hr hlk hl hw
  have hx := S0.1
  have hb := S0.2.1
  have hl : lv_has ls 2 [(0, .ref (ad 0)), (1, .int i)] := hl
  have hin : ∀ w ∈ wsX10, w ∈ wsX1_refusalToTake := fun w h => List.mem_cons_of_mem _ (List.mem_append_right _ h)
  refine lv_iload_n hx hb dX1_refusalToTake_0 rfl (lv_at hl 1 rfl) ?_
  refine ps_call (rest := []) S0 (c_X1_isSlot l i) gX1_refusalToTake_X1_isSlot rfl qX1_isSlot ⟨Nat.le_of_ble_eq_true rfl, Nat.le_of_ble_eq_true rfl⟩ ⟨Nat.le_of_ble_eq_true rfl, Nat.le_of_ble_eq_true rfl⟩ hl.1 rfl (Nat.le_of_ble_eq_true rfl) dX1_refusalToTake_1 ?_
  refine zb_ne (P := zSl i) (tgt := 10) hx hb dX1_refusalToTake_4 (by decide) (fun c_1 => ?_) (fun c_1 => ?_)
  · refine lv_aload_n hx hb dX1_refusalToTake_10 rfl (lv_at hl 0 rfl) ?_
    refine gd_get S0 hin hw rfl rfl 0 (by decide) (S0.2.2.2.2 (.fieldLink RX1 9 "StretchDesk" "sorts" "[I") (by decide +kernel)) rfl (v := .ref (ad 1)) rfl dX1_refusalToTake_11 ?_
    refine lv_iload_n hx hb dX1_refusalToTake_14 rfl (lv_at hl 1 rfl) ?_
    refine va_iald hx hb hw.2.2.1 hw.1 1 0 rfl rfl (zIn (by assumption)) dX1_refusalToTake_15 ?_
    refine lv_iconst (v := -1) hx hb dX1_refusalToTake_16 (by decide) ?_
    refine zc_ne (tgt := 25) hx hb dX1_refusalToTake_17 (by decide) (fun c_2 => ?_) (fun c_2 => ?_)
    · refine lv_iconst (v := 0) hx hb dX1_refusalToTake_25 (by decide) ?_
      exact io_iret S0 hr hlk hw dX1_refusalToTake_26 (congrArg (fun z => some (Value.int z)) (show xTake i S = 0 from (by first | (simp [xTake, xso, xlo, xhi, xwh, xas, xbs, xts, xst, xrf, xet, xsd, eq_true c_1, eq_false c_2]; done) | (simp [xTake, xso, xlo, xhi, xwh, xas, xbs, xts, xst, xrf, xet, xsd, c_1, c_2]; done) | contradiction | rfl))) (congrArg (xW ad cy) (show S = S from (by first | (simp [xTake, xso, xlo, xhi, xwh, xas, xbs, xts, xst, xrf, xet, xsd, eq_true c_1, eq_false c_2]; done) | (simp [xTake, xso, xlo, xhi, xwh, xas, xbs, xts, xst, xrf, xet, xsd, c_1, c_2]; done) | contradiction | rfl)))
    · refine lv_bipush (v := -3) hx hb dX1_refusalToTake_20 (by decide) ?_
      refine lv_goto (tgt := 26) hx hb dX1_refusalToTake_22 (by decide) ?_
      exact io_iret S0 hr hlk hw dX1_refusalToTake_26 (congrArg (fun z => some (Value.int z)) (show xTake i S = -3 from (by first | (simp [xTake, xso, xlo, xhi, xwh, xas, xbs, xts, xst, xrf, xet, xsd, eq_true c_1, eq_true c_2]; done) | (simp [xTake, xso, xlo, xhi, xwh, xas, xbs, xts, xst, xrf, xet, xsd, c_1, c_2]; done) | contradiction | rfl))) (congrArg (xW ad cy) (show S = S from (by first | (simp [xTake, xso, xlo, xhi, xwh, xas, xbs, xts, xst, xrf, xet, xsd, eq_true c_1, eq_true c_2]; done) | (simp [xTake, xso, xlo, xhi, xwh, xas, xbs, xts, xst, xrf, xet, xsd, c_1, c_2]; done) | contradiction | rfl)))
  · refine lv_bipush (v := -2) hx hb dX1_refusalToTake_7 (by decide) ?_
    exact io_iret S0 hr hlk hw dX1_refusalToTake_9 (congrArg (fun z => some (Value.int z)) (show xTake i S = -2 from (by first | (simp [xTake, xso, xlo, xhi, xwh, xas, xbs, xts, xst, xrf, xet, xsd, eq_false c_1]; done) | (simp [xTake, xso, xlo, xhi, xwh, xas, xbs, xts, xst, xrf, xet, xsd, c_1]; done) | contradiction | rfl))) (congrArg (xW ad cy) (show S = S from (by first | (simp [xTake, xso, xlo, xhi, xwh, xas, xbs, xts, xst, xrf, xet, xsd, eq_false c_1]; done) | (simp [xTake, xso, xlo, xhi, xwh, xas, xbs, xts, xst, xrf, xet, xsd, c_1]; done) | contradiction | rfl)))
theorem qX1_refusalToCompare : yX1_refusalToCompare.cls = RX1 ∧ yX1_refusalToCompare.cls ≠ "java/lang/invoke/MethodHandle" ∧ yX1_refusalToCompare.cls ≠ "java/lang/invoke/VarHandle" ∧ (parseMethodDescriptor yX1_refusalToCompare.desc).map (fun d => d.parameters.length) = some 2 := by decide +kernel
set_option maxHeartbeats 4000000 in
set_option maxRecDepth 100000 in
theorem c_X1_refusalToCompare (l : Launch) (D : va_G) (ad : Nat → Nat) (cy : Nat → ClassId) (A : Nat → Prop) (S : XS) (i : Int32) (v : Int64) : OM l D (xT cy) A yX1_refusalToCompare wsX1_refusalToCompare 3 64 [.ref (ad 0), .int i, .long v] (xW ad cy S) (xW ad cy S) (some (.int (xCmp i v S))) := by
  refine OM.of (cc := cX1_refusalToCompare) (maxL := 5) (ret := some .int) (own := RX1) (by decide) rfl rfl (Nat.le_of_ble_eq_true rfl) ?_
  intro p e s m below meth c ls S0 hr hlk hl hw
  have hx := S0.1
  have hb := S0.2.1
  have hl : lv_has ls 5 [(0, .ref (ad 0)), (1, .int i), (2, .long v)] := hl
  have hin : ∀ w ∈ wsX10, w ∈ wsX1_refusalToCompare := fun w h => List.mem_cons_of_mem _ (List.mem_append_right _ h)
  refine lv_aload_n hx hb dX1_refusalToCompare_0 rfl (lv_at hl 0 rfl) ?_
  refine lv_iload_n hx hb dX1_refusalToCompare_1 rfl (lv_at hl 1 rfl) ?_
  refine io_call (rest := []) (w1 := (xW ad cy S)) S0 (c_X1_refusalToTake l D ad cy A S i) gX1_refusalToCompare_X1_refusalToTake hw rfl qX1_refusalToTake ⟨Nat.le_of_ble_eq_true rfl, Nat.le_of_ble_eq_true rfl⟩ ⟨Nat.le_of_ble_eq_true rfl, Nat.le_of_ble_eq_true rfl⟩ rfl rfl rfl hl.1 rfl (Nat.le_of_ble_eq_true rfl) dX1_refusalToCompare_2 (fun H locs hw => ?_)
  refine lv_istore (lv' := [(4, .int (xTake i S)), (0, .ref (ad 0)), (1, .int i), (2, .long v)]) hx hb dX1_refusalToCompare_5 hl (by decide) rfl (fun ls hl => ?_)
  refine lv_iload hx hb dX1_refusalToCompare_7 (lv_at hl 0 rfl) ?_
  refine zi_ge (tgt := 15) hx hb dX1_refusalToCompare_9 (by decide) (fun c_1 => ?_) (fun c_1 => ?_)
  · have h1 : zSl i := xTake_in c_1
    refine lv_aload_n hx hb dX1_refusalToCompare_15 rfl (lv_at hl 1 rfl) ?_
    refine gd_get S0 hin hw rfl rfl 0 (by decide) (S0.2.2.2.2 (.fieldLink RX1 9 "StretchDesk" "sorts" "[I") (by decide +kernel)) rfl (v := .ref (ad 1)) rfl dX1_refusalToCompare_16 ?_
    refine lv_iload_n hx hb dX1_refusalToCompare_19 rfl (lv_at hl 2 rfl) ?_
    refine va_iald hx hb hw.2.2.1 hw.1 1 0 rfl rfl (zIn (by assumption)) dX1_refusalToCompare_20 ?_
    refine lv_lload_n hx hb dX1_refusalToCompare_21 rfl (lv_at hl 3 rfl) ?_
    refine ps_call (rest := []) S0 (c_X0_isNumber l (ixI (xso S) i) v) gX1_refusalToCompare_X0_isNumber rfl qX0_isNumber ⟨Nat.le_of_ble_eq_true rfl, Nat.le_of_ble_eq_true rfl⟩ ⟨Nat.le_of_ble_eq_true rfl, Nat.le_of_ble_eq_true rfl⟩ hl.1 rfl (Nat.le_of_ble_eq_true rfl) dX1_refusalToCompare_22 ?_
    refine zb_eq (P := nNum (ixI (xso S) i) v) (tgt := 32) hx hb dX1_refusalToCompare_25 (by decide) (fun c_2 => ?_) (fun c_2 => ?_)
    · refine lv_bipush (v := -4) hx hb dX1_refusalToCompare_32 (by decide) ?_
      exact io_iret S0 hr hlk hw dX1_refusalToCompare_34 (congrArg (fun z => some (Value.int z)) (show xCmp i v S = -4 from (by first | (simp [xCmp, xso, xlo, xhi, xwh, xas, xbs, xts, xst, xrf, xet, xsd, eq_false c_1, eq_false c_2]; done) | (simp [xCmp, xso, xlo, xhi, xwh, xas, xbs, xts, xst, xrf, xet, xsd, c_1, c_2]; done) | contradiction | rfl))) (congrArg (xW ad cy) (show S = S from (by first | (simp [xCmp, xso, xlo, xhi, xwh, xas, xbs, xts, xst, xrf, xet, xsd, eq_false c_1, eq_false c_2]; done) | (simp [xCmp, xso, xlo, xhi, xwh, xas, xbs, xts, xst, xrf, xet, xsd, c_1, c_2]; done) | contradiction | rfl)))
    · refine lv_iconst (v := 0) hx hb dX1_refusalToCompare_28 (by decide) ?_
      refine lv_goto (tgt := 34) hx hb dX1_refusalToCompare_29 (by decide) ?_
      exact io_iret S0 hr hlk hw dX1_refusalToCompare_34 (congrArg (fun z => some (Value.int z)) (show xCmp i v S = 0 from (by first | (simp [xCmp, xso, xlo, xhi, xwh, xas, xbs, xts, xst, xrf, xet, xsd, eq_false c_1, eq_true c_2]; done) | (simp [xCmp, xso, xlo, xhi, xwh, xas, xbs, xts, xst, xrf, xet, xsd, c_1, c_2]; done) | contradiction | rfl))) (congrArg (xW ad cy) (show S = S from (by first | (simp [xCmp, xso, xlo, xhi, xwh, xas, xbs, xts, xst, xrf, xet, xsd, eq_false c_1, eq_true c_2]; done) | (simp [xCmp, xso, xlo, xhi, xwh, xas, xbs, xts, xst, xrf, xet, xsd, c_1, c_2]; done) | contradiction | rfl)))
  · refine lv_iload hx hb dX1_refusalToCompare_12 (lv_at hl 0 rfl) ?_
    exact io_iret S0 hr hlk hw dX1_refusalToCompare_14 (congrArg (fun z => some (Value.int z)) (show xCmp i v S = xTake i S from (by first | (simp [xCmp, xso, xlo, xhi, xwh, xas, xbs, xts, xst, xrf, xet, xsd, eq_true c_1]; done) | (simp [xCmp, xso, xlo, xhi, xwh, xas, xbs, xts, xst, xrf, xet, xsd, c_1]; done) | contradiction | rfl))) (congrArg (xW ad cy) (show S = S from (by first | (simp [xCmp, xso, xlo, xhi, xwh, xas, xbs, xts, xst, xrf, xet, xsd, eq_true c_1]; done) | (simp [xCmp, xso, xlo, xhi, xwh, xas, xbs, xts, xst, xrf, xet, xsd, c_1]; done) | contradiction | rfl)))
theorem qX1_refusalToPerform : yX1_refusalToPerform.cls = RX1 ∧ yX1_refusalToPerform.cls ≠ "java/lang/invoke/MethodHandle" ∧ yX1_refusalToPerform.cls ≠ "java/lang/invoke/VarHandle" ∧ (parseMethodDescriptor yX1_refusalToPerform.desc).map (fun d => d.parameters.length) = some 4 := by decide +kernel
set_option maxHeartbeats 4000000 in
set_option maxRecDepth 100000 in
theorem c_X1_refusalToPerform (l : Launch) (D : va_G) (ad : Nat → Nat) (cy : Nat → ClassId) (A : Nat → Prop) (S : XS) (w : Int32) (a : Int32) (b : Int32) (to : Int32) : OM l D (xT cy) A yX1_refusalToPerform wsX1_refusalToPerform 2 43 [.ref (ad 0), .int w, .int a, .int b, .int to] (xW ad cy S) (xW ad cy S) (some (.int (xRef w a b to S))) := by
  refine OM.of (cc := cX1_refusalToPerform) (maxL := 5) (ret := some .int) (own := RX1) (by decide) rfl rfl (Nat.le_of_ble_eq_true rfl) ?_
  intro p e s m below meth c ls S0 hr hlk hl hw
  have hx := S0.1
  have hb := S0.2.1
  have hl : lv_has ls 5 [(0, .ref (ad 0)), (1, .int w), (2, .int a), (3, .int b), (4, .int to)] := hl
  have hin : ∀ w ∈ wsX10, w ∈ wsX1_refusalToPerform := fun w h => List.mem_cons_of_mem _ (List.mem_append_right _ h)
  refine lv_iload_n hx hb dX1_refusalToPerform_0 rfl (lv_at hl 1 rfl) ?_
  refine lv_iload_n hx hb dX1_refusalToPerform_1 rfl (lv_at hl 2 rfl) ?_
  refine lv_iload_n hx hb dX1_refusalToPerform_2 rfl (lv_at hl 3 rfl) ?_
  refine lv_iload hx hb dX1_refusalToPerform_3 (lv_at hl 4 rfl) ?_
  refine ps_call (rest := []) S0 (c_X1_areSlots l w a b to) gX1_refusalToPerform_X1_areSlots rfl qX1_areSlots ⟨Nat.le_of_ble_eq_true rfl, Nat.le_of_ble_eq_true rfl⟩ ⟨Nat.le_of_ble_eq_true rfl, Nat.le_of_ble_eq_true rfl⟩ hl.1 rfl (Nat.le_of_ble_eq_true rfl) dX1_refusalToPerform_5 ?_
  refine zb_ne (P := zSlots w a b to) (tgt := 14) hx hb dX1_refusalToPerform_8 (by decide) (fun c_1 => ?_) (fun c_1 => ?_)
  · have h1 : zSl a := c_1.1
    refine lv_aload_n hx hb dX1_refusalToPerform_14 rfl (lv_at hl 0 rfl) ?_
    refine gd_get S0 hin hw rfl rfl 0 (by decide) (S0.2.2.2.2 (.fieldLink RX1 9 "StretchDesk" "sorts" "[I") (by decide +kernel)) rfl (v := .ref (ad 1)) rfl dX1_refusalToPerform_15 ?_
    refine lv_iload_n hx hb dX1_refusalToPerform_18 rfl (lv_at hl 2 rfl) ?_
    refine va_iald hx hb hw.2.2.1 hw.1 1 0 rfl rfl (zIn (by assumption)) dX1_refusalToPerform_19 ?_
    refine lv_iconst (v := -1) hx hb dX1_refusalToPerform_20 (by decide) ?_
    refine zc_ne (tgt := 27) hx hb dX1_refusalToPerform_21 (by decide) (fun c_2 => ?_) (fun c_2 => ?_)
    · refine lv_iload_n hx hb dX1_refusalToPerform_27 rfl (lv_at hl 1 rfl) ?_
      refine ps_call (rest := []) S0 (c_X1_takesTwo l w) gX1_refusalToPerform_X1_takesTwo rfl qX1_takesTwo ⟨Nat.le_of_ble_eq_true rfl, Nat.le_of_ble_eq_true rfl⟩ ⟨Nat.le_of_ble_eq_true rfl, Nat.le_of_ble_eq_true rfl⟩ hl.1 rfl (Nat.le_of_ble_eq_true rfl) dX1_refusalToPerform_28 ?_
      refine zb_ne (P := zTwo w) (tgt := 36) hx hb dX1_refusalToPerform_31 (by decide) (fun c_3 => ?_) (fun c_3 => ?_)
      · have h2 : zSl b := c_1.2.2.resolve_left (fun q => q c_3)
        refine lv_aload_n hx hb dX1_refusalToPerform_36 rfl (lv_at hl 0 rfl) ?_
        refine gd_get S0 hin hw rfl rfl 0 (by decide) (S0.2.2.2.2 (.fieldLink RX1 9 "StretchDesk" "sorts" "[I") (by decide +kernel)) rfl (v := .ref (ad 1)) rfl dX1_refusalToPerform_37 ?_
        refine lv_iload_n hx hb dX1_refusalToPerform_40 rfl (lv_at hl 3 rfl) ?_
        refine va_iald hx hb hw.2.2.1 hw.1 1 0 rfl rfl (zIn (by assumption)) dX1_refusalToPerform_41 ?_
        refine lv_iconst (v := -1) hx hb dX1_refusalToPerform_42 (by decide) ?_
        refine zc_ne (tgt := 49) hx hb dX1_refusalToPerform_43 (by decide) (fun c_4 => ?_) (fun c_4 => ?_)
        · refine lv_aload_n hx hb dX1_refusalToPerform_49 rfl (lv_at hl 0 rfl) ?_
          refine gd_get S0 hin hw rfl rfl 0 (by decide) (S0.2.2.2.2 (.fieldLink RX1 9 "StretchDesk" "sorts" "[I") (by decide +kernel)) rfl (v := .ref (ad 1)) rfl dX1_refusalToPerform_50 ?_
          refine lv_iload_n hx hb dX1_refusalToPerform_53 rfl (lv_at hl 2 rfl) ?_
          refine va_iald hx hb hw.2.2.1 hw.1 1 0 rfl rfl (zIn (by assumption)) dX1_refusalToPerform_54 ?_
          refine lv_aload_n hx hb dX1_refusalToPerform_55 rfl (lv_at hl 0 rfl) ?_
          refine gd_get S0 hin hw rfl rfl 0 (by decide) (S0.2.2.2.2 (.fieldLink RX1 9 "StretchDesk" "sorts" "[I") (by decide +kernel)) rfl (v := .ref (ad 1)) rfl dX1_refusalToPerform_56 ?_
          refine lv_iload_n hx hb dX1_refusalToPerform_59 rfl (lv_at hl 3 rfl) ?_
          refine va_iald hx hb hw.2.2.1 hw.1 1 0 rfl rfl (zIn (by assumption)) dX1_refusalToPerform_60 ?_
          refine zc_ne (tgt := 68) hx hb dX1_refusalToPerform_61 (by decide) (fun c_5 => ?_) (fun c_5 => ?_)
          · refine lv_bipush (v := -4) hx hb dX1_refusalToPerform_68 (by decide) ?_
            exact io_iret S0 hr hlk hw dX1_refusalToPerform_70 (congrArg (fun z => some (Value.int z)) (show xRef w a b to S = -4 from (by first | (simp [xRef, xso, xlo, xhi, xwh, xas, xbs, xts, xst, xrf, xet, xsd, eq_true c_1, eq_false c_2, eq_true c_3, eq_false c_4, eq_false c_5]; done) | (simp [xRef, xso, xlo, xhi, xwh, xas, xbs, xts, xst, xrf, xet, xsd, c_1, c_2, c_3, c_4, c_5]; done) | contradiction | rfl))) (congrArg (xW ad cy) (show S = S from (by first | (simp [xRef, xso, xlo, xhi, xwh, xas, xbs, xts, xst, xrf, xet, xsd, eq_true c_1, eq_false c_2, eq_true c_3, eq_false c_4, eq_false c_5]; done) | (simp [xRef, xso, xlo, xhi, xwh, xas, xbs, xts, xst, xrf, xet, xsd, c_1, c_2, c_3, c_4, c_5]; done) | contradiction | rfl)))
          · refine lv_iconst (v := 0) hx hb dX1_refusalToPerform_64 (by decide) ?_
            refine lv_goto (tgt := 70) hx hb dX1_refusalToPerform_65 (by decide) ?_
            exact io_iret S0 hr hlk hw dX1_refusalToPerform_70 (congrArg (fun z => some (Value.int z)) (show xRef w a b to S = 0 from (by first | (simp [xRef, xso, xlo, xhi, xwh, xas, xbs, xts, xst, xrf, xet, xsd, eq_true c_1, eq_false c_2, eq_true c_3, eq_false c_4, eq_true c_5]; done) | (simp [xRef, xso, xlo, xhi, xwh, xas, xbs, xts, xst, xrf, xet, xsd, c_1, c_2, c_3, c_4, c_5]; done) | contradiction | rfl))) (congrArg (xW ad cy) (show S = S from (by first | (simp [xRef, xso, xlo, xhi, xwh, xas, xbs, xts, xst, xrf, xet, xsd, eq_true c_1, eq_false c_2, eq_true c_3, eq_false c_4, eq_true c_5]; done) | (simp [xRef, xso, xlo, xhi, xwh, xas, xbs, xts, xst, xrf, xet, xsd, c_1, c_2, c_3, c_4, c_5]; done) | contradiction | rfl)))
        · refine lv_bipush (v := -3) hx hb dX1_refusalToPerform_46 (by decide) ?_
          exact io_iret S0 hr hlk hw dX1_refusalToPerform_48 (congrArg (fun z => some (Value.int z)) (show xRef w a b to S = -3 from (by first | (simp [xRef, xso, xlo, xhi, xwh, xas, xbs, xts, xst, xrf, xet, xsd, eq_true c_1, eq_false c_2, eq_true c_3, eq_true c_4]; done) | (simp [xRef, xso, xlo, xhi, xwh, xas, xbs, xts, xst, xrf, xet, xsd, c_1, c_2, c_3, c_4]; done) | contradiction | rfl))) (congrArg (xW ad cy) (show S = S from (by first | (simp [xRef, xso, xlo, xhi, xwh, xas, xbs, xts, xst, xrf, xet, xsd, eq_true c_1, eq_false c_2, eq_true c_3, eq_true c_4]; done) | (simp [xRef, xso, xlo, xhi, xwh, xas, xbs, xts, xst, xrf, xet, xsd, c_1, c_2, c_3, c_4]; done) | contradiction | rfl)))
      · refine lv_iconst (v := 0) hx hb dX1_refusalToPerform_34 (by decide) ?_
        exact io_iret S0 hr hlk hw dX1_refusalToPerform_35 (congrArg (fun z => some (Value.int z)) (show xRef w a b to S = 0 from (by first | (simp [xRef, xso, xlo, xhi, xwh, xas, xbs, xts, xst, xrf, xet, xsd, eq_true c_1, eq_false c_2, eq_false c_3]; done) | (simp [xRef, xso, xlo, xhi, xwh, xas, xbs, xts, xst, xrf, xet, xsd, c_1, c_2, c_3]; done) | contradiction | rfl))) (congrArg (xW ad cy) (show S = S from (by first | (simp [xRef, xso, xlo, xhi, xwh, xas, xbs, xts, xst, xrf, xet, xsd, eq_true c_1, eq_false c_2, eq_false c_3]; done) | (simp [xRef, xso, xlo, xhi, xwh, xas, xbs, xts, xst, xrf, xet, xsd, c_1, c_2, c_3]; done) | contradiction | rfl)))
    · refine lv_bipush (v := -3) hx hb dX1_refusalToPerform_24 (by decide) ?_
      exact io_iret S0 hr hlk hw dX1_refusalToPerform_26 (congrArg (fun z => some (Value.int z)) (show xRef w a b to S = -3 from (by first | (simp [xRef, xso, xlo, xhi, xwh, xas, xbs, xts, xst, xrf, xet, xsd, eq_true c_1, eq_true c_2]; done) | (simp [xRef, xso, xlo, xhi, xwh, xas, xbs, xts, xst, xrf, xet, xsd, c_1, c_2]; done) | contradiction | rfl))) (congrArg (xW ad cy) (show S = S from (by first | (simp [xRef, xso, xlo, xhi, xwh, xas, xbs, xts, xst, xrf, xet, xsd, eq_true c_1, eq_true c_2]; done) | (simp [xRef, xso, xlo, xhi, xwh, xas, xbs, xts, xst, xrf, xet, xsd, c_1, c_2]; done) | contradiction | rfl)))
  · refine lv_bipush (v := -2) hx hb dX1_refusalToPerform_11 (by decide) ?_
    exact io_iret S0 hr hlk hw dX1_refusalToPerform_13 (congrArg (fun z => some (Value.int z)) (show xRef w a b to S = -2 from (by first | (simp [xRef, xso, xlo, xhi, xwh, xas, xbs, xts, xst, xrf, xet, xsd, eq_false c_1]; done) | (simp [xRef, xso, xlo, xhi, xwh, xas, xbs, xts, xst, xrf, xet, xsd, c_1]; done) | contradiction | rfl))) (congrArg (xW ad cy) (show S = S from (by first | (simp [xRef, xso, xlo, xhi, xwh, xas, xbs, xts, xst, xrf, xet, xsd, eq_false c_1]; done) | (simp [xRef, xso, xlo, xhi, xwh, xas, xbs, xts, xst, xrf, xet, xsd, c_1]; done) | contradiction | rfl)))
