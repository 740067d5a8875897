theorem qX1_performed : yX1_performed.cls = RX1 ∧ yX1_performed.cls ≠ "java/lang/invoke/MethodHandle" ∧ yX1_performed.cls ≠ "java/lang/invoke/VarHandle" ∧ (parseMethodDescriptor yX1_performed.desc).map (fun d => d.parameters.length) = some 4 := by decide +kernel
set_option maxHeartbeats 4000000 in
set_option maxRecDepth 100000 in
theorem c_X1_performed (l : Launch) (D : va_G) (ad : Nat → Nat) (cy : Nat → ClassId) (A : Nat → Prop) (S : XS) (w : Int32) (a : Int32) (b : Int32) (to : Int32) : OM l D (xT cy) A yX1_performed wsX1_performed 5 129 [.ref (ad 0), .int w, .int a, .int b, .int to] (xW ad cy S) (xW ad cy ((xPerf w a b to S).2)) (some (.int ((xPerf w a b to S).1))) := by
  refine OM.of (cc := cX1_performed) (maxL := 6) (ret := some .int) (own := RX1) (by decide) rfl rfl (Nat.le_of_ble_eq_true rfl) ?_
  intro p e s m below meth c ls S0 hr hlk hl hw
  have hx := S0.1
  have hb := S0.2.1
  have hl : lv_has ls 6 [(0, .ref (ad 0)), (1, .int w), (2, .int a), (3, .int b), (4, .int to)] := hl
  refine lv_aload_n hx hb dX1_performed_0 rfl (lv_at hl 0 rfl) ?_
  refine lv_iload_n hx hb dX1_performed_1 rfl (lv_at hl 1 rfl) ?_
  refine lv_iload_n hx hb dX1_performed_2 rfl (lv_at hl 2 rfl) ?_
  refine lv_iload_n hx hb dX1_performed_3 rfl (lv_at hl 3 rfl) ?_
  refine lv_iload hx hb dX1_performed_4 (lv_at hl 4 rfl) ?_
  refine io_call (rest := []) (w1 := (xW ad cy S)) S0 (c_X1_refusalToPerform l D ad cy A S w a b to) gX1_performed_X1_refusalToPerform hw rfl qX1_refusalToPerform ⟨Nat.le_of_ble_eq_true rfl, Nat.le_of_ble_eq_true rfl⟩ ⟨Nat.le_of_ble_eq_true rfl, Nat.le_of_ble_eq_true rfl⟩ rfl rfl rfl hl.1 rfl (Nat.le_of_ble_eq_true rfl) dX1_performed_6 (fun H locs hw => ?_)
  refine lv_istore (lv' := [(5, .int (xRef w a b to S)), (0, .ref (ad 0)), (1, .int w), (2, .int a), (3, .int b), (4, .int to)]) hx hb dX1_performed_9 hl (by decide) rfl (fun ls hl => ?_)
  refine lv_iload hx hb dX1_performed_11 (lv_at hl 0 rfl) ?_
  refine zi_ge (tgt := 19) hx hb dX1_performed_13 (by decide) (fun c_1 => ?_) (fun c_1 => ?_)
  · have h0 : zSlots w a b to := xRef_in c_1
    have h1 : zSl a := h0.1
    have h3 : zSl to := h0.2.1
    refine lv_iload_n hx hb dX1_performed_19 rfl (lv_at hl 2 rfl) ?_
    by_cases c_2 : w = 0
    · refine lv_tableIn (off := 44) (tgt := 64) hx hb dX1_performed_20 (by rw [c_2]; decide) (by rw [c_2]; decide) (by rw [c_2]; decide) (by decide) ?_
      have h2 : zSl b := h0.2.2.resolve_left (fun q => q (by simp [zTwo, c_2]))
      refine lv_aload_n hx hb dX1_performed_64 rfl (lv_at hl 1 rfl) ?_
      refine lv_iload_n hx hb dX1_performed_65 rfl (lv_at hl 3 rfl) ?_
      refine lv_iload_n hx hb dX1_performed_66 rfl (lv_at hl 4 rfl) ?_
      refine lv_iload hx hb dX1_performed_67 (lv_at hl 5 rfl) ?_
      refine io_call (rest := []) (w1 := (xW ad cy ((xJoined a b to S).2))) S0 (c_X1_joined l D ad cy A S a b to (by assumption) (by assumption) (by assumption)) gX1_performed_X1_joined hw rfl qX1_joined ⟨Nat.le_of_ble_eq_true rfl, Nat.le_of_ble_eq_true rfl⟩ ⟨Nat.le_of_ble_eq_true rfl, Nat.le_of_ble_eq_true rfl⟩ rfl rfl rfl hl.1 rfl (Nat.le_of_ble_eq_true rfl) dX1_performed_69 (fun H locs hw => ?_)
      exact io_iret S0 hr hlk hw dX1_performed_72 (congrArg (fun z => some (Value.int z)) (show (xPerf w a b to S).1 = (xJoined a b to S).1 from (by first | (simp [xPerf, xso, xlo, xhi, xwh, xas, xbs, xts, xst, xrf, xet, xsd, eq_false c_1, eq_true c_2]; done) | (simp [xPerf, xso, xlo, xhi, xwh, xas, xbs, xts, xst, xrf, xet, xsd, c_1, c_2]; done) | contradiction | rfl))) (congrArg (xW ad cy) (show (xPerf w a b to S).2 = (xJoined a b to S).2 from (by first | (simp [xPerf, xso, xlo, xhi, xwh, xas, xbs, xts, xst, xrf, xet, xsd, eq_false c_1, eq_true c_2]; done) | (simp [xPerf, xso, xlo, xhi, xwh, xas, xbs, xts, xst, xrf, xet, xsd, c_1, c_2]; done) | contradiction | rfl)))
    by_cases c_3 : w = 1
    · refine lv_tableIn (off := 53) (tgt := 73) hx hb dX1_performed_20 (by rw [c_3]; decide) (by rw [c_3]; decide) (by rw [c_3]; decide) (by decide) ?_
      have h2 : zSl b := h0.2.2.resolve_left (fun q => q (by simp [zTwo, c_3]))
      refine lv_aload_n hx hb dX1_performed_73 rfl (lv_at hl 1 rfl) ?_
      refine lv_iload_n hx hb dX1_performed_74 rfl (lv_at hl 3 rfl) ?_
      refine lv_iload_n hx hb dX1_performed_75 rfl (lv_at hl 4 rfl) ?_
      refine lv_iload hx hb dX1_performed_76 (lv_at hl 5 rfl) ?_
      refine io_call (rest := []) (w1 := (xW ad cy ((xCut a b to S).2))) S0 (c_X1_cut l D ad cy A S a b to (by assumption) (by assumption) (by assumption)) gX1_performed_X1_cut hw rfl qX1_cut ⟨Nat.le_of_ble_eq_true rfl, Nat.le_of_ble_eq_true rfl⟩ ⟨Nat.le_of_ble_eq_true rfl, Nat.le_of_ble_eq_true rfl⟩ rfl rfl rfl hl.1 rfl (Nat.le_of_ble_eq_true rfl) dX1_performed_78 (fun H locs hw => ?_)
      exact io_iret S0 hr hlk hw dX1_performed_81 (congrArg (fun z => some (Value.int z)) (show (xPerf w a b to S).1 = (xCut a b to S).1 from (by first | (simp [xPerf, xso, xlo, xhi, xwh, xas, xbs, xts, xst, xrf, xet, xsd, eq_false c_1, eq_false c_2, eq_true c_3]; done) | (simp [xPerf, xso, xlo, xhi, xwh, xas, xbs, xts, xst, xrf, xet, xsd, c_1, c_2, c_3]; done) | contradiction | rfl))) (congrArg (xW ad cy) (show (xPerf w a b to S).2 = (xCut a b to S).2 from (by first | (simp [xPerf, xso, xlo, xhi, xwh, xas, xbs, xts, xst, xrf, xet, xsd, eq_false c_1, eq_false c_2, eq_true c_3]; done) | (simp [xPerf, xso, xlo, xhi, xwh, xas, xbs, xts, xst, xrf, xet, xsd, c_1, c_2, c_3]; done) | contradiction | rfl)))
    by_cases c_4 : w = 2
    · refine lv_tableIn (off := 62) (tgt := 82) hx hb dX1_performed_20 (by rw [c_4]; decide) (by rw [c_4]; decide) (by rw [c_4]; decide) (by decide) ?_
      refine lv_aload_n hx hb dX1_performed_82 rfl (lv_at hl 1 rfl) ?_
      refine lv_iload_n hx hb dX1_performed_83 rfl (lv_at hl 3 rfl) ?_
      refine lv_iload hx hb dX1_performed_84 (lv_at hl 5 rfl) ?_
      refine io_call (rest := []) (w1 := (xW ad cy ((xSized a to S).2))) S0 (c_X1_sized l D ad cy A S a to (by assumption) (by assumption)) gX1_performed_X1_sized hw rfl qX1_sized ⟨Nat.le_of_ble_eq_true rfl, Nat.le_of_ble_eq_true rfl⟩ ⟨Nat.le_of_ble_eq_true rfl, Nat.le_of_ble_eq_true rfl⟩ rfl rfl rfl hl.1 rfl (Nat.le_of_ble_eq_true rfl) dX1_performed_86 (fun H locs hw => ?_)
      exact io_iret S0 hr hlk hw dX1_performed_89 (congrArg (fun z => some (Value.int z)) (show (xPerf w a b to S).1 = (xSized a to S).1 from (by first | (simp [xPerf, xso, xlo, xhi, xwh, xas, xbs, xts, xst, xrf, xet, xsd, eq_false c_1, eq_false c_2, eq_false c_3, eq_true c_4]; done) | (simp [xPerf, xso, xlo, xhi, xwh, xas, xbs, xts, xst, xrf, xet, xsd, c_1, c_2, c_3, c_4]; done) | contradiction | rfl))) (congrArg (xW ad cy) (show (xPerf w a b to S).2 = (xSized a to S).2 from (by first | (simp [xPerf, xso, xlo, xhi, xwh, xas, xbs, xts, xst, xrf, xet, xsd, eq_false c_1, eq_false c_2, eq_false c_3, eq_true c_4]; done) | (simp [xPerf, xso, xlo, xhi, xwh, xas, xbs, xts, xst, xrf, xet, xsd, c_1, c_2, c_3, c_4]; done) | contradiction | rfl)))
    by_cases c_5 : w = 3
    · refine lv_tableIn (off := 70) (tgt := 90) hx hb dX1_performed_20 (by rw [c_5]; decide) (by rw [c_5]; decide) (by rw [c_5]; decide) (by decide) ?_
      refine lv_aload_n hx hb dX1_performed_90 rfl (lv_at hl 1 rfl) ?_
      refine lv_iload_n hx hb dX1_performed_91 rfl (lv_at hl 3 rfl) ?_
      refine lv_iload_n hx hb dX1_performed_92 rfl (lv_at hl 4 rfl) ?_
      refine lv_iload hx hb dX1_performed_93 (lv_at hl 5 rfl) ?_
      refine io_call (rest := []) (w1 := (xW ad cy ((xRounded a b to S).2))) S0 (c_X1_rounded l D ad cy A S a b to (by assumption) (by assumption)) gX1_performed_X1_rounded hw rfl qX1_rounded ⟨Nat.le_of_ble_eq_true rfl, Nat.le_of_ble_eq_true rfl⟩ ⟨Nat.le_of_ble_eq_true rfl, Nat.le_of_ble_eq_true rfl⟩ rfl rfl rfl hl.1 rfl (Nat.le_of_ble_eq_true rfl) dX1_performed_95 (fun H locs hw => ?_)
      exact io_iret S0 hr hlk hw dX1_performed_98 (congrArg (fun z => some (Value.int z)) (show (xPerf w a b to S).1 = (xRounded a b to S).1 from (by first | (simp [xPerf, xso, xlo, xhi, xwh, xas, xbs, xts, xst, xrf, xet, xsd, eq_false c_1, eq_false c_2, eq_false c_3, eq_false c_4, eq_true c_5]; done) | (simp [xPerf, xso, xlo, xhi, xwh, xas, xbs, xts, xst, xrf, xet, xsd, c_1, c_2, c_3, c_4, c_5]; done) | contradiction | rfl))) (congrArg (xW ad cy) (show (xPerf w a b to S).2 = (xRounded a b to S).2 from (by first | (simp [xPerf, xso, xlo, xhi, xwh, xas, xbs, xts, xst, xrf, xet, xsd, eq_false c_1, eq_false c_2, eq_false c_3, eq_false c_4, eq_true c_5]; done) | (simp [xPerf, xso, xlo, xhi, xwh, xas, xbs, xts, xst, xrf, xet, xsd, c_1, c_2, c_3, c_4, c_5]; done) | contradiction | rfl)))
    by_cases c_6 : w = 4
    · refine lv_tableIn (off := 79) (tgt := 99) hx hb dX1_performed_20 (by rw [c_6]; decide) (by rw [c_6]; decide) (by rw [c_6]; decide) (by decide) ?_
      refine lv_aload_n hx hb dX1_performed_99 rfl (lv_at hl 1 rfl) ?_
      refine lv_iload_n hx hb dX1_performed_100 rfl (lv_at hl 3 rfl) ?_
      refine lv_iload hx hb dX1_performed_101 (lv_at hl 5 rfl) ?_
      refine io_call (rest := []) (w1 := (xW ad cy ((xSigned a to S).2))) S0 (c_X1_signed l D ad cy A S a to (by assumption) (by assumption)) gX1_performed_X1_signed hw rfl qX1_signed ⟨Nat.le_of_ble_eq_true rfl, Nat.le_of_ble_eq_true rfl⟩ ⟨Nat.le_of_ble_eq_true rfl, Nat.le_of_ble_eq_true rfl⟩ rfl rfl rfl hl.1 rfl (Nat.le_of_ble_eq_true rfl) dX1_performed_103 (fun H locs hw => ?_)
      exact io_iret S0 hr hlk hw dX1_performed_106 (congrArg (fun z => some (Value.int z)) (show (xPerf w a b to S).1 = (xSigned a to S).1 from (by first | (simp [xPerf, xso, xlo, xhi, xwh, xas, xbs, xts, xst, xrf, xet, xsd, eq_false c_1, eq_false c_2, eq_false c_3, eq_false c_4, eq_false c_5, eq_true c_6]; done) | (simp [xPerf, xso, xlo, xhi, xwh, xas, xbs, xts, xst, xrf, xet, xsd, c_1, c_2, c_3, c_4, c_5, c_6]; done) | contradiction | rfl))) (congrArg (xW ad cy) (show (xPerf w a b to S).2 = (xSigned a to S).2 from (by first | (simp [xPerf, xso, xlo, xhi, xwh, xas, xbs, xts, xst, xrf, xet, xsd, eq_false c_1, eq_false c_2, eq_false c_3, eq_false c_4, eq_false c_5, eq_true c_6]; done) | (simp [xPerf, xso, xlo, xhi, xwh, xas, xbs, xts, xst, xrf, xet, xsd, c_1, c_2, c_3, c_4, c_5, c_6]; done) | contradiction | rfl)))
    by_cases c_7 : w = 5
    · refine lv_tableIn (off := 87) (tgt := 107) hx hb dX1_performed_20 (by rw [c_7]; decide) (by rw [c_7]; decide) (by rw [c_7]; decide) (by decide) ?_
      have h2 : zSl b := h0.2.2.resolve_left (fun q => q (by simp [zTwo, c_7]))
      refine lv_aload_n hx hb dX1_performed_107 rfl (lv_at hl 1 rfl) ?_
      refine lv_iload_n hx hb dX1_performed_108 rfl (lv_at hl 3 rfl) ?_
      refine lv_iload_n hx hb dX1_performed_109 rfl (lv_at hl 4 rfl) ?_
      refine lv_iload hx hb dX1_performed_110 (lv_at hl 5 rfl) ?_
      refine io_call (rest := []) (w1 := (xW ad cy ((xLent a b to S).2))) S0 (c_X1_lent l D ad cy A S a b to (by assumption) (by assumption) (by assumption)) gX1_performed_X1_lent hw rfl qX1_lent ⟨Nat.le_of_ble_eq_true rfl, Nat.le_of_ble_eq_true rfl⟩ ⟨Nat.le_of_ble_eq_true rfl, Nat.le_of_ble_eq_true rfl⟩ rfl rfl rfl hl.1 rfl (Nat.le_of_ble_eq_true rfl) dX1_performed_112 (fun H locs hw => ?_)
      exact io_iret S0 hr hlk hw dX1_performed_115 (congrArg (fun z => some (Value.int z)) (show (xPerf w a b to S).1 = (xLent a b to S).1 from (by first | (simp [xPerf, xso, xlo, xhi, xwh, xas, xbs, xts, xst, xrf, xet, xsd, eq_false c_1, eq_false c_2, eq_false c_3, eq_false c_4, eq_false c_5, eq_false c_6, eq_true c_7]; done) | (simp [xPerf, xso, xlo, xhi, xwh, xas, xbs, xts, xst, xrf, xet, xsd, c_1, c_2, c_3, c_4, c_5, c_6, c_7]; done) | contradiction | rfl))) (congrArg (xW ad cy) (show (xPerf w a b to S).2 = (xLent a b to S).2 from (by first | (simp [xPerf, xso, xlo, xhi, xwh, xas, xbs, xts, xst, xrf, xet, xsd, eq_false c_1, eq_false c_2, eq_false c_3, eq_false c_4, eq_false c_5, eq_false c_6, eq_true c_7]; done) | (simp [xPerf, xso, xlo, xhi, xwh, xas, xbs, xts, xst, xrf, xet, xsd, c_1, c_2, c_3, c_4, c_5, c_6, c_7]; done) | contradiction | rfl)))
    by_cases c_8 : w = 6
    · refine lv_tableIn (off := 96) (tgt := 116) hx hb dX1_performed_20 (by rw [c_8]; decide) (by rw [c_8]; decide) (by rw [c_8]; decide) (by decide) ?_
      refine lv_aload_n hx hb dX1_performed_116 rfl (lv_at hl 1 rfl) ?_
      refine lv_iload_n hx hb dX1_performed_117 rfl (lv_at hl 3 rfl) ?_
      refine lv_iload hx hb dX1_performed_118 (lv_at hl 5 rfl) ?_
      refine io_call (rest := []) (w1 := (xW ad cy ((xTurned a to S).2))) S0 (c_X1_turned l D ad cy A S a to (by assumption) (by assumption)) gX1_performed_X1_turned hw rfl qX1_turned ⟨Nat.le_of_ble_eq_true rfl, Nat.le_of_ble_eq_true rfl⟩ ⟨Nat.le_of_ble_eq_true rfl, Nat.le_of_ble_eq_true rfl⟩ rfl rfl rfl hl.1 rfl (Nat.le_of_ble_eq_true rfl) dX1_performed_120 (fun H locs hw => ?_)
      exact io_iret S0 hr hlk hw dX1_performed_123 (congrArg (fun z => some (Value.int z)) (show (xPerf w a b to S).1 = (xTurned a to S).1 from (by first | (simp [xPerf, xso, xlo, xhi, xwh, xas, xbs, xts, xst, xrf, xet, xsd, eq_false c_1, eq_false c_2, eq_false c_3, eq_false c_4, eq_false c_5, eq_false c_6, eq_false c_7, eq_true c_8]; done) | (simp [xPerf, xso, xlo, xhi, xwh, xas, xbs, xts, xst, xrf, xet, xsd, c_1, c_2, c_3, c_4, c_5, c_6, c_7, c_8]; done) | contradiction | rfl))) (congrArg (xW ad cy) (show (xPerf w a b to S).2 = (xTurned a to S).2 from (by first | (simp [xPerf, xso, xlo, xhi, xwh, xas, xbs, xts, xst, xrf, xet, xsd, eq_false c_1, eq_false c_2, eq_false c_3, eq_false c_4, eq_false c_5, eq_false c_6, eq_false c_7, eq_true c_8]; done) | (simp [xPerf, xso, xlo, xhi, xwh, xas, xbs, xts, xst, xrf, xet, xsd, c_1, c_2, c_3, c_4, c_5, c_6, c_7, c_8]; done) | contradiction | rfl)))
    refine lv_tableOut (tgt := 124) hx hb dX1_performed_20 (zout7 c_2 c_3 c_4 c_5 c_6 c_7 c_8) (by decide) ?_
    refine lv_aload_n hx hb dX1_performed_124 rfl (lv_at hl 1 rfl) ?_
    refine lv_iload_n hx hb dX1_performed_125 rfl (lv_at hl 3 rfl) ?_
    refine lv_iload_n hx hb dX1_performed_126 rfl (lv_at hl 4 rfl) ?_
    refine lv_iload hx hb dX1_performed_127 (lv_at hl 5 rfl) ?_
    refine io_call (rest := []) (w1 := (xW ad cy ((xConv a b to S).2))) S0 (c_X1_converted l D ad cy A S a b to (by assumption) (by assumption)) gX1_performed_X1_converted hw rfl qX1_converted ⟨Nat.le_of_ble_eq_true rfl, Nat.le_of_ble_eq_true rfl⟩ ⟨Nat.le_of_ble_eq_true rfl, Nat.le_of_ble_eq_true rfl⟩ rfl rfl rfl hl.1 rfl (Nat.le_of_ble_eq_true rfl) dX1_performed_129 (fun H locs hw => ?_)
    exact io_iret S0 hr hlk hw dX1_performed_132 (congrArg (fun z => some (Value.int z)) (show (xPerf w a b to S).1 = (xConv a b to S).1 from (by first | (simp [xPerf, xso, xlo, xhi, xwh, xas, xbs, xts, xst, xrf, xet, xsd, eq_false c_1, eq_false c_2, eq_false c_3, eq_false c_4, eq_false c_5, eq_false c_6, eq_false c_7, eq_false c_8]; done) | (simp [xPerf, xso, xlo, xhi, xwh, xas, xbs, xts, xst, xrf, xet, xsd, c_1, c_2, c_3, c_4, c_5, c_6, c_7, c_8]; done) | contradiction | rfl))) (congrArg (xW ad cy) (show (xPerf w a b to S).2 = (xConv a b to S).2 from (by first | (simp [xPerf, xso, xlo, xhi, xwh, xas, xbs, xts, xst, xrf, xet, xsd, eq_false c_1, eq_false c_2, eq_false c_3, eq_false c_4, eq_false c_5, eq_false c_6, eq_false c_7, eq_false c_8]; done) | (simp [xPerf, xso, xlo, xhi, xwh, xas, xbs, xts, xst, xrf, xet, xsd, c_1, c_2, c_3, c_4, c_5, c_6, c_7, c_8]; done) | contradiction | rfl)))
  · refine lv_iload hx hb dX1_performed_16 (lv_at hl 0 rfl) ?_
    exact io_iret S0 hr hlk hw dX1_performed_18 (congrArg (fun z => some (Value.int z)) (show (xPerf w a b to S).1 = xRef w a b to S from (by first | (simp [xPerf, xso, xlo, xhi, xwh, xas, xbs, xts, xst, xrf, xet, xsd, eq_true c_1]; done) | (simp [xPerf, xso, xlo, xhi, xwh, xas, xbs, xts, xst, xrf, xet, xsd, c_1]; done) | contradiction | rfl))) (congrArg (xW ad cy) (show (xPerf w a b to S).2 = S from (by first | (simp [xPerf, xso, xlo, xhi, xwh, xas, xbs, xts, xst, xrf, xet, xsd, eq_true c_1]; done) | (simp [xPerf, xso, xlo, xhi, xwh, xas, xbs, xts, xst, xrf, xet, xsd, c_1]; done) | contradiction | rfl)))
theorem qX1_placed : yX1_placed.cls = RX1 ∧ yX1_placed.cls ≠ "java/lang/invoke/MethodHandle" ∧ yX1_placed.cls ≠ "java/lang/invoke/VarHandle" ∧ (parseMethodDescriptor yX1_placed.desc).map (fun d => d.parameters.length) = some 4 := by decide +kernel
set_option maxHeartbeats 4000000 in
set_option maxRecDepth 100000 in
theorem c_X1_placed (l : Launch) (D : va_G) (ad : Nat → Nat) (cy : Nat → ClassId) (A : Nat → Prop) (S : XS) (i : Int32) (t : Int32) (u : Int64) (v : Int64) : OM l D (xT cy) A yX1_placed wsX1_placed 3 64 [.ref (ad 0), .int i, .int t, .long u, .long v] (xW ad cy S) (xW ad cy ((xPlaced i t u v S).2)) (some (.int ((xPlaced i t u v S).1))) := by
  refine OM.of (cc := cX1_placed) (maxL := 11) (ret := some .int) (own := RX1) (by decide) rfl rfl (Nat.le_of_ble_eq_true rfl) ?_
  intro p e s m below meth c ls S0 hr hlk hl hw
  have hx := S0.1
  have hb := S0.2.1
  have hl : lv_has ls 11 [(0, .ref (ad 0)), (1, .int i), (2, .int t), (3, .long u), (5, .long v)] := hl
  refine lv_iload_n hx hb dX1_placed_0 rfl (lv_at hl 1 rfl) ?_
  refine ps_call (rest := []) S0 (c_X1_isSlot l i) gX1_placed_X1_isSlot rfl qX1_isSlot ⟨Nat.le_of_ble_eq_true rfl, Nat.le_of_ble_eq_true rfl⟩ ⟨Nat.le_of_ble_eq_true rfl, Nat.le_of_ble_eq_true rfl⟩ hl.1 rfl (Nat.le_of_ble_eq_true rfl) dX1_placed_1 ?_
  refine zb_ne (P := zSl i) (tgt := 10) hx hb dX1_placed_4 (by decide) (fun c_1 => ?_) (fun c_1 => ?_)
  · refine lv_iload_n hx hb dX1_placed_10 rfl (lv_at hl 2 rfl) ?_
    refine ps_call (rest := []) S0 (c_X1_isSort l t) gX1_placed_X1_isSort rfl qX1_isSort ⟨Nat.le_of_ble_eq_true rfl, Nat.le_of_ble_eq_true rfl⟩ ⟨Nat.le_of_ble_eq_true rfl, Nat.le_of_ble_eq_true rfl⟩ hl.1 rfl (Nat.le_of_ble_eq_true rfl) dX1_placed_11 ?_
    refine zb_eq (P := zSort t) (tgt := 34) hx hb dX1_placed_14 (by decide) (fun c_2 => ?_) (fun c_2 => ?_)
    · refine lv_bipush (v := -4) hx hb dX1_placed_34 (by decide) ?_
      exact io_iret S0 hr hlk hw dX1_placed_36 (congrArg (fun z => some (Value.int z)) (show (xPlaced i t u v S).1 = -4 from (by first | (simp [xPlaced, xso, xlo, xhi, xwh, xas, xbs, xts, xst, xrf, xet, xsd, eq_true c_1, eq_false c_2]; done) | (simp [xPlaced, xso, xlo, xhi, xwh, xas, xbs, xts, xst, xrf, xet, xsd, c_1, c_2]; done) | contradiction | rfl))) (congrArg (xW ad cy) (show (xPlaced i t u v S).2 = S from (by first | (simp [xPlaced, xso, xlo, xhi, xwh, xas, xbs, xts, xst, xrf, xet, xsd, eq_true c_1, eq_false c_2]; done) | (simp [xPlaced, xso, xlo, xhi, xwh, xas, xbs, xts, xst, xrf, xet, xsd, c_1, c_2]; done) | contradiction | rfl)))
    · refine lv_iload_n hx hb dX1_placed_17 rfl (lv_at hl 2 rfl) ?_
      refine lv_lload_n hx hb dX1_placed_18 rfl (lv_at hl 3 rfl) ?_
      refine ps_call (rest := []) S0 (c_X0_isNumber l t u) gX1_placed_X0_isNumber rfl qX0_isNumber ⟨Nat.le_of_ble_eq_true rfl, Nat.le_of_ble_eq_true rfl⟩ ⟨Nat.le_of_ble_eq_true rfl, Nat.le_of_ble_eq_true rfl⟩ hl.1 rfl (Nat.le_of_ble_eq_true rfl) dX1_placed_19 ?_
      refine zb_eq (P := nNum t u) (tgt := 34) hx hb dX1_placed_22 (by decide) (fun c_3 => ?_) (fun c_3 => ?_)
      · refine lv_bipush (v := -4) hx hb dX1_placed_34 (by decide) ?_
        exact io_iret S0 hr hlk hw dX1_placed_36 (congrArg (fun z => some (Value.int z)) (show (xPlaced i t u v S).1 = -4 from (by first | (simp [xPlaced, xso, xlo, xhi, xwh, xas, xbs, xts, xst, xrf, xet, xsd, eq_true c_1, eq_true c_2, eq_false c_3]; done) | (simp [xPlaced, xso, xlo, xhi, xwh, xas, xbs, xts, xst, xrf, xet, xsd, c_1, c_2, c_3]; done) | contradiction | rfl))) (congrArg (xW ad cy) (show (xPlaced i t u v S).2 = S from (by first | (simp [xPlaced, xso, xlo, xhi, xwh, xas, xbs, xts, xst, xrf, xet, xsd, eq_true c_1, eq_true c_2, eq_false c_3]; done) | (simp [xPlaced, xso, xlo, xhi, xwh, xas, xbs, xts, xst, xrf, xet, xsd, c_1, c_2, c_3]; done) | contradiction | rfl)))
      · refine lv_iload_n hx hb dX1_placed_25 rfl (lv_at hl 2 rfl) ?_
        refine lv_lload hx hb dX1_placed_26 (lv_at hl 4 rfl) ?_
        refine ps_call (rest := []) S0 (c_X0_isNumber l t v) gX1_placed_X0_isNumber rfl qX0_isNumber ⟨Nat.le_of_ble_eq_true rfl, Nat.le_of_ble_eq_true rfl⟩ ⟨Nat.le_of_ble_eq_true rfl, Nat.le_of_ble_eq_true rfl⟩ hl.1 rfl (Nat.le_of_ble_eq_true rfl) dX1_placed_28 ?_
        refine zb_ne (P := nNum t v) (tgt := 37) hx hb dX1_placed_31 (by decide) (fun c_4 => ?_) (fun c_4 => ?_)
        · refine lv_iload_n hx hb dX1_placed_37 rfl (lv_at hl 2 rfl) ?_
          refine lv_lload_n hx hb dX1_placed_38 rfl (lv_at hl 3 rfl) ?_
          refine ps_call (rest := []) S0 (c_X0_fitted l t u) gX1_placed_X0_fitted rfl qX0_fitted ⟨Nat.le_of_ble_eq_true rfl, Nat.le_of_ble_eq_true rfl⟩ ⟨Nat.le_of_ble_eq_true rfl, Nat.le_of_ble_eq_true rfl⟩ hl.1 rfl (Nat.le_of_ble_eq_true rfl) dX1_placed_39 ?_
          refine lv_lstore (lv' := [(7, .long (nFit t u)), (0, .ref (ad 0)), (1, .int i), (2, .int t), (3, .long u), (5, .long v)]) hx hb dX1_placed_42 hl (by decide) rfl (fun ls hl => ?_)
          refine lv_iload_n hx hb dX1_placed_44 rfl (lv_at hl 3 rfl) ?_
          refine lv_lload hx hb dX1_placed_45 (lv_at hl 5 rfl) ?_
          refine ps_call (rest := []) S0 (c_X0_fitted l t v) gX1_placed_X0_fitted rfl qX0_fitted ⟨Nat.le_of_ble_eq_true rfl, Nat.le_of_ble_eq_true rfl⟩ ⟨Nat.le_of_ble_eq_true rfl, Nat.le_of_ble_eq_true rfl⟩ hl.1 rfl (Nat.le_of_ble_eq_true rfl) dX1_placed_47 ?_
          refine lv_lstore (lv' := [(9, .long (nFit t v)), (7, .long (nFit t u)), (0, .ref (ad 0)), (1, .int i), (2, .int t), (3, .long u), (5, .long v)]) hx hb dX1_placed_50 hl (by decide) rfl (fun ls hl => ?_)
          refine lv_iload_n hx hb dX1_placed_52 rfl (lv_at hl 4 rfl) ?_
          refine lv_lload hx hb dX1_placed_53 (lv_at hl 0 rfl) ?_
          refine lv_lload hx hb dX1_placed_55 (lv_at hl 1 rfl) ?_
          refine ps_call (rest := []) S0 (c_X0_isLess l t (nFit t v) (nFit t u)) gX1_placed_X0_isLess rfl qX0_isLess ⟨Nat.le_of_ble_eq_true rfl, Nat.le_of_ble_eq_true rfl⟩ ⟨Nat.le_of_ble_eq_true rfl, Nat.le_of_ble_eq_true rfl⟩ hl.1 rfl (Nat.le_of_ble_eq_true rfl) dX1_placed_57 ?_
          refine zb_eq (P := nLess t (nFit t v) (nFit t u)) (tgt := 66) hx hb dX1_placed_60 (by decide) (fun c_5 => ?_) (fun c_5 => ?_)
          · refine lv_aload_n hx hb dX1_placed_66 rfl (lv_at hl 2 rfl) ?_
            refine lv_iload_n hx hb dX1_placed_67 rfl (lv_at hl 3 rfl) ?_
            refine lv_iload_n hx hb dX1_placed_68 rfl (lv_at hl 4 rfl) ?_
            refine lv_lload hx hb dX1_placed_69 (lv_at hl 1 rfl) ?_
            refine lv_lload hx hb dX1_placed_71 (lv_at hl 0 rfl) ?_
            refine io_call (rest := []) (w1 := (xW ad cy (xPut i t (nFit t u) (nFit t v) S))) S0 (c_X1_put l D ad cy A S i t (nFit t u) (nFit t v) (by assumption)) gX1_placed_X1_put hw rfl qX1_put ⟨Nat.le_of_ble_eq_true rfl, Nat.le_of_ble_eq_true rfl⟩ ⟨Nat.le_of_ble_eq_true rfl, Nat.le_of_ble_eq_true rfl⟩ rfl rfl rfl hl.1 rfl (Nat.le_of_ble_eq_true rfl) dX1_placed_73 (fun H locs hw => ?_)
            exact io_iret S0 hr hlk hw dX1_placed_76 (congrArg (fun z => some (Value.int z)) (show (xPlaced i t u v S).1 = 1 from (by first | (simp [xPlaced, xso, xlo, xhi, xwh, xas, xbs, xts, xst, xrf, xet, xsd, eq_true c_1, eq_true c_2, eq_true c_3, eq_true c_4, eq_false c_5]; done) | (simp [xPlaced, xso, xlo, xhi, xwh, xas, xbs, xts, xst, xrf, xet, xsd, c_1, c_2, c_3, c_4, c_5]; done) | contradiction | rfl))) (congrArg (xW ad cy) (show (xPlaced i t u v S).2 = xPut i t (nFit t u) (nFit t v) S from (by first | (simp [xPlaced, xso, xlo, xhi, xwh, xas, xbs, xts, xst, xrf, xet, xsd, eq_true c_1, eq_true c_2, eq_true c_3, eq_true c_4, eq_false c_5]; done) | (simp [xPlaced, xso, xlo, xhi, xwh, xas, xbs, xts, xst, xrf, xet, xsd, c_1, c_2, c_3, c_4, c_5]; done) | contradiction | rfl)))
          · refine lv_bipush (v := -5) hx hb dX1_placed_63 (by decide) ?_
            exact io_iret S0 hr hlk hw dX1_placed_65 (congrArg (fun z => some (Value.int z)) (show (xPlaced i t u v S).1 = -5 from (by first | (simp [xPlaced, xso, xlo, xhi, xwh, xas, xbs, xts, xst, xrf, xet, xsd, eq_true c_1, eq_true c_2, eq_true c_3, eq_true c_4, eq_true c_5]; done) | (simp [xPlaced, xso, xlo, xhi, xwh, xas, xbs, xts, xst, xrf, xet, xsd, c_1, c_2, c_3, c_4, c_5]; done) | contradiction | rfl))) (congrArg (xW ad cy) (show (xPlaced i t u v S).2 = S from (by first | (simp [xPlaced, xso, xlo, xhi, xwh, xas, xbs, xts, xst, xrf, xet, xsd, eq_true c_1, eq_true c_2, eq_true c_3, eq_true c_4, eq_true c_5]; done) | (simp [xPlaced, xso, xlo, xhi, xwh, xas, xbs, xts, xst, xrf, xet, xsd, c_1, c_2, c_3, c_4, c_5]; done) | contradiction | rfl)))
        · refine lv_bipush (v := -4) hx hb dX1_placed_34 (by decide) ?_
          exact io_iret S0 hr hlk hw dX1_placed_36 (congrArg (fun z => some (Value.int z)) (show (xPlaced i t u v S).1 = -4 from (by first | (simp [xPlaced, xso, xlo, xhi, xwh, xas, xbs, xts, xst, xrf, xet, xsd, eq_true c_1, eq_true c_2, eq_true c_3, eq_false c_4]; done) | (simp [xPlaced, xso, xlo, xhi, xwh, xas, xbs, xts, xst, xrf, xet, xsd, c_1, c_2, c_3, c_4]; done) | contradiction | rfl))) (congrArg (xW ad cy) (show (xPlaced i t u v S).2 = S from (by first | (simp [xPlaced, xso, xlo, xhi, xwh, xas, xbs, xts, xst, xrf, xet, xsd, eq_true c_1, eq_true c_2, eq_true c_3, eq_false c_4]; done) | (simp [xPlaced, xso, xlo, xhi, xwh, xas, xbs, xts, xst, xrf, xet, xsd, c_1, c_2, c_3, c_4]; done) | contradiction | rfl)))
  · refine lv_bipush (v := -2) hx hb dX1_placed_7 (by decide) ?_
    exact io_iret S0 hr hlk hw dX1_placed_9 (congrArg (fun z => some (Value.int z)) (show (xPlaced i t u v S).1 = -2 from (by first | (simp [xPlaced, xso, xlo, xhi, xwh, xas, xbs, xts, xst, xrf, xet, xsd, eq_false c_1]; done) | (simp [xPlaced, xso, xlo, xhi, xwh, xas, xbs, xts, xst, xrf, xet, xsd, c_1]; done) | contradiction | rfl))) (congrArg (xW ad cy) (show (xPlaced i t u v S).2 = S from (by first | (simp [xPlaced, xso, xlo, xhi, xwh, xas, xbs, xts, xst, xrf, xet, xsd, eq_false c_1]; done) | (simp [xPlaced, xso, xlo, xhi, xwh, xas, xbs, xts, xst, xrf, xet, xsd, c_1]; done) | contradiction | rfl)))
theorem qX1_set : yX1_set.cls = RX1 ∧ yX1_set.cls ≠ "java/lang/invoke/MethodHandle" ∧ yX1_set.cls ≠ "java/lang/invoke/VarHandle" ∧ (parseMethodDescriptor yX1_set.desc).map (fun d => d.parameters.length) = some 4 := by decide +kernel
set_option maxHeartbeats 4000000 in
set_option maxRecDepth 100000 in
theorem c_X1_set (l : Launch) (D : va_G) (ad : Nat → Nat) (cy : Nat → ClassId) (A : Nat → Prop) (S : XS) (i : Int32) (t : Int32) (u : Int64) (v : Int64) : OM l D (xT cy) A yX1_set wsX1_set 4 94 [.ref (ad 0), .int i, .int t, .long u, .long v] (xW ad cy S) (xW ad cy ((xN (xPlaced i t u v S)).2)) (some (.int ((xN (xPlaced i t u v S)).1))) := by
  refine OM.of (cc := cX1_set) (maxL := 7) (ret := some .int) (own := RX1) (by decide) rfl rfl (Nat.le_of_ble_eq_true rfl) ?_
  intro p e s m below meth c ls S0 hr hlk hl hw
  have hx := S0.1
  have hb := S0.2.1
  have hl : lv_has ls 7 [(0, .ref (ad 0)), (1, .int i), (2, .int t), (3, .long u), (5, .long v)] := hl
  refine lv_aload_n hx hb dX1_set_0 rfl (lv_at hl 0 rfl) ?_
  refine lv_aload_n hx hb dX1_set_1 rfl (lv_at hl 0 rfl) ?_
  refine lv_iload_n hx hb dX1_set_2 rfl (lv_at hl 1 rfl) ?_
  refine lv_iload_n hx hb dX1_set_3 rfl (lv_at hl 2 rfl) ?_
  refine lv_lload_n hx hb dX1_set_4 rfl (lv_at hl 3 rfl) ?_
  refine lv_lload hx hb dX1_set_5 (lv_at hl 4 rfl) ?_
  refine io_call (rest := [.ref (ad 0)]) (w1 := (xW ad cy ((xPlaced i t u v S).2))) S0 (c_X1_placed l D ad cy A S i t u v) gX1_set_X1_placed hw rfl qX1_placed ⟨Nat.le_of_ble_eq_true rfl, Nat.le_of_ble_eq_true rfl⟩ ⟨Nat.le_of_ble_eq_true rfl, Nat.le_of_ble_eq_true rfl⟩ rfl rfl rfl hl.1 rfl (Nat.le_of_ble_eq_true rfl) dX1_set_7 (fun H locs hw => ?_)
  refine io_call (rest := []) (w1 := (xW ad cy (xNoted ((xPlaced i t u v S).1) ((xPlaced i t u v S).2)))) S0 (c_X1_noted l D ad cy A ((xPlaced i t u v S).2) ((xPlaced i t u v S).1)) gX1_set_X1_noted hw rfl qX1_noted ⟨Nat.le_of_ble_eq_true rfl, Nat.le_of_ble_eq_true rfl⟩ ⟨Nat.le_of_ble_eq_true rfl, Nat.le_of_ble_eq_true rfl⟩ rfl rfl rfl hl.1 rfl (Nat.le_of_ble_eq_true rfl) dX1_set_10 (fun H locs hw => ?_)
  exact io_iret S0 hr hlk hw dX1_set_13 (congrArg (fun z => some (Value.int z)) (show (xN (xPlaced i t u v S)).1 = ((xPlaced i t u v S).1) from (by first | (simp [xN, xso, xlo, xhi, xwh, xas, xbs, xts, xst, xrf, xet, xsd]; done) | (simp [xN, xso, xlo, xhi, xwh, xas, xbs, xts, xst, xrf, xet, xsd]; done) | contradiction | rfl))) (congrArg (xW ad cy) (show (xN (xPlaced i t u v S)).2 = xNoted ((xPlaced i t u v S).1) ((xPlaced i t u v S).2) from (by first | (simp [xN, xso, xlo, xhi, xwh, xas, xbs, xts, xst, xrf, xet, xsd]; done) | (simp [xN, xso, xlo, xhi, xwh, xas, xbs, xts, xst, xrf, xet, xsd]; done) | contradiction | rfl)))
theorem qX1_clear : yX1_clear.cls = RX1 ∧ yX1_clear.cls ≠ "java/lang/invoke/MethodHandle" ∧ yX1_clear.cls ≠ "java/lang/invoke/VarHandle" ∧ (parseMethodDescriptor yX1_clear.desc).map (fun d => d.parameters.length) = some 1 := by decide +kernel
set_option maxHeartbeats 4000000 in
set_option maxRecDepth 100000 in
theorem c_X1_clear (l : Launch) (D : va_G) (ad : Nat → Nat) (cy : Nat → ClassId) (A : Nat → Prop) (S : XS) (i : Int32) : OM l D (xT cy) A yX1_clear wsX1_clear 1 21 [.ref (ad 0), .int i] (xW ad cy S) (xW ad cy ((xClear i S).2)) (some (.int ((xClear i S).1))) := by
  refine OM.of (cc := cX1_clear) (maxL := 3) (ret := some .int) (own := RX1) (by decide) rfl rfl (Nat.le_of_ble_eq_true rfl) ?_
  intro p e s m below meth c ls S0 hr hlk hl hw
  have hx := S0.1
  have hb := S0.2.1
  have hl : lv_has ls 3 [(0, .ref (ad 0)), (1, .int i)] := hl
  have hin : ∀ w ∈ wsX10, w ∈ wsX1_clear := fun w h => List.mem_cons_of_mem _ (List.mem_append_right _ h)
  refine lv_iload_n hx hb dX1_clear_0 rfl (lv_at hl 1 rfl) ?_
  refine ps_call (rest := []) S0 (c_X1_isSlot l i) gX1_clear_X1_isSlot rfl qX1_isSlot ⟨Nat.le_of_ble_eq_true rfl, Nat.le_of_ble_eq_true rfl⟩ ⟨Nat.le_of_ble_eq_true rfl, Nat.le_of_ble_eq_true rfl⟩ hl.1 rfl (Nat.le_of_ble_eq_true rfl) dX1_clear_1 ?_
  refine zb_ne (P := zSl i) (tgt := 14) hx hb dX1_clear_4 (by decide) (fun c_1 => ?_) (fun c_1 => ?_)
  · refine lv_aload_n hx hb dX1_clear_14 rfl (lv_at hl 0 rfl) ?_
    refine gd_get S0 hin hw rfl rfl 0 (by decide) (S0.2.2.2.2 (.fieldLink RX1 9 "StretchDesk" "sorts" "[I") (by decide +kernel)) rfl (v := .ref (ad 1)) rfl dX1_clear_15 ?_
    refine lv_iload_n hx hb dX1_clear_18 rfl (lv_at hl 1 rfl) ?_
    refine va_iald hx hb hw.2.2.1 hw.1 1 0 rfl rfl (zIn (by assumption)) dX1_clear_19 ?_
    refine lv_iconst (v := -1) hx hb dX1_clear_20 (by decide) ?_
    refine zc_ne (tgt := 28) hx hb dX1_clear_21 (by decide) (fun c_2 => ?_) (fun c_2 => ?_)
    · refine lv_iconst (v := 1) hx hb dX1_clear_28 (by decide) ?_
      refine lv_istore_n (lv' := [(2, .int 1), (0, .ref (ad 0)), (1, .int i)]) hx hb dX1_clear_29 rfl hl (by decide) rfl (fun ls hl => ?_)
      refine lv_aload_n hx hb dX1_clear_30 rfl (lv_at hl 1 rfl) ?_
      refine gd_get S0 hin hw rfl rfl 0 (by decide) (S0.2.2.2.2 (.fieldLink RX1 9 "StretchDesk" "sorts" "[I") (by decide +kernel)) rfl (v := .ref (ad 1)) rfl dX1_clear_31 ?_
      refine lv_iload_n hx hb dX1_clear_34 rfl (lv_at hl 2 rfl) ?_
      refine lv_iconst (v := -1) hx hb dX1_clear_35 (by decide) ?_
      refine gd_iast (w1 := (xW ad cy (upd (xso S) (Int32.toNatClampNeg i) (-1), xlo S, xhi S, xwh S, xas S, xbs S, xts S, xst S, xrf S, xet S, xsd S))) (f := _) S0 hw 1 0 rfl rfl (zIn (by assumption)) rfl dX1_clear_36 (fun H locs hw => ?_)
      refine lv_aload_n hx hb dX1_clear_37 rfl (lv_at hl 1 rfl) ?_
      refine lv_iload_n hx hb dX1_clear_38 rfl (lv_at hl 0 rfl) ?_
      refine io_call (rest := []) (w1 := (xW ad cy (xNoted 1 (upd (xso S) (Int32.toNatClampNeg i) (-1), xlo S, xhi S, xwh S, xas S, xbs S, xts S, xst S, xrf S, xet S, xsd S)))) S0 (c_X1_noted l D ad cy A (upd (xso S) (Int32.toNatClampNeg i) (-1), xlo S, xhi S, xwh S, xas S, xbs S, xts S, xst S, xrf S, xet S, xsd S) 1) gX1_clear_X1_noted hw rfl qX1_noted ⟨Nat.le_of_ble_eq_true rfl, Nat.le_of_ble_eq_true rfl⟩ ⟨Nat.le_of_ble_eq_true rfl, Nat.le_of_ble_eq_true rfl⟩ rfl rfl rfl hl.1 rfl (Nat.le_of_ble_eq_true rfl) dX1_clear_39 (fun H locs hw => ?_)
      exact io_iret S0 hr hlk hw dX1_clear_42 (congrArg (fun z => some (Value.int z)) (show (xClear i S).1 = 1 from (by first | (simp [xClear, xN, xVoid, xso, xlo, xhi, xwh, xas, xbs, xts, xst, xrf, xet, xsd, eq_true c_1, eq_false c_2]; done) | (simp [xClear, xN, xVoid, xso, xlo, xhi, xwh, xas, xbs, xts, xst, xrf, xet, xsd, c_1, c_2]; done) | contradiction | rfl))) (congrArg (xW ad cy) (show (xClear i S).2 = xNoted 1 (upd (xso S) (Int32.toNatClampNeg i) (-1), xlo S, xhi S, xwh S, xas S, xbs S, xts S, xst S, xrf S, xet S, xsd S) from (by first | (simp [xClear, xN, xVoid, xso, xlo, xhi, xwh, xas, xbs, xts, xst, xrf, xet, xsd, eq_true c_1, eq_false c_2]; done) | (simp [xClear, xN, xVoid, xso, xlo, xhi, xwh, xas, xbs, xts, xst, xrf, xet, xsd, c_1, c_2]; done) | contradiction | rfl)))
    · refine lv_iconst (v := 0) hx hb dX1_clear_24 (by decide) ?_
      refine lv_goto (tgt := 29) hx hb dX1_clear_25 (by decide) ?_
      refine lv_istore_n (lv' := [(2, .int 0), (0, .ref (ad 0)), (1, .int i)]) hx hb dX1_clear_29 rfl hl (by decide) rfl (fun ls hl => ?_)
      refine lv_aload_n hx hb dX1_clear_30 rfl (lv_at hl 1 rfl) ?_
      refine gd_get S0 hin hw rfl rfl 0 (by decide) (S0.2.2.2.2 (.fieldLink RX1 9 "StretchDesk" "sorts" "[I") (by decide +kernel)) rfl (v := .ref (ad 1)) rfl dX1_clear_31 ?_
      refine lv_iload_n hx hb dX1_clear_34 rfl (lv_at hl 2 rfl) ?_
      refine lv_iconst (v := -1) hx hb dX1_clear_35 (by decide) ?_
      refine gd_iast (w1 := (xW ad cy (upd (xso S) (Int32.toNatClampNeg i) (-1), xlo S, xhi S, xwh S, xas S, xbs S, xts S, xst S, xrf S, xet S, xsd S))) (f := _) S0 hw 1 0 rfl rfl (zIn (by assumption)) rfl dX1_clear_36 (fun H locs hw => ?_)
      refine lv_aload_n hx hb dX1_clear_37 rfl (lv_at hl 1 rfl) ?_
      refine lv_iload_n hx hb dX1_clear_38 rfl (lv_at hl 0 rfl) ?_
      refine io_call (rest := []) (w1 := (xW ad cy (xNoted 0 (upd (xso S) (Int32.toNatClampNeg i) (-1), xlo S, xhi S, xwh S, xas S, xbs S, xts S, xst S, xrf S, xet S, xsd S)))) S0 (c_X1_noted l D ad cy A (upd (xso S) (Int32.toNatClampNeg i) (-1), xlo S, xhi S, xwh S, xas S, xbs S, xts S, xst S, xrf S, xet S, xsd S) 0) gX1_clear_X1_noted hw rfl qX1_noted ⟨Nat.le_of_ble_eq_true rfl, Nat.le_of_ble_eq_true rfl⟩ ⟨Nat.le_of_ble_eq_true rfl, Nat.le_of_ble_eq_true rfl⟩ rfl rfl rfl hl.1 rfl (Nat.le_of_ble_eq_true rfl) dX1_clear_39 (fun H locs hw => ?_)
      exact io_iret S0 hr hlk hw dX1_clear_42 (congrArg (fun z => some (Value.int z)) (show (xClear i S).1 = 0 from (by first | (simp [xClear, xN, xVoid, xso, xlo, xhi, xwh, xas, xbs, xts, xst, xrf, xet, xsd, eq_true c_1, eq_true c_2]; done) | (simp [xClear, xN, xVoid, xso, xlo, xhi, xwh, xas, xbs, xts, xst, xrf, xet, xsd, c_1, c_2]; done) | contradiction | rfl))) (congrArg (xW ad cy) (show (xClear i S).2 = xNoted 0 (upd (xso S) (Int32.toNatClampNeg i) (-1), xlo S, xhi S, xwh S, xas S, xbs S, xts S, xst S, xrf S, xet S, xsd S) from (by first | (simp [xClear, xN, xVoid, xso, xlo, xhi, xwh, xas, xbs, xts, xst, xrf, xet, xsd, eq_true c_1, eq_true c_2]; done) | (simp [xClear, xN, xVoid, xso, xlo, xhi, xwh, xas, xbs, xts, xst, xrf, xet, xsd, c_1, c_2]; done) | contradiction | rfl)))
  · refine lv_aload_n hx hb dX1_clear_7 rfl (lv_at hl 0 rfl) ?_
    refine lv_bipush (v := -2) hx hb dX1_clear_8 (by decide) ?_
    refine io_call (rest := []) (w1 := (xW ad cy (xNoted (-2) S))) S0 (c_X1_noted l D ad cy A S (-2)) gX1_clear_X1_noted hw rfl qX1_noted ⟨Nat.le_of_ble_eq_true rfl, Nat.le_of_ble_eq_true rfl⟩ ⟨Nat.le_of_ble_eq_true rfl, Nat.le_of_ble_eq_true rfl⟩ rfl rfl rfl hl.1 rfl (Nat.le_of_ble_eq_true rfl) dX1_clear_10 (fun H locs hw => ?_)
    exact io_iret S0 hr hlk hw dX1_clear_13 (congrArg (fun z => some (Value.int z)) (show (xClear i S).1 = (-2) from (by first | (simp [xClear, xN, xVoid, xso, xlo, xhi, xwh, xas, xbs, xts, xst, xrf, xet, xsd, eq_false c_1]; done) | (simp [xClear, xN, xVoid, xso, xlo, xhi, xwh, xas, xbs, xts, xst, xrf, xet, xsd, c_1]; done) | contradiction | rfl))) (congrArg (xW ad cy) (show (xClear i S).2 = xNoted (-2) S from (by first | (simp [xClear, xN, xVoid, xso, xlo, xhi, xwh, xas, xbs, xts, xst, xrf, xet, xsd, eq_false c_1]; done) | (simp [xClear, xN, xVoid, xso, xlo, xhi, xwh, xas, xbs, xts, xst, xrf, xet, xsd, c_1]; done) | contradiction | rfl)))
theorem qX1_sort : yX1_sort.cls = RX1 ∧ yX1_sort.cls ≠ "java/lang/invoke/MethodHandle" ∧ yX1_sort.cls ≠ "java/lang/invoke/VarHandle" ∧ (parseMethodDescriptor yX1_sort.desc).map (fun d => d.parameters.length) = some 1 := by decide +kernel
set_option maxHeartbeats 4000000 in
set_option maxRecDepth 100000 in
theorem c_X1_sort (l : Launch) (D : va_G) (ad : Nat → Nat) (cy : Nat → ClassId) (A : Nat → Prop) (S : XS) (i : Int32) : OM l D (xT cy) A yX1_sort wsX1_sort 2 41 [.ref (ad 0), .int i] (xW ad cy S) (xW ad cy ((xSort i S).2)) (some (.int ((xSort i S).1))) := by
  refine OM.of (cc := cX1_sort) (maxL := 3) (ret := some .int) (own := RX1) (by decide) rfl rfl (Nat.le_of_ble_eq_true rfl) ?_
  intro p e s m below meth c ls S0 hr hlk hl hw
  have hx := S0.1
  have hb := S0.2.1
  have hl : lv_has ls 3 [(0, .ref (ad 0)), (1, .int i)] := hl
  have hin : ∀ w ∈ wsX10, w ∈ wsX1_sort := fun w h => List.mem_cons_of_mem _ (List.mem_append_right _ h)
  refine lv_aload_n hx hb dX1_sort_0 rfl (lv_at hl 0 rfl) ?_
  refine lv_iload_n hx hb dX1_sort_1 rfl (lv_at hl 1 rfl) ?_
  refine io_call (rest := []) (w1 := (xW ad cy S)) S0 (c_X1_refusalToTake l D ad cy A S i) gX1_sort_X1_refusalToTake hw rfl qX1_refusalToTake ⟨Nat.le_of_ble_eq_true rfl, Nat.le_of_ble_eq_true rfl⟩ ⟨Nat.le_of_ble_eq_true rfl, Nat.le_of_ble_eq_true rfl⟩ rfl rfl rfl hl.1 rfl (Nat.le_of_ble_eq_true rfl) dX1_sort_2 (fun H locs hw => ?_)
  refine lv_istore_n (lv' := [(2, .int (xTake i S)), (0, .ref (ad 0)), (1, .int i)]) hx hb dX1_sort_5 rfl hl (by decide) rfl (fun ls hl => ?_)
  refine lv_aload_n hx hb dX1_sort_6 rfl (lv_at hl 1 rfl) ?_
  refine lv_iload_n hx hb dX1_sort_7 rfl (lv_at hl 0 rfl) ?_
  refine zi_ge (tgt := 15) hx hb dX1_sort_8 (by decide) (fun c_1 => ?_) (fun c_1 => ?_)
  · have h1 : zSl i := xTake_in c_1
    refine lv_aload_n hx hb dX1_sort_15 rfl (lv_at hl 1 rfl) ?_
    refine gd_get S0 hin hw rfl rfl 0 (by decide) (S0.2.2.2.2 (.fieldLink RX1 9 "StretchDesk" "sorts" "[I") (by decide +kernel)) rfl (v := .ref (ad 1)) rfl dX1_sort_16 ?_
    refine lv_iload_n hx hb dX1_sort_19 rfl (lv_at hl 2 rfl) ?_
    refine va_iald hx hb hw.2.2.1 hw.1 1 0 rfl rfl (zIn (by assumption)) dX1_sort_20 ?_
    refine io_call (rest := []) (w1 := (xW ad cy (xNoted (ixI (xso S) i) S))) S0 (c_X1_noted l D ad cy A S (ixI (xso S) i)) gX1_sort_X1_noted hw rfl qX1_noted ⟨Nat.le_of_ble_eq_true rfl, Nat.le_of_ble_eq_true rfl⟩ ⟨Nat.le_of_ble_eq_true rfl, Nat.le_of_ble_eq_true rfl⟩ rfl rfl rfl hl.1 rfl (Nat.le_of_ble_eq_true rfl) dX1_sort_21 (fun H locs hw => ?_)
    exact io_iret S0 hr hlk hw dX1_sort_24 (congrArg (fun z => some (Value.int z)) (show (xSort i S).1 = (ixI (xso S) i) from (by first | (simp [xSort, xN, xso, xlo, xhi, xwh, xas, xbs, xts, xst, xrf, xet, xsd, eq_false c_1]; done) | (simp [xSort, xN, xso, xlo, xhi, xwh, xas, xbs, xts, xst, xrf, xet, xsd, c_1]; done) | contradiction | rfl))) (congrArg (xW ad cy) (show (xSort i S).2 = xNoted (ixI (xso S) i) S from (by first | (simp [xSort, xN, xso, xlo, xhi, xwh, xas, xbs, xts, xst, xrf, xet, xsd, eq_false c_1]; done) | (simp [xSort, xN, xso, xlo, xhi, xwh, xas, xbs, xts, xst, xrf, xet, xsd, c_1]; done) | contradiction | rfl)))
  · refine lv_iload_n hx hb dX1_sort_11 rfl (lv_at hl 0 rfl) ?_
    refine lv_goto (tgt := 21) hx hb dX1_sort_12 (by decide) ?_
    refine io_call (rest := []) (w1 := (xW ad cy (xNoted (xTake i S) S))) S0 (c_X1_noted l D ad cy A S (xTake i S)) gX1_sort_X1_noted hw rfl qX1_noted ⟨Nat.le_of_ble_eq_true rfl, Nat.le_of_ble_eq_true rfl⟩ ⟨Nat.le_of_ble_eq_true rfl, Nat.le_of_ble_eq_true rfl⟩ rfl rfl rfl hl.1 rfl (Nat.le_of_ble_eq_true rfl) dX1_sort_21 (fun H locs hw => ?_)
    exact io_iret S0 hr hlk hw dX1_sort_24 (congrArg (fun z => some (Value.int z)) (show (xSort i S).1 = (xTake i S) from (by first | (simp [xSort, xN, xso, xlo, xhi, xwh, xas, xbs, xts, xst, xrf, xet, xsd, eq_true c_1]; done) | (simp [xSort, xN, xso, xlo, xhi, xwh, xas, xbs, xts, xst, xrf, xet, xsd, c_1]; done) | contradiction | rfl))) (congrArg (xW ad cy) (show (xSort i S).2 = xNoted (xTake i S) S from (by first | (simp [xSort, xN, xso, xlo, xhi, xwh, xas, xbs, xts, xst, xrf, xet, xsd, eq_true c_1]; done) | (simp [xSort, xN, xso, xlo, xhi, xwh, xas, xbs, xts, xst, xrf, xet, xsd, c_1]; done) | contradiction | rfl)))
theorem qX1_low : yX1_low.cls = RX1 ∧ yX1_low.cls ≠ "java/lang/invoke/MethodHandle" ∧ yX1_low.cls ≠ "java/lang/invoke/VarHandle" ∧ (parseMethodDescriptor yX1_low.desc).map (fun d => d.parameters.length) = some 1 := by decide +kernel
set_option maxHeartbeats 4000000 in
set_option maxRecDepth 100000 in
theorem c_X1_low (l : Launch) (D : va_G) (ad : Nat → Nat) (cy : Nat → ClassId) (A : Nat → Prop) (S : XS) (i : Int32) : OM l D (xT cy) A yX1_low wsX1_low 2 41 [.ref (ad 0), .int i] (xW ad cy S) (xW ad cy ((xLow i S).2)) (some (.long ((xLow i S).1))) := by
  refine OM.of (cc := cX1_low) (maxL := 2) (ret := some .long) (own := RX1) (by decide) rfl rfl (Nat.le_of_ble_eq_true rfl) ?_
  intro p e s m below meth c ls S0 hr hlk hl hw
  have hx := S0.1
  have hb := S0.2.1
  have hl : lv_has ls 2 [(0, .ref (ad 0)), (1, .int i)] := hl
  have hin : ∀ w ∈ wsX10, w ∈ wsX1_low := fun w h => List.mem_cons_of_mem _ (List.mem_append_right _ h)
  refine lv_aload_n hx hb dX1_low_0 rfl (lv_at hl 0 rfl) ?_
  refine lv_aload_n hx hb dX1_low_1 rfl (lv_at hl 0 rfl) ?_
  refine lv_iload_n hx hb dX1_low_2 rfl (lv_at hl 1 rfl) ?_
  refine io_call (rest := [.ref (ad 0)]) (w1 := (xW ad cy S)) S0 (c_X1_refusalToTake l D ad cy A S i) gX1_low_X1_refusalToTake hw rfl qX1_refusalToTake ⟨Nat.le_of_ble_eq_true rfl, Nat.le_of_ble_eq_true rfl⟩ ⟨Nat.le_of_ble_eq_true rfl, Nat.le_of_ble_eq_true rfl⟩ rfl rfl rfl hl.1 rfl (Nat.le_of_ble_eq_true rfl) dX1_low_3 (fun H locs hw => ?_)
  refine io_call (rest := []) (w1 := (xW ad cy (xNoted (xTake i S) S))) S0 (c_X1_noted l D ad cy A S (xTake i S)) gX1_low_X1_noted hw rfl qX1_noted ⟨Nat.le_of_ble_eq_true rfl, Nat.le_of_ble_eq_true rfl⟩ ⟨Nat.le_of_ble_eq_true rfl, Nat.le_of_ble_eq_true rfl⟩ rfl rfl rfl hl.1 rfl (Nat.le_of_ble_eq_true rfl) dX1_low_6 (fun H locs hw => ?_)
  refine zi_ge (tgt := 14) hx hb dX1_low_9 (by decide) (fun c_1 => ?_) (fun c_1 => ?_)
  · have h1 : zSl i := xTake_in c_1
    refine lv_aload_n hx hb dX1_low_14 rfl (lv_at hl 0 rfl) ?_
    refine lv_dup hx hb dX1_low_15 rfl ?_
    refine gd_get S0 hin hw rfl rfl 9 (by decide) (S0.2.2.2.2 (.fieldLink RX1 47 "StretchDesk" "endsTold" "I") (by decide +kernel)) rfl (v := .int (xet (xNoted (xTake i S) S))) rfl dX1_low_16 ?_
    refine lv_iconst (v := 1) hx hb dX1_low_19 (by decide) ?_
    refine lv_iadd hx hb dX1_low_20 ?_
    refine gd_put (w1 := (xW ad cy (xso (xNoted (xTake i S) S), xlo (xNoted (xTake i S) S), xhi (xNoted (xTake i S) S), xwh (xNoted (xTake i S) S), xas (xNoted (xTake i S) S), xbs (xNoted (xTake i S) S), xts (xNoted (xTake i S) S), xst (xNoted (xTake i S) S), xrf (xNoted (xTake i S) S), (xet (xNoted (xTake i S) S)) + 1, xsd (xNoted (xTake i S) S)))) S0 hin tyX1 tyX1_ok nmX1 hw rfl rfl 9 (by decide) (S0.2.2.2.2 (.fieldLink RX1 47 "StretchDesk" "endsTold" "I") (by decide +kernel)) rfl rfl (by decide +kernel) (Nat.le_of_ble_eq_true rfl) rfl dX1_low_21 (fun H locs hw => ?_)
    refine lv_aload_n hx hb dX1_low_24 rfl (lv_at hl 0 rfl) ?_
    refine gd_get S0 hin hw rfl rfl 1 (by decide) (S0.2.2.2.2 (.fieldLink RX1 13 "StretchDesk" "lows" "[J") (by decide +kernel)) rfl (v := .ref (ad 2)) rfl dX1_low_25 ?_
    refine lv_iload_n hx hb dX1_low_28 rfl (lv_at hl 1 rfl) ?_
    refine va_lald hx hb hw.2.2.1 hw.1 2 1 rfl rfl (zIn (by assumption)) dX1_low_29 ?_
    exact io_lret S0 hr hlk hw dX1_low_30 (congrArg (fun z => some (Value.long z)) (show (xLow i S).1 = ixL (xlo (xNoted (xTake i S) S)) i from (by first | (simp [xLow, xNoted, xTold, xso, xlo, xhi, xwh, xas, xbs, xts, xst, xrf, xet, xsd, eq_false c_1]; done) | (simp [xLow, xNoted, xTold, xso, xlo, xhi, xwh, xas, xbs, xts, xst, xrf, xet, xsd, c_1]; done) | contradiction | rfl))) (congrArg (xW ad cy) (show (xLow i S).2 = (xso (xNoted (xTake i S) S), xlo (xNoted (xTake i S) S), xhi (xNoted (xTake i S) S), xwh (xNoted (xTake i S) S), xas (xNoted (xTake i S) S), xbs (xNoted (xTake i S) S), xts (xNoted (xTake i S) S), xst (xNoted (xTake i S) S), xrf (xNoted (xTake i S) S), (xet (xNoted (xTake i S) S)) + 1, xsd (xNoted (xTake i S) S)) from (by first | (simp [xLow, xNoted, xTold, xso, xlo, xhi, xwh, xas, xbs, xts, xst, xrf, xet, xsd, eq_false c_1]; done) | (simp [xLow, xNoted, xTold, xso, xlo, xhi, xwh, xas, xbs, xts, xst, xrf, xet, xsd, c_1]; done) | contradiction | rfl)))
  · refine lv_lconst (v := 0) hx hb dX1_low_12 (by decide) ?_
    exact io_lret S0 hr hlk hw dX1_low_13 (congrArg (fun z => some (Value.long z)) (show (xLow i S).1 = 0 from (by first | (simp [xLow, xNoted, xTold, xso, xlo, xhi, xwh, xas, xbs, xts, xst, xrf, xet, xsd, eq_true c_1]; done) | (simp [xLow, xNoted, xTold, xso, xlo, xhi, xwh, xas, xbs, xts, xst, xrf, xet, xsd, c_1]; done) | contradiction | rfl))) (congrArg (xW ad cy) (show (xLow i S).2 = xNoted (xTake i S) S from (by first | (simp [xLow, xNoted, xTold, xso, xlo, xhi, xwh, xas, xbs, xts, xst, xrf, xet, xsd, eq_true c_1]; done) | (simp [xLow, xNoted, xTold, xso, xlo, xhi, xwh, xas, xbs, xts, xst, xrf, xet, xsd, c_1]; done) | contradiction | rfl)))
theorem qX1_high : yX1_high.cls = RX1 ∧ yX1_high.cls ≠ "java/lang/invoke/MethodHandle" ∧ yX1_high.cls ≠ "java/lang/invoke/VarHandle" ∧ (parseMethodDescriptor yX1_high.desc).map (fun d => d.parameters.length) = some 1 := by decide +kernel
set_option maxHeartbeats 4000000 in
set_option maxRecDepth 100000 in
theorem c_X1_high (l : Launch) (D : va_G) (ad : Nat → Nat) (cy : Nat → ClassId) (A : Nat → Prop) (S : XS) (i : Int32) : OM l D (xT cy) A yX1_high wsX1_high 2 41 [.ref (ad 0), .int i] (xW ad cy S) (xW ad cy ((xHigh i S).2)) (some (.long ((xHigh i S).1))) := by
  refine OM.of (cc := cX1_high) (maxL := 2) (ret := some .long) (own := RX1) (by decide) rfl rfl (Nat.le_of_ble_eq_true rfl) ?_
  intro p e s m below meth c ls S0 hr hlk hl hw
  have hx := S0.1
  have hb := S0.2.1
  have hl : lv_has ls 2 [(0, .ref (ad 0)), (1, .int i)] := hl
  have hin : ∀ w ∈ wsX10, w ∈ wsX1_high := fun w h => List.mem_cons_of_mem _ (List.mem_append_right _ h)
  refine lv_aload_n hx hb dX1_high_0 rfl (lv_at hl 0 rfl) ?_
  refine lv_aload_n hx hb dX1_high_1 rfl (lv_at hl 0 rfl) ?_
  refine lv_iload_n hx hb dX1_high_2 rfl (lv_at hl 1 rfl) ?_
  refine io_call (rest := [.ref (ad 0)]) (w1 := (xW ad cy S)) S0 (c_X1_refusalToTake l D ad cy A S i) gX1_high_X1_refusalToTake hw rfl qX1_refusalToTake ⟨Nat.le_of_ble_eq_true rfl, Nat.le_of_ble_eq_true rfl⟩ ⟨Nat.le_of_ble_eq_true rfl, Nat.le_of_ble_eq_true rfl⟩ rfl rfl rfl hl.1 rfl (Nat.le_of_ble_eq_true rfl) dX1_high_3 (fun H locs hw => ?_)
  refine io_call (rest := []) (w1 := (xW ad cy (xNoted (xTake i S) S))) S0 (c_X1_noted l D ad cy A S (xTake i S)) gX1_high_X1_noted hw rfl qX1_noted ⟨Nat.le_of_ble_eq_true rfl, Nat.le_of_ble_eq_true rfl⟩ ⟨Nat.le_of_ble_eq_true rfl, Nat.le_of_ble_eq_true rfl⟩ rfl rfl rfl hl.1 rfl (Nat.le_of_ble_eq_true rfl) dX1_high_6 (fun H locs hw => ?_)
  refine zi_ge (tgt := 14) hx hb dX1_high_9 (by decide) (fun c_1 => ?_) (fun c_1 => ?_)
  · have h1 : zSl i := xTake_in c_1
    refine lv_aload_n hx hb dX1_high_14 rfl (lv_at hl 0 rfl) ?_
    refine lv_dup hx hb dX1_high_15 rfl ?_
    refine gd_get S0 hin hw rfl rfl 9 (by decide) (S0.2.2.2.2 (.fieldLink RX1 47 "StretchDesk" "endsTold" "I") (by decide +kernel)) rfl (v := .int (xet (xNoted (xTake i S) S))) rfl dX1_high_16 ?_
    refine lv_iconst (v := 1) hx hb dX1_high_19 (by decide) ?_
    refine lv_iadd hx hb dX1_high_20 ?_
    refine gd_put (w1 := (xW ad cy (xso (xNoted (xTake i S) S), xlo (xNoted (xTake i S) S), xhi (xNoted (xTake i S) S), xwh (xNoted (xTake i S) S), xas (xNoted (xTake i S) S), xbs (xNoted (xTake i S) S), xts (xNoted (xTake i S) S), xst (xNoted (xTake i S) S), xrf (xNoted (xTake i S) S), (xet (xNoted (xTake i S) S)) + 1, xsd (xNoted (xTake i S) S)))) S0 hin tyX1 tyX1_ok nmX1 hw rfl rfl 9 (by decide) (S0.2.2.2.2 (.fieldLink RX1 47 "StretchDesk" "endsTold" "I") (by decide +kernel)) rfl rfl (by decide +kernel) (Nat.le_of_ble_eq_true rfl) rfl dX1_high_21 (fun H locs hw => ?_)
    refine lv_aload_n hx hb dX1_high_24 rfl (lv_at hl 0 rfl) ?_
    refine gd_get S0 hin hw rfl rfl 2 (by decide) (S0.2.2.2.2 (.fieldLink RX1 17 "StretchDesk" "highs" "[J") (by decide +kernel)) rfl (v := .ref (ad 3)) rfl dX1_high_25 ?_
    refine lv_iload_n hx hb dX1_high_28 rfl (lv_at hl 1 rfl) ?_
    refine va_lald hx hb hw.2.2.1 hw.1 3 2 rfl rfl (zIn (by assumption)) dX1_high_29 ?_
    exact io_lret S0 hr hlk hw dX1_high_30 (congrArg (fun z => some (Value.long z)) (show (xHigh i S).1 = ixL (xhi (xNoted (xTake i S) S)) i from (by first | (simp [xHigh, xNoted, xTold, xso, xlo, xhi, xwh, xas, xbs, xts, xst, xrf, xet, xsd, eq_false c_1]; done) | (simp [xHigh, xNoted, xTold, xso, xlo, xhi, xwh, xas, xbs, xts, xst, xrf, xet, xsd, c_1]; done) | contradiction | rfl))) (congrArg (xW ad cy) (show (xHigh i S).2 = (xso (xNoted (xTake i S) S), xlo (xNoted (xTake i S) S), xhi (xNoted (xTake i S) S), xwh (xNoted (xTake i S) S), xas (xNoted (xTake i S) S), xbs (xNoted (xTake i S) S), xts (xNoted (xTake i S) S), xst (xNoted (xTake i S) S), xrf (xNoted (xTake i S) S), (xet (xNoted (xTake i S) S)) + 1, xsd (xNoted (xTake i S) S)) from (by first | (simp [xHigh, xNoted, xTold, xso, xlo, xhi, xwh, xas, xbs, xts, xst, xrf, xet, xsd, eq_false c_1]; done) | (simp [xHigh, xNoted, xTold, xso, xlo, xhi, xwh, xas, xbs, xts, xst, xrf, xet, xsd, c_1]; done) | contradiction | rfl)))
  · refine lv_lconst (v := 0) hx hb dX1_high_12 (by decide) ?_
    exact io_lret S0 hr hlk hw dX1_high_13 (congrArg (fun z => some (Value.long z)) (show (xHigh i S).1 = 0 from (by first | (simp [xHigh, xNoted, xTold, xso, xlo, xhi, xwh, xas, xbs, xts, xst, xrf, xet, xsd, eq_true c_1]; done) | (simp [xHigh, xNoted, xTold, xso, xlo, xhi, xwh, xas, xbs, xts, xst, xrf, xet, xsd, c_1]; done) | contradiction | rfl))) (congrArg (xW ad cy) (show (xHigh i S).2 = xNoted (xTake i S) S from (by first | (simp [xHigh, xNoted, xTold, xso, xlo, xhi, xwh, xas, xbs, xts, xst, xrf, xet, xsd, eq_true c_1]; done) | (simp [xHigh, xNoted, xTold, xso, xlo, xhi, xwh, xas, xbs, xts, xst, xrf, xet, xsd, c_1]; done) | contradiction | rfl)))
theorem qX1_hull : yX1_hull.cls = RX1 ∧ yX1_hull.cls ≠ "java/lang/invoke/MethodHandle" ∧ yX1_hull.cls ≠ "java/lang/invoke/VarHandle" ∧ (parseMethodDescriptor yX1_hull.desc).map (fun d => d.parameters.length) = some 3 := by decide +kernel
set_option maxHeartbeats 4000000 in
set_option maxRecDepth 100000 in
theorem c_X1_hull (l : Launch) (D : va_G) (ad : Nat → Nat) (cy : Nat → ClassId) (A : Nat → Prop) (S : XS) (a : Int32) (b : Int32) (to : Int32) : OM l D (xT cy) A yX1_hull wsX1_hull 6 154 [.ref (ad 0), .int a, .int b, .int to] (xW ad cy S) (xW ad cy ((xN (xPerf 0 a b to S)).2)) (some (.int ((xN (xPerf 0 a b to S)).1))) := by
  refine OM.of (cc := cX1_hull) (maxL := 4) (ret := some .int) (own := RX1) (by decide) rfl rfl (Nat.le_of_ble_eq_true rfl) ?_
  intro p e s m below meth c ls S0 hr hlk hl hw
  have hx := S0.1
  have hb := S0.2.1
  have hl : lv_has ls 4 [(0, .ref (ad 0)), (1, .int a), (2, .int b), (3, .int to)] := hl
  refine lv_aload_n hx hb dX1_hull_0 rfl (lv_at hl 0 rfl) ?_
  refine lv_aload_n hx hb dX1_hull_1 rfl (lv_at hl 0 rfl) ?_
  refine lv_iconst (v := 0) hx hb dX1_hull_2 (by decide) ?_
  refine lv_iload_n hx hb dX1_hull_3 rfl (lv_at hl 1 rfl) ?_
  refine lv_iload_n hx hb dX1_hull_4 rfl (lv_at hl 2 rfl) ?_
  refine lv_iload_n hx hb dX1_hull_5 rfl (lv_at hl 3 rfl) ?_
  refine io_call (rest := [.ref (ad 0)]) (w1 := (xW ad cy ((xPerf 0 a b to S).2))) S0 (c_X1_performed l D ad cy A S 0 a b to) gX1_hull_X1_performed hw rfl qX1_performed ⟨Nat.le_of_ble_eq_true rfl, Nat.le_of_ble_eq_true rfl⟩ ⟨Nat.le_of_ble_eq_true rfl, Nat.le_of_ble_eq_true rfl⟩ rfl rfl rfl hl.1 rfl (Nat.le_of_ble_eq_true rfl) dX1_hull_6 (fun H locs hw => ?_)
  refine io_call (rest := []) (w1 := (xW ad cy (xNoted ((xPerf 0 a b to S).1) ((xPerf 0 a b to S).2)))) S0 (c_X1_noted l D ad cy A ((xPerf 0 a b to S).2) ((xPerf 0 a b to S).1)) gX1_hull_X1_noted hw rfl qX1_noted ⟨Nat.le_of_ble_eq_true rfl, Nat.le_of_ble_eq_true rfl⟩ ⟨Nat.le_of_ble_eq_true rfl, Nat.le_of_ble_eq_true rfl⟩ rfl rfl rfl hl.1 rfl (Nat.le_of_ble_eq_true rfl) dX1_hull_9 (fun H locs hw => ?_)
  exact io_iret S0 hr hlk hw dX1_hull_12 (congrArg (fun z => some (Value.int z)) (show (xN (xPerf 0 a b to S)).1 = ((xPerf 0 a b to S).1) from (by first | (simp [xN, xso, xlo, xhi, xwh, xas, xbs, xts, xst, xrf, xet, xsd]; done) | (simp [xN, xso, xlo, xhi, xwh, xas, xbs, xts, xst, xrf, xet, xsd]; done) | contradiction | rfl))) (congrArg (xW ad cy) (show (xN (xPerf 0 a b to S)).2 = xNoted ((xPerf 0 a b to S).1) ((xPerf 0 a b to S).2) from (by first | (simp [xN, xso, xlo, xhi, xwh, xas, xbs, xts, xst, xrf, xet, xsd]; done) | (simp [xN, xso, xlo, xhi, xwh, xas, xbs, xts, xst, xrf, xet, xsd]; done) | contradiction | rfl)))
theorem qX1_meet : yX1_meet.cls = RX1 ∧ yX1_meet.cls ≠ "java/lang/invoke/MethodHandle" ∧ yX1_meet.cls ≠ "java/lang/invoke/VarHandle" ∧ (parseMethodDescriptor yX1_meet.desc).map (fun d => d.parameters.length) = some 3 := by decide +kernel
set_option maxHeartbeats 4000000 in
set_option maxRecDepth 100000 in
theorem c_X1_meet (l : Launch) (D : va_G) (ad : Nat → Nat) (cy : Nat → ClassId) (A : Nat → Prop) (S : XS) (a : Int32) (b : Int32) (to : Int32) : OM l D (xT cy) A yX1_meet wsX1_meet 6 154 [.ref (ad 0), .int a, .int b, .int to] (xW ad cy S) (xW ad cy ((xN (xPerf 1 a b to S)).2)) (some (.int ((xN (xPerf 1 a b to S)).1))) := by
  refine OM.of (cc := cX1_meet) (maxL := 4) (ret := some .int) (own := RX1) (by decide) rfl rfl (Nat.le_of_ble_eq_true rfl) ?_
  intro p e s m below meth c ls S0 hr hlk hl hw
  have hx := S0.1
  have hb := S0.2.1
  have hl : lv_has ls 4 [(0, .ref (ad 0)), (1, .int a), (2, .int b), (3, .int to)] := hl
  refine lv_aload_n hx hb dX1_meet_0 rfl (lv_at hl 0 rfl) ?_
  refine lv_aload_n hx hb dX1_meet_1 rfl (lv_at hl 0 rfl) ?_
  refine lv_iconst (v := 1) hx hb dX1_meet_2 (by decide) ?_
  refine lv_iload_n hx hb dX1_meet_3 rfl (lv_at hl 1 rfl) ?_
  refine lv_iload_n hx hb dX1_meet_4 rfl (lv_at hl 2 rfl) ?_
  refine lv_iload_n hx hb dX1_meet_5 rfl (lv_at hl 3 rfl) ?_
  refine io_call (rest := [.ref (ad 0)]) (w1 := (xW ad cy ((xPerf 1 a b to S).2))) S0 (c_X1_performed l D ad cy A S 1 a b to) gX1_meet_X1_performed hw rfl qX1_performed ⟨Nat.le_of_ble_eq_true rfl, Nat.le_of_ble_eq_true rfl⟩ ⟨Nat.le_of_ble_eq_true rfl, Nat.le_of_ble_eq_true rfl⟩ rfl rfl rfl hl.1 rfl (Nat.le_of_ble_eq_true rfl) dX1_meet_6 (fun H locs hw => ?_)
  refine io_call (rest := []) (w1 := (xW ad cy (xNoted ((xPerf 1 a b to S).1) ((xPerf 1 a b to S).2)))) S0 (c_X1_noted l D ad cy A ((xPerf 1 a b to S).2) ((xPerf 1 a b to S).1)) gX1_meet_X1_noted hw rfl qX1_noted ⟨Nat.le_of_ble_eq_true rfl, Nat.le_of_ble_eq_true rfl⟩ ⟨Nat.le_of_ble_eq_true rfl, Nat.le_of_ble_eq_true rfl⟩ rfl rfl rfl hl.1 rfl (Nat.le_of_ble_eq_true rfl) dX1_meet_9 (fun H locs hw => ?_)
  exact io_iret S0 hr hlk hw dX1_meet_12 (congrArg (fun z => some (Value.int z)) (show (xN (xPerf 1 a b to S)).1 = ((xPerf 1 a b to S).1) from (by first | (simp [xN, xso, xlo, xhi, xwh, xas, xbs, xts, xst, xrf, xet, xsd]; done) | (simp [xN, xso, xlo, xhi, xwh, xas, xbs, xts, xst, xrf, xet, xsd]; done) | contradiction | rfl))) (congrArg (xW ad cy) (show (xN (xPerf 1 a b to S)).2 = xNoted ((xPerf 1 a b to S).1) ((xPerf 1 a b to S).2) from (by first | (simp [xN, xso, xlo, xhi, xwh, xas, xbs, xts, xst, xrf, xet, xsd]; done) | (simp [xN, xso, xlo, xhi, xwh, xas, xbs, xts, xst, xrf, xet, xsd]; done) | contradiction | rfl)))
theorem qX1_size : yX1_size.cls = RX1 ∧ yX1_size.cls ≠ "java/lang/invoke/MethodHandle" ∧ yX1_size.cls ≠ "java/lang/invoke/VarHandle" ∧ (parseMethodDescriptor yX1_size.desc).map (fun d => d.parameters.length) = some 2 := by decide +kernel
set_option maxHeartbeats 4000000 in
set_option maxRecDepth 100000 in
theorem c_X1_size (l : Launch) (D : va_G) (ad : Nat → Nat) (cy : Nat → ClassId) (A : Nat → Prop) (S : XS) (a : Int32) (to : Int32) : OM l D (xT cy) A yX1_size wsX1_size 6 154 [.ref (ad 0), .int a, .int to] (xW ad cy S) (xW ad cy ((xN (xPerf 2 a 0 to S)).2)) (some (.int ((xN (xPerf 2 a 0 to S)).1))) := by
  refine OM.of (cc := cX1_size) (maxL := 3) (ret := some .int) (own := RX1) (by decide) rfl rfl (Nat.le_of_ble_eq_true rfl) ?_
  intro p e s m below meth c ls S0 hr hlk hl hw
  have hx := S0.1
  have hb := S0.2.1
  have hl : lv_has ls 3 [(0, .ref (ad 0)), (1, .int a), (2, .int to)] := hl
  refine lv_aload_n hx hb dX1_size_0 rfl (lv_at hl 0 rfl) ?_
  refine lv_aload_n hx hb dX1_size_1 rfl (lv_at hl 0 rfl) ?_
  refine lv_iconst (v := 2) hx hb dX1_size_2 (by decide) ?_
  refine lv_iload_n hx hb dX1_size_3 rfl (lv_at hl 1 rfl) ?_
  refine lv_iconst (v := 0) hx hb dX1_size_4 (by decide) ?_
  refine lv_iload_n hx hb dX1_size_5 rfl (lv_at hl 2 rfl) ?_
  refine io_call (rest := [.ref (ad 0)]) (w1 := (xW ad cy ((xPerf 2 a 0 to S).2))) S0 (c_X1_performed l D ad cy A S 2 a 0 to) gX1_size_X1_performed hw rfl qX1_performed ⟨Nat.le_of_ble_eq_true rfl, Nat.le_of_ble_eq_true rfl⟩ ⟨Nat.le_of_ble_eq_true rfl, Nat.le_of_ble_eq_true rfl⟩ rfl rfl rfl hl.1 rfl (Nat.le_of_ble_eq_true rfl) dX1_size_6 (fun H locs hw => ?_)
  refine io_call (rest := []) (w1 := (xW ad cy (xNoted ((xPerf 2 a 0 to S).1) ((xPerf 2 a 0 to S).2)))) S0 (c_X1_noted l D ad cy A ((xPerf 2 a 0 to S).2) ((xPerf 2 a 0 to S).1)) gX1_size_X1_noted hw rfl qX1_noted ⟨Nat.le_of_ble_eq_true rfl, Nat.le_of_ble_eq_true rfl⟩ ⟨Nat.le_of_ble_eq_true rfl, Nat.le_of_ble_eq_true rfl⟩ rfl rfl rfl hl.1 rfl (Nat.le_of_ble_eq_true rfl) dX1_size_9 (fun H locs hw => ?_)
  exact io_iret S0 hr hlk hw dX1_size_12 (congrArg (fun z => some (Value.int z)) (show (xN (xPerf 2 a 0 to S)).1 = ((xPerf 2 a 0 to S).1) from (by first | (simp [xN, xso, xlo, xhi, xwh, xas, xbs, xts, xst, xrf, xet, xsd]; done) | (simp [xN, xso, xlo, xhi, xwh, xas, xbs, xts, xst, xrf, xet, xsd]; done) | contradiction | rfl))) (congrArg (xW ad cy) (show (xN (xPerf 2 a 0 to S)).2 = xNoted ((xPerf 2 a 0 to S).1) ((xPerf 2 a 0 to S).2) from (by first | (simp [xN, xso, xlo, xhi, xwh, xas, xbs, xts, xst, xrf, xet, xsd]; done) | (simp [xN, xso, xlo, xhi, xwh, xas, xbs, xts, xst, xrf, xet, xsd]; done) | contradiction | rfl)))
theorem qX1_round : yX1_round.cls = RX1 ∧ yX1_round.cls ≠ "java/lang/invoke/MethodHandle" ∧ yX1_round.cls ≠ "java/lang/invoke/VarHandle" ∧ (parseMethodDescriptor yX1_round.desc).map (fun d => d.parameters.length) = some 3 := by decide +kernel
set_option maxHeartbeats 4000000 in
set_option maxRecDepth 100000 in
theorem c_X1_round (l : Launch) (D : va_G) (ad : Nat → Nat) (cy : Nat → ClassId) (A : Nat → Prop) (S : XS) (a : Int32) (b : Int32) (to : Int32) : OM l D (xT cy) A yX1_round wsX1_round 6 154 [.ref (ad 0), .int a, .int b, .int to] (xW ad cy S) (xW ad cy ((xN (xPerf 3 a b to S)).2)) (some (.int ((xN (xPerf 3 a b to S)).1))) := by
  refine OM.of (cc := cX1_round) (maxL := 4) (ret := some .int) (own := RX1) (by decide) rfl rfl (Nat.le_of_ble_eq_true rfl) ?_
  intro p e s m below meth c ls S0 hr hlk hl hw
  have hx := S0.1
  have hb := S0.2.1
  have hl : lv_has ls 4 [(0, .ref (ad 0)), (1, .int a), (2, .int b), (3, .int to)] := hl
  refine lv_aload_n hx hb dX1_round_0 rfl (lv_at hl 0 rfl) ?_
  refine lv_aload_n hx hb dX1_round_1 rfl (lv_at hl 0 rfl) ?_
  refine lv_iconst (v := 3) hx hb dX1_round_2 (by decide) ?_
  refine lv_iload_n hx hb dX1_round_3 rfl (lv_at hl 1 rfl) ?_
  refine lv_iload_n hx hb dX1_round_4 rfl (lv_at hl 2 rfl) ?_
  refine lv_iload_n hx hb dX1_round_5 rfl (lv_at hl 3 rfl) ?_
  refine io_call (rest := [.ref (ad 0)]) (w1 := (xW ad cy ((xPerf 3 a b to S).2))) S0 (c_X1_performed l D ad cy A S 3 a b to) gX1_round_X1_performed hw rfl qX1_performed ⟨Nat.le_of_ble_eq_true rfl, Nat.le_of_ble_eq_true rfl⟩ ⟨Nat.le_of_ble_eq_true rfl, Nat.le_of_ble_eq_true rfl⟩ rfl rfl rfl hl.1 rfl (Nat.le_of_ble_eq_true rfl) dX1_round_6 (fun H locs hw => ?_)
  refine io_call (rest := []) (w1 := (xW ad cy (xNoted ((xPerf 3 a b to S).1) ((xPerf 3 a b to S).2)))) S0 (c_X1_noted l D ad cy A ((xPerf 3 a b to S).2) ((xPerf 3 a b to S).1)) gX1_round_X1_noted hw rfl qX1_noted ⟨Nat.le_of_ble_eq_true rfl, Nat.le_of_ble_eq_true rfl⟩ ⟨Nat.le_of_ble_eq_true rfl, Nat.le_of_ble_eq_true rfl⟩ rfl rfl rfl hl.1 rfl (Nat.le_of_ble_eq_true rfl) dX1_round_9 (fun H locs hw => ?_)
  exact io_iret S0 hr hlk hw dX1_round_12 (congrArg (fun z => some (Value.int z)) (show (xN (xPerf 3 a b to S)).1 = ((xPerf 3 a b to S).1) from (by first | (simp [xN, xso, xlo, xhi, xwh, xas, xbs, xts, xst, xrf, xet, xsd]; done) | (simp [xN, xso, xlo, xhi, xwh, xas, xbs, xts, xst, xrf, xet, xsd]; done) | contradiction | rfl))) (congrArg (xW ad cy) (show (xN (xPerf 3 a b to S)).2 = xNoted ((xPerf 3 a b to S).1) ((xPerf 3 a b to S).2) from (by first | (simp [xN, xso, xlo, xhi, xwh, xas, xbs, xts, xst, xrf, xet, xsd]; done) | (simp [xN, xso, xlo, xhi, xwh, xas, xbs, xts, xst, xrf, xet, xsd]; done) | contradiction | rfl)))
theorem qX1_sign : yX1_sign.cls = RX1 ∧ yX1_sign.cls ≠ "java/lang/invoke/MethodHandle" ∧ yX1_sign.cls ≠ "java/lang/invoke/VarHandle" ∧ (parseMethodDescriptor yX1_sign.desc).map (fun d => d.parameters.length) = some 2 := by decide +kernel
set_option maxHeartbeats 4000000 in
set_option maxRecDepth 100000 in
theorem c_X1_sign (l : Launch) (D : va_G) (ad : Nat → Nat) (cy : Nat → ClassId) (A : Nat → Prop) (S : XS) (a : Int32) (to : Int32) : OM l D (xT cy) A yX1_sign wsX1_sign 6 154 [.ref (ad 0), .int a, .int to] (xW ad cy S) (xW ad cy ((xN (xPerf 4 a 0 to S)).2)) (some (.int ((xN (xPerf 4 a 0 to S)).1))) := by
  refine OM.of (cc := cX1_sign) (maxL := 3) (ret := some .int) (own := RX1) (by decide) rfl rfl (Nat.le_of_ble_eq_true rfl) ?_
  intro p e s m below meth c ls S0 hr hlk hl hw
  have hx := S0.1
  have hb := S0.2.1
  have hl : lv_has ls 3 [(0, .ref (ad 0)), (1, .int a), (2, .int to)] := hl
  refine lv_aload_n hx hb dX1_sign_0 rfl (lv_at hl 0 rfl) ?_
  refine lv_aload_n hx hb dX1_sign_1 rfl (lv_at hl 0 rfl) ?_
  refine lv_iconst (v := 4) hx hb dX1_sign_2 (by decide) ?_
  refine lv_iload_n hx hb dX1_sign_3 rfl (lv_at hl 1 rfl) ?_
  refine lv_iconst (v := 0) hx hb dX1_sign_4 (by decide) ?_
  refine lv_iload_n hx hb dX1_sign_5 rfl (lv_at hl 2 rfl) ?_
  refine io_call (rest := [.ref (ad 0)]) (w1 := (xW ad cy ((xPerf 4 a 0 to S).2))) S0 (c_X1_performed l D ad cy A S 4 a 0 to) gX1_sign_X1_performed hw rfl qX1_performed ⟨Nat.le_of_ble_eq_true rfl, Nat.le_of_ble_eq_true rfl⟩ ⟨Nat.le_of_ble_eq_true rfl, Nat.le_of_ble_eq_true rfl⟩ rfl rfl rfl hl.1 rfl (Nat.le_of_ble_eq_true rfl) dX1_sign_6 (fun H locs hw => ?_)
  refine io_call (rest := []) (w1 := (xW ad cy (xNoted ((xPerf 4 a 0 to S).1) ((xPerf 4 a 0 to S).2)))) S0 (c_X1_noted l D ad cy A ((xPerf 4 a 0 to S).2) ((xPerf 4 a 0 to S).1)) gX1_sign_X1_noted hw rfl qX1_noted ⟨Nat.le_of_ble_eq_true rfl, Nat.le_of_ble_eq_true rfl⟩ ⟨Nat.le_of_ble_eq_true rfl, Nat.le_of_ble_eq_true rfl⟩ rfl rfl rfl hl.1 rfl (Nat.le_of_ble_eq_true rfl) dX1_sign_9 (fun H locs hw => ?_)
  exact io_iret S0 hr hlk hw dX1_sign_12 (congrArg (fun z => some (Value.int z)) (show (xN (xPerf 4 a 0 to S)).1 = ((xPerf 4 a 0 to S).1) from (by first | (simp [xN, xso, xlo, xhi, xwh, xas, xbs, xts, xst, xrf, xet, xsd]; done) | (simp [xN, xso, xlo, xhi, xwh, xas, xbs, xts, xst, xrf, xet, xsd]; done) | contradiction | rfl))) (congrArg (xW ad cy) (show (xN (xPerf 4 a 0 to S)).2 = xNoted ((xPerf 4 a 0 to S).1) ((xPerf 4 a 0 to S).2) from (by first | (simp [xN, xso, xlo, xhi, xwh, xas, xbs, xts, xst, xrf, xet, xsd]; done) | (simp [xN, xso, xlo, xhi, xwh, xas, xbs, xts, xst, xrf, xet, xsd]; done) | contradiction | rfl)))
theorem qX1_lend : yX1_lend.cls = RX1 ∧ yX1_lend.cls ≠ "java/lang/invoke/MethodHandle" ∧ yX1_lend.cls ≠ "java/lang/invoke/VarHandle" ∧ (parseMethodDescriptor yX1_lend.desc).map (fun d => d.parameters.length) = some 3 := by decide +kernel
set_option maxHeartbeats 4000000 in
set_option maxRecDepth 100000 in
theorem c_X1_lend (l : Launch) (D : va_G) (ad : Nat → Nat) (cy : Nat → ClassId) (A : Nat → Prop) (S : XS) (a : Int32) (b : Int32) (to : Int32) : OM l D (xT cy) A yX1_lend wsX1_lend 6 154 [.ref (ad 0), .int a, .int b, .int to] (xW ad cy S) (xW ad cy ((xN (xPerf 5 a b to S)).2)) (some (.int ((xN (xPerf 5 a b to S)).1))) := by
  refine OM.of (cc := cX1_lend) (maxL := 4) (ret := some .int) (own := RX1) (by decide) rfl rfl (Nat.le_of_ble_eq_true rfl) ?_
  intro p e s m below meth c ls S0 hr hlk hl hw
  have hx := S0.1
  have hb := S0.2.1
  have hl : lv_has ls 4 [(0, .ref (ad 0)), (1, .int a), (2, .int b), (3, .int to)] := hl
  refine lv_aload_n hx hb dX1_lend_0 rfl (lv_at hl 0 rfl) ?_
  refine lv_aload_n hx hb dX1_lend_1 rfl (lv_at hl 0 rfl) ?_
  refine lv_iconst (v := 5) hx hb dX1_lend_2 (by decide) ?_
  refine lv_iload_n hx hb dX1_lend_3 rfl (lv_at hl 1 rfl) ?_
  refine lv_iload_n hx hb dX1_lend_4 rfl (lv_at hl 2 rfl) ?_
  refine lv_iload_n hx hb dX1_lend_5 rfl (lv_at hl 3 rfl) ?_
  refine io_call (rest := [.ref (ad 0)]) (w1 := (xW ad cy ((xPerf 5 a b to S).2))) S0 (c_X1_performed l D ad cy A S 5 a b to) gX1_lend_X1_performed hw rfl qX1_performed ⟨Nat.le_of_ble_eq_true rfl, Nat.le_of_ble_eq_true rfl⟩ ⟨Nat.le_of_ble_eq_true rfl, Nat.le_of_ble_eq_true rfl⟩ rfl rfl rfl hl.1 rfl (Nat.le_of_ble_eq_true rfl) dX1_lend_6 (fun H locs hw => ?_)
  refine io_call (rest := []) (w1 := (xW ad cy (xNoted ((xPerf 5 a b to S).1) ((xPerf 5 a b to S).2)))) S0 (c_X1_noted l D ad cy A ((xPerf 5 a b to S).2) ((xPerf 5 a b to S).1)) gX1_lend_X1_noted hw rfl qX1_noted ⟨Nat.le_of_ble_eq_true rfl, Nat.le_of_ble_eq_true rfl⟩ ⟨Nat.le_of_ble_eq_true rfl, Nat.le_of_ble_eq_true rfl⟩ rfl rfl rfl hl.1 rfl (Nat.le_of_ble_eq_true rfl) dX1_lend_9 (fun H locs hw => ?_)
  exact io_iret S0 hr hlk hw dX1_lend_12 (congrArg (fun z => some (Value.int z)) (show (xN (xPerf 5 a b to S)).1 = ((xPerf 5 a b to S).1) from (by first | (simp [xN, xso, xlo, xhi, xwh, xas, xbs, xts, xst, xrf, xet, xsd]; done) | (simp [xN, xso, xlo, xhi, xwh, xas, xbs, xts, xst, xrf, xet, xsd]; done) | contradiction | rfl))) (congrArg (xW ad cy) (show (xN (xPerf 5 a b to S)).2 = xNoted ((xPerf 5 a b to S).1) ((xPerf 5 a b to S).2) from (by first | (simp [xN, xso, xlo, xhi, xwh, xas, xbs, xts, xst, xrf, xet, xsd]; done) | (simp [xN, xso, xlo, xhi, xwh, xas, xbs, xts, xst, xrf, xet, xsd]; done) | contradiction | rfl)))
theorem qX1_turn : yX1_turn.cls = RX1 ∧ yX1_turn.cls ≠ "java/lang/invoke/MethodHandle" ∧ yX1_turn.cls ≠ "java/lang/invoke/VarHandle" ∧ (parseMethodDescriptor yX1_turn.desc).map (fun d => d.parameters.length) = some 2 := by decide +kernel
set_option maxHeartbeats 4000000 in
set_option maxRecDepth 100000 in
theorem c_X1_turn (l : Launch) (D : va_G) (ad : Nat → Nat) (cy : Nat → ClassId) (A : Nat → Prop) (S : XS) (a : Int32) (to : Int32) : OM l D (xT cy) A yX1_turn wsX1_turn 6 154 [.ref (ad 0), .int a, .int to] (xW ad cy S) (xW ad cy ((xN (xPerf 6 a 0 to S)).2)) (some (.int ((xN (xPerf 6 a 0 to S)).1))) := by
  refine OM.of (cc := cX1_turn) (maxL := 3) (ret := some .int) (own := RX1) (by decide) rfl rfl (Nat.le_of_ble_eq_true rfl) ?_
  intro p e s m below meth c ls S0 hr hlk hl hw
  have hx := S0.1
  have hb := S0.2.1
  have hl : lv_has ls 3 [(0, .ref (ad 0)), (1, .int a), (2, .int to)] := hl
  refine lv_aload_n hx hb dX1_turn_0 rfl (lv_at hl 0 rfl) ?_
  refine lv_aload_n hx hb dX1_turn_1 rfl (lv_at hl 0 rfl) ?_
  refine lv_bipush (v := 6) hx hb dX1_turn_2 (by decide) ?_
  refine lv_iload_n hx hb dX1_turn_4 rfl (lv_at hl 1 rfl) ?_
  refine lv_iconst (v := 0) hx hb dX1_turn_5 (by decide) ?_
  refine lv_iload_n hx hb dX1_turn_6 rfl (lv_at hl 2 rfl) ?_
  refine io_call (rest := [.ref (ad 0)]) (w1 := (xW ad cy ((xPerf 6 a 0 to S).2))) S0 (c_X1_performed l D ad cy A S 6 a 0 to) gX1_turn_X1_performed hw rfl qX1_performed ⟨Nat.le_of_ble_eq_true rfl, Nat.le_of_ble_eq_true rfl⟩ ⟨Nat.le_of_ble_eq_true rfl, Nat.le_of_ble_eq_true rfl⟩ rfl rfl rfl hl.1 rfl (Nat.le_of_ble_eq_true rfl) dX1_turn_7 (fun H locs hw => ?_)
  refine io_call (rest := []) (w1 := (xW ad cy (xNoted ((xPerf 6 a 0 to S).1) ((xPerf 6 a 0 to S).2)))) S0 (c_X1_noted l D ad cy A ((xPerf 6 a 0 to S).2) ((xPerf 6 a 0 to S).1)) gX1_turn_X1_noted hw rfl qX1_noted ⟨Nat.le_of_ble_eq_true rfl, Nat.le_of_ble_eq_true rfl⟩ ⟨Nat.le_of_ble_eq_true rfl, Nat.le_of_ble_eq_true rfl⟩ rfl rfl rfl hl.1 rfl (Nat.le_of_ble_eq_true rfl) dX1_turn_10 (fun H locs hw => ?_)
  exact io_iret S0 hr hlk hw dX1_turn_13 (congrArg (fun z => some (Value.int z)) (show (xN (xPerf 6 a 0 to S)).1 = ((xPerf 6 a 0 to S).1) from (by first | (simp [xN, xso, xlo, xhi, xwh, xas, xbs, xts, xst, xrf, xet, xsd]; done) | (simp [xN, xso, xlo, xhi, xwh, xas, xbs, xts, xst, xrf, xet, xsd]; done) | contradiction | rfl))) (congrArg (xW ad cy) (show (xN (xPerf 6 a 0 to S)).2 = xNoted ((xPerf 6 a 0 to S).1) ((xPerf 6 a 0 to S).2) from (by first | (simp [xN, xso, xlo, xhi, xwh, xas, xbs, xts, xst, xrf, xet, xsd]; done) | (simp [xN, xso, xlo, xhi, xwh, xas, xbs, xts, xst, xrf, xet, xsd]; done) | contradiction | rfl)))
theorem qX1_as : yX1_as.cls = RX1 ∧ yX1_as.cls ≠ "java/lang/invoke/MethodHandle" ∧ yX1_as.cls ≠ "java/lang/invoke/VarHandle" ∧ (parseMethodDescriptor yX1_as.desc).map (fun d => d.parameters.length) = some 3 := by decide +kernel
set_option maxHeartbeats 4000000 in
set_option maxRecDepth 100000 in
theorem c_X1_as (l : Launch) (D : va_G) (ad : Nat → Nat) (cy : Nat → ClassId) (A : Nat → Prop) (S : XS) (a : Int32) (b : Int32) (to : Int32) : OM l D (xT cy) A yX1_as wsX1_as 6 154 [.ref (ad 0), .int a, .int b, .int to] (xW ad cy S) (xW ad cy ((xN (xPerf 7 a b to S)).2)) (some (.int ((xN (xPerf 7 a b to S)).1))) := by
  refine OM.of (cc := cX1_as) (maxL := 4) (ret := some .int) (own := RX1) (by decide) rfl rfl (Nat.le_of_ble_eq_true rfl) ?_
  intro p e s m below meth c ls S0 hr hlk hl hw
  have hx := S0.1
  have hb := S0.2.1
  have hl : lv_has ls 4 [(0, .ref (ad 0)), (1, .int a), (2, .int b), (3, .int to)] := hl
  refine lv_aload_n hx hb dX1_as_0 rfl (lv_at hl 0 rfl) ?_
  refine lv_aload_n hx hb dX1_as_1 rfl (lv_at hl 0 rfl) ?_
  refine lv_bipush (v := 7) hx hb dX1_as_2 (by decide) ?_
  refine lv_iload_n hx hb dX1_as_4 rfl (lv_at hl 1 rfl) ?_
  refine lv_iload_n hx hb dX1_as_5 rfl (lv_at hl 2 rfl) ?_
  refine lv_iload_n hx hb dX1_as_6 rfl (lv_at hl 3 rfl) ?_
  refine io_call (rest := [.ref (ad 0)]) (w1 := (xW ad cy ((xPerf 7 a b to S).2))) S0 (c_X1_performed l D ad cy A S 7 a b to) gX1_as_X1_performed hw rfl qX1_performed ⟨Nat.le_of_ble_eq_true rfl, Nat.le_of_ble_eq_true rfl⟩ ⟨Nat.le_of_ble_eq_true rfl, Nat.le_of_ble_eq_true rfl⟩ rfl rfl rfl hl.1 rfl (Nat.le_of_ble_eq_true rfl) dX1_as_7 (fun H locs hw => ?_)
  refine io_call (rest := []) (w1 := (xW ad cy (xNoted ((xPerf 7 a b to S).1) ((xPerf 7 a b to S).2)))) S0 (c_X1_noted l D ad cy A ((xPerf 7 a b to S).2) ((xPerf 7 a b to S).1)) gX1_as_X1_noted hw rfl qX1_noted ⟨Nat.le_of_ble_eq_true rfl, Nat.le_of_ble_eq_true rfl⟩ ⟨Nat.le_of_ble_eq_true rfl, Nat.le_of_ble_eq_true rfl⟩ rfl rfl rfl hl.1 rfl (Nat.le_of_ble_eq_true rfl) dX1_as_10 (fun H locs hw => ?_)
  exact io_iret S0 hr hlk hw dX1_as_13 (congrArg (fun z => some (Value.int z)) (show (xN (xPerf 7 a b to S)).1 = ((xPerf 7 a b to S).1) from (by first | (simp [xN, xso, xlo, xhi, xwh, xas, xbs, xts, xst, xrf, xet, xsd]; done) | (simp [xN, xso, xlo, xhi, xwh, xas, xbs, xts, xst, xrf, xet, xsd]; done) | contradiction | rfl))) (congrArg (xW ad cy) (show (xN (xPerf 7 a b to S)).2 = xNoted ((xPerf 7 a b to S).1) ((xPerf 7 a b to S).2) from (by first | (simp [xN, xso, xlo, xhi, xwh, xas, xbs, xts, xst, xrf, xet, xsd]; done) | (simp [xN, xso, xlo, xhi, xwh, xas, xbs, xts, xst, xrf, xet, xsd]; done) | contradiction | rfl)))
theorem qX1_near : yX1_near.cls = RX1 ∧ yX1_near.cls ≠ "java/lang/invoke/MethodHandle" ∧ yX1_near.cls ≠ "java/lang/invoke/VarHandle" ∧ (parseMethodDescriptor yX1_near.desc).map (fun d => d.parameters.length) = some 2 := by decide +kernel
set_option maxHeartbeats 4000000 in
set_option maxRecDepth 100000 in
theorem c_X1_near (l : Launch) (D : va_G) (ad : Nat → Nat) (cy : Nat → ClassId) (A : Nat → Prop) (S : XS) (i : Int32) (v : Int64) : OM l D (xT cy) A yX1_near wsX1_near 4 88 [.ref (ad 0), .int i, .long v] (xW ad cy S) (xW ad cy ((xNear i v S).2)) (some (.long ((xNear i v S).1))) := by
  refine OM.of (cc := cX1_near) (maxL := 7) (ret := some .long) (own := RX1) (by decide) rfl rfl (Nat.le_of_ble_eq_true rfl) ?_
  intro p e s m below meth c ls S0 hr hlk hl hw
  have hx := S0.1
  have hb := S0.2.1
  have hl : lv_has ls 7 [(0, .ref (ad 0)), (1, .int i), (2, .long v)] := hl
  have hin : ∀ w ∈ wsX10, w ∈ wsX1_near := fun w h => List.mem_cons_of_mem _ (List.mem_append_right _ h)
  refine lv_aload_n hx hb dX1_near_0 rfl (lv_at hl 0 rfl) ?_
  refine lv_aload_n hx hb dX1_near_1 rfl (lv_at hl 0 rfl) ?_
  refine lv_iload_n hx hb dX1_near_2 rfl (lv_at hl 1 rfl) ?_
  refine lv_lload_n hx hb dX1_near_3 rfl (lv_at hl 2 rfl) ?_
  refine io_call (rest := [.ref (ad 0)]) (w1 := (xW ad cy S)) S0 (c_X1_refusalToCompare l D ad cy A S i v) gX1_near_X1_refusalToCompare hw rfl qX1_refusalToCompare ⟨Nat.le_of_ble_eq_true rfl, Nat.le_of_ble_eq_true rfl⟩ ⟨Nat.le_of_ble_eq_true rfl, Nat.le_of_ble_eq_true rfl⟩ rfl rfl rfl hl.1 rfl (Nat.le_of_ble_eq_true rfl) dX1_near_4 (fun H locs hw => ?_)
  refine io_call (rest := []) (w1 := (xW ad cy (xNoted (xCmp i v S) S))) S0 (c_X1_noted l D ad cy A S (xCmp i v S)) gX1_near_X1_noted hw rfl qX1_noted ⟨Nat.le_of_ble_eq_true rfl, Nat.le_of_ble_eq_true rfl⟩ ⟨Nat.le_of_ble_eq_true rfl, Nat.le_of_ble_eq_true rfl⟩ rfl rfl rfl hl.1 rfl (Nat.le_of_ble_eq_true rfl) dX1_near_7 (fun H locs hw => ?_)
  refine zi_ge (tgt := 15) hx hb dX1_near_10 (by decide) (fun c_1 => ?_) (fun c_1 => ?_)
  · have h1 : zSl i := xCmp_in c_1
    refine lv_aload_n hx hb dX1_near_15 rfl (lv_at hl 0 rfl) ?_
    refine gd_get S0 hin hw rfl rfl 0 (by decide) (S0.2.2.2.2 (.fieldLink RX1 9 "StretchDesk" "sorts" "[I") (by decide +kernel)) rfl (v := .ref (ad 1)) rfl dX1_near_16 ?_
    refine lv_iload_n hx hb dX1_near_19 rfl (lv_at hl 1 rfl) ?_
    refine va_iald hx hb hw.2.2.1 hw.1 1 0 rfl rfl (zIn (by assumption)) dX1_near_20 ?_
    refine lv_istore (lv' := [(4, .int (ixI (xso (xNoted (xCmp i v S) S)) i)), (0, .ref (ad 0)), (1, .int i), (2, .long v)]) hx hb dX1_near_21 hl (by decide) rfl (fun ls hl => ?_)
    refine lv_iload hx hb dX1_near_23 (lv_at hl 0 rfl) ?_
    refine lv_lload_n hx hb dX1_near_25 rfl (lv_at hl 3 rfl) ?_
    refine ps_call (rest := []) S0 (c_X0_fitted l (ixI (xso (xNoted (xCmp i v S) S)) i) v) gX1_near_X0_fitted rfl qX0_fitted ⟨Nat.le_of_ble_eq_true rfl, Nat.le_of_ble_eq_true rfl⟩ ⟨Nat.le_of_ble_eq_true rfl, Nat.le_of_ble_eq_true rfl⟩ hl.1 rfl (Nat.le_of_ble_eq_true rfl) dX1_near_26 ?_
    refine lv_lstore (lv' := [(5, .long (nFit (ixI (xso (xNoted (xCmp i v S) S)) i) v)), (4, .int (ixI (xso (xNoted (xCmp i v S) S)) i)), (0, .ref (ad 0)), (1, .int i), (2, .long v)]) hx hb dX1_near_29 hl (by decide) rfl (fun ls hl => ?_)
    refine lv_iload hx hb dX1_near_31 (lv_at hl 1 rfl) ?_
    refine lv_iload hx hb dX1_near_33 (lv_at hl 1 rfl) ?_
    refine lv_lload hx hb dX1_near_35 (lv_at hl 0 rfl) ?_
    refine lv_aload_n hx hb dX1_near_37 rfl (lv_at hl 2 rfl) ?_
    refine gd_get S0 hin hw rfl rfl 1 (by decide) (S0.2.2.2.2 (.fieldLink RX1 13 "StretchDesk" "lows" "[J") (by decide +kernel)) rfl (v := .ref (ad 2)) rfl dX1_near_38 ?_
    refine lv_iload_n hx hb dX1_near_41 rfl (lv_at hl 3 rfl) ?_
    refine va_lald hx hb hw.2.2.1 hw.1 2 1 rfl rfl (zIn (by assumption)) dX1_near_42 ?_
    refine ps_call (rest := [.int (ixI (xso (xNoted (xCmp i v S) S)) i)]) S0 (c_X0_greater l (ixI (xso (xNoted (xCmp i v S) S)) i) (nFit (ixI (xso (xNoted (xCmp i v S) S)) i) v) (ixL (xlo (xNoted (xCmp i v S) S)) i)) gX1_near_X0_greater rfl qX0_greater ⟨Nat.le_of_ble_eq_true rfl, Nat.le_of_ble_eq_true rfl⟩ ⟨Nat.le_of_ble_eq_true rfl, Nat.le_of_ble_eq_true rfl⟩ hl.1 rfl (Nat.le_of_ble_eq_true rfl) dX1_near_43 ?_
    refine lv_aload_n hx hb dX1_near_46 rfl (lv_at hl 2 rfl) ?_
    refine gd_get S0 hin hw rfl rfl 2 (by decide) (S0.2.2.2.2 (.fieldLink RX1 17 "StretchDesk" "highs" "[J") (by decide +kernel)) rfl (v := .ref (ad 3)) rfl dX1_near_47 ?_
    refine lv_iload_n hx hb dX1_near_50 rfl (lv_at hl 3 rfl) ?_
    refine va_lald hx hb hw.2.2.1 hw.1 3 2 rfl rfl (zIn (by assumption)) dX1_near_51 ?_
    refine ps_call (rest := []) S0 (c_X0_lesser l (ixI (xso (xNoted (xCmp i v S) S)) i) (nGreater (ixI (xso (xNoted (xCmp i v S) S)) i) (nFit (ixI (xso (xNoted (xCmp i v S) S)) i) v) (ixL (xlo (xNoted (xCmp i v S) S)) i)) (ixL (xhi (xNoted (xCmp i v S) S)) i)) gX1_near_X0_lesser rfl qX0_lesser ⟨Nat.le_of_ble_eq_true rfl, Nat.le_of_ble_eq_true rfl⟩ ⟨Nat.le_of_ble_eq_true rfl, Nat.le_of_ble_eq_true rfl⟩ hl.1 rfl (Nat.le_of_ble_eq_true rfl) dX1_near_52 ?_
    exact io_lret S0 hr hlk hw dX1_near_55 (congrArg (fun z => some (Value.long z)) (show (xNear i v S).1 = nLesser (ixI (xso (xNoted (xCmp i v S) S)) i) (nGreater (ixI (xso (xNoted (xCmp i v S) S)) i) (nFit (ixI (xso (xNoted (xCmp i v S) S)) i) v) (ixL (xlo (xNoted (xCmp i v S) S)) i)) (ixL (xhi (xNoted (xCmp i v S) S)) i) from (by first | (simp [xNear, xNoted, xso, xlo, xhi, xwh, xas, xbs, xts, xst, xrf, xet, xsd, eq_false c_1]; done) | (simp [xNear, xNoted, xso, xlo, xhi, xwh, xas, xbs, xts, xst, xrf, xet, xsd, c_1]; done) | contradiction | rfl))) (congrArg (xW ad cy) (show (xNear i v S).2 = xNoted (xCmp i v S) S from (by first | (simp [xNear, xNoted, xso, xlo, xhi, xwh, xas, xbs, xts, xst, xrf, xet, xsd, eq_false c_1]; done) | (simp [xNear, xNoted, xso, xlo, xhi, xwh, xas, xbs, xts, xst, xrf, xet, xsd, c_1]; done) | contradiction | rfl)))
  · refine lv_lconst (v := 0) hx hb dX1_near_13 (by decide) ?_
    exact io_lret S0 hr hlk hw dX1_near_14 (congrArg (fun z => some (Value.long z)) (show (xNear i v S).1 = 0 from (by first | (simp [xNear, xNoted, xso, xlo, xhi, xwh, xas, xbs, xts, xst, xrf, xet, xsd, eq_true c_1]; done) | (simp [xNear, xNoted, xso, xlo, xhi, xwh, xas, xbs, xts, xst, xrf, xet, xsd, c_1]; done) | contradiction | rfl))) (congrArg (xW ad cy) (show (xNear i v S).2 = xNoted (xCmp i v S) S from (by first | (simp [xNear, xNoted, xso, xlo, xhi, xwh, xas, xbs, xts, xst, xrf, xet, xsd, eq_true c_1]; done) | (simp [xNear, xNoted, xso, xlo, xhi, xwh, xas, xbs, xts, xst, xrf, xet, xsd, c_1]; done) | contradiction | rfl)))
theorem qX1_has : yX1_has.cls = RX1 ∧ yX1_has.cls ≠ "java/lang/invoke/MethodHandle" ∧ yX1_has.cls ≠ "java/lang/invoke/VarHandle" ∧ (parseMethodDescriptor yX1_has.desc).map (fun d => d.parameters.length) = some 2 := by decide +kernel
set_option maxHeartbeats 4000000 in
set_option maxRecDepth 100000 in
theorem c_X1_has (l : Launch) (D : va_G) (ad : Nat → Nat) (cy : Nat → ClassId) (A : Nat → Prop) (S : XS) (i : Int32) (v : Int64) : OM l D (xT cy) A yX1_has wsX1_has 4 88 [.ref (ad 0), .int i, .long v] (xW ad cy S) (xW ad cy ((xHas i v S).2)) (some (.int ((xHas i v S).1))) := by
  refine OM.of (cc := cX1_has) (maxL := 9) (ret := some .int) (own := RX1) (by decide) rfl rfl (Nat.le_of_ble_eq_true rfl) ?_
  intro p e s m below meth c ls S0 hr hlk hl hw
  have hx := S0.1
  have hb := S0.2.1
  have hl : lv_has ls 9 [(0, .ref (ad 0)), (1, .int i), (2, .long v)] := hl
  have hin : ∀ w ∈ wsX10, w ∈ wsX1_has := fun w h => List.mem_cons_of_mem _ (List.mem_append_right _ h)
  refine lv_aload_n hx hb dX1_has_0 rfl (lv_at hl 0 rfl) ?_
  refine lv_iload_n hx hb dX1_has_1 rfl (lv_at hl 1 rfl) ?_
  refine lv_lload_n hx hb dX1_has_2 rfl (lv_at hl 2 rfl) ?_
  refine io_call (rest := []) (w1 := (xW ad cy S)) S0 (c_X1_refusalToCompare l D ad cy A S i v) gX1_has_X1_refusalToCompare hw rfl qX1_refusalToCompare ⟨Nat.le_of_ble_eq_true rfl, Nat.le_of_ble_eq_true rfl⟩ ⟨Nat.le_of_ble_eq_true rfl, Nat.le_of_ble_eq_true rfl⟩ rfl rfl rfl hl.1 rfl (Nat.le_of_ble_eq_true rfl) dX1_has_3 (fun H locs hw => ?_)
  refine lv_istore (lv' := [(4, .int (xCmp i v S)), (0, .ref (ad 0)), (1, .int i), (2, .long v)]) hx hb dX1_has_6 hl (by decide) rfl (fun ls hl => ?_)
  refine lv_iload hx hb dX1_has_8 (lv_at hl 0 rfl) ?_
  refine zi_ge (tgt := 20) hx hb dX1_has_10 (by decide) (fun c_1 => ?_) (fun c_1 => ?_)
  · have h1 : zSl i := xCmp_in c_1
    refine lv_aload_n hx hb dX1_has_20 rfl (lv_at hl 1 rfl) ?_
    refine gd_get S0 hin hw rfl rfl 0 (by decide) (S0.2.2.2.2 (.fieldLink RX1 9 "StretchDesk" "sorts" "[I") (by decide +kernel)) rfl (v := .ref (ad 1)) rfl dX1_has_21 ?_
    refine lv_iload_n hx hb dX1_has_24 rfl (lv_at hl 2 rfl) ?_
    refine va_iald hx hb hw.2.2.1 hw.1 1 0 rfl rfl (zIn (by assumption)) dX1_has_25 ?_
    refine lv_istore (lv' := [(5, .int (ixI (xso S) i)), (4, .int (xCmp i v S)), (0, .ref (ad 0)), (1, .int i), (2, .long v)]) hx hb dX1_has_26 hl (by decide) rfl (fun ls hl => ?_)
    refine lv_iload hx hb dX1_has_28 (lv_at hl 0 rfl) ?_
    refine lv_lload_n hx hb dX1_has_30 rfl (lv_at hl 4 rfl) ?_
    refine ps_call (rest := []) S0 (c_X0_fitted l (ixI (xso S) i) v) gX1_has_X0_fitted rfl qX0_fitted ⟨Nat.le_of_ble_eq_true rfl, Nat.le_of_ble_eq_true rfl⟩ ⟨Nat.le_of_ble_eq_true rfl, Nat.le_of_ble_eq_true rfl⟩ hl.1 rfl (Nat.le_of_ble_eq_true rfl) dX1_has_31 ?_
    refine lv_lstore (lv' := [(6, .long (nFit (ixI (xso S) i) v)), (5, .int (ixI (xso S) i)), (4, .int (xCmp i v S)), (0, .ref (ad 0)), (1, .int i), (2, .long v)]) hx hb dX1_has_34 hl (by decide) rfl (fun ls hl => ?_)
    refine lv_iload hx hb dX1_has_36 (lv_at hl 1 rfl) ?_
    refine lv_lload hx hb dX1_has_38 (lv_at hl 0 rfl) ?_
    refine lv_aload_n hx hb dX1_has_40 rfl (lv_at hl 3 rfl) ?_
    refine gd_get S0 hin hw rfl rfl 1 (by decide) (S0.2.2.2.2 (.fieldLink RX1 13 "StretchDesk" "lows" "[J") (by decide +kernel)) rfl (v := .ref (ad 2)) rfl dX1_has_41 ?_
    refine lv_iload_n hx hb dX1_has_44 rfl (lv_at hl 4 rfl) ?_
    refine va_lald hx hb hw.2.2.1 hw.1 2 1 rfl rfl (zIn (by assumption)) dX1_has_45 ?_
    refine ps_call (rest := []) S0 (c_X0_isLess l (ixI (xso S) i) (nFit (ixI (xso S) i) v) (ixL (xlo S) i)) gX1_has_X0_isLess rfl qX0_isLess ⟨Nat.le_of_ble_eq_true rfl, Nat.le_of_ble_eq_true rfl⟩ ⟨Nat.le_of_ble_eq_true rfl, Nat.le_of_ble_eq_true rfl⟩ hl.1 rfl (Nat.le_of_ble_eq_true rfl) dX1_has_46 ?_
    refine zb_ne (P := nLess (ixI (xso S) i) (nFit (ixI (xso S) i) v) (ixL (xlo S) i)) (tgt := 68) hx hb dX1_has_49 (by decide) (fun c_2 => ?_) (fun c_2 => ?_)
    · refine lv_iconst (v := 1) hx hb dX1_has_68 (by decide) ?_
      refine lv_goto (tgt := 73) hx hb dX1_has_69 (by decide) ?_
      refine lv_istore (lv' := [(8, .int 1), (6, .long (nFit (ixI (xso S) i) v)), (5, .int (ixI (xso S) i)), (4, .int (xCmp i v S)), (0, .ref (ad 0)), (1, .int i), (2, .long v)]) hx hb dX1_has_73 hl (by decide) rfl (fun ls hl => ?_)
      refine lv_aload_n hx hb dX1_has_75 rfl (lv_at hl 4 rfl) ?_
      refine lv_iload hx hb dX1_has_76 (lv_at hl 0 rfl) ?_
      refine zi_eq (tgt := 85) hx hb dX1_has_78 (by decide) (fun q => absurd q (by decide)) (fun _ => ?_)
      refine lv_iconst (v := 0) hx hb dX1_has_81 (by decide) ?_
      refine lv_goto (tgt := 86) hx hb dX1_has_82 (by decide) ?_
      refine io_call (rest := []) (w1 := (xW ad cy (xNoted 0 S))) S0 (c_X1_noted l D ad cy A S 0) gX1_has_X1_noted hw rfl qX1_noted ⟨Nat.le_of_ble_eq_true rfl, Nat.le_of_ble_eq_true rfl⟩ ⟨Nat.le_of_ble_eq_true rfl, Nat.le_of_ble_eq_true rfl⟩ rfl rfl rfl hl.1 rfl (Nat.le_of_ble_eq_true rfl) dX1_has_86 (fun H locs hw => ?_)
      exact io_iret S0 hr hlk hw dX1_has_89 (congrArg (fun z => some (Value.int z)) (show (xHas i v S).1 = 0 from (by first | (simp [xHas, xN, xso, xlo, xhi, xwh, xas, xbs, xts, xst, xrf, xet, xsd, eq_false c_1, eq_true c_2]; done) | (simp [xHas, xN, xso, xlo, xhi, xwh, xas, xbs, xts, xst, xrf, xet, xsd, c_1, c_2]; done) | contradiction | rfl))) (congrArg (xW ad cy) (show (xHas i v S).2 = xNoted 0 S from (by first | (simp [xHas, xN, xso, xlo, xhi, xwh, xas, xbs, xts, xst, xrf, xet, xsd, eq_false c_1, eq_true c_2]; done) | (simp [xHas, xN, xso, xlo, xhi, xwh, xas, xbs, xts, xst, xrf, xet, xsd, c_1, c_2]; done) | contradiction | rfl)))
    · refine lv_iload hx hb dX1_has_52 (lv_at hl 1 rfl) ?_
      refine lv_aload_n hx hb dX1_has_54 rfl (lv_at hl 3 rfl) ?_
      refine gd_get S0 hin hw rfl rfl 2 (by decide) (S0.2.2.2.2 (.fieldLink RX1 17 "StretchDesk" "highs" "[J") (by decide +kernel)) rfl (v := .ref (ad 3)) rfl dX1_has_55 ?_
      refine lv_iload_n hx hb dX1_has_58 rfl (lv_at hl 4 rfl) ?_
      refine va_lald hx hb hw.2.2.1 hw.1 3 2 rfl rfl (zIn (by assumption)) dX1_has_59 ?_
      refine lv_lload hx hb dX1_has_60 (lv_at hl 0 rfl) ?_
      refine ps_call (rest := []) S0 (c_X0_isLess l (ixI (xso S) i) (ixL (xhi S) i) (nFit (ixI (xso S) i) v)) gX1_has_X0_isLess rfl qX0_isLess ⟨Nat.le_of_ble_eq_true rfl, Nat.le_of_ble_eq_true rfl⟩ ⟨Nat.le_of_ble_eq_true rfl, Nat.le_of_ble_eq_true rfl⟩ hl.1 rfl (Nat.le_of_ble_eq_true rfl) dX1_has_62 ?_
      refine zb_eq (P := nLess (ixI (xso S) i) (ixL (xhi S) i) (nFit (ixI (xso S) i) v)) (tgt := 72) hx hb dX1_has_65 (by decide) (fun c_3 => ?_) (fun c_3 => ?_)
      · refine lv_iconst (v := 0) hx hb dX1_has_72 (by decide) ?_
        refine lv_istore (lv' := [(8, .int 0), (6, .long (nFit (ixI (xso S) i) v)), (5, .int (ixI (xso S) i)), (4, .int (xCmp i v S)), (0, .ref (ad 0)), (1, .int i), (2, .long v)]) hx hb dX1_has_73 hl (by decide) rfl (fun ls hl => ?_)
        refine lv_aload_n hx hb dX1_has_75 rfl (lv_at hl 4 rfl) ?_
        refine lv_iload hx hb dX1_has_76 (lv_at hl 0 rfl) ?_
        refine zi_eq (tgt := 85) hx hb dX1_has_78 (by decide) (fun _ => ?_) (fun q => absurd (by decide) q)
        refine lv_iconst (v := 1) hx hb dX1_has_85 (by decide) ?_
        refine io_call (rest := []) (w1 := (xW ad cy (xNoted 1 S))) S0 (c_X1_noted l D ad cy A S 1) gX1_has_X1_noted hw rfl qX1_noted ⟨Nat.le_of_ble_eq_true rfl, Nat.le_of_ble_eq_true rfl⟩ ⟨Nat.le_of_ble_eq_true rfl, Nat.le_of_ble_eq_true rfl⟩ rfl rfl rfl hl.1 rfl (Nat.le_of_ble_eq_true rfl) dX1_has_86 (fun H locs hw => ?_)
        exact io_iret S0 hr hlk hw dX1_has_89 (congrArg (fun z => some (Value.int z)) (show (xHas i v S).1 = 1 from (by first | (simp [xHas, xN, xso, xlo, xhi, xwh, xas, xbs, xts, xst, xrf, xet, xsd, eq_false c_1, eq_false c_2, eq_false c_3]; done) | (simp [xHas, xN, xso, xlo, xhi, xwh, xas, xbs, xts, xst, xrf, xet, xsd, c_1, c_2, c_3]; done) | contradiction | rfl))) (congrArg (xW ad cy) (show (xHas i v S).2 = xNoted 1 S from (by first | (simp [xHas, xN, xso, xlo, xhi, xwh, xas, xbs, xts, xst, xrf, xet, xsd, eq_false c_1, eq_false c_2, eq_false c_3]; done) | (simp [xHas, xN, xso, xlo, xhi, xwh, xas, xbs, xts, xst, xrf, xet, xsd, c_1, c_2, c_3]; done) | contradiction | rfl)))
      · refine lv_iconst (v := 1) hx hb dX1_has_68 (by decide) ?_
        refine lv_goto (tgt := 73) hx hb dX1_has_69 (by decide) ?_
        refine lv_istore (lv' := [(8, .int 1), (6, .long (nFit (ixI (xso S) i) v)), (5, .int (ixI (xso S) i)), (4, .int (xCmp i v S)), (0, .ref (ad 0)), (1, .int i), (2, .long v)]) hx hb dX1_has_73 hl (by decide) rfl (fun ls hl => ?_)
        refine lv_aload_n hx hb dX1_has_75 rfl (lv_at hl 4 rfl) ?_
        refine lv_iload hx hb dX1_has_76 (lv_at hl 0 rfl) ?_
        refine zi_eq (tgt := 85) hx hb dX1_has_78 (by decide) (fun q => absurd q (by decide)) (fun _ => ?_)
        refine lv_iconst (v := 0) hx hb dX1_has_81 (by decide) ?_
        refine lv_goto (tgt := 86) hx hb dX1_has_82 (by decide) ?_
        refine io_call (rest := []) (w1 := (xW ad cy (xNoted 0 S))) S0 (c_X1_noted l D ad cy A S 0) gX1_has_X1_noted hw rfl qX1_noted ⟨Nat.le_of_ble_eq_true rfl, Nat.le_of_ble_eq_true rfl⟩ ⟨Nat.le_of_ble_eq_true rfl, Nat.le_of_ble_eq_true rfl⟩ rfl rfl rfl hl.1 rfl (Nat.le_of_ble_eq_true rfl) dX1_has_86 (fun H locs hw => ?_)
        exact io_iret S0 hr hlk hw dX1_has_89 (congrArg (fun z => some (Value.int z)) (show (xHas i v S).1 = 0 from (by first | (simp [xHas, xN, xso, xlo, xhi, xwh, xas, xbs, xts, xst, xrf, xet, xsd, eq_false c_1, eq_false c_2, eq_true c_3]; done) | (simp [xHas, xN, xso, xlo, xhi, xwh, xas, xbs, xts, xst, xrf, xet, xsd, c_1, c_2, c_3]; done) | contradiction | rfl))) (congrArg (xW ad cy) (show (xHas i v S).2 = xNoted 0 S from (by first | (simp [xHas, xN, xso, xlo, xhi, xwh, xas, xbs, xts, xst, xrf, xet, xsd, eq_false c_1, eq_false c_2, eq_true c_3]; done) | (simp [xHas, xN, xso, xlo, xhi, xwh, xas, xbs, xts, xst, xrf, xet, xsd, c_1, c_2, c_3]; done) | contradiction | rfl)))
  · refine lv_aload_n hx hb dX1_has_13 rfl (lv_at hl 1 rfl) ?_
    refine lv_iload hx hb dX1_has_14 (lv_at hl 0 rfl) ?_
    refine io_call (rest := []) (w1 := (xW ad cy (xNoted (xCmp i v S) S))) S0 (c_X1_noted l D ad cy A S (xCmp i v S)) gX1_has_X1_noted hw rfl qX1_noted ⟨Nat.le_of_ble_eq_true rfl, Nat.le_of_ble_eq_true rfl⟩ ⟨Nat.le_of_ble_eq_true rfl, Nat.le_of_ble_eq_true rfl⟩ rfl rfl rfl hl.1 rfl (Nat.le_of_ble_eq_true rfl) dX1_has_16 (fun H locs hw => ?_)
    exact io_iret S0 hr hlk hw dX1_has_19 (congrArg (fun z => some (Value.int z)) (show (xHas i v S).1 = (xCmp i v S) from (by first | (simp [xHas, xN, xso, xlo, xhi, xwh, xas, xbs, xts, xst, xrf, xet, xsd, eq_true c_1]; done) | (simp [xHas, xN, xso, xlo, xhi, xwh, xas, xbs, xts, xst, xrf, xet, xsd, c_1]; done) | contradiction | rfl))) (congrArg (xW ad cy) (show (xHas i v S).2 = xNoted (xCmp i v S) S from (by first | (simp [xHas, xN, xso, xlo, xhi, xwh, xas, xbs, xts, xst, xrf, xet, xsd, eq_true c_1]; done) | (simp [xHas, xN, xso, xlo, xhi, xwh, xas, xbs, xts, xst, xrf, xet, xsd, c_1]; done) | contradiction | rfl)))
theorem qX1_alike : yX1_alike.cls = RX1 ∧ yX1_alike.cls ≠ "java/lang/invoke/MethodHandle" ∧ yX1_alike.cls ≠ "java/lang/invoke/VarHandle" ∧ (parseMethodDescriptor yX1_alike.desc).map (fun d => d.parameters.length) = some 2 := by decide +kernel
set_option maxHeartbeats 4000000 in
set_option maxRecDepth 100000 in
theorem c_X1_alike (l : Launch) (D : va_G) (ad : Nat → Nat) (cy : Nat → ClassId) (A : Nat → Prop) (S : XS) (a : Int32) (b : Int32) : OM l D (xT cy) A yX1_alike wsX1_alike 1 21 [.ref (ad 0), .int a, .int b] (xW ad cy S) (xW ad cy ((xAlike a b S).2)) (some (.int ((xAlike a b S).1))) := by
  refine OM.of (cc := cX1_alike) (maxL := 4) (ret := some .int) (own := RX1) (by decide) rfl rfl (Nat.le_of_ble_eq_true rfl) ?_
  intro p e s m below meth c ls S0 hr hlk hl hw
  have hx := S0.1
  have hb := S0.2.1
  have hl : lv_has ls 4 [(0, .ref (ad 0)), (1, .int a), (2, .int b)] := hl
  have hin : ∀ w ∈ wsX10, w ∈ wsX1_alike := fun w h => List.mem_cons_of_mem _ (List.mem_append_right _ h)
  refine lv_iload_n hx hb dX1_alike_0 rfl (lv_at hl 1 rfl) ?_
  refine ps_call (rest := []) S0 (c_X1_isSlot l a) gX1_alike_X1_isSlot rfl qX1_isSlot ⟨Nat.le_of_ble_eq_true rfl, Nat.le_of_ble_eq_true rfl⟩ ⟨Nat.le_of_ble_eq_true rfl, Nat.le_of_ble_eq_true rfl⟩ hl.1 rfl (Nat.le_of_ble_eq_true rfl) dX1_alike_1 ?_
  refine zb_eq (P := zSl a) (tgt := 14) hx hb dX1_alike_4 (by decide) (fun c_1 => ?_) (fun c_1 => ?_)
  · refine lv_aload_n hx hb dX1_alike_14 rfl (lv_at hl 0 rfl) ?_
    refine lv_bipush (v := -2) hx hb dX1_alike_15 (by decide) ?_
    refine io_call (rest := []) (w1 := (xW ad cy (xNoted (-2) S))) S0 (c_X1_noted l D ad cy A S (-2)) gX1_alike_X1_noted hw rfl qX1_noted ⟨Nat.le_of_ble_eq_true rfl, Nat.le_of_ble_eq_true rfl⟩ ⟨Nat.le_of_ble_eq_true rfl, Nat.le_of_ble_eq_true rfl⟩ rfl rfl rfl hl.1 rfl (Nat.le_of_ble_eq_true rfl) dX1_alike_17 (fun H locs hw => ?_)
    exact io_iret S0 hr hlk hw dX1_alike_20 (congrArg (fun z => some (Value.int z)) (show (xAlike a b S).1 = (-2) from (by first | (simp [xAlike, xN, xso, xlo, xhi, xwh, xas, xbs, xts, xst, xrf, xet, xsd, eq_false c_1]; done) | (simp [xAlike, xN, xso, xlo, xhi, xwh, xas, xbs, xts, xst, xrf, xet, xsd, c_1]; done) | contradiction | rfl))) (congrArg (xW ad cy) (show (xAlike a b S).2 = xNoted (-2) S from (by first | (simp [xAlike, xN, xso, xlo, xhi, xwh, xas, xbs, xts, xst, xrf, xet, xsd, eq_false c_1]; done) | (simp [xAlike, xN, xso, xlo, xhi, xwh, xas, xbs, xts, xst, xrf, xet, xsd, c_1]; done) | contradiction | rfl)))
  · refine lv_iload_n hx hb dX1_alike_7 rfl (lv_at hl 2 rfl) ?_
    refine ps_call (rest := []) S0 (c_X1_isSlot l b) gX1_alike_X1_isSlot rfl qX1_isSlot ⟨Nat.le_of_ble_eq_true rfl, Nat.le_of_ble_eq_true rfl⟩ ⟨Nat.le_of_ble_eq_true rfl, Nat.le_of_ble_eq_true rfl⟩ hl.1 rfl (Nat.le_of_ble_eq_true rfl) dX1_alike_8 ?_
    refine zb_ne (P := zSl b) (tgt := 21) hx hb dX1_alike_11 (by decide) (fun c_2 => ?_) (fun c_2 => ?_)
    · refine lv_aload_n hx hb dX1_alike_21 rfl (lv_at hl 0 rfl) ?_
      refine gd_get S0 hin hw rfl rfl 0 (by decide) (S0.2.2.2.2 (.fieldLink RX1 9 "StretchDesk" "sorts" "[I") (by decide +kernel)) rfl (v := .ref (ad 1)) rfl dX1_alike_22 ?_
      refine lv_iload_n hx hb dX1_alike_25 rfl (lv_at hl 1 rfl) ?_
      refine va_iald hx hb hw.2.2.1 hw.1 1 0 rfl rfl (zIn (by assumption)) dX1_alike_26 ?_
      refine lv_iconst (v := -1) hx hb dX1_alike_27 (by decide) ?_
      refine zc_eq (tgt := 41) hx hb dX1_alike_28 (by decide) (fun c_3 => ?_) (fun c_3 => ?_)
      · refine lv_aload_n hx hb dX1_alike_41 rfl (lv_at hl 0 rfl) ?_
        refine lv_bipush (v := -3) hx hb dX1_alike_42 (by decide) ?_
        refine io_call (rest := []) (w1 := (xW ad cy (xNoted (-3) S))) S0 (c_X1_noted l D ad cy A S (-3)) gX1_alike_X1_noted hw rfl qX1_noted ⟨Nat.le_of_ble_eq_true rfl, Nat.le_of_ble_eq_true rfl⟩ ⟨Nat.le_of_ble_eq_true rfl, Nat.le_of_ble_eq_true rfl⟩ rfl rfl rfl hl.1 rfl (Nat.le_of_ble_eq_true rfl) dX1_alike_44 (fun H locs hw => ?_)
        exact io_iret S0 hr hlk hw dX1_alike_47 (congrArg (fun z => some (Value.int z)) (show (xAlike a b S).1 = (-3) from (by first | (simp [xAlike, xN, xso, xlo, xhi, xwh, xas, xbs, xts, xst, xrf, xet, xsd, eq_true c_1, eq_true c_2, eq_true c_3]; done) | (simp [xAlike, xN, xso, xlo, xhi, xwh, xas, xbs, xts, xst, xrf, xet, xsd, c_1, c_2, c_3]; done) | contradiction | rfl))) (congrArg (xW ad cy) (show (xAlike a b S).2 = xNoted (-3) S from (by first | (simp [xAlike, xN, xso, xlo, xhi, xwh, xas, xbs, xts, xst, xrf, xet, xsd, eq_true c_1, eq_true c_2, eq_true c_3]; done) | (simp [xAlike, xN, xso, xlo, xhi, xwh, xas, xbs, xts, xst, xrf, xet, xsd, c_1, c_2, c_3]; done) | contradiction | rfl)))
      · refine lv_aload_n hx hb dX1_alike_31 rfl (lv_at hl 0 rfl) ?_
        refine gd_get S0 hin hw rfl rfl 0 (by decide) (S0.2.2.2.2 (.fieldLink RX1 9 "StretchDesk" "sorts" "[I") (by decide +kernel)) rfl (v := .ref (ad 1)) rfl dX1_alike_32 ?_
        refine lv_iload_n hx hb dX1_alike_35 rfl (lv_at hl 2 rfl) ?_
        refine va_iald hx hb hw.2.2.1 hw.1 1 0 rfl rfl (zIn (by assumption)) dX1_alike_36 ?_
        refine lv_iconst (v := -1) hx hb dX1_alike_37 (by decide) ?_
        refine zc_ne (tgt := 48) hx hb dX1_alike_38 (by decide) (fun c_4 => ?_) (fun c_4 => ?_)
        · refine lv_aload_n hx hb dX1_alike_48 rfl (lv_at hl 0 rfl) ?_
          refine gd_get S0 hin hw rfl rfl 0 (by decide) (S0.2.2.2.2 (.fieldLink RX1 9 "StretchDesk" "sorts" "[I") (by decide +kernel)) rfl (v := .ref (ad 1)) rfl dX1_alike_49 ?_
          refine lv_iload_n hx hb dX1_alike_52 rfl (lv_at hl 1 rfl) ?_
          refine va_iald hx hb hw.2.2.1 hw.1 1 0 rfl rfl (zIn (by assumption)) dX1_alike_53 ?_
          refine lv_aload_n hx hb dX1_alike_54 rfl (lv_at hl 0 rfl) ?_
          refine gd_get S0 hin hw rfl rfl 0 (by decide) (S0.2.2.2.2 (.fieldLink RX1 9 "StretchDesk" "sorts" "[I") (by decide +kernel)) rfl (v := .ref (ad 1)) rfl dX1_alike_55 ?_
          refine lv_iload_n hx hb dX1_alike_58 rfl (lv_at hl 2 rfl) ?_
          refine va_iald hx hb hw.2.2.1 hw.1 1 0 rfl rfl (zIn (by assumption)) dX1_alike_59 ?_
          refine zc_ne (tgt := 99) hx hb dX1_alike_60 (by decide) (fun c_5 => ?_) (fun c_5 => ?_)
          · refine lv_iconst (v := 0) hx hb dX1_alike_99 (by decide) ?_
            refine lv_istore_n (lv' := [(3, .int 0), (0, .ref (ad 0)), (1, .int a), (2, .int b)]) hx hb dX1_alike_100 rfl hl (by decide) rfl (fun ls hl => ?_)
            refine lv_aload_n hx hb dX1_alike_101 rfl (lv_at hl 1 rfl) ?_
            refine lv_iload_n hx hb dX1_alike_102 rfl (lv_at hl 0 rfl) ?_
            refine zi_eq (tgt := 110) hx hb dX1_alike_103 (by decide) (fun _ => ?_) (fun q => absurd (by decide) q)
            refine lv_iconst (v := 0) hx hb dX1_alike_110 (by decide) ?_
            refine io_call (rest := []) (w1 := (xW ad cy (xNoted 0 S))) S0 (c_X1_noted l D ad cy A S 0) gX1_alike_X1_noted hw rfl qX1_noted ⟨Nat.le_of_ble_eq_true rfl, Nat.le_of_ble_eq_true rfl⟩ ⟨Nat.le_of_ble_eq_true rfl, Nat.le_of_ble_eq_true rfl⟩ rfl rfl rfl hl.1 rfl (Nat.le_of_ble_eq_true rfl) dX1_alike_111 (fun H locs hw => ?_)
            exact io_iret S0 hr hlk hw dX1_alike_114 (congrArg (fun z => some (Value.int z)) (show (xAlike a b S).1 = 0 from (by first | (simp [xAlike, xN, xso, xlo, xhi, xwh, xas, xbs, xts, xst, xrf, xet, xsd, eq_true c_1, eq_true c_2, eq_false c_3, eq_false c_4, eq_false c_5]; done) | (simp [xAlike, xN, xso, xlo, xhi, xwh, xas, xbs, xts, xst, xrf, xet, xsd, c_1, c_2, c_3, c_4, c_5]; done) | contradiction | rfl))) (congrArg (xW ad cy) (show (xAlike a b S).2 = xNoted 0 S from (by first | (simp [xAlike, xN, xso, xlo, xhi, xwh, xas, xbs, xts, xst, xrf, xet, xsd, eq_true c_1, eq_true c_2, eq_false c_3, eq_false c_4, eq_false c_5]; done) | (simp [xAlike, xN, xso, xlo, xhi, xwh, xas, xbs, xts, xst, xrf, xet, xsd, c_1, c_2, c_3, c_4, c_5]; done) | contradiction | rfl)))
          · refine lv_aload_n hx hb dX1_alike_63 rfl (lv_at hl 0 rfl) ?_
            refine gd_get S0 hin hw rfl rfl 1 (by decide) (S0.2.2.2.2 (.fieldLink RX1 13 "StretchDesk" "lows" "[J") (by decide +kernel)) rfl (v := .ref (ad 2)) rfl dX1_alike_64 ?_
            refine lv_iload_n hx hb dX1_alike_67 rfl (lv_at hl 1 rfl) ?_
            refine va_lald hx hb hw.2.2.1 hw.1 2 1 rfl rfl (zIn (by assumption)) dX1_alike_68 ?_
            refine lv_aload_n hx hb dX1_alike_69 rfl (lv_at hl 0 rfl) ?_
            refine gd_get S0 hin hw rfl rfl 1 (by decide) (S0.2.2.2.2 (.fieldLink RX1 13 "StretchDesk" "lows" "[J") (by decide +kernel)) rfl (v := .ref (ad 2)) rfl dX1_alike_70 ?_
            refine lv_iload_n hx hb dX1_alike_73 rfl (lv_at hl 2 rfl) ?_
            refine va_lald hx hb hw.2.2.1 hw.1 2 1 rfl rfl (zIn (by assumption)) dX1_alike_74 ?_
            refine zl_ne (tgt := 99) hx hb dX1_alike_75 dX1_alike_76 (by decide) (fun c_6 => ?_) (fun c_6 => ?_)
            · refine lv_iconst (v := 0) hx hb dX1_alike_99 (by decide) ?_
              refine lv_istore_n (lv' := [(3, .int 0), (0, .ref (ad 0)), (1, .int a), (2, .int b)]) hx hb dX1_alike_100 rfl hl (by decide) rfl (fun ls hl => ?_)
              refine lv_aload_n hx hb dX1_alike_101 rfl (lv_at hl 1 rfl) ?_
              refine lv_iload_n hx hb dX1_alike_102 rfl (lv_at hl 0 rfl) ?_
              refine zi_eq (tgt := 110) hx hb dX1_alike_103 (by decide) (fun _ => ?_) (fun q => absurd (by decide) q)
              refine lv_iconst (v := 0) hx hb dX1_alike_110 (by decide) ?_
              refine io_call (rest := []) (w1 := (xW ad cy (xNoted 0 S))) S0 (c_X1_noted l D ad cy A S 0) gX1_alike_X1_noted hw rfl qX1_noted ⟨Nat.le_of_ble_eq_true rfl, Nat.le_of_ble_eq_true rfl⟩ ⟨Nat.le_of_ble_eq_true rfl, Nat.le_of_ble_eq_true rfl⟩ rfl rfl rfl hl.1 rfl (Nat.le_of_ble_eq_true rfl) dX1_alike_111 (fun H locs hw => ?_)
              exact io_iret S0 hr hlk hw dX1_alike_114 (congrArg (fun z => some (Value.int z)) (show (xAlike a b S).1 = 0 from (by first | (simp [xAlike, xN, xso, xlo, xhi, xwh, xas, xbs, xts, xst, xrf, xet, xsd, eq_true c_1, eq_true c_2, eq_false c_3, eq_false c_4, eq_true c_5, eq_false c_6]; done) | (simp [xAlike, xN, xso, xlo, xhi, xwh, xas, xbs, xts, xst, xrf, xet, xsd, c_1, c_2, c_3, c_4, c_5, c_6]; done) | contradiction | rfl))) (congrArg (xW ad cy) (show (xAlike a b S).2 = xNoted 0 S from (by first | (simp [xAlike, xN, xso, xlo, xhi, xwh, xas, xbs, xts, xst, xrf, xet, xsd, eq_true c_1, eq_true c_2, eq_false c_3, eq_false c_4, eq_true c_5, eq_false c_6]; done) | (simp [xAlike, xN, xso, xlo, xhi, xwh, xas, xbs, xts, xst, xrf, xet, xsd, c_1, c_2, c_3, c_4, c_5, c_6]; done) | contradiction | rfl)))
            · refine lv_aload_n hx hb dX1_alike_79 rfl (lv_at hl 0 rfl) ?_
              refine gd_get S0 hin hw rfl rfl 2 (by decide) (S0.2.2.2.2 (.fieldLink RX1 17 "StretchDesk" "highs" "[J") (by decide +kernel)) rfl (v := .ref (ad 3)) rfl dX1_alike_80 ?_
              refine lv_iload_n hx hb dX1_alike_83 rfl (lv_at hl 1 rfl) ?_
              refine va_lald hx hb hw.2.2.1 hw.1 3 2 rfl rfl (zIn (by assumption)) dX1_alike_84 ?_
              refine lv_aload_n hx hb dX1_alike_85 rfl (lv_at hl 0 rfl) ?_
              refine gd_get S0 hin hw rfl rfl 2 (by decide) (S0.2.2.2.2 (.fieldLink RX1 17 "StretchDesk" "highs" "[J") (by decide +kernel)) rfl (v := .ref (ad 3)) rfl dX1_alike_86 ?_
              refine lv_iload_n hx hb dX1_alike_89 rfl (lv_at hl 2 rfl) ?_
              refine va_lald hx hb hw.2.2.1 hw.1 3 2 rfl rfl (zIn (by assumption)) dX1_alike_90 ?_
              refine zl_ne (tgt := 99) hx hb dX1_alike_91 dX1_alike_92 (by decide) (fun c_7 => ?_) (fun c_7 => ?_)
              · refine lv_iconst (v := 0) hx hb dX1_alike_99 (by decide) ?_
                refine lv_istore_n (lv' := [(3, .int 0), (0, .ref (ad 0)), (1, .int a), (2, .int b)]) hx hb dX1_alike_100 rfl hl (by decide) rfl (fun ls hl => ?_)
                refine lv_aload_n hx hb dX1_alike_101 rfl (lv_at hl 1 rfl) ?_
                refine lv_iload_n hx hb dX1_alike_102 rfl (lv_at hl 0 rfl) ?_
                refine zi_eq (tgt := 110) hx hb dX1_alike_103 (by decide) (fun _ => ?_) (fun q => absurd (by decide) q)
                refine lv_iconst (v := 0) hx hb dX1_alike_110 (by decide) ?_
                refine io_call (rest := []) (w1 := (xW ad cy (xNoted 0 S))) S0 (c_X1_noted l D ad cy A S 0) gX1_alike_X1_noted hw rfl qX1_noted ⟨Nat.le_of_ble_eq_true rfl, Nat.le_of_ble_eq_true rfl⟩ ⟨Nat.le_of_ble_eq_true rfl, Nat.le_of_ble_eq_true rfl⟩ rfl rfl rfl hl.1 rfl (Nat.le_of_ble_eq_true rfl) dX1_alike_111 (fun H locs hw => ?_)
                exact io_iret S0 hr hlk hw dX1_alike_114 (congrArg (fun z => some (Value.int z)) (show (xAlike a b S).1 = 0 from (by first | (simp [xAlike, xN, xso, xlo, xhi, xwh, xas, xbs, xts, xst, xrf, xet, xsd, eq_true c_1, eq_true c_2, eq_false c_3, eq_false c_4, eq_true c_5, eq_true c_6, eq_false c_7]; done) | (simp [xAlike, xN, xso, xlo, xhi, xwh, xas, xbs, xts, xst, xrf, xet, xsd, c_1, c_2, c_3, c_4, c_5, c_6, c_7]; done) | contradiction | rfl))) (congrArg (xW ad cy) (show (xAlike a b S).2 = xNoted 0 S from (by first | (simp [xAlike, xN, xso, xlo, xhi, xwh, xas, xbs, xts, xst, xrf, xet, xsd, eq_true c_1, eq_true c_2, eq_false c_3, eq_false c_4, eq_true c_5, eq_true c_6, eq_false c_7]; done) | (simp [xAlike, xN, xso, xlo, xhi, xwh, xas, xbs, xts, xst, xrf, xet, xsd, c_1, c_2, c_3, c_4, c_5, c_6, c_7]; done) | contradiction | rfl)))
              · refine lv_iconst (v := 1) hx hb dX1_alike_95 (by decide) ?_
                refine lv_goto (tgt := 100) hx hb dX1_alike_96 (by decide) ?_
                refine lv_istore_n (lv' := [(3, .int 1), (0, .ref (ad 0)), (1, .int a), (2, .int b)]) hx hb dX1_alike_100 rfl hl (by decide) rfl (fun ls hl => ?_)
                refine lv_aload_n hx hb dX1_alike_101 rfl (lv_at hl 1 rfl) ?_
                refine lv_iload_n hx hb dX1_alike_102 rfl (lv_at hl 0 rfl) ?_
                refine zi_eq (tgt := 110) hx hb dX1_alike_103 (by decide) (fun q => absurd q (by decide)) (fun _ => ?_)
                refine lv_iconst (v := 1) hx hb dX1_alike_106 (by decide) ?_
                refine lv_goto (tgt := 111) hx hb dX1_alike_107 (by decide) ?_
                refine io_call (rest := []) (w1 := (xW ad cy (xNoted 1 S))) S0 (c_X1_noted l D ad cy A S 1) gX1_alike_X1_noted hw rfl qX1_noted ⟨Nat.le_of_ble_eq_true rfl, Nat.le_of_ble_eq_true rfl⟩ ⟨Nat.le_of_ble_eq_true rfl, Nat.le_of_ble_eq_true rfl⟩ rfl rfl rfl hl.1 rfl (Nat.le_of_ble_eq_true rfl) dX1_alike_111 (fun H locs hw => ?_)
                exact io_iret S0 hr hlk hw dX1_alike_114 (congrArg (fun z => some (Value.int z)) (show (xAlike a b S).1 = 1 from (by first | (simp [xAlike, xN, xso, xlo, xhi, xwh, xas, xbs, xts, xst, xrf, xet, xsd, eq_true c_1, eq_true c_2, eq_false c_3, eq_false c_4, eq_true c_5, eq_true c_6, eq_true c_7]; done) | (simp [xAlike, xN, xso, xlo, xhi, xwh, xas, xbs, xts, xst, xrf, xet, xsd, c_1, c_2, c_3, c_4, c_5, c_6, c_7]; done) | contradiction | rfl))) (congrArg (xW ad cy) (show (xAlike a b S).2 = xNoted 1 S from (by first | (simp [xAlike, xN, xso, xlo, xhi, xwh, xas, xbs, xts, xst, xrf, xet, xsd, eq_true c_1, eq_true c_2, eq_false c_3, eq_false c_4, eq_true c_5, eq_true c_6, eq_true c_7]; done) | (simp [xAlike, xN, xso, xlo, xhi, xwh, xas, xbs, xts, xst, xrf, xet, xsd, c_1, c_2, c_3, c_4, c_5, c_6, c_7]; done) | contradiction | rfl)))
        · refine lv_aload_n hx hb dX1_alike_41 rfl (lv_at hl 0 rfl) ?_
          refine lv_bipush (v := -3) hx hb dX1_alike_42 (by decide) ?_
          refine io_call (rest := []) (w1 := (xW ad cy (xNoted (-3) S))) S0 (c_X1_noted l D ad cy A S (-3)) gX1_alike_X1_noted hw rfl qX1_noted ⟨Nat.le_of_ble_eq_true rfl, Nat.le_of_ble_eq_true rfl⟩ ⟨Nat.le_of_ble_eq_true rfl, Nat.le_of_ble_eq_true rfl⟩ rfl rfl rfl hl.1 rfl (Nat.le_of_ble_eq_true rfl) dX1_alike_44 (fun H locs hw => ?_)
          exact io_iret S0 hr hlk hw dX1_alike_47 (congrArg (fun z => some (Value.int z)) (show (xAlike a b S).1 = (-3) from (by first | (simp [xAlike, xN, xso, xlo, xhi, xwh, xas, xbs, xts, xst, xrf, xet, xsd, eq_true c_1, eq_true c_2, eq_false c_3, eq_true c_4]; done) | (simp [xAlike, xN, xso, xlo, xhi, xwh, xas, xbs, xts, xst, xrf, xet, xsd, c_1, c_2, c_3, c_4]; done) | contradiction | rfl))) (congrArg (xW ad cy) (show (xAlike a b S).2 = xNoted (-3) S from (by first | (simp [xAlike, xN, xso, xlo, xhi, xwh, xas, xbs, xts, xst, xrf, xet, xsd, eq_true c_1, eq_true c_2, eq_false c_3, eq_true c_4]; done) | (simp [xAlike, xN, xso, xlo, xhi, xwh, xas, xbs, xts, xst, xrf, xet, xsd, c_1, c_2, c_3, c_4]; done) | contradiction | rfl)))
    · refine lv_aload_n hx hb dX1_alike_14 rfl (lv_at hl 0 rfl) ?_
      refine lv_bipush (v := -2) hx hb dX1_alike_15 (by decide) ?_
      refine io_call (rest := []) (w1 := (xW ad cy (xNoted (-2) S))) S0 (c_X1_noted l D ad cy A S (-2)) gX1_alike_X1_noted hw rfl qX1_noted ⟨Nat.le_of_ble_eq_true rfl, Nat.le_of_ble_eq_true rfl⟩ ⟨Nat.le_of_ble_eq_true rfl, Nat.le_of_ble_eq_true rfl⟩ rfl rfl rfl hl.1 rfl (Nat.le_of_ble_eq_true rfl) dX1_alike_17 (fun H locs hw => ?_)
      exact io_iret S0 hr hlk hw dX1_alike_20 (congrArg (fun z => some (Value.int z)) (show (xAlike a b S).1 = (-2) from (by first | (simp [xAlike, xN, xso, xlo, xhi, xwh, xas, xbs, xts, xst, xrf, xet, xsd, eq_true c_1, eq_false c_2]; done) | (simp [xAlike, xN, xso, xlo, xhi, xwh, xas, xbs, xts, xst, xrf, xet, xsd, c_1, c_2]; done) | contradiction | rfl))) (congrArg (xW ad cy) (show (xAlike a b S).2 = xNoted (-2) S from (by first | (simp [xAlike, xN, xso, xlo, xhi, xwh, xas, xbs, xts, xst, xrf, xet, xsd, eq_true c_1, eq_false c_2]; done) | (simp [xAlike, xN, xso, xlo, xhi, xwh, xas, xbs, xts, xst, xrf, xet, xsd, c_1, c_2]; done) | contradiction | rfl)))
theorem qX1_step : yX1_step.cls = RX1 ∧ yX1_step.cls ≠ "java/lang/invoke/MethodHandle" ∧ yX1_step.cls ≠ "java/lang/invoke/VarHandle" ∧ (parseMethodDescriptor yX1_step.desc).map (fun d => d.parameters.length) = some 5 := by decide +kernel
set_option maxHeartbeats 4000000 in
set_option maxRecDepth 100000 in
theorem c_X1_step (l : Launch) (D : va_G) (ad : Nat → Nat) (cy : Nat → ClassId) (A : Nat → Prop) (S : XS) (k : Int32) (w : Int32) (a : Int32) (b : Int32) (to : Int32) : OM l D (xT cy) A yX1_step wsX1_step 2 43 [.ref (ad 0), .int k, .int w, .int a, .int b, .int to] (xW ad cy S) (xW ad cy ((xStep k w a b to S).2)) (some (.int ((xStep k w a b to S).1))) := by
  refine OM.of (cc := cX1_step) (maxL := 6) (ret := some .int) (own := RX1) (by decide) rfl rfl (Nat.le_of_ble_eq_true rfl) ?_
  intro p e s m below meth c ls S0 hr hlk hl hw
  have hx := S0.1
  have hb := S0.2.1
  have hl : lv_has ls 6 [(0, .ref (ad 0)), (1, .int k), (2, .int w), (3, .int a), (4, .int b), (5, .int to)] := hl
  have hin : ∀ w ∈ wsX10, w ∈ wsX1_step := fun w h => List.mem_cons_of_mem _ (List.mem_append_right _ h)
  refine lv_iload_n hx hb dX1_step_0 rfl (lv_at hl 2 rfl) ?_
  refine lv_iload_n hx hb dX1_step_1 rfl (lv_at hl 3 rfl) ?_
  refine lv_iload hx hb dX1_step_2 (lv_at hl 4 rfl) ?_
  refine lv_iload hx hb dX1_step_4 (lv_at hl 5 rfl) ?_
  refine ps_call (rest := []) S0 (c_X1_areSlots l w a b to) gX1_step_X1_areSlots rfl qX1_areSlots ⟨Nat.le_of_ble_eq_true rfl, Nat.le_of_ble_eq_true rfl⟩ ⟨Nat.le_of_ble_eq_true rfl, Nat.le_of_ble_eq_true rfl⟩ hl.1 rfl (Nat.le_of_ble_eq_true rfl) dX1_step_6 ?_
  refine zb_ne (P := zSlots w a b to) (tgt := 19) hx hb dX1_step_9 (by decide) (fun c_1 => ?_) (fun c_1 => ?_)
  · refine lv_iload_n hx hb dX1_step_19 rfl (lv_at hl 1 rfl) ?_
    refine ps_call (rest := []) S0 (c_X1_isStep l k) gX1_step_X1_isStep rfl qX1_isStep ⟨Nat.le_of_ble_eq_true rfl, Nat.le_of_ble_eq_true rfl⟩ ⟨Nat.le_of_ble_eq_true rfl, Nat.le_of_ble_eq_true rfl⟩ hl.1 rfl (Nat.le_of_ble_eq_true rfl) dX1_step_20 ?_
    refine zb_eq (P := zSt k) (tgt := 36) hx hb dX1_step_23 (by decide) (fun c_2 => ?_) (fun c_2 => ?_)
    · refine lv_aload_n hx hb dX1_step_36 rfl (lv_at hl 0 rfl) ?_
      refine lv_bipush (v := -5) hx hb dX1_step_37 (by decide) ?_
      refine io_call (rest := []) (w1 := (xW ad cy (xNoted (-5) S))) S0 (c_X1_noted l D ad cy A S (-5)) gX1_step_X1_noted hw rfl qX1_noted ⟨Nat.le_of_ble_eq_true rfl, Nat.le_of_ble_eq_true rfl⟩ ⟨Nat.le_of_ble_eq_true rfl, Nat.le_of_ble_eq_true rfl⟩ rfl rfl rfl hl.1 rfl (Nat.le_of_ble_eq_true rfl) dX1_step_39 (fun H locs hw => ?_)
      exact io_iret S0 hr hlk hw dX1_step_42 (congrArg (fun z => some (Value.int z)) (show (xStep k w a b to S).1 = (-5) from (by first | (simp [xStep, xN, xStepS, xso, xlo, xhi, xwh, xas, xbs, xts, xst, xrf, xet, xsd, eq_true c_1, eq_false c_2]; done) | (simp [xStep, xN, xStepS, xso, xlo, xhi, xwh, xas, xbs, xts, xst, xrf, xet, xsd, c_1, c_2]; done) | contradiction | rfl))) (congrArg (xW ad cy) (show (xStep k w a b to S).2 = xNoted (-5) S from (by first | (simp [xStep, xN, xStepS, xso, xlo, xhi, xwh, xas, xbs, xts, xst, xrf, xet, xsd, eq_true c_1, eq_false c_2]; done) | (simp [xStep, xN, xStepS, xso, xlo, xhi, xwh, xas, xbs, xts, xst, xrf, xet, xsd, c_1, c_2]; done) | contradiction | rfl)))
    · refine lv_iload_n hx hb dX1_step_26 rfl (lv_at hl 2 rfl) ?_
      refine zi_lt (tgt := 36) hx hb dX1_step_27 (by decide) (fun c_3 => ?_) (fun c_3 => ?_)
      · refine lv_aload_n hx hb dX1_step_36 rfl (lv_at hl 0 rfl) ?_
        refine lv_bipush (v := -5) hx hb dX1_step_37 (by decide) ?_
        refine io_call (rest := []) (w1 := (xW ad cy (xNoted (-5) S))) S0 (c_X1_noted l D ad cy A S (-5)) gX1_step_X1_noted hw rfl qX1_noted ⟨Nat.le_of_ble_eq_true rfl, Nat.le_of_ble_eq_true rfl⟩ ⟨Nat.le_of_ble_eq_true rfl, Nat.le_of_ble_eq_true rfl⟩ rfl rfl rfl hl.1 rfl (Nat.le_of_ble_eq_true rfl) dX1_step_39 (fun H locs hw => ?_)
        exact io_iret S0 hr hlk hw dX1_step_42 (congrArg (fun z => some (Value.int z)) (show (xStep k w a b to S).1 = (-5) from (by first | (simp [xStep, xN, xStepS, xso, xlo, xhi, xwh, xas, xbs, xts, xst, xrf, xet, xsd, eq_true c_1, eq_true c_2, eq_true c_3]; done) | (simp [xStep, xN, xStepS, xso, xlo, xhi, xwh, xas, xbs, xts, xst, xrf, xet, xsd, c_1, c_2, c_3]; done) | contradiction | rfl))) (congrArg (xW ad cy) (show (xStep k w a b to S).2 = xNoted (-5) S from (by first | (simp [xStep, xN, xStepS, xso, xlo, xhi, xwh, xas, xbs, xts, xst, xrf, xet, xsd, eq_true c_1, eq_true c_2, eq_true c_3]; done) | (simp [xStep, xN, xStepS, xso, xlo, xhi, xwh, xas, xbs, xts, xst, xrf, xet, xsd, c_1, c_2, c_3]; done) | contradiction | rfl)))
      · refine lv_iload_n hx hb dX1_step_30 rfl (lv_at hl 2 rfl) ?_
        refine lv_bipush (v := 7) hx hb dX1_step_31 (by decide) ?_
        refine zc_le (tgt := 43) hx hb dX1_step_33 (by decide) (fun c_4 => ?_) (fun c_4 => ?_)
        · refine lv_aload_n hx hb dX1_step_43 rfl (lv_at hl 0 rfl) ?_
          refine gd_get S0 hin hw rfl rfl 3 (by decide) (S0.2.2.2.2 (.fieldLink RX1 20 "StretchDesk" "stepWhats" "[I") (by decide +kernel)) rfl (v := .ref (ad 4)) rfl dX1_step_44 ?_
          refine lv_iload_n hx hb dX1_step_47 rfl (lv_at hl 1 rfl) ?_
          refine lv_iload_n hx hb dX1_step_48 rfl (lv_at hl 2 rfl) ?_
          refine gd_iast (w1 := (xW ad cy (xso S, xlo S, xhi S, upd (xwh S) (Int32.toNatClampNeg k) w, xas S, xbs S, xts S, xst S, xrf S, xet S, xsd S))) (f := _) S0 hw 4 3 rfl rfl (zIn12 (by assumption)) rfl dX1_step_49 (fun H locs hw => ?_)
          refine lv_aload_n hx hb dX1_step_50 rfl (lv_at hl 0 rfl) ?_
          refine gd_get S0 hin hw rfl rfl 4 (by decide) (S0.2.2.2.2 (.fieldLink RX1 23 "StretchDesk" "stepAs" "[I") (by decide +kernel)) rfl (v := .ref (ad 5)) rfl dX1_step_51 ?_
          refine lv_iload_n hx hb dX1_step_54 rfl (lv_at hl 1 rfl) ?_
          refine lv_iload_n hx hb dX1_step_55 rfl (lv_at hl 3 rfl) ?_
          refine gd_iast (w1 := (xW ad cy (xso S, xlo S, xhi S, upd (xwh S) (Int32.toNatClampNeg k) w, upd (xas S) (Int32.toNatClampNeg k) a, xbs S, xts S, xst S, xrf S, xet S, xsd S))) (f := _) S0 hw 5 4 rfl rfl (zIn12 (by assumption)) rfl dX1_step_56 (fun H locs hw => ?_)
          refine lv_aload_n hx hb dX1_step_57 rfl (lv_at hl 0 rfl) ?_
          refine gd_get S0 hin hw rfl rfl 5 (by decide) (S0.2.2.2.2 (.fieldLink RX1 26 "StretchDesk" "stepBs" "[I") (by decide +kernel)) rfl (v := .ref (ad 6)) rfl dX1_step_58 ?_
          refine lv_iload_n hx hb dX1_step_61 rfl (lv_at hl 1 rfl) ?_
          refine lv_iload hx hb dX1_step_62 (lv_at hl 4 rfl) ?_
          refine gd_iast (w1 := (xW ad cy (xso S, xlo S, xhi S, upd (xwh S) (Int32.toNatClampNeg k) w, upd (xas S) (Int32.toNatClampNeg k) a, upd (xbs S) (Int32.toNatClampNeg k) b, xts S, xst S, xrf S, xet S, xsd S))) (f := _) S0 hw 6 5 rfl rfl (zIn12 (by assumption)) rfl dX1_step_64 (fun H locs hw => ?_)
          refine lv_aload_n hx hb dX1_step_65 rfl (lv_at hl 0 rfl) ?_
          refine gd_get S0 hin hw rfl rfl 6 (by decide) (S0.2.2.2.2 (.fieldLink RX1 29 "StretchDesk" "stepTos" "[I") (by decide +kernel)) rfl (v := .ref (ad 7)) rfl dX1_step_66 ?_
          refine lv_iload_n hx hb dX1_step_69 rfl (lv_at hl 1 rfl) ?_
          refine lv_iload hx hb dX1_step_70 (lv_at hl 5 rfl) ?_
          refine gd_iast (w1 := (xW ad cy (xso S, xlo S, xhi S, upd (xwh S) (Int32.toNatClampNeg k) w, upd (xas S) (Int32.toNatClampNeg k) a, upd (xbs S) (Int32.toNatClampNeg k) b, upd (xts S) (Int32.toNatClampNeg k) to, xst S, xrf S, xet S, xsd S))) (f := _) S0 hw 7 6 rfl rfl (zIn12 (by assumption)) rfl dX1_step_72 (fun H locs hw => ?_)
          refine lv_aload_n hx hb dX1_step_73 rfl (lv_at hl 0 rfl) ?_
          refine lv_iconst (v := 1) hx hb dX1_step_74 (by decide) ?_
          refine io_call (rest := []) (w1 := (xW ad cy (xNoted 1 (xso S, xlo S, xhi S, upd (xwh S) (Int32.toNatClampNeg k) w, upd (xas S) (Int32.toNatClampNeg k) a, upd (xbs S) (Int32.toNatClampNeg k) b, upd (xts S) (Int32.toNatClampNeg k) to, xst S, xrf S, xet S, xsd S)))) S0 (c_X1_noted l D ad cy A (xso S, xlo S, xhi S, upd (xwh S) (Int32.toNatClampNeg k) w, upd (xas S) (Int32.toNatClampNeg k) a, upd (xbs S) (Int32.toNatClampNeg k) b, upd (xts S) (Int32.toNatClampNeg k) to, xst S, xrf S, xet S, xsd S) 1) gX1_step_X1_noted hw rfl qX1_noted ⟨Nat.le_of_ble_eq_true rfl, Nat.le_of_ble_eq_true rfl⟩ ⟨Nat.le_of_ble_eq_true rfl, Nat.le_of_ble_eq_true rfl⟩ rfl rfl rfl hl.1 rfl (Nat.le_of_ble_eq_true rfl) dX1_step_75 (fun H locs hw => ?_)
          exact io_iret S0 hr hlk hw dX1_step_78 (congrArg (fun z => some (Value.int z)) (show (xStep k w a b to S).1 = 1 from (by first | (simp [xStep, xN, xStepS, xso, xlo, xhi, xwh, xas, xbs, xts, xst, xrf, xet, xsd, eq_true c_1, eq_true c_2, eq_false c_3, eq_false c_4]; done) | (simp [xStep, xN, xStepS, xso, xlo, xhi, xwh, xas, xbs, xts, xst, xrf, xet, xsd, c_1, c_2, c_3, c_4]; done) | contradiction | rfl))) (congrArg (xW ad cy) (show (xStep k w a b to S).2 = xNoted 1 (xso S, xlo S, xhi S, upd (xwh S) (Int32.toNatClampNeg k) w, upd (xas S) (Int32.toNatClampNeg k) a, upd (xbs S) (Int32.toNatClampNeg k) b, upd (xts S) (Int32.toNatClampNeg k) to, xst S, xrf S, xet S, xsd S) from (by first | (simp [xStep, xN, xStepS, xso, xlo, xhi, xwh, xas, xbs, xts, xst, xrf, xet, xsd, eq_true c_1, eq_true c_2, eq_false c_3, eq_false c_4]; done) | (simp [xStep, xN, xStepS, xso, xlo, xhi, xwh, xas, xbs, xts, xst, xrf, xet, xsd, c_1, c_2, c_3, c_4]; done) | contradiction | rfl)))
        · refine lv_aload_n hx hb dX1_step_36 rfl (lv_at hl 0 rfl) ?_
          refine lv_bipush (v := -5) hx hb dX1_step_37 (by decide) ?_
          refine io_call (rest := []) (w1 := (xW ad cy (xNoted (-5) S))) S0 (c_X1_noted l D ad cy A S (-5)) gX1_step_X1_noted hw rfl qX1_noted ⟨Nat.le_of_ble_eq_true rfl, Nat.le_of_ble_eq_true rfl⟩ ⟨Nat.le_of_ble_eq_true rfl, Nat.le_of_ble_eq_true rfl⟩ rfl rfl rfl hl.1 rfl (Nat.le_of_ble_eq_true rfl) dX1_step_39 (fun H locs hw => ?_)
          exact io_iret S0 hr hlk hw dX1_step_42 (congrArg (fun z => some (Value.int z)) (show (xStep k w a b to S).1 = (-5) from (by first | (simp [xStep, xN, xStepS, xso, xlo, xhi, xwh, xas, xbs, xts, xst, xrf, xet, xsd, eq_true c_1, eq_true c_2, eq_false c_3, eq_true c_4]; done) | (simp [xStep, xN, xStepS, xso, xlo, xhi, xwh, xas, xbs, xts, xst, xrf, xet, xsd, c_1, c_2, c_3, c_4]; done) | contradiction | rfl))) (congrArg (xW ad cy) (show (xStep k w a b to S).2 = xNoted (-5) S from (by first | (simp [xStep, xN, xStepS, xso, xlo, xhi, xwh, xas, xbs, xts, xst, xrf, xet, xsd, eq_true c_1, eq_true c_2, eq_false c_3, eq_true c_4]; done) | (simp [xStep, xN, xStepS, xso, xlo, xhi, xwh, xas, xbs, xts, xst, xrf, xet, xsd, c_1, c_2, c_3, c_4]; done) | contradiction | rfl)))
  · refine lv_aload_n hx hb dX1_step_12 rfl (lv_at hl 0 rfl) ?_
    refine lv_bipush (v := -2) hx hb dX1_step_13 (by decide) ?_
    refine io_call (rest := []) (w1 := (xW ad cy (xNoted (-2) S))) S0 (c_X1_noted l D ad cy A S (-2)) gX1_step_X1_noted hw rfl qX1_noted ⟨Nat.le_of_ble_eq_true rfl, Nat.le_of_ble_eq_true rfl⟩ ⟨Nat.le_of_ble_eq_true rfl, Nat.le_of_ble_eq_true rfl⟩ rfl rfl rfl hl.1 rfl (Nat.le_of_ble_eq_true rfl) dX1_step_15 (fun H locs hw => ?_)
    exact io_iret S0 hr hlk hw dX1_step_18 (congrArg (fun z => some (Value.int z)) (show (xStep k w a b to S).1 = (-2) from (by first | (simp [xStep, xN, xStepS, xso, xlo, xhi, xwh, xas, xbs, xts, xst, xrf, xet, xsd, eq_false c_1]; done) | (simp [xStep, xN, xStepS, xso, xlo, xhi, xwh, xas, xbs, xts, xst, xrf, xet, xsd, c_1]; done) | contradiction | rfl))) (congrArg (xW ad cy) (show (xStep k w a b to S).2 = xNoted (-2) S from (by first | (simp [xStep, xN, xStepS, xso, xlo, xhi, xwh, xas, xbs, xts, xst, xrf, xet, xsd, eq_false c_1]; done) | (simp [xStep, xN, xStepS, xso, xlo, xhi, xwh, xas, xbs, xts, xst, xrf, xet, xsd, c_1]; done) | contradiction | rfl)))
theorem qX1_state : yX1_state.cls = RX1 ∧ yX1_state.cls ≠ "java/lang/invoke/MethodHandle" ∧ yX1_state.cls ≠ "java/lang/invoke/VarHandle" ∧ (parseMethodDescriptor yX1_state.desc).map (fun d => d.parameters.length) = some 0 := by decide +kernel
set_option maxHeartbeats 4000000 in
set_option maxRecDepth 100000 in
theorem c_X1_state (l : Launch) (D : va_G) (ad : Nat → Nat) (cy : Nat → ClassId) (A : Nat → Prop) (S : XS)  : OM l D (xT cy) A yX1_state wsX1_state 0 0 [.ref (ad 0)] (xW ad cy S) (xW ad cy S) (some (.int (xst S))) := by
  refine OM.of (cc := cX1_state) (maxL := 1) (ret := some .int) (own := RX1) (by decide) rfl rfl (Nat.le_of_ble_eq_true rfl) ?_
  intro p e s m below meth c ls S0 hr hlk hl hw
  have hx := S0.1
  have hb := S0.2.1
  have hl : lv_has ls 1 [(0, .ref (ad 0))] := hl
  have hin : ∀ w ∈ wsX10, w ∈ wsX1_state := fun w h => List.mem_cons_of_mem _ (List.mem_append_right _ h)
  refine lv_aload_n hx hb dX1_state_0 rfl (lv_at hl 0 rfl) ?_
  refine gd_get S0 hin hw rfl rfl 7 (by decide) (S0.2.2.2.2 (.fieldLink RX1 83 "StretchDesk" "latestRefusal" "I") (by decide +kernel)) rfl (v := .int (xst S)) rfl dX1_state_1 ?_
  exact io_iret S0 hr hlk hw dX1_state_4 (congrArg (fun z => some (Value.int z)) (show xst S = xst S from (by first | (simp [xso, xlo, xhi, xwh, xas, xbs, xts, xst, xrf, xet, xsd]; done) | (simp [xso, xlo, xhi, xwh, xas, xbs, xts, xst, xrf, xet, xsd]; done) | contradiction | rfl))) (congrArg (xW ad cy) (show S = S from (by first | (simp [xso, xlo, xhi, xwh, xas, xbs, xts, xst, xrf, xet, xsd]; done) | (simp [xso, xlo, xhi, xwh, xas, xbs, xts, xst, xrf, xet, xsd]; done) | contradiction | rfl)))
