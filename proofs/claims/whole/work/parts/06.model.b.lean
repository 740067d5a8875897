theorem qX2_size : yX2_size.cls = RX2 ∧ yX2_size.cls ≠ "java/lang/invoke/MethodHandle" ∧ yX2_size.cls ≠ "java/lang/invoke/VarHandle" ∧ (parseMethodDescriptor yX2_size.desc).map (fun d => d.parameters.length) = some 2 := by decide +kernel
set_option maxHeartbeats 4000000 in
set_option maxRecDepth 100000 in
theorem c_X2_size (l : Launch) (D : va_G) (ad : Nat → Nat) (cy : Nat → ClassId) (A : Nat → Prop) (S : MS) (a : Int32) (to : Int32) : OM l D (mT cy) A yX2_size wsX2_size 5 116 [.ref (ad 0), .int a, .int to] (mW ad cy S) (mW ad cy ((mSize a to S).2)) (some (.int ((mSize a to S).1))) := by
  refine OM.of (cc := cX2_size) (maxL := 11) (ret := some .int) (own := RX2) (by decide) rfl rfl (Nat.le_of_ble_eq_true rfl) ?_
  intro p e s m below meth c ls S0 hr hlk hl hw
  have hx := S0.1
  have hb := S0.2.1
  have hl : lv_has ls 11 [(0, .ref (ad 0)), (1, .int a), (2, .int to)] := hl
  have hin : ∀ w ∈ wsX20, w ∈ wsX2_size := fun w h => List.mem_cons_of_mem _ (List.mem_append_right _ h)
  refine lv_aload_n hx hb dX2_size_0 rfl (lv_at hl 0 rfl) ?_
  refine lv_iload_n hx hb dX2_size_1 rfl (lv_at hl 1 rfl) ?_
  refine lv_iload_n hx hb dX2_size_2 rfl (lv_at hl 1 rfl) ?_
  refine lv_iload_n hx hb dX2_size_3 rfl (lv_at hl 2 rfl) ?_
  refine io_call (rest := []) (w1 := (mW ad cy S)) S0 (c_X2_whyNot l D ad cy A S a a to) gX2_size_X2_whyNot hw rfl qX2_whyNot ⟨Nat.le_of_ble_eq_true rfl, Nat.le_of_ble_eq_true rfl⟩ ⟨Nat.le_of_ble_eq_true rfl, Nat.le_of_ble_eq_true rfl⟩ rfl rfl rfl hl.1 rfl (Nat.le_of_ble_eq_true rfl) dX2_size_4 (fun H locs hw => ?_)
  rcases mWhy_cases a a to S with hq | hq | ⟨hq, hs1, hs2, hs3⟩
  · rw [hq]
    refine lv_istore_n (lv' := [(3, .int (-2)), (0, .ref (ad 0)), (1, .int a), (2, .int to)]) hx hb dX2_size_7 rfl hl (by decide) rfl (fun ls hl => ?_)
    refine lv_iload_n hx hb dX2_size_8 rfl (lv_at hl 0 rfl) ?_
    refine zi_ge (tgt := 18) hx hb dX2_size_9 (by decide) (fun q => absurd (by decide) q) (fun _ => ?_)
    refine lv_aload_n hx hb dX2_size_12 rfl (lv_at hl 1 rfl) ?_
    refine lv_iload_n hx hb dX2_size_13 rfl (lv_at hl 0 rfl) ?_
    refine io_call (rest := []) (w1 := (mW ad cy (mRef (-2) S))) S0 (c_X2_refuses l D ad cy A S (-2)) gX2_size_X2_refuses hw rfl qX2_refuses ⟨Nat.le_of_ble_eq_true rfl, Nat.le_of_ble_eq_true rfl⟩ ⟨Nat.le_of_ble_eq_true rfl, Nat.le_of_ble_eq_true rfl⟩ rfl rfl rfl hl.1 rfl (Nat.le_of_ble_eq_true rfl) dX2_size_14 (fun H locs hw => ?_)
    exact io_iret S0 hr hlk hw dX2_size_17 (congrArg (fun z => some (Value.int z)) (show (mSize a to S).1 = (-2) from (by first | (simp [mSize, zd1, zd2, zd3, zd4, zd5, zd6, hq]; done) | (simp [mSize, zd1, zd2, zd3, zd4, zd5, zd6, eq_true hq]; done) | (simp [mSize, zd1, zd2, zd3, zd4, zd5, zd6, mso, mlo, mhi, mth, mwh, mas, mbs, mts, mst, mrf, met, msd, eq_true hq]; done) | (simp [mSize, zd1, zd2, zd3, zd4, zd5, zd6, mso, mlo, mhi, mth, mwh, mas, mbs, mts, mst, mrf, met, msd, hq]; done) | contradiction | rfl))) (congrArg (mW ad cy) (show (mSize a to S).2 = mRef (-2) S from (by first | (simp [mSize, zd1, zd2, zd3, zd4, zd5, zd6, hq]; done) | (simp [mSize, zd1, zd2, zd3, zd4, zd5, zd6, eq_true hq]; done) | (simp [mSize, zd1, zd2, zd3, zd4, zd5, zd6, mso, mlo, mhi, mth, mwh, mas, mbs, mts, mst, mrf, met, msd, eq_true hq]; done) | (simp [mSize, zd1, zd2, zd3, zd4, zd5, zd6, mso, mlo, mhi, mth, mwh, mas, mbs, mts, mst, mrf, met, msd, hq]; done) | contradiction | rfl)))
  · rw [hq]
    refine lv_istore_n (lv' := [(3, .int (-3)), (0, .ref (ad 0)), (1, .int a), (2, .int to)]) hx hb dX2_size_7 rfl hl (by decide) rfl (fun ls hl => ?_)
    refine lv_iload_n hx hb dX2_size_8 rfl (lv_at hl 0 rfl) ?_
    refine zi_ge (tgt := 18) hx hb dX2_size_9 (by decide) (fun q => absurd (by decide) q) (fun _ => ?_)
    refine lv_aload_n hx hb dX2_size_12 rfl (lv_at hl 1 rfl) ?_
    refine lv_iload_n hx hb dX2_size_13 rfl (lv_at hl 0 rfl) ?_
    refine io_call (rest := []) (w1 := (mW ad cy (mRef (-3) S))) S0 (c_X2_refuses l D ad cy A S (-3)) gX2_size_X2_refuses hw rfl qX2_refuses ⟨Nat.le_of_ble_eq_true rfl, Nat.le_of_ble_eq_true rfl⟩ ⟨Nat.le_of_ble_eq_true rfl, Nat.le_of_ble_eq_true rfl⟩ rfl rfl rfl hl.1 rfl (Nat.le_of_ble_eq_true rfl) dX2_size_14 (fun H locs hw => ?_)
    exact io_iret S0 hr hlk hw dX2_size_17 (congrArg (fun z => some (Value.int z)) (show (mSize a to S).1 = (-3) from (by first | (simp [mSize, zd1, zd2, zd3, zd4, zd5, zd6, hq]; done) | (simp [mSize, zd1, zd2, zd3, zd4, zd5, zd6, eq_true hq]; done) | (simp [mSize, zd1, zd2, zd3, zd4, zd5, zd6, mso, mlo, mhi, mth, mwh, mas, mbs, mts, mst, mrf, met, msd, eq_true hq]; done) | (simp [mSize, zd1, zd2, zd3, zd4, zd5, zd6, mso, mlo, mhi, mth, mwh, mas, mbs, mts, mst, mrf, met, msd, hq]; done) | contradiction | rfl))) (congrArg (mW ad cy) (show (mSize a to S).2 = mRef (-3) S from (by first | (simp [mSize, zd1, zd2, zd3, zd4, zd5, zd6, hq]; done) | (simp [mSize, zd1, zd2, zd3, zd4, zd5, zd6, eq_true hq]; done) | (simp [mSize, zd1, zd2, zd3, zd4, zd5, zd6, mso, mlo, mhi, mth, mwh, mas, mbs, mts, mst, mrf, met, msd, eq_true hq]; done) | (simp [mSize, zd1, zd2, zd3, zd4, zd5, zd6, mso, mlo, mhi, mth, mwh, mas, mbs, mts, mst, mrf, met, msd, hq]; done) | contradiction | rfl)))
  · rw [hq]
    refine lv_istore_n (lv' := [(3, .int 0), (0, .ref (ad 0)), (1, .int a), (2, .int to)]) hx hb dX2_size_7 rfl hl (by decide) rfl (fun ls hl => ?_)
    refine lv_iload_n hx hb dX2_size_8 rfl (lv_at hl 0 rfl) ?_
    refine zi_ge (tgt := 18) hx hb dX2_size_9 (by decide) (fun _ => ?_) (fun q => absurd q (by decide))
    refine lv_aload_n hx hb dX2_size_18 rfl (lv_at hl 1 rfl) ?_
    refine gd_get S0 hin hw rfl rfl 0 (by decide) (S0.2.2.2.2 (.fieldLink RX2 7 "StretchDeskModel" "sorts" "[I") (by decide +kernel)) rfl (v := .ref (ad 1)) rfl dX2_size_19 ?_
    refine lv_iload_n hx hb dX2_size_22 rfl (lv_at hl 2 rfl) ?_
    refine va_iald hx hb hw.2.2.1 hw.1 1 0 rfl rfl (zIn (by assumption)) dX2_size_23 ?_
    refine lv_istore (lv' := [(4, .int (ixI (mso S) a)), (3, .int 0), (0, .ref (ad 0)), (1, .int a), (2, .int to)]) hx hb dX2_size_24 hl (by decide) rfl (fun ls hl => ?_)
    refine lv_aload_n hx hb dX2_size_26 rfl (lv_at hl 2 rfl) ?_
    refine gd_get S0 hin hw rfl rfl 1 (by decide) (S0.2.2.2.2 (.fieldLink RX2 13 "StretchDeskModel" "lows" "[J") (by decide +kernel)) rfl (v := .ref (ad 2)) rfl dX2_size_27 ?_
    refine lv_iload_n hx hb dX2_size_30 rfl (lv_at hl 3 rfl) ?_
    refine va_lald hx hb hw.2.2.1 hw.1 2 1 rfl rfl (zIn (by assumption)) dX2_size_31 ?_
    refine lv_lconst (v := 0) hx hb dX2_size_32 (by decide) ?_
    refine zl_ge (tgt := 55) hx hb dX2_size_33 dX2_size_34 (by decide) (fun c_1 => ?_) (fun c_1 => ?_)
    · refine lv_iconst (v := 0) hx hb dX2_size_55 (by decide) ?_
      refine lv_istore (lv' := [(5, .int 0), (4, .int (ixI (mso S) a)), (3, .int 0), (0, .ref (ad 0)), (1, .int a), (2, .int to)]) hx hb dX2_size_56 hl (by decide) rfl (fun ls hl => ?_)
      refine lv_aload_n hx hb dX2_size_58 rfl (lv_at hl 3 rfl) ?_
      refine gd_get S0 hin hw rfl rfl 2 (by decide) (S0.2.2.2.2 (.fieldLink RX2 17 "StretchDeskModel" "highs" "[J") (by decide +kernel)) rfl (v := .ref (ad 3)) rfl dX2_size_59 ?_
      refine lv_iload_n hx hb dX2_size_62 rfl (lv_at hl 4 rfl) ?_
      refine va_lald hx hb hw.2.2.1 hw.1 3 2 rfl rfl (zIn (by assumption)) dX2_size_63 ?_
      refine lv_lconst (v := 0) hx hb dX2_size_64 (by decide) ?_
      refine zl_le (tgt := 73) hx hb dX2_size_65 dX2_size_66 (by decide) (fun c_2 => ?_) (fun c_2 => ?_)
      · refine lv_iconst (v := 0) hx hb dX2_size_73 (by decide) ?_
        refine lv_istore (lv' := [(6, .int 0), (5, .int 0), (4, .int (ixI (mso S) a)), (3, .int 0), (0, .ref (ad 0)), (1, .int a), (2, .int to)]) hx hb dX2_size_74 hl (by decide) rfl (fun ls hl => ?_)
        refine lv_iload hx hb dX2_size_76 (lv_at hl 2 rfl) ?_
        refine lv_aload_n hx hb dX2_size_78 rfl (lv_at hl 4 rfl) ?_
        refine gd_get S0 hin hw rfl rfl 1 (by decide) (S0.2.2.2.2 (.fieldLink RX2 13 "StretchDeskModel" "lows" "[J") (by decide +kernel)) rfl (v := .ref (ad 2)) rfl dX2_size_79 ?_
        refine lv_iload_n hx hb dX2_size_82 rfl (lv_at hl 5 rfl) ?_
        refine va_lald hx hb hw.2.2.1 hw.1 2 1 rfl rfl (zIn (by assumption)) dX2_size_83 ?_
        refine ps_call (rest := []) S0 (c_X2_sizeOf l (ixI (mso S) a) (ixL (mlo S) a)) gX2_size_X2_sizeOf rfl qX2_sizeOf ⟨Nat.le_of_ble_eq_true rfl, Nat.le_of_ble_eq_true rfl⟩ ⟨Nat.le_of_ble_eq_true rfl, Nat.le_of_ble_eq_true rfl⟩ hl.1 rfl (Nat.le_of_ble_eq_true rfl) dX2_size_84 ?_
        refine lv_lstore (lv' := [(7, .long (kSize (ixI (mso S) a) (ixL (mlo S) a))), (6, .int 0), (5, .int 0), (4, .int (ixI (mso S) a)), (3, .int 0), (0, .ref (ad 0)), (1, .int a), (2, .int to)]) hx hb dX2_size_87 hl (by decide) rfl (fun ls hl => ?_)
        refine lv_iload hx hb dX2_size_89 (lv_at hl 3 rfl) ?_
        refine lv_aload_n hx hb dX2_size_91 rfl (lv_at hl 5 rfl) ?_
        refine gd_get S0 hin hw rfl rfl 2 (by decide) (S0.2.2.2.2 (.fieldLink RX2 17 "StretchDeskModel" "highs" "[J") (by decide +kernel)) rfl (v := .ref (ad 3)) rfl dX2_size_92 ?_
        refine lv_iload_n hx hb dX2_size_95 rfl (lv_at hl 6 rfl) ?_
        refine va_lald hx hb hw.2.2.1 hw.1 3 2 rfl rfl (zIn (by assumption)) dX2_size_96 ?_
        refine ps_call (rest := []) S0 (c_X2_sizeOf l (ixI (mso S) a) (ixL (mhi S) a)) gX2_size_X2_sizeOf rfl qX2_sizeOf ⟨Nat.le_of_ble_eq_true rfl, Nat.le_of_ble_eq_true rfl⟩ ⟨Nat.le_of_ble_eq_true rfl, Nat.le_of_ble_eq_true rfl⟩ hl.1 rfl (Nat.le_of_ble_eq_true rfl) dX2_size_97 ?_
        refine lv_lstore (lv' := [(9, .long (kSize (ixI (mso S) a) (ixL (mhi S) a))), (7, .long (kSize (ixI (mso S) a) (ixL (mlo S) a))), (6, .int 0), (5, .int 0), (4, .int (ixI (mso S) a)), (3, .int 0), (0, .ref (ad 0)), (1, .int a), (2, .int to)]) hx hb dX2_size_100 hl (by decide) rfl (fun ls hl => ?_)
        refine lv_iload hx hb dX2_size_102 (lv_at hl 3 rfl) ?_
        refine zi_eq (tgt := 132) hx hb dX2_size_104 (by decide) (fun _ => ?_) (fun q => absurd (by decide) q)
        refine lv_aload_n hx hb dX2_size_132 rfl (lv_at hl 6 rfl) ?_
        refine lv_iload_n hx hb dX2_size_133 rfl (lv_at hl 8 rfl) ?_
        refine lv_iload hx hb dX2_size_134 (lv_at hl 4 rfl) ?_
        refine lv_lload hx hb dX2_size_136 (lv_at hl 1 rfl) ?_
        refine lv_lload hx hb dX2_size_138 (lv_at hl 0 rfl) ?_
        refine io_call (rest := []) (w1 := (mW ad cy (mOrd to (ixI (mso S) a) (kSize (ixI (mso S) a) (ixL (mlo S) a)) (kSize (ixI (mso S) a) (ixL (mhi S) a)) S))) S0 (c_X2_ordered l D ad cy A S to (ixI (mso S) a) (kSize (ixI (mso S) a) (ixL (mlo S) a)) (kSize (ixI (mso S) a) (ixL (mhi S) a)) (by assumption)) gX2_size_X2_ordered hw rfl qX2_ordered ⟨Nat.le_of_ble_eq_true rfl, Nat.le_of_ble_eq_true rfl⟩ ⟨Nat.le_of_ble_eq_true rfl, Nat.le_of_ble_eq_true rfl⟩ rfl rfl rfl hl.1 rfl (Nat.le_of_ble_eq_true rfl) dX2_size_140 (fun H locs hw => ?_)
        exact io_iret S0 hr hlk hw dX2_size_143 (congrArg (fun z => some (Value.int z)) (show (mSize a to S).1 = 1 from (by first | (simp [mSize, zd1, zd2, zd3, zd4, zd5, zd6, hq, eq_false c_1, eq_false c_2]; done) | (simp [mSize, zd1, zd2, zd3, zd4, zd5, zd6, eq_true hq, eq_false c_1, eq_false c_2]; done) | (simp [mSize, zd1, zd2, zd3, zd4, zd5, zd6, mso, mlo, mhi, mth, mwh, mas, mbs, mts, mst, mrf, met, msd, eq_true hq, eq_false c_1, eq_false c_2]; done) | (simp [mSize, zd1, zd2, zd3, zd4, zd5, zd6, mso, mlo, mhi, mth, mwh, mas, mbs, mts, mst, mrf, met, msd, hq, c_1, c_2]; done) | contradiction | rfl))) (congrArg (mW ad cy) (show (mSize a to S).2 = mOrd to (ixI (mso S) a) (kSize (ixI (mso S) a) (ixL (mlo S) a)) (kSize (ixI (mso S) a) (ixL (mhi S) a)) S from (by first | (simp [mSize, zd1, zd2, zd3, zd4, zd5, zd6, hq, eq_false c_1, eq_false c_2]; done) | (simp [mSize, zd1, zd2, zd3, zd4, zd5, zd6, eq_true hq, eq_false c_1, eq_false c_2]; done) | (simp [mSize, zd1, zd2, zd3, zd4, zd5, zd6, mso, mlo, mhi, mth, mwh, mas, mbs, mts, mst, mrf, met, msd, eq_true hq, eq_false c_1, eq_false c_2]; done) | (simp [mSize, zd1, zd2, zd3, zd4, zd5, zd6, mso, mlo, mhi, mth, mwh, mas, mbs, mts, mst, mrf, met, msd, hq, c_1, c_2]; done) | contradiction | rfl)))
      · refine lv_iconst (v := 1) hx hb dX2_size_69 (by decide) ?_
        refine lv_goto (tgt := 74) hx hb dX2_size_70 (by decide) ?_
        refine lv_istore (lv' := [(6, .int 1), (5, .int 0), (4, .int (ixI (mso S) a)), (3, .int 0), (0, .ref (ad 0)), (1, .int a), (2, .int to)]) hx hb dX2_size_74 hl (by decide) rfl (fun ls hl => ?_)
        refine lv_iload hx hb dX2_size_76 (lv_at hl 2 rfl) ?_
        refine lv_aload_n hx hb dX2_size_78 rfl (lv_at hl 4 rfl) ?_
        refine gd_get S0 hin hw rfl rfl 1 (by decide) (S0.2.2.2.2 (.fieldLink RX2 13 "StretchDeskModel" "lows" "[J") (by decide +kernel)) rfl (v := .ref (ad 2)) rfl dX2_size_79 ?_
        refine lv_iload_n hx hb dX2_size_82 rfl (lv_at hl 5 rfl) ?_
        refine va_lald hx hb hw.2.2.1 hw.1 2 1 rfl rfl (zIn (by assumption)) dX2_size_83 ?_
        refine ps_call (rest := []) S0 (c_X2_sizeOf l (ixI (mso S) a) (ixL (mlo S) a)) gX2_size_X2_sizeOf rfl qX2_sizeOf ⟨Nat.le_of_ble_eq_true rfl, Nat.le_of_ble_eq_true rfl⟩ ⟨Nat.le_of_ble_eq_true rfl, Nat.le_of_ble_eq_true rfl⟩ hl.1 rfl (Nat.le_of_ble_eq_true rfl) dX2_size_84 ?_
        refine lv_lstore (lv' := [(7, .long (kSize (ixI (mso S) a) (ixL (mlo S) a))), (6, .int 1), (5, .int 0), (4, .int (ixI (mso S) a)), (3, .int 0), (0, .ref (ad 0)), (1, .int a), (2, .int to)]) hx hb dX2_size_87 hl (by decide) rfl (fun ls hl => ?_)
        refine lv_iload hx hb dX2_size_89 (lv_at hl 3 rfl) ?_
        refine lv_aload_n hx hb dX2_size_91 rfl (lv_at hl 5 rfl) ?_
        refine gd_get S0 hin hw rfl rfl 2 (by decide) (S0.2.2.2.2 (.fieldLink RX2 17 "StretchDeskModel" "highs" "[J") (by decide +kernel)) rfl (v := .ref (ad 3)) rfl dX2_size_92 ?_
        refine lv_iload_n hx hb dX2_size_95 rfl (lv_at hl 6 rfl) ?_
        refine va_lald hx hb hw.2.2.1 hw.1 3 2 rfl rfl (zIn (by assumption)) dX2_size_96 ?_
        refine ps_call (rest := []) S0 (c_X2_sizeOf l (ixI (mso S) a) (ixL (mhi S) a)) gX2_size_X2_sizeOf rfl qX2_sizeOf ⟨Nat.le_of_ble_eq_true rfl, Nat.le_of_ble_eq_true rfl⟩ ⟨Nat.le_of_ble_eq_true rfl, Nat.le_of_ble_eq_true rfl⟩ hl.1 rfl (Nat.le_of_ble_eq_true rfl) dX2_size_97 ?_
        refine lv_lstore (lv' := [(9, .long (kSize (ixI (mso S) a) (ixL (mhi S) a))), (7, .long (kSize (ixI (mso S) a) (ixL (mlo S) a))), (6, .int 1), (5, .int 0), (4, .int (ixI (mso S) a)), (3, .int 0), (0, .ref (ad 0)), (1, .int a), (2, .int to)]) hx hb dX2_size_100 hl (by decide) rfl (fun ls hl => ?_)
        refine lv_iload hx hb dX2_size_102 (lv_at hl 3 rfl) ?_
        refine zi_eq (tgt := 132) hx hb dX2_size_104 (by decide) (fun _ => ?_) (fun q => absurd (by decide) q)
        refine lv_aload_n hx hb dX2_size_132 rfl (lv_at hl 6 rfl) ?_
        refine lv_iload_n hx hb dX2_size_133 rfl (lv_at hl 8 rfl) ?_
        refine lv_iload hx hb dX2_size_134 (lv_at hl 4 rfl) ?_
        refine lv_lload hx hb dX2_size_136 (lv_at hl 1 rfl) ?_
        refine lv_lload hx hb dX2_size_138 (lv_at hl 0 rfl) ?_
        refine io_call (rest := []) (w1 := (mW ad cy (mOrd to (ixI (mso S) a) (kSize (ixI (mso S) a) (ixL (mlo S) a)) (kSize (ixI (mso S) a) (ixL (mhi S) a)) S))) S0 (c_X2_ordered l D ad cy A S to (ixI (mso S) a) (kSize (ixI (mso S) a) (ixL (mlo S) a)) (kSize (ixI (mso S) a) (ixL (mhi S) a)) (by assumption)) gX2_size_X2_ordered hw rfl qX2_ordered ⟨Nat.le_of_ble_eq_true rfl, Nat.le_of_ble_eq_true rfl⟩ ⟨Nat.le_of_ble_eq_true rfl, Nat.le_of_ble_eq_true rfl⟩ rfl rfl rfl hl.1 rfl (Nat.le_of_ble_eq_true rfl) dX2_size_140 (fun H locs hw => ?_)
        exact io_iret S0 hr hlk hw dX2_size_143 (congrArg (fun z => some (Value.int z)) (show (mSize a to S).1 = 1 from (by first | (simp [mSize, zd1, zd2, zd3, zd4, zd5, zd6, hq, eq_false c_1, eq_true c_2]; done) | (simp [mSize, zd1, zd2, zd3, zd4, zd5, zd6, eq_true hq, eq_false c_1, eq_true c_2]; done) | (simp [mSize, zd1, zd2, zd3, zd4, zd5, zd6, mso, mlo, mhi, mth, mwh, mas, mbs, mts, mst, mrf, met, msd, eq_true hq, eq_false c_1, eq_true c_2]; done) | (simp [mSize, zd1, zd2, zd3, zd4, zd5, zd6, mso, mlo, mhi, mth, mwh, mas, mbs, mts, mst, mrf, met, msd, hq, c_1, c_2]; done) | contradiction | rfl))) (congrArg (mW ad cy) (show (mSize a to S).2 = mOrd to (ixI (mso S) a) (kSize (ixI (mso S) a) (ixL (mlo S) a)) (kSize (ixI (mso S) a) (ixL (mhi S) a)) S from (by first | (simp [mSize, zd1, zd2, zd3, zd4, zd5, zd6, hq, eq_false c_1, eq_true c_2]; done) | (simp [mSize, zd1, zd2, zd3, zd4, zd5, zd6, eq_true hq, eq_false c_1, eq_true c_2]; done) | (simp [mSize, zd1, zd2, zd3, zd4, zd5, zd6, mso, mlo, mhi, mth, mwh, mas, mbs, mts, mst, mrf, met, msd, eq_true hq, eq_false c_1, eq_true c_2]; done) | (simp [mSize, zd1, zd2, zd3, zd4, zd5, zd6, mso, mlo, mhi, mth, mwh, mas, mbs, mts, mst, mrf, met, msd, hq, c_1, c_2]; done) | contradiction | rfl)))
    · refine lv_iload hx hb dX2_size_37 (lv_at hl 0 rfl) ?_
      refine lv_aload_n hx hb dX2_size_39 rfl (lv_at hl 2 rfl) ?_
      refine gd_get S0 hin hw rfl rfl 1 (by decide) (S0.2.2.2.2 (.fieldLink RX2 13 "StretchDeskModel" "lows" "[J") (by decide +kernel)) rfl (v := .ref (ad 2)) rfl dX2_size_40 ?_
      refine lv_iload_n hx hb dX2_size_43 rfl (lv_at hl 3 rfl) ?_
      refine va_lald hx hb hw.2.2.1 hw.1 2 1 rfl rfl (zIn (by assumption)) dX2_size_44 ?_
      refine ps_call (rest := []) S0 (c_X2_isZero l (ixI (mso S) a) (ixL (mlo S) a)) gX2_size_X2_isZero rfl qX2_isZero ⟨Nat.le_of_ble_eq_true rfl, Nat.le_of_ble_eq_true rfl⟩ ⟨Nat.le_of_ble_eq_true rfl, Nat.le_of_ble_eq_true rfl⟩ hl.1 rfl (Nat.le_of_ble_eq_true rfl) dX2_size_45 ?_
      refine zb_ne (P := kZero (ixI (mso S) a) (ixL (mlo S) a)) (tgt := 55) hx hb dX2_size_48 (by decide) (fun c_3 => ?_) (fun c_3 => ?_)
      · refine lv_iconst (v := 0) hx hb dX2_size_55 (by decide) ?_
        refine lv_istore (lv' := [(5, .int 0), (4, .int (ixI (mso S) a)), (3, .int 0), (0, .ref (ad 0)), (1, .int a), (2, .int to)]) hx hb dX2_size_56 hl (by decide) rfl (fun ls hl => ?_)
        refine lv_aload_n hx hb dX2_size_58 rfl (lv_at hl 3 rfl) ?_
        refine gd_get S0 hin hw rfl rfl 2 (by decide) (S0.2.2.2.2 (.fieldLink RX2 17 "StretchDeskModel" "highs" "[J") (by decide +kernel)) rfl (v := .ref (ad 3)) rfl dX2_size_59 ?_
        refine lv_iload_n hx hb dX2_size_62 rfl (lv_at hl 4 rfl) ?_
        refine va_lald hx hb hw.2.2.1 hw.1 3 2 rfl rfl (zIn (by assumption)) dX2_size_63 ?_
        refine lv_lconst (v := 0) hx hb dX2_size_64 (by decide) ?_
        refine zl_le (tgt := 73) hx hb dX2_size_65 dX2_size_66 (by decide) (fun c_4 => ?_) (fun c_4 => ?_)
        · refine lv_iconst (v := 0) hx hb dX2_size_73 (by decide) ?_
          refine lv_istore (lv' := [(6, .int 0), (5, .int 0), (4, .int (ixI (mso S) a)), (3, .int 0), (0, .ref (ad 0)), (1, .int a), (2, .int to)]) hx hb dX2_size_74 hl (by decide) rfl (fun ls hl => ?_)
          refine lv_iload hx hb dX2_size_76 (lv_at hl 2 rfl) ?_
          refine lv_aload_n hx hb dX2_size_78 rfl (lv_at hl 4 rfl) ?_
          refine gd_get S0 hin hw rfl rfl 1 (by decide) (S0.2.2.2.2 (.fieldLink RX2 13 "StretchDeskModel" "lows" "[J") (by decide +kernel)) rfl (v := .ref (ad 2)) rfl dX2_size_79 ?_
          refine lv_iload_n hx hb dX2_size_82 rfl (lv_at hl 5 rfl) ?_
          refine va_lald hx hb hw.2.2.1 hw.1 2 1 rfl rfl (zIn (by assumption)) dX2_size_83 ?_
          refine ps_call (rest := []) S0 (c_X2_sizeOf l (ixI (mso S) a) (ixL (mlo S) a)) gX2_size_X2_sizeOf rfl qX2_sizeOf ⟨Nat.le_of_ble_eq_true rfl, Nat.le_of_ble_eq_true rfl⟩ ⟨Nat.le_of_ble_eq_true rfl, Nat.le_of_ble_eq_true rfl⟩ hl.1 rfl (Nat.le_of_ble_eq_true rfl) dX2_size_84 ?_
          refine lv_lstore (lv' := [(7, .long (kSize (ixI (mso S) a) (ixL (mlo S) a))), (6, .int 0), (5, .int 0), (4, .int (ixI (mso S) a)), (3, .int 0), (0, .ref (ad 0)), (1, .int a), (2, .int to)]) hx hb dX2_size_87 hl (by decide) rfl (fun ls hl => ?_)
          refine lv_iload hx hb dX2_size_89 (lv_at hl 3 rfl) ?_
          refine lv_aload_n hx hb dX2_size_91 rfl (lv_at hl 5 rfl) ?_
          refine gd_get S0 hin hw rfl rfl 2 (by decide) (S0.2.2.2.2 (.fieldLink RX2 17 "StretchDeskModel" "highs" "[J") (by decide +kernel)) rfl (v := .ref (ad 3)) rfl dX2_size_92 ?_
          refine lv_iload_n hx hb dX2_size_95 rfl (lv_at hl 6 rfl) ?_
          refine va_lald hx hb hw.2.2.1 hw.1 3 2 rfl rfl (zIn (by assumption)) dX2_size_96 ?_
          refine ps_call (rest := []) S0 (c_X2_sizeOf l (ixI (mso S) a) (ixL (mhi S) a)) gX2_size_X2_sizeOf rfl qX2_sizeOf ⟨Nat.le_of_ble_eq_true rfl, Nat.le_of_ble_eq_true rfl⟩ ⟨Nat.le_of_ble_eq_true rfl, Nat.le_of_ble_eq_true rfl⟩ hl.1 rfl (Nat.le_of_ble_eq_true rfl) dX2_size_97 ?_
          refine lv_lstore (lv' := [(9, .long (kSize (ixI (mso S) a) (ixL (mhi S) a))), (7, .long (kSize (ixI (mso S) a) (ixL (mlo S) a))), (6, .int 0), (5, .int 0), (4, .int (ixI (mso S) a)), (3, .int 0), (0, .ref (ad 0)), (1, .int a), (2, .int to)]) hx hb dX2_size_100 hl (by decide) rfl (fun ls hl => ?_)
          refine lv_iload hx hb dX2_size_102 (lv_at hl 3 rfl) ?_
          refine zi_eq (tgt := 132) hx hb dX2_size_104 (by decide) (fun _ => ?_) (fun q => absurd (by decide) q)
          refine lv_aload_n hx hb dX2_size_132 rfl (lv_at hl 6 rfl) ?_
          refine lv_iload_n hx hb dX2_size_133 rfl (lv_at hl 8 rfl) ?_
          refine lv_iload hx hb dX2_size_134 (lv_at hl 4 rfl) ?_
          refine lv_lload hx hb dX2_size_136 (lv_at hl 1 rfl) ?_
          refine lv_lload hx hb dX2_size_138 (lv_at hl 0 rfl) ?_
          refine io_call (rest := []) (w1 := (mW ad cy (mOrd to (ixI (mso S) a) (kSize (ixI (mso S) a) (ixL (mlo S) a)) (kSize (ixI (mso S) a) (ixL (mhi S) a)) S))) S0 (c_X2_ordered l D ad cy A S to (ixI (mso S) a) (kSize (ixI (mso S) a) (ixL (mlo S) a)) (kSize (ixI (mso S) a) (ixL (mhi S) a)) (by assumption)) gX2_size_X2_ordered hw rfl qX2_ordered ⟨Nat.le_of_ble_eq_true rfl, Nat.le_of_ble_eq_true rfl⟩ ⟨Nat.le_of_ble_eq_true rfl, Nat.le_of_ble_eq_true rfl⟩ rfl rfl rfl hl.1 rfl (Nat.le_of_ble_eq_true rfl) dX2_size_140 (fun H locs hw => ?_)
          exact io_iret S0 hr hlk hw dX2_size_143 (congrArg (fun z => some (Value.int z)) (show (mSize a to S).1 = 1 from (by first | (simp [mSize, zd1, zd2, zd3, zd4, zd5, zd6, hq, eq_true c_1, eq_true c_3, eq_false c_4]; done) | (simp [mSize, zd1, zd2, zd3, zd4, zd5, zd6, eq_true hq, eq_true c_1, eq_true c_3, eq_false c_4]; done) | (simp [mSize, zd1, zd2, zd3, zd4, zd5, zd6, mso, mlo, mhi, mth, mwh, mas, mbs, mts, mst, mrf, met, msd, eq_true hq, eq_true c_1, eq_true c_3, eq_false c_4]; done) | (simp [mSize, zd1, zd2, zd3, zd4, zd5, zd6, mso, mlo, mhi, mth, mwh, mas, mbs, mts, mst, mrf, met, msd, hq, c_1, c_3, c_4]; done) | contradiction | rfl))) (congrArg (mW ad cy) (show (mSize a to S).2 = mOrd to (ixI (mso S) a) (kSize (ixI (mso S) a) (ixL (mlo S) a)) (kSize (ixI (mso S) a) (ixL (mhi S) a)) S from (by first | (simp [mSize, zd1, zd2, zd3, zd4, zd5, zd6, hq, eq_true c_1, eq_true c_3, eq_false c_4]; done) | (simp [mSize, zd1, zd2, zd3, zd4, zd5, zd6, eq_true hq, eq_true c_1, eq_true c_3, eq_false c_4]; done) | (simp [mSize, zd1, zd2, zd3, zd4, zd5, zd6, mso, mlo, mhi, mth, mwh, mas, mbs, mts, mst, mrf, met, msd, eq_true hq, eq_true c_1, eq_true c_3, eq_false c_4]; done) | (simp [mSize, zd1, zd2, zd3, zd4, zd5, zd6, mso, mlo, mhi, mth, mwh, mas, mbs, mts, mst, mrf, met, msd, hq, c_1, c_3, c_4]; done) | contradiction | rfl)))
        · refine lv_iconst (v := 1) hx hb dX2_size_69 (by decide) ?_
          refine lv_goto (tgt := 74) hx hb dX2_size_70 (by decide) ?_
          refine lv_istore (lv' := [(6, .int 1), (5, .int 0), (4, .int (ixI (mso S) a)), (3, .int 0), (0, .ref (ad 0)), (1, .int a), (2, .int to)]) hx hb dX2_size_74 hl (by decide) rfl (fun ls hl => ?_)
          refine lv_iload hx hb dX2_size_76 (lv_at hl 2 rfl) ?_
          refine lv_aload_n hx hb dX2_size_78 rfl (lv_at hl 4 rfl) ?_
          refine gd_get S0 hin hw rfl rfl 1 (by decide) (S0.2.2.2.2 (.fieldLink RX2 13 "StretchDeskModel" "lows" "[J") (by decide +kernel)) rfl (v := .ref (ad 2)) rfl dX2_size_79 ?_
          refine lv_iload_n hx hb dX2_size_82 rfl (lv_at hl 5 rfl) ?_
          refine va_lald hx hb hw.2.2.1 hw.1 2 1 rfl rfl (zIn (by assumption)) dX2_size_83 ?_
          refine ps_call (rest := []) S0 (c_X2_sizeOf l (ixI (mso S) a) (ixL (mlo S) a)) gX2_size_X2_sizeOf rfl qX2_sizeOf ⟨Nat.le_of_ble_eq_true rfl, Nat.le_of_ble_eq_true rfl⟩ ⟨Nat.le_of_ble_eq_true rfl, Nat.le_of_ble_eq_true rfl⟩ hl.1 rfl (Nat.le_of_ble_eq_true rfl) dX2_size_84 ?_
          refine lv_lstore (lv' := [(7, .long (kSize (ixI (mso S) a) (ixL (mlo S) a))), (6, .int 1), (5, .int 0), (4, .int (ixI (mso S) a)), (3, .int 0), (0, .ref (ad 0)), (1, .int a), (2, .int to)]) hx hb dX2_size_87 hl (by decide) rfl (fun ls hl => ?_)
          refine lv_iload hx hb dX2_size_89 (lv_at hl 3 rfl) ?_
          refine lv_aload_n hx hb dX2_size_91 rfl (lv_at hl 5 rfl) ?_
          refine gd_get S0 hin hw rfl rfl 2 (by decide) (S0.2.2.2.2 (.fieldLink RX2 17 "StretchDeskModel" "highs" "[J") (by decide +kernel)) rfl (v := .ref (ad 3)) rfl dX2_size_92 ?_
          refine lv_iload_n hx hb dX2_size_95 rfl (lv_at hl 6 rfl) ?_
          refine va_lald hx hb hw.2.2.1 hw.1 3 2 rfl rfl (zIn (by assumption)) dX2_size_96 ?_
          refine ps_call (rest := []) S0 (c_X2_sizeOf l (ixI (mso S) a) (ixL (mhi S) a)) gX2_size_X2_sizeOf rfl qX2_sizeOf ⟨Nat.le_of_ble_eq_true rfl, Nat.le_of_ble_eq_true rfl⟩ ⟨Nat.le_of_ble_eq_true rfl, Nat.le_of_ble_eq_true rfl⟩ hl.1 rfl (Nat.le_of_ble_eq_true rfl) dX2_size_97 ?_
          refine lv_lstore (lv' := [(9, .long (kSize (ixI (mso S) a) (ixL (mhi S) a))), (7, .long (kSize (ixI (mso S) a) (ixL (mlo S) a))), (6, .int 1), (5, .int 0), (4, .int (ixI (mso S) a)), (3, .int 0), (0, .ref (ad 0)), (1, .int a), (2, .int to)]) hx hb dX2_size_100 hl (by decide) rfl (fun ls hl => ?_)
          refine lv_iload hx hb dX2_size_102 (lv_at hl 3 rfl) ?_
          refine zi_eq (tgt := 132) hx hb dX2_size_104 (by decide) (fun _ => ?_) (fun q => absurd (by decide) q)
          refine lv_aload_n hx hb dX2_size_132 rfl (lv_at hl 6 rfl) ?_
          refine lv_iload_n hx hb dX2_size_133 rfl (lv_at hl 8 rfl) ?_
          refine lv_iload hx hb dX2_size_134 (lv_at hl 4 rfl) ?_
          refine lv_lload hx hb dX2_size_136 (lv_at hl 1 rfl) ?_
          refine lv_lload hx hb dX2_size_138 (lv_at hl 0 rfl) ?_
          refine io_call (rest := []) (w1 := (mW ad cy (mOrd to (ixI (mso S) a) (kSize (ixI (mso S) a) (ixL (mlo S) a)) (kSize (ixI (mso S) a) (ixL (mhi S) a)) S))) S0 (c_X2_ordered l D ad cy A S to (ixI (mso S) a) (kSize (ixI (mso S) a) (ixL (mlo S) a)) (kSize (ixI (mso S) a) (ixL (mhi S) a)) (by assumption)) gX2_size_X2_ordered hw rfl qX2_ordered ⟨Nat.le_of_ble_eq_true rfl, Nat.le_of_ble_eq_true rfl⟩ ⟨Nat.le_of_ble_eq_true rfl, Nat.le_of_ble_eq_true rfl⟩ rfl rfl rfl hl.1 rfl (Nat.le_of_ble_eq_true rfl) dX2_size_140 (fun H locs hw => ?_)
          exact io_iret S0 hr hlk hw dX2_size_143 (congrArg (fun z => some (Value.int z)) (show (mSize a to S).1 = 1 from (by first | (simp [mSize, zd1, zd2, zd3, zd4, zd5, zd6, hq, eq_true c_1, eq_true c_3, eq_true c_4]; done) | (simp [mSize, zd1, zd2, zd3, zd4, zd5, zd6, eq_true hq, eq_true c_1, eq_true c_3, eq_true c_4]; done) | (simp [mSize, zd1, zd2, zd3, zd4, zd5, zd6, mso, mlo, mhi, mth, mwh, mas, mbs, mts, mst, mrf, met, msd, eq_true hq, eq_true c_1, eq_true c_3, eq_true c_4]; done) | (simp [mSize, zd1, zd2, zd3, zd4, zd5, zd6, mso, mlo, mhi, mth, mwh, mas, mbs, mts, mst, mrf, met, msd, hq, c_1, c_3, c_4]; done) | contradiction | rfl))) (congrArg (mW ad cy) (show (mSize a to S).2 = mOrd to (ixI (mso S) a) (kSize (ixI (mso S) a) (ixL (mlo S) a)) (kSize (ixI (mso S) a) (ixL (mhi S) a)) S from (by first | (simp [mSize, zd1, zd2, zd3, zd4, zd5, zd6, hq, eq_true c_1, eq_true c_3, eq_true c_4]; done) | (simp [mSize, zd1, zd2, zd3, zd4, zd5, zd6, eq_true hq, eq_true c_1, eq_true c_3, eq_true c_4]; done) | (simp [mSize, zd1, zd2, zd3, zd4, zd5, zd6, mso, mlo, mhi, mth, mwh, mas, mbs, mts, mst, mrf, met, msd, eq_true hq, eq_true c_1, eq_true c_3, eq_true c_4]; done) | (simp [mSize, zd1, zd2, zd3, zd4, zd5, zd6, mso, mlo, mhi, mth, mwh, mas, mbs, mts, mst, mrf, met, msd, hq, c_1, c_3, c_4]; done) | contradiction | rfl)))
      · refine lv_iconst (v := 1) hx hb dX2_size_51 (by decide) ?_
        refine lv_goto (tgt := 56) hx hb dX2_size_52 (by decide) ?_
        refine lv_istore (lv' := [(5, .int 1), (4, .int (ixI (mso S) a)), (3, .int 0), (0, .ref (ad 0)), (1, .int a), (2, .int to)]) hx hb dX2_size_56 hl (by decide) rfl (fun ls hl => ?_)
        refine lv_aload_n hx hb dX2_size_58 rfl (lv_at hl 3 rfl) ?_
        refine gd_get S0 hin hw rfl rfl 2 (by decide) (S0.2.2.2.2 (.fieldLink RX2 17 "StretchDeskModel" "highs" "[J") (by decide +kernel)) rfl (v := .ref (ad 3)) rfl dX2_size_59 ?_
        refine lv_iload_n hx hb dX2_size_62 rfl (lv_at hl 4 rfl) ?_
        refine va_lald hx hb hw.2.2.1 hw.1 3 2 rfl rfl (zIn (by assumption)) dX2_size_63 ?_
        refine lv_lconst (v := 0) hx hb dX2_size_64 (by decide) ?_
        refine zl_le (tgt := 73) hx hb dX2_size_65 dX2_size_66 (by decide) (fun c_5 => ?_) (fun c_5 => ?_)
        · refine lv_iconst (v := 0) hx hb dX2_size_73 (by decide) ?_
          refine lv_istore (lv' := [(6, .int 0), (5, .int 1), (4, .int (ixI (mso S) a)), (3, .int 0), (0, .ref (ad 0)), (1, .int a), (2, .int to)]) hx hb dX2_size_74 hl (by decide) rfl (fun ls hl => ?_)
          refine lv_iload hx hb dX2_size_76 (lv_at hl 2 rfl) ?_
          refine lv_aload_n hx hb dX2_size_78 rfl (lv_at hl 4 rfl) ?_
          refine gd_get S0 hin hw rfl rfl 1 (by decide) (S0.2.2.2.2 (.fieldLink RX2 13 "StretchDeskModel" "lows" "[J") (by decide +kernel)) rfl (v := .ref (ad 2)) rfl dX2_size_79 ?_
          refine lv_iload_n hx hb dX2_size_82 rfl (lv_at hl 5 rfl) ?_
          refine va_lald hx hb hw.2.2.1 hw.1 2 1 rfl rfl (zIn (by assumption)) dX2_size_83 ?_
          refine ps_call (rest := []) S0 (c_X2_sizeOf l (ixI (mso S) a) (ixL (mlo S) a)) gX2_size_X2_sizeOf rfl qX2_sizeOf ⟨Nat.le_of_ble_eq_true rfl, Nat.le_of_ble_eq_true rfl⟩ ⟨Nat.le_of_ble_eq_true rfl, Nat.le_of_ble_eq_true rfl⟩ hl.1 rfl (Nat.le_of_ble_eq_true rfl) dX2_size_84 ?_
          refine lv_lstore (lv' := [(7, .long (kSize (ixI (mso S) a) (ixL (mlo S) a))), (6, .int 0), (5, .int 1), (4, .int (ixI (mso S) a)), (3, .int 0), (0, .ref (ad 0)), (1, .int a), (2, .int to)]) hx hb dX2_size_87 hl (by decide) rfl (fun ls hl => ?_)
          refine lv_iload hx hb dX2_size_89 (lv_at hl 3 rfl) ?_
          refine lv_aload_n hx hb dX2_size_91 rfl (lv_at hl 5 rfl) ?_
          refine gd_get S0 hin hw rfl rfl 2 (by decide) (S0.2.2.2.2 (.fieldLink RX2 17 "StretchDeskModel" "highs" "[J") (by decide +kernel)) rfl (v := .ref (ad 3)) rfl dX2_size_92 ?_
          refine lv_iload_n hx hb dX2_size_95 rfl (lv_at hl 6 rfl) ?_
          refine va_lald hx hb hw.2.2.1 hw.1 3 2 rfl rfl (zIn (by assumption)) dX2_size_96 ?_
          refine ps_call (rest := []) S0 (c_X2_sizeOf l (ixI (mso S) a) (ixL (mhi S) a)) gX2_size_X2_sizeOf rfl qX2_sizeOf ⟨Nat.le_of_ble_eq_true rfl, Nat.le_of_ble_eq_true rfl⟩ ⟨Nat.le_of_ble_eq_true rfl, Nat.le_of_ble_eq_true rfl⟩ hl.1 rfl (Nat.le_of_ble_eq_true rfl) dX2_size_97 ?_
          refine lv_lstore (lv' := [(9, .long (kSize (ixI (mso S) a) (ixL (mhi S) a))), (7, .long (kSize (ixI (mso S) a) (ixL (mlo S) a))), (6, .int 0), (5, .int 1), (4, .int (ixI (mso S) a)), (3, .int 0), (0, .ref (ad 0)), (1, .int a), (2, .int to)]) hx hb dX2_size_100 hl (by decide) rfl (fun ls hl => ?_)
          refine lv_iload hx hb dX2_size_102 (lv_at hl 3 rfl) ?_
          refine zi_eq (tgt := 132) hx hb dX2_size_104 (by decide) (fun q => absurd q (by decide)) (fun _ => ?_)
          refine lv_iload hx hb dX2_size_107 (lv_at hl 2 rfl) ?_
          refine zi_eq (tgt := 132) hx hb dX2_size_109 (by decide) (fun _ => ?_) (fun q => absurd (by decide) q)
          refine lv_aload_n hx hb dX2_size_132 rfl (lv_at hl 6 rfl) ?_
          refine lv_iload_n hx hb dX2_size_133 rfl (lv_at hl 8 rfl) ?_
          refine lv_iload hx hb dX2_size_134 (lv_at hl 4 rfl) ?_
          refine lv_lload hx hb dX2_size_136 (lv_at hl 1 rfl) ?_
          refine lv_lload hx hb dX2_size_138 (lv_at hl 0 rfl) ?_
          refine io_call (rest := []) (w1 := (mW ad cy (mOrd to (ixI (mso S) a) (kSize (ixI (mso S) a) (ixL (mlo S) a)) (kSize (ixI (mso S) a) (ixL (mhi S) a)) S))) S0 (c_X2_ordered l D ad cy A S to (ixI (mso S) a) (kSize (ixI (mso S) a) (ixL (mlo S) a)) (kSize (ixI (mso S) a) (ixL (mhi S) a)) (by assumption)) gX2_size_X2_ordered hw rfl qX2_ordered ⟨Nat.le_of_ble_eq_true rfl, Nat.le_of_ble_eq_true rfl⟩ ⟨Nat.le_of_ble_eq_true rfl, Nat.le_of_ble_eq_true rfl⟩ rfl rfl rfl hl.1 rfl (Nat.le_of_ble_eq_true rfl) dX2_size_140 (fun H locs hw => ?_)
          exact io_iret S0 hr hlk hw dX2_size_143 (congrArg (fun z => some (Value.int z)) (show (mSize a to S).1 = 1 from (by first | (simp [mSize, zd1, zd2, zd3, zd4, zd5, zd6, hq, eq_true c_1, eq_false c_3, eq_false c_5]; done) | (simp [mSize, zd1, zd2, zd3, zd4, zd5, zd6, eq_true hq, eq_true c_1, eq_false c_3, eq_false c_5]; done) | (simp [mSize, zd1, zd2, zd3, zd4, zd5, zd6, mso, mlo, mhi, mth, mwh, mas, mbs, mts, mst, mrf, met, msd, eq_true hq, eq_true c_1, eq_false c_3, eq_false c_5]; done) | (simp [mSize, zd1, zd2, zd3, zd4, zd5, zd6, mso, mlo, mhi, mth, mwh, mas, mbs, mts, mst, mrf, met, msd, hq, c_1, c_3, c_5]; done) | contradiction | rfl))) (congrArg (mW ad cy) (show (mSize a to S).2 = mOrd to (ixI (mso S) a) (kSize (ixI (mso S) a) (ixL (mlo S) a)) (kSize (ixI (mso S) a) (ixL (mhi S) a)) S from (by first | (simp [mSize, zd1, zd2, zd3, zd4, zd5, zd6, hq, eq_true c_1, eq_false c_3, eq_false c_5]; done) | (simp [mSize, zd1, zd2, zd3, zd4, zd5, zd6, eq_true hq, eq_true c_1, eq_false c_3, eq_false c_5]; done) | (simp [mSize, zd1, zd2, zd3, zd4, zd5, zd6, mso, mlo, mhi, mth, mwh, mas, mbs, mts, mst, mrf, met, msd, eq_true hq, eq_true c_1, eq_false c_3, eq_false c_5]; done) | (simp [mSize, zd1, zd2, zd3, zd4, zd5, zd6, mso, mlo, mhi, mth, mwh, mas, mbs, mts, mst, mrf, met, msd, hq, c_1, c_3, c_5]; done) | contradiction | rfl)))
        · refine lv_iconst (v := 1) hx hb dX2_size_69 (by decide) ?_
          refine lv_goto (tgt := 74) hx hb dX2_size_70 (by decide) ?_
          refine lv_istore (lv' := [(6, .int 1), (5, .int 1), (4, .int (ixI (mso S) a)), (3, .int 0), (0, .ref (ad 0)), (1, .int a), (2, .int to)]) hx hb dX2_size_74 hl (by decide) rfl (fun ls hl => ?_)
          refine lv_iload hx hb dX2_size_76 (lv_at hl 2 rfl) ?_
          refine lv_aload_n hx hb dX2_size_78 rfl (lv_at hl 4 rfl) ?_
          refine gd_get S0 hin hw rfl rfl 1 (by decide) (S0.2.2.2.2 (.fieldLink RX2 13 "StretchDeskModel" "lows" "[J") (by decide +kernel)) rfl (v := .ref (ad 2)) rfl dX2_size_79 ?_
          refine lv_iload_n hx hb dX2_size_82 rfl (lv_at hl 5 rfl) ?_
          refine va_lald hx hb hw.2.2.1 hw.1 2 1 rfl rfl (zIn (by assumption)) dX2_size_83 ?_
          refine ps_call (rest := []) S0 (c_X2_sizeOf l (ixI (mso S) a) (ixL (mlo S) a)) gX2_size_X2_sizeOf rfl qX2_sizeOf ⟨Nat.le_of_ble_eq_true rfl, Nat.le_of_ble_eq_true rfl⟩ ⟨Nat.le_of_ble_eq_true rfl, Nat.le_of_ble_eq_true rfl⟩ hl.1 rfl (Nat.le_of_ble_eq_true rfl) dX2_size_84 ?_
          refine lv_lstore (lv' := [(7, .long (kSize (ixI (mso S) a) (ixL (mlo S) a))), (6, .int 1), (5, .int 1), (4, .int (ixI (mso S) a)), (3, .int 0), (0, .ref (ad 0)), (1, .int a), (2, .int to)]) hx hb dX2_size_87 hl (by decide) rfl (fun ls hl => ?_)
          refine lv_iload hx hb dX2_size_89 (lv_at hl 3 rfl) ?_
          refine lv_aload_n hx hb dX2_size_91 rfl (lv_at hl 5 rfl) ?_
          refine gd_get S0 hin hw rfl rfl 2 (by decide) (S0.2.2.2.2 (.fieldLink RX2 17 "StretchDeskModel" "highs" "[J") (by decide +kernel)) rfl (v := .ref (ad 3)) rfl dX2_size_92 ?_
          refine lv_iload_n hx hb dX2_size_95 rfl (lv_at hl 6 rfl) ?_
          refine va_lald hx hb hw.2.2.1 hw.1 3 2 rfl rfl (zIn (by assumption)) dX2_size_96 ?_
          refine ps_call (rest := []) S0 (c_X2_sizeOf l (ixI (mso S) a) (ixL (mhi S) a)) gX2_size_X2_sizeOf rfl qX2_sizeOf ⟨Nat.le_of_ble_eq_true rfl, Nat.le_of_ble_eq_true rfl⟩ ⟨Nat.le_of_ble_eq_true rfl, Nat.le_of_ble_eq_true rfl⟩ hl.1 rfl (Nat.le_of_ble_eq_true rfl) dX2_size_97 ?_
          refine lv_lstore (lv' := [(9, .long (kSize (ixI (mso S) a) (ixL (mhi S) a))), (7, .long (kSize (ixI (mso S) a) (ixL (mlo S) a))), (6, .int 1), (5, .int 1), (4, .int (ixI (mso S) a)), (3, .int 0), (0, .ref (ad 0)), (1, .int a), (2, .int to)]) hx hb dX2_size_100 hl (by decide) rfl (fun ls hl => ?_)
          refine lv_iload hx hb dX2_size_102 (lv_at hl 3 rfl) ?_
          refine zi_eq (tgt := 132) hx hb dX2_size_104 (by decide) (fun q => absurd q (by decide)) (fun _ => ?_)
          refine lv_iload hx hb dX2_size_107 (lv_at hl 2 rfl) ?_
          refine zi_eq (tgt := 132) hx hb dX2_size_109 (by decide) (fun q => absurd q (by decide)) (fun _ => ?_)
          refine lv_aload_n hx hb dX2_size_112 rfl (lv_at hl 6 rfl) ?_
          refine lv_iload_n hx hb dX2_size_113 rfl (lv_at hl 8 rfl) ?_
          refine lv_iload hx hb dX2_size_114 (lv_at hl 4 rfl) ?_
          refine lv_lconst (v := 0) hx hb dX2_size_116 (by decide) ?_
          refine lv_iload hx hb dX2_size_117 (lv_at hl 4 rfl) ?_
          refine lv_lload hx hb dX2_size_119 (lv_at hl 1 rfl) ?_
          refine lv_lload hx hb dX2_size_121 (lv_at hl 0 rfl) ?_
          refine ps_call (rest := [.long 0, .int (ixI (mso S) a), .int to, .ref (ad 0)]) S0 (c_X2_greater l (ixI (mso S) a) (kSize (ixI (mso S) a) (ixL (mlo S) a)) (kSize (ixI (mso S) a) (ixL (mhi S) a))) gX2_size_X2_greater rfl qX2_greater ⟨Nat.le_of_ble_eq_true rfl, Nat.le_of_ble_eq_true rfl⟩ ⟨Nat.le_of_ble_eq_true rfl, Nat.le_of_ble_eq_true rfl⟩ hl.1 rfl (Nat.le_of_ble_eq_true rfl) dX2_size_123 ?_
          refine io_call (rest := []) (w1 := (mW ad cy (mOrd to (ixI (mso S) a) 0 (kGreater (ixI (mso S) a) (kSize (ixI (mso S) a) (ixL (mlo S) a)) (kSize (ixI (mso S) a) (ixL (mhi S) a))) S))) S0 (c_X2_ordered l D ad cy A S to (ixI (mso S) a) 0 (kGreater (ixI (mso S) a) (kSize (ixI (mso S) a) (ixL (mlo S) a)) (kSize (ixI (mso S) a) (ixL (mhi S) a))) (by assumption)) gX2_size_X2_ordered hw rfl qX2_ordered ⟨Nat.le_of_ble_eq_true rfl, Nat.le_of_ble_eq_true rfl⟩ ⟨Nat.le_of_ble_eq_true rfl, Nat.le_of_ble_eq_true rfl⟩ rfl rfl rfl hl.1 rfl (Nat.le_of_ble_eq_true rfl) dX2_size_126 (fun H locs hw => ?_)
          refine lv_goto (tgt := 143) hx hb dX2_size_129 (by decide) ?_
          exact io_iret S0 hr hlk hw dX2_size_143 (congrArg (fun z => some (Value.int z)) (show (mSize a to S).1 = 1 from (by first | (simp [mSize, zd1, zd2, zd3, zd4, zd5, zd6, hq, eq_true c_1, eq_false c_3, eq_true c_5]; done) | (simp [mSize, zd1, zd2, zd3, zd4, zd5, zd6, eq_true hq, eq_true c_1, eq_false c_3, eq_true c_5]; done) | (simp [mSize, zd1, zd2, zd3, zd4, zd5, zd6, mso, mlo, mhi, mth, mwh, mas, mbs, mts, mst, mrf, met, msd, eq_true hq, eq_true c_1, eq_false c_3, eq_true c_5]; done) | (simp [mSize, zd1, zd2, zd3, zd4, zd5, zd6, mso, mlo, mhi, mth, mwh, mas, mbs, mts, mst, mrf, met, msd, hq, c_1, c_3, c_5]; done) | contradiction | rfl))) (congrArg (mW ad cy) (show (mSize a to S).2 = mOrd to (ixI (mso S) a) 0 (kGreater (ixI (mso S) a) (kSize (ixI (mso S) a) (ixL (mlo S) a)) (kSize (ixI (mso S) a) (ixL (mhi S) a))) S from (by first | (simp [mSize, zd1, zd2, zd3, zd4, zd5, zd6, hq, eq_true c_1, eq_false c_3, eq_true c_5]; done) | (simp [mSize, zd1, zd2, zd3, zd4, zd5, zd6, eq_true hq, eq_true c_1, eq_false c_3, eq_true c_5]; done) | (simp [mSize, zd1, zd2, zd3, zd4, zd5, zd6, mso, mlo, mhi, mth, mwh, mas, mbs, mts, mst, mrf, met, msd, eq_true hq, eq_true c_1, eq_false c_3, eq_true c_5]; done) | (simp [mSize, zd1, zd2, zd3, zd4, zd5, zd6, mso, mlo, mhi, mth, mwh, mas, mbs, mts, mst, mrf, met, msd, hq, c_1, c_3, c_5]; done) | contradiction | rfl)))
theorem qX2_round : yX2_round.cls = RX2 ∧ yX2_round.cls ≠ "java/lang/invoke/MethodHandle" ∧ yX2_round.cls ≠ "java/lang/invoke/VarHandle" ∧ (parseMethodDescriptor yX2_round.desc).map (fun d => d.parameters.length) = some 3 := by decide +kernel
set_option maxHeartbeats 4000000 in
set_option maxRecDepth 100000 in
theorem c_X2_round (l : Launch) (D : va_G) (ad : Nat → Nat) (cy : Nat → ClassId) (A : Nat → Prop) (S : MS) (a : Int32) (how : Int32) (to : Int32) : OM l D (mT cy) A yX2_round wsX2_round 3 66 [.ref (ad 0), .int a, .int how, .int to] (mW ad cy S) (mW ad cy ((mRound a how to S).2)) (some (.int ((mRound a how to S).1))) := by
  refine OM.of (cc := cX2_round) (maxL := 10) (ret := some .int) (own := RX2) (by decide) rfl rfl (Nat.le_of_ble_eq_true rfl) ?_
  intro p e s m below meth c ls S0 hr hlk hl hw
  have hx := S0.1
  have hb := S0.2.1
  have hl : lv_has ls 10 [(0, .ref (ad 0)), (1, .int a), (2, .int how), (3, .int to)] := hl
  have hin : ∀ w ∈ wsX20, w ∈ wsX2_round := fun w h => List.mem_cons_of_mem _ (List.mem_append_right _ h)
  refine lv_aload_n hx hb dX2_round_0 rfl (lv_at hl 0 rfl) ?_
  refine lv_iload_n hx hb dX2_round_1 rfl (lv_at hl 1 rfl) ?_
  refine lv_iload_n hx hb dX2_round_2 rfl (lv_at hl 1 rfl) ?_
  refine lv_iload_n hx hb dX2_round_3 rfl (lv_at hl 3 rfl) ?_
  refine io_call (rest := []) (w1 := (mW ad cy S)) S0 (c_X2_whyNot l D ad cy A S a a to) gX2_round_X2_whyNot hw rfl qX2_whyNot ⟨Nat.le_of_ble_eq_true rfl, Nat.le_of_ble_eq_true rfl⟩ ⟨Nat.le_of_ble_eq_true rfl, Nat.le_of_ble_eq_true rfl⟩ rfl rfl rfl hl.1 rfl (Nat.le_of_ble_eq_true rfl) dX2_round_4 (fun H locs hw => ?_)
  rcases mWhy_cases a a to S with hq | hq | ⟨hq, hs1, hs2, hs3⟩
  · rw [hq]
    refine lv_istore (lv' := [(4, .int (-2)), (0, .ref (ad 0)), (1, .int a), (2, .int how), (3, .int to)]) hx hb dX2_round_7 hl (by decide) rfl (fun ls hl => ?_)
    refine lv_iload hx hb dX2_round_9 (lv_at hl 0 rfl) ?_
    refine zi_ne (tgt := 30) hx hb dX2_round_11 (by decide) (fun _ => ?_) (fun q => absurd q (by decide))
    refine lv_iload hx hb dX2_round_30 (lv_at hl 0 rfl) ?_
    refine zi_ne (tgt := 48) hx hb dX2_round_32 (by decide) (fun _ => ?_) (fun q => absurd q (by decide))
    refine lv_iload hx hb dX2_round_48 (lv_at hl 0 rfl) ?_
    refine zi_ge (tgt := 60) hx hb dX2_round_50 (by decide) (fun q => absurd (by decide) q) (fun _ => ?_)
    refine lv_aload_n hx hb dX2_round_53 rfl (lv_at hl 1 rfl) ?_
    refine lv_iload hx hb dX2_round_54 (lv_at hl 0 rfl) ?_
    refine io_call (rest := []) (w1 := (mW ad cy (mRef (-2) S))) S0 (c_X2_refuses l D ad cy A S (-2)) gX2_round_X2_refuses hw rfl qX2_refuses ⟨Nat.le_of_ble_eq_true rfl, Nat.le_of_ble_eq_true rfl⟩ ⟨Nat.le_of_ble_eq_true rfl, Nat.le_of_ble_eq_true rfl⟩ rfl rfl rfl hl.1 rfl (Nat.le_of_ble_eq_true rfl) dX2_round_56 (fun H locs hw => ?_)
    exact io_iret S0 hr hlk hw dX2_round_59 (congrArg (fun z => some (Value.int z)) (show (mRound a how to S).1 = (-2) from (by first | (simp [mRound, mAny, zd1, zd2, zd3, zd4, zd5, zd6, hq]; done) | (simp [mRound, mAny, zd1, zd2, zd3, zd4, zd5, zd6, eq_true hq]; done) | (simp [mRound, mAny, zd1, zd2, zd3, zd4, zd5, zd6, mso, mlo, mhi, mth, mwh, mas, mbs, mts, mst, mrf, met, msd, eq_true hq]; done) | (simp [mRound, mAny, zd1, zd2, zd3, zd4, zd5, zd6, mso, mlo, mhi, mth, mwh, mas, mbs, mts, mst, mrf, met, msd, hq]; done) | contradiction | rfl))) (congrArg (mW ad cy) (show (mRound a how to S).2 = mRef (-2) S from (by first | (simp [mRound, mAny, zd1, zd2, zd3, zd4, zd5, zd6, hq]; done) | (simp [mRound, mAny, zd1, zd2, zd3, zd4, zd5, zd6, eq_true hq]; done) | (simp [mRound, mAny, zd1, zd2, zd3, zd4, zd5, zd6, mso, mlo, mhi, mth, mwh, mas, mbs, mts, mst, mrf, met, msd, eq_true hq]; done) | (simp [mRound, mAny, zd1, zd2, zd3, zd4, zd5, zd6, mso, mlo, mhi, mth, mwh, mas, mbs, mts, mst, mrf, met, msd, hq]; done) | contradiction | rfl)))
  · rw [hq]
    refine lv_istore (lv' := [(4, .int (-3)), (0, .ref (ad 0)), (1, .int a), (2, .int how), (3, .int to)]) hx hb dX2_round_7 hl (by decide) rfl (fun ls hl => ?_)
    refine lv_iload hx hb dX2_round_9 (lv_at hl 0 rfl) ?_
    refine zi_ne (tgt := 30) hx hb dX2_round_11 (by decide) (fun _ => ?_) (fun q => absurd q (by decide))
    refine lv_iload hx hb dX2_round_30 (lv_at hl 0 rfl) ?_
    refine zi_ne (tgt := 48) hx hb dX2_round_32 (by decide) (fun _ => ?_) (fun q => absurd q (by decide))
    refine lv_iload hx hb dX2_round_48 (lv_at hl 0 rfl) ?_
    refine zi_ge (tgt := 60) hx hb dX2_round_50 (by decide) (fun q => absurd (by decide) q) (fun _ => ?_)
    refine lv_aload_n hx hb dX2_round_53 rfl (lv_at hl 1 rfl) ?_
    refine lv_iload hx hb dX2_round_54 (lv_at hl 0 rfl) ?_
    refine io_call (rest := []) (w1 := (mW ad cy (mRef (-3) S))) S0 (c_X2_refuses l D ad cy A S (-3)) gX2_round_X2_refuses hw rfl qX2_refuses ⟨Nat.le_of_ble_eq_true rfl, Nat.le_of_ble_eq_true rfl⟩ ⟨Nat.le_of_ble_eq_true rfl, Nat.le_of_ble_eq_true rfl⟩ rfl rfl rfl hl.1 rfl (Nat.le_of_ble_eq_true rfl) dX2_round_56 (fun H locs hw => ?_)
    exact io_iret S0 hr hlk hw dX2_round_59 (congrArg (fun z => some (Value.int z)) (show (mRound a how to S).1 = (-3) from (by first | (simp [mRound, mAny, zd1, zd2, zd3, zd4, zd5, zd6, hq]; done) | (simp [mRound, mAny, zd1, zd2, zd3, zd4, zd5, zd6, eq_true hq]; done) | (simp [mRound, mAny, zd1, zd2, zd3, zd4, zd5, zd6, mso, mlo, mhi, mth, mwh, mas, mbs, mts, mst, mrf, met, msd, eq_true hq]; done) | (simp [mRound, mAny, zd1, zd2, zd3, zd4, zd5, zd6, mso, mlo, mhi, mth, mwh, mas, mbs, mts, mst, mrf, met, msd, hq]; done) | contradiction | rfl))) (congrArg (mW ad cy) (show (mRound a how to S).2 = mRef (-3) S from (by first | (simp [mRound, mAny, zd1, zd2, zd3, zd4, zd5, zd6, hq]; done) | (simp [mRound, mAny, zd1, zd2, zd3, zd4, zd5, zd6, eq_true hq]; done) | (simp [mRound, mAny, zd1, zd2, zd3, zd4, zd5, zd6, mso, mlo, mhi, mth, mwh, mas, mbs, mts, mst, mrf, met, msd, eq_true hq]; done) | (simp [mRound, mAny, zd1, zd2, zd3, zd4, zd5, zd6, mso, mlo, mhi, mth, mwh, mas, mbs, mts, mst, mrf, met, msd, hq]; done) | contradiction | rfl)))
  · rw [hq]
    refine lv_istore (lv' := [(4, .int 0), (0, .ref (ad 0)), (1, .int a), (2, .int how), (3, .int to)]) hx hb dX2_round_7 hl (by decide) rfl (fun ls hl => ?_)
    refine lv_iload hx hb dX2_round_9 (lv_at hl 0 rfl) ?_
    refine zi_ne (tgt := 30) hx hb dX2_round_11 (by decide) (fun q => absurd (by decide) q) (fun _ => ?_)
    refine lv_aload_n hx hb dX2_round_14 rfl (lv_at hl 1 rfl) ?_
    refine gd_get S0 hin hw rfl rfl 0 (by decide) (S0.2.2.2.2 (.fieldLink RX2 7 "StretchDeskModel" "sorts" "[I") (by decide +kernel)) rfl (v := .ref (ad 1)) rfl dX2_round_15 ?_
    refine lv_iload_n hx hb dX2_round_18 rfl (lv_at hl 2 rfl) ?_
    refine va_iald hx hb hw.2.2.1 hw.1 1 0 rfl rfl (zIn (by assumption)) dX2_round_19 ?_
    refine ps_call (rest := []) S0 (c_X2_isBroken l (ixI (mso S) a)) gX2_round_X2_isBroken rfl qX2_isBroken ⟨Nat.le_of_ble_eq_true rfl, Nat.le_of_ble_eq_true rfl⟩ ⟨Nat.le_of_ble_eq_true rfl, Nat.le_of_ble_eq_true rfl⟩ hl.1 rfl (Nat.le_of_ble_eq_true rfl) dX2_round_20 ?_
    refine zb_ne (P := kBroken (ixI (mso S) a)) (tgt := 30) hx hb dX2_round_23 (by decide) (fun c_1 => ?_) (fun c_1 => ?_)
    · refine lv_iload hx hb dX2_round_30 (lv_at hl 0 rfl) ?_
      refine zi_ne (tgt := 48) hx hb dX2_round_32 (by decide) (fun q => absurd (by decide) q) (fun _ => ?_)
      refine lv_iload_n hx hb dX2_round_35 rfl (lv_at hl 3 rfl) ?_
      refine zi_lt (tgt := 44) hx hb dX2_round_36 (by decide) (fun c_2 => ?_) (fun c_2 => ?_)
      · refine lv_bipush (v := -5) hx hb dX2_round_44 (by decide) ?_
        refine lv_istore (lv' := [(4, .int (-5)), (0, .ref (ad 0)), (1, .int a), (2, .int how), (3, .int to)]) hx hb dX2_round_46 hl (by decide) rfl (fun ls hl => ?_)
        refine lv_iload hx hb dX2_round_48 (lv_at hl 0 rfl) ?_
        refine zi_ge (tgt := 60) hx hb dX2_round_50 (by decide) (fun q => absurd (by decide) q) (fun _ => ?_)
        refine lv_aload_n hx hb dX2_round_53 rfl (lv_at hl 1 rfl) ?_
        refine lv_iload hx hb dX2_round_54 (lv_at hl 0 rfl) ?_
        refine io_call (rest := []) (w1 := (mW ad cy (mRef (-5) S))) S0 (c_X2_refuses l D ad cy A S (-5)) gX2_round_X2_refuses hw rfl qX2_refuses ⟨Nat.le_of_ble_eq_true rfl, Nat.le_of_ble_eq_true rfl⟩ ⟨Nat.le_of_ble_eq_true rfl, Nat.le_of_ble_eq_true rfl⟩ rfl rfl rfl hl.1 rfl (Nat.le_of_ble_eq_true rfl) dX2_round_56 (fun H locs hw => ?_)
        exact io_iret S0 hr hlk hw dX2_round_59 (congrArg (fun z => some (Value.int z)) (show (mRound a how to S).1 = (-5) from (by first | (simp [mRound, mAny, zd1, zd2, zd3, zd4, zd5, zd6, hq, eq_true c_1, eq_true c_2]; done) | (simp [mRound, mAny, zd1, zd2, zd3, zd4, zd5, zd6, eq_true hq, eq_true c_1, eq_true c_2]; done) | (simp [mRound, mAny, zd1, zd2, zd3, zd4, zd5, zd6, mso, mlo, mhi, mth, mwh, mas, mbs, mts, mst, mrf, met, msd, eq_true hq, eq_true c_1, eq_true c_2]; done) | (simp [mRound, mAny, zd1, zd2, zd3, zd4, zd5, zd6, mso, mlo, mhi, mth, mwh, mas, mbs, mts, mst, mrf, met, msd, hq, c_1, c_2]; done) | contradiction | rfl))) (congrArg (mW ad cy) (show (mRound a how to S).2 = mRef (-5) S from (by first | (simp [mRound, mAny, zd1, zd2, zd3, zd4, zd5, zd6, hq, eq_true c_1, eq_true c_2]; done) | (simp [mRound, mAny, zd1, zd2, zd3, zd4, zd5, zd6, eq_true hq, eq_true c_1, eq_true c_2]; done) | (simp [mRound, mAny, zd1, zd2, zd3, zd4, zd5, zd6, mso, mlo, mhi, mth, mwh, mas, mbs, mts, mst, mrf, met, msd, eq_true hq, eq_true c_1, eq_true c_2]; done) | (simp [mRound, mAny, zd1, zd2, zd3, zd4, zd5, zd6, mso, mlo, mhi, mth, mwh, mas, mbs, mts, mst, mrf, met, msd, hq, c_1, c_2]; done) | contradiction | rfl)))
      · refine lv_iload_n hx hb dX2_round_39 rfl (lv_at hl 3 rfl) ?_
        refine lv_iconst (v := 4) hx hb dX2_round_40 (by decide) ?_
        refine zc_le (tgt := 48) hx hb dX2_round_41 (by decide) (fun c_3 => ?_) (fun c_3 => ?_)
        · refine lv_iload hx hb dX2_round_48 (lv_at hl 0 rfl) ?_
          refine zi_ge (tgt := 60) hx hb dX2_round_50 (by decide) (fun _ => ?_) (fun q => absurd q (by decide))
          refine lv_aload_n hx hb dX2_round_60 rfl (lv_at hl 1 rfl) ?_
          refine gd_get S0 hin hw rfl rfl 0 (by decide) (S0.2.2.2.2 (.fieldLink RX2 7 "StretchDeskModel" "sorts" "[I") (by decide +kernel)) rfl (v := .ref (ad 1)) rfl dX2_round_61 ?_
          refine lv_iload_n hx hb dX2_round_64 rfl (lv_at hl 2 rfl) ?_
          refine va_iald hx hb hw.2.2.1 hw.1 1 0 rfl rfl (zIn (by assumption)) dX2_round_65 ?_
          refine lv_istore (lv' := [(5, .int (ixI (mso S) a)), (4, .int 0), (0, .ref (ad 0)), (1, .int a), (2, .int how), (3, .int to)]) hx hb dX2_round_66 hl (by decide) rfl (fun ls hl => ?_)
          refine lv_iload hx hb dX2_round_68 (lv_at hl 0 rfl) ?_
          refine lv_aload_n hx hb dX2_round_70 rfl (lv_at hl 2 rfl) ?_
          refine gd_get S0 hin hw rfl rfl 1 (by decide) (S0.2.2.2.2 (.fieldLink RX2 13 "StretchDeskModel" "lows" "[J") (by decide +kernel)) rfl (v := .ref (ad 2)) rfl dX2_round_71 ?_
          refine lv_iload_n hx hb dX2_round_74 rfl (lv_at hl 3 rfl) ?_
          refine va_lald hx hb hw.2.2.1 hw.1 2 1 rfl rfl (zIn (by assumption)) dX2_round_75 ?_
          refine lv_iload_n hx hb dX2_round_76 rfl (lv_at hl 4 rfl) ?_
          refine lv_iconst (v := 3) hx hb dX2_round_77 (by decide) ?_
          refine zc_ge (tgt := 85) hx hb dX2_round_78 (by decide) (fun c_4 => ?_) (fun c_4 => ?_)
          · refine lv_iload_n hx hb dX2_round_85 rfl (lv_at hl 4 rfl) ?_
            refine lv_iconst (v := 3) hx hb dX2_round_86 (by decide) ?_
            refine lv_isub hx hb dX2_round_87 ?_
            refine ps_call (rest := []) S0 (c_X2_whole l (ixI (mso S) a) (ixL (mlo S) a) (how - 3)) gX2_round_X2_whole rfl qX2_whole ⟨Nat.le_of_ble_eq_true rfl, Nat.le_of_ble_eq_true rfl⟩ ⟨Nat.le_of_ble_eq_true rfl, Nat.le_of_ble_eq_true rfl⟩ hl.1 rfl (Nat.le_of_ble_eq_true rfl) dX2_round_88 ?_
            refine lv_lstore (lv' := [(6, .long (kWhole (ixI (mso S) a) (ixL (mlo S) a) (how - 3))), (5, .int (ixI (mso S) a)), (4, .int 0), (0, .ref (ad 0)), (1, .int a), (2, .int how), (3, .int to)]) hx hb dX2_round_91 hl (by decide) rfl (fun ls hl => ?_)
            refine lv_iload hx hb dX2_round_93 (lv_at hl 1 rfl) ?_
            refine lv_aload_n hx hb dX2_round_95 rfl (lv_at hl 3 rfl) ?_
            refine gd_get S0 hin hw rfl rfl 2 (by decide) (S0.2.2.2.2 (.fieldLink RX2 17 "StretchDeskModel" "highs" "[J") (by decide +kernel)) rfl (v := .ref (ad 3)) rfl dX2_round_96 ?_
            refine lv_iload_n hx hb dX2_round_99 rfl (lv_at hl 4 rfl) ?_
            refine va_lald hx hb hw.2.2.1 hw.1 3 2 rfl rfl (zIn (by assumption)) dX2_round_100 ?_
            refine lv_iload_n hx hb dX2_round_101 rfl (lv_at hl 5 rfl) ?_
            refine lv_iconst (v := 3) hx hb dX2_round_102 (by decide) ?_
            refine zc_ge (tgt := 110) hx hb dX2_round_103 (by decide) (fun _ => ?_) (fun q => absurd q c_4)
            refine lv_iconst (v := 4) hx hb dX2_round_110 (by decide) ?_
            refine lv_iload_n hx hb dX2_round_111 rfl (lv_at hl 5 rfl) ?_
            refine lv_isub hx hb dX2_round_112 ?_
            refine ps_call (rest := []) S0 (c_X2_whole l (ixI (mso S) a) (ixL (mhi S) a) (4 - how)) gX2_round_X2_whole rfl qX2_whole ⟨Nat.le_of_ble_eq_true rfl, Nat.le_of_ble_eq_true rfl⟩ ⟨Nat.le_of_ble_eq_true rfl, Nat.le_of_ble_eq_true rfl⟩ hl.1 rfl (Nat.le_of_ble_eq_true rfl) dX2_round_113 ?_
            refine lv_lstore (lv' := [(8, .long (kWhole (ixI (mso S) a) (ixL (mhi S) a) (4 - how))), (6, .long (kWhole (ixI (mso S) a) (ixL (mlo S) a) (how - 3))), (5, .int (ixI (mso S) a)), (4, .int 0), (0, .ref (ad 0)), (1, .int a), (2, .int how), (3, .int to)]) hx hb dX2_round_116 hl (by decide) rfl (fun ls hl => ?_)
            refine lv_iload hx hb dX2_round_118 (lv_at hl 2 rfl) ?_
            refine lv_lload hx hb dX2_round_120 (lv_at hl 1 rfl) ?_
            refine lv_lload hx hb dX2_round_122 (lv_at hl 0 rfl) ?_
            refine ps_call (rest := []) S0 (c_X2_isAbove l (ixI (mso S) a) (kWhole (ixI (mso S) a) (ixL (mlo S) a) (how - 3)) (kWhole (ixI (mso S) a) (ixL (mhi S) a) (4 - how))) gX2_round_X2_isAbove rfl qX2_isAbove ⟨Nat.le_of_ble_eq_true rfl, Nat.le_of_ble_eq_true rfl⟩ ⟨Nat.le_of_ble_eq_true rfl, Nat.le_of_ble_eq_true rfl⟩ hl.1 rfl (Nat.le_of_ble_eq_true rfl) dX2_round_124 ?_
            refine zb_eq (P := kAbove (ixI (mso S) a) (kWhole (ixI (mso S) a) (ixL (mlo S) a) (how - 3)) (kWhole (ixI (mso S) a) (ixL (mhi S) a) (4 - how))) (tgt := 138) hx hb dX2_round_127 (by decide) (fun c_5 => ?_) (fun c_5 => ?_)
            · refine lv_aload_n hx hb dX2_round_138 rfl (lv_at hl 4 rfl) ?_
              refine lv_iload_n hx hb dX2_round_139 rfl (lv_at hl 7 rfl) ?_
              refine lv_iload hx hb dX2_round_140 (lv_at hl 2 rfl) ?_
              refine lv_lload hx hb dX2_round_142 (lv_at hl 1 rfl) ?_
              refine lv_lload hx hb dX2_round_144 (lv_at hl 0 rfl) ?_
              refine io_call (rest := []) (w1 := (mW ad cy (mComes to (ixI (mso S) a) (kWhole (ixI (mso S) a) (ixL (mlo S) a) (how - 3)) (kWhole (ixI (mso S) a) (ixL (mhi S) a) (4 - how)) S))) S0 (c_X2_comes l D ad cy A S to (ixI (mso S) a) (kWhole (ixI (mso S) a) (ixL (mlo S) a) (how - 3)) (kWhole (ixI (mso S) a) (ixL (mhi S) a) (4 - how)) (by assumption)) gX2_round_X2_comes hw rfl qX2_comes ⟨Nat.le_of_ble_eq_true rfl, Nat.le_of_ble_eq_true rfl⟩ ⟨Nat.le_of_ble_eq_true rfl, Nat.le_of_ble_eq_true rfl⟩ rfl rfl rfl hl.1 rfl (Nat.le_of_ble_eq_true rfl) dX2_round_146 (fun H locs hw => ?_)
              exact io_iret S0 hr hlk hw dX2_round_149 (congrArg (fun z => some (Value.int z)) (show (mRound a how to S).1 = 1 from (by first | (simp [mRound, mAny, zd1, zd2, zd3, zd4, zd5, zd6, hq, eq_true c_1, eq_false c_2, eq_false c_3, eq_false c_4, eq_false c_5]; done) | (simp [mRound, mAny, zd1, zd2, zd3, zd4, zd5, zd6, eq_true hq, eq_true c_1, eq_false c_2, eq_false c_3, eq_false c_4, eq_false c_5]; done) | (simp [mRound, mAny, zd1, zd2, zd3, zd4, zd5, zd6, mso, mlo, mhi, mth, mwh, mas, mbs, mts, mst, mrf, met, msd, eq_true hq, eq_true c_1, eq_false c_2, eq_false c_3, eq_false c_4, eq_false c_5]; done) | (simp [mRound, mAny, zd1, zd2, zd3, zd4, zd5, zd6, mso, mlo, mhi, mth, mwh, mas, mbs, mts, mst, mrf, met, msd, hq, c_1, c_2, c_3, c_4, c_5]; done) | contradiction | rfl))) (congrArg (mW ad cy) (show (mRound a how to S).2 = mComes to (ixI (mso S) a) (kWhole (ixI (mso S) a) (ixL (mlo S) a) (how - 3)) (kWhole (ixI (mso S) a) (ixL (mhi S) a) (4 - how)) S from (by first | (simp [mRound, mAny, zd1, zd2, zd3, zd4, zd5, zd6, hq, eq_true c_1, eq_false c_2, eq_false c_3, eq_false c_4, eq_false c_5]; done) | (simp [mRound, mAny, zd1, zd2, zd3, zd4, zd5, zd6, eq_true hq, eq_true c_1, eq_false c_2, eq_false c_3, eq_false c_4, eq_false c_5]; done) | (simp [mRound, mAny, zd1, zd2, zd3, zd4, zd5, zd6, mso, mlo, mhi, mth, mwh, mas, mbs, mts, mst, mrf, met, msd, eq_true hq, eq_true c_1, eq_false c_2, eq_false c_3, eq_false c_4, eq_false c_5]; done) | (simp [mRound, mAny, zd1, zd2, zd3, zd4, zd5, zd6, mso, mlo, mhi, mth, mwh, mas, mbs, mts, mst, mrf, met, msd, hq, c_1, c_2, c_3, c_4, c_5]; done) | contradiction | rfl)))
            · refine lv_aload_n hx hb dX2_round_130 rfl (lv_at hl 4 rfl) ?_
              refine lv_iload_n hx hb dX2_round_131 rfl (lv_at hl 7 rfl) ?_
              refine io_call (rest := []) (w1 := (mW ad cy (mEmpty to S))) S0 (c_X2_emptied l D ad cy A S to (by assumption)) gX2_round_X2_emptied hw rfl qX2_emptied ⟨Nat.le_of_ble_eq_true rfl, Nat.le_of_ble_eq_true rfl⟩ ⟨Nat.le_of_ble_eq_true rfl, Nat.le_of_ble_eq_true rfl⟩ rfl rfl rfl hl.1 rfl (Nat.le_of_ble_eq_true rfl) dX2_round_132 (fun H locs hw => ?_)
              refine lv_goto (tgt := 149) hx hb dX2_round_135 (by decide) ?_
              exact io_iret S0 hr hlk hw dX2_round_149 (congrArg (fun z => some (Value.int z)) (show (mRound a how to S).1 = 0 from (by first | (simp [mRound, mAny, zd1, zd2, zd3, zd4, zd5, zd6, hq, eq_true c_1, eq_false c_2, eq_false c_3, eq_false c_4, eq_true c_5]; done) | (simp [mRound, mAny, zd1, zd2, zd3, zd4, zd5, zd6, eq_true hq, eq_true c_1, eq_false c_2, eq_false c_3, eq_false c_4, eq_true c_5]; done) | (simp [mRound, mAny, zd1, zd2, zd3, zd4, zd5, zd6, mso, mlo, mhi, mth, mwh, mas, mbs, mts, mst, mrf, met, msd, eq_true hq, eq_true c_1, eq_false c_2, eq_false c_3, eq_false c_4, eq_true c_5]; done) | (simp [mRound, mAny, zd1, zd2, zd3, zd4, zd5, zd6, mso, mlo, mhi, mth, mwh, mas, mbs, mts, mst, mrf, met, msd, hq, c_1, c_2, c_3, c_4, c_5]; done) | contradiction | rfl))) (congrArg (mW ad cy) (show (mRound a how to S).2 = mEmpty to S from (by first | (simp [mRound, mAny, zd1, zd2, zd3, zd4, zd5, zd6, hq, eq_true c_1, eq_false c_2, eq_false c_3, eq_false c_4, eq_true c_5]; done) | (simp [mRound, mAny, zd1, zd2, zd3, zd4, zd5, zd6, eq_true hq, eq_true c_1, eq_false c_2, eq_false c_3, eq_false c_4, eq_true c_5]; done) | (simp [mRound, mAny, zd1, zd2, zd3, zd4, zd5, zd6, mso, mlo, mhi, mth, mwh, mas, mbs, mts, mst, mrf, met, msd, eq_true hq, eq_true c_1, eq_false c_2, eq_false c_3, eq_false c_4, eq_true c_5]; done) | (simp [mRound, mAny, zd1, zd2, zd3, zd4, zd5, zd6, mso, mlo, mhi, mth, mwh, mas, mbs, mts, mst, mrf, met, msd, hq, c_1, c_2, c_3, c_4, c_5]; done) | contradiction | rfl)))
          · refine lv_iload_n hx hb dX2_round_81 rfl (lv_at hl 4 rfl) ?_
            refine lv_goto (tgt := 88) hx hb dX2_round_82 (by decide) ?_
            refine ps_call (rest := []) S0 (c_X2_whole l (ixI (mso S) a) (ixL (mlo S) a) how) gX2_round_X2_whole rfl qX2_whole ⟨Nat.le_of_ble_eq_true rfl, Nat.le_of_ble_eq_true rfl⟩ ⟨Nat.le_of_ble_eq_true rfl, Nat.le_of_ble_eq_true rfl⟩ hl.1 rfl (Nat.le_of_ble_eq_true rfl) dX2_round_88 ?_
            refine lv_lstore (lv' := [(6, .long (kWhole (ixI (mso S) a) (ixL (mlo S) a) how)), (5, .int (ixI (mso S) a)), (4, .int 0), (0, .ref (ad 0)), (1, .int a), (2, .int how), (3, .int to)]) hx hb dX2_round_91 hl (by decide) rfl (fun ls hl => ?_)
            refine lv_iload hx hb dX2_round_93 (lv_at hl 1 rfl) ?_
            refine lv_aload_n hx hb dX2_round_95 rfl (lv_at hl 3 rfl) ?_
            refine gd_get S0 hin hw rfl rfl 2 (by decide) (S0.2.2.2.2 (.fieldLink RX2 17 "StretchDeskModel" "highs" "[J") (by decide +kernel)) rfl (v := .ref (ad 3)) rfl dX2_round_96 ?_
            refine lv_iload_n hx hb dX2_round_99 rfl (lv_at hl 4 rfl) ?_
            refine va_lald hx hb hw.2.2.1 hw.1 3 2 rfl rfl (zIn (by assumption)) dX2_round_100 ?_
            refine lv_iload_n hx hb dX2_round_101 rfl (lv_at hl 5 rfl) ?_
            refine lv_iconst (v := 3) hx hb dX2_round_102 (by decide) ?_
            refine zc_ge (tgt := 110) hx hb dX2_round_103 (by decide) (fun q => absurd c_4 q) (fun _ => ?_)
            refine lv_iload_n hx hb dX2_round_106 rfl (lv_at hl 5 rfl) ?_
            refine lv_goto (tgt := 113) hx hb dX2_round_107 (by decide) ?_
            refine ps_call (rest := []) S0 (c_X2_whole l (ixI (mso S) a) (ixL (mhi S) a) how) gX2_round_X2_whole rfl qX2_whole ⟨Nat.le_of_ble_eq_true rfl, Nat.le_of_ble_eq_true rfl⟩ ⟨Nat.le_of_ble_eq_true rfl, Nat.le_of_ble_eq_true rfl⟩ hl.1 rfl (Nat.le_of_ble_eq_true rfl) dX2_round_113 ?_
            refine lv_lstore (lv' := [(8, .long (kWhole (ixI (mso S) a) (ixL (mhi S) a) how)), (6, .long (kWhole (ixI (mso S) a) (ixL (mlo S) a) how)), (5, .int (ixI (mso S) a)), (4, .int 0), (0, .ref (ad 0)), (1, .int a), (2, .int how), (3, .int to)]) hx hb dX2_round_116 hl (by decide) rfl (fun ls hl => ?_)
            refine lv_iload hx hb dX2_round_118 (lv_at hl 2 rfl) ?_
            refine lv_lload hx hb dX2_round_120 (lv_at hl 1 rfl) ?_
            refine lv_lload hx hb dX2_round_122 (lv_at hl 0 rfl) ?_
            refine ps_call (rest := []) S0 (c_X2_isAbove l (ixI (mso S) a) (kWhole (ixI (mso S) a) (ixL (mlo S) a) how) (kWhole (ixI (mso S) a) (ixL (mhi S) a) how)) gX2_round_X2_isAbove rfl qX2_isAbove ⟨Nat.le_of_ble_eq_true rfl, Nat.le_of_ble_eq_true rfl⟩ ⟨Nat.le_of_ble_eq_true rfl, Nat.le_of_ble_eq_true rfl⟩ hl.1 rfl (Nat.le_of_ble_eq_true rfl) dX2_round_124 ?_
            refine zb_eq (P := kAbove (ixI (mso S) a) (kWhole (ixI (mso S) a) (ixL (mlo S) a) how) (kWhole (ixI (mso S) a) (ixL (mhi S) a) how)) (tgt := 138) hx hb dX2_round_127 (by decide) (fun c_6 => ?_) (fun c_6 => ?_)
            · refine lv_aload_n hx hb dX2_round_138 rfl (lv_at hl 4 rfl) ?_
              refine lv_iload_n hx hb dX2_round_139 rfl (lv_at hl 7 rfl) ?_
              refine lv_iload hx hb dX2_round_140 (lv_at hl 2 rfl) ?_
              refine lv_lload hx hb dX2_round_142 (lv_at hl 1 rfl) ?_
              refine lv_lload hx hb dX2_round_144 (lv_at hl 0 rfl) ?_
              refine io_call (rest := []) (w1 := (mW ad cy (mComes to (ixI (mso S) a) (kWhole (ixI (mso S) a) (ixL (mlo S) a) how) (kWhole (ixI (mso S) a) (ixL (mhi S) a) how) S))) S0 (c_X2_comes l D ad cy A S to (ixI (mso S) a) (kWhole (ixI (mso S) a) (ixL (mlo S) a) how) (kWhole (ixI (mso S) a) (ixL (mhi S) a) how) (by assumption)) gX2_round_X2_comes hw rfl qX2_comes ⟨Nat.le_of_ble_eq_true rfl, Nat.le_of_ble_eq_true rfl⟩ ⟨Nat.le_of_ble_eq_true rfl, Nat.le_of_ble_eq_true rfl⟩ rfl rfl rfl hl.1 rfl (Nat.le_of_ble_eq_true rfl) dX2_round_146 (fun H locs hw => ?_)
              exact io_iret S0 hr hlk hw dX2_round_149 (congrArg (fun z => some (Value.int z)) (show (mRound a how to S).1 = 1 from (by first | (simp [mRound, mAny, zd1, zd2, zd3, zd4, zd5, zd6, hq, eq_true c_1, eq_false c_2, eq_false c_3, eq_true c_4, eq_false c_6]; done) | (simp [mRound, mAny, zd1, zd2, zd3, zd4, zd5, zd6, eq_true hq, eq_true c_1, eq_false c_2, eq_false c_3, eq_true c_4, eq_false c_6]; done) | (simp [mRound, mAny, zd1, zd2, zd3, zd4, zd5, zd6, mso, mlo, mhi, mth, mwh, mas, mbs, mts, mst, mrf, met, msd, eq_true hq, eq_true c_1, eq_false c_2, eq_false c_3, eq_true c_4, eq_false c_6]; done) | (simp [mRound, mAny, zd1, zd2, zd3, zd4, zd5, zd6, mso, mlo, mhi, mth, mwh, mas, mbs, mts, mst, mrf, met, msd, hq, c_1, c_2, c_3, c_4, c_6]; done) | contradiction | rfl))) (congrArg (mW ad cy) (show (mRound a how to S).2 = mComes to (ixI (mso S) a) (kWhole (ixI (mso S) a) (ixL (mlo S) a) how) (kWhole (ixI (mso S) a) (ixL (mhi S) a) how) S from (by first | (simp [mRound, mAny, zd1, zd2, zd3, zd4, zd5, zd6, hq, eq_true c_1, eq_false c_2, eq_false c_3, eq_true c_4, eq_false c_6]; done) | (simp [mRound, mAny, zd1, zd2, zd3, zd4, zd5, zd6, eq_true hq, eq_true c_1, eq_false c_2, eq_false c_3, eq_true c_4, eq_false c_6]; done) | (simp [mRound, mAny, zd1, zd2, zd3, zd4, zd5, zd6, mso, mlo, mhi, mth, mwh, mas, mbs, mts, mst, mrf, met, msd, eq_true hq, eq_true c_1, eq_false c_2, eq_false c_3, eq_true c_4, eq_false c_6]; done) | (simp [mRound, mAny, zd1, zd2, zd3, zd4, zd5, zd6, mso, mlo, mhi, mth, mwh, mas, mbs, mts, mst, mrf, met, msd, hq, c_1, c_2, c_3, c_4, c_6]; done) | contradiction | rfl)))
            · refine lv_aload_n hx hb dX2_round_130 rfl (lv_at hl 4 rfl) ?_
              refine lv_iload_n hx hb dX2_round_131 rfl (lv_at hl 7 rfl) ?_
              refine io_call (rest := []) (w1 := (mW ad cy (mEmpty to S))) S0 (c_X2_emptied l D ad cy A S to (by assumption)) gX2_round_X2_emptied hw rfl qX2_emptied ⟨Nat.le_of_ble_eq_true rfl, Nat.le_of_ble_eq_true rfl⟩ ⟨Nat.le_of_ble_eq_true rfl, Nat.le_of_ble_eq_true rfl⟩ rfl rfl rfl hl.1 rfl (Nat.le_of_ble_eq_true rfl) dX2_round_132 (fun H locs hw => ?_)
              refine lv_goto (tgt := 149) hx hb dX2_round_135 (by decide) ?_
              exact io_iret S0 hr hlk hw dX2_round_149 (congrArg (fun z => some (Value.int z)) (show (mRound a how to S).1 = 0 from (by first | (simp [mRound, mAny, zd1, zd2, zd3, zd4, zd5, zd6, hq, eq_true c_1, eq_false c_2, eq_false c_3, eq_true c_4, eq_true c_6]; done) | (simp [mRound, mAny, zd1, zd2, zd3, zd4, zd5, zd6, eq_true hq, eq_true c_1, eq_false c_2, eq_false c_3, eq_true c_4, eq_true c_6]; done) | (simp [mRound, mAny, zd1, zd2, zd3, zd4, zd5, zd6, mso, mlo, mhi, mth, mwh, mas, mbs, mts, mst, mrf, met, msd, eq_true hq, eq_true c_1, eq_false c_2, eq_false c_3, eq_true c_4, eq_true c_6]; done) | (simp [mRound, mAny, zd1, zd2, zd3, zd4, zd5, zd6, mso, mlo, mhi, mth, mwh, mas, mbs, mts, mst, mrf, met, msd, hq, c_1, c_2, c_3, c_4, c_6]; done) | contradiction | rfl))) (congrArg (mW ad cy) (show (mRound a how to S).2 = mEmpty to S from (by first | (simp [mRound, mAny, zd1, zd2, zd3, zd4, zd5, zd6, hq, eq_true c_1, eq_false c_2, eq_false c_3, eq_true c_4, eq_true c_6]; done) | (simp [mRound, mAny, zd1, zd2, zd3, zd4, zd5, zd6, eq_true hq, eq_true c_1, eq_false c_2, eq_false c_3, eq_true c_4, eq_true c_6]; done) | (simp [mRound, mAny, zd1, zd2, zd3, zd4, zd5, zd6, mso, mlo, mhi, mth, mwh, mas, mbs, mts, mst, mrf, met, msd, eq_true hq, eq_true c_1, eq_false c_2, eq_false c_3, eq_true c_4, eq_true c_6]; done) | (simp [mRound, mAny, zd1, zd2, zd3, zd4, zd5, zd6, mso, mlo, mhi, mth, mwh, mas, mbs, mts, mst, mrf, met, msd, hq, c_1, c_2, c_3, c_4, c_6]; done) | contradiction | rfl)))
        · refine lv_bipush (v := -5) hx hb dX2_round_44 (by decide) ?_
          refine lv_istore (lv' := [(4, .int (-5)), (0, .ref (ad 0)), (1, .int a), (2, .int how), (3, .int to)]) hx hb dX2_round_46 hl (by decide) rfl (fun ls hl => ?_)
          refine lv_iload hx hb dX2_round_48 (lv_at hl 0 rfl) ?_
          refine zi_ge (tgt := 60) hx hb dX2_round_50 (by decide) (fun q => absurd (by decide) q) (fun _ => ?_)
          refine lv_aload_n hx hb dX2_round_53 rfl (lv_at hl 1 rfl) ?_
          refine lv_iload hx hb dX2_round_54 (lv_at hl 0 rfl) ?_
          refine io_call (rest := []) (w1 := (mW ad cy (mRef (-5) S))) S0 (c_X2_refuses l D ad cy A S (-5)) gX2_round_X2_refuses hw rfl qX2_refuses ⟨Nat.le_of_ble_eq_true rfl, Nat.le_of_ble_eq_true rfl⟩ ⟨Nat.le_of_ble_eq_true rfl, Nat.le_of_ble_eq_true rfl⟩ rfl rfl rfl hl.1 rfl (Nat.le_of_ble_eq_true rfl) dX2_round_56 (fun H locs hw => ?_)
          exact io_iret S0 hr hlk hw dX2_round_59 (congrArg (fun z => some (Value.int z)) (show (mRound a how to S).1 = (-5) from (by first | (simp [mRound, mAny, zd1, zd2, zd3, zd4, zd5, zd6, hq, eq_true c_1, eq_false c_2, eq_true c_3]; done) | (simp [mRound, mAny, zd1, zd2, zd3, zd4, zd5, zd6, eq_true hq, eq_true c_1, eq_false c_2, eq_true c_3]; done) | (simp [mRound, mAny, zd1, zd2, zd3, zd4, zd5, zd6, mso, mlo, mhi, mth, mwh, mas, mbs, mts, mst, mrf, met, msd, eq_true hq, eq_true c_1, eq_false c_2, eq_true c_3]; done) | (simp [mRound, mAny, zd1, zd2, zd3, zd4, zd5, zd6, mso, mlo, mhi, mth, mwh, mas, mbs, mts, mst, mrf, met, msd, hq, c_1, c_2, c_3]; done) | contradiction | rfl))) (congrArg (mW ad cy) (show (mRound a how to S).2 = mRef (-5) S from (by first | (simp [mRound, mAny, zd1, zd2, zd3, zd4, zd5, zd6, hq, eq_true c_1, eq_false c_2, eq_true c_3]; done) | (simp [mRound, mAny, zd1, zd2, zd3, zd4, zd5, zd6, eq_true hq, eq_true c_1, eq_false c_2, eq_true c_3]; done) | (simp [mRound, mAny, zd1, zd2, zd3, zd4, zd5, zd6, mso, mlo, mhi, mth, mwh, mas, mbs, mts, mst, mrf, met, msd, eq_true hq, eq_true c_1, eq_false c_2, eq_true c_3]; done) | (simp [mRound, mAny, zd1, zd2, zd3, zd4, zd5, zd6, mso, mlo, mhi, mth, mwh, mas, mbs, mts, mst, mrf, met, msd, hq, c_1, c_2, c_3]; done) | contradiction | rfl)))
    · refine lv_bipush (v := -4) hx hb dX2_round_26 (by decide) ?_
      refine lv_istore (lv' := [(4, .int (-4)), (0, .ref (ad 0)), (1, .int a), (2, .int how), (3, .int to)]) hx hb dX2_round_28 hl (by decide) rfl (fun ls hl => ?_)
      refine lv_iload hx hb dX2_round_30 (lv_at hl 0 rfl) ?_
      refine zi_ne (tgt := 48) hx hb dX2_round_32 (by decide) (fun _ => ?_) (fun q => absurd q (by decide))
      refine lv_iload hx hb dX2_round_48 (lv_at hl 0 rfl) ?_
      refine zi_ge (tgt := 60) hx hb dX2_round_50 (by decide) (fun q => absurd (by decide) q) (fun _ => ?_)
      refine lv_aload_n hx hb dX2_round_53 rfl (lv_at hl 1 rfl) ?_
      refine lv_iload hx hb dX2_round_54 (lv_at hl 0 rfl) ?_
      refine io_call (rest := []) (w1 := (mW ad cy (mRef (-4) S))) S0 (c_X2_refuses l D ad cy A S (-4)) gX2_round_X2_refuses hw rfl qX2_refuses ⟨Nat.le_of_ble_eq_true rfl, Nat.le_of_ble_eq_true rfl⟩ ⟨Nat.le_of_ble_eq_true rfl, Nat.le_of_ble_eq_true rfl⟩ rfl rfl rfl hl.1 rfl (Nat.le_of_ble_eq_true rfl) dX2_round_56 (fun H locs hw => ?_)
      exact io_iret S0 hr hlk hw dX2_round_59 (congrArg (fun z => some (Value.int z)) (show (mRound a how to S).1 = (-4) from (by first | (simp [mRound, mAny, zd1, zd2, zd3, zd4, zd5, zd6, hq, eq_false c_1]; done) | (simp [mRound, mAny, zd1, zd2, zd3, zd4, zd5, zd6, eq_true hq, eq_false c_1]; done) | (simp [mRound, mAny, zd1, zd2, zd3, zd4, zd5, zd6, mso, mlo, mhi, mth, mwh, mas, mbs, mts, mst, mrf, met, msd, eq_true hq, eq_false c_1]; done) | (simp [mRound, mAny, zd1, zd2, zd3, zd4, zd5, zd6, mso, mlo, mhi, mth, mwh, mas, mbs, mts, mst, mrf, met, msd, hq, c_1]; done) | contradiction | rfl))) (congrArg (mW ad cy) (show (mRound a how to S).2 = mRef (-4) S from (by first | (simp [mRound, mAny, zd1, zd2, zd3, zd4, zd5, zd6, hq, eq_false c_1]; done) | (simp [mRound, mAny, zd1, zd2, zd3, zd4, zd5, zd6, eq_true hq, eq_false c_1]; done) | (simp [mRound, mAny, zd1, zd2, zd3, zd4, zd5, zd6, mso, mlo, mhi, mth, mwh, mas, mbs, mts, mst, mrf, met, msd, eq_true hq, eq_false c_1]; done) | (simp [mRound, mAny, zd1, zd2, zd3, zd4, zd5, zd6, mso, mlo, mhi, mth, mwh, mas, mbs, mts, mst, mrf, met, msd, hq, c_1]; done) | contradiction | rfl)))
theorem qX2_sign : yX2_sign.cls = RX2 ∧ yX2_sign.cls ≠ "java/lang/invoke/MethodHandle" ∧ yX2_sign.cls ≠ "java/lang/invoke/VarHandle" ∧ (parseMethodDescriptor yX2_sign.desc).map (fun d => d.parameters.length) = some 2 := by decide +kernel
set_option maxHeartbeats 4000000 in
set_option maxRecDepth 100000 in
theorem c_X2_sign (l : Launch) (D : va_G) (ad : Nat → Nat) (cy : Nat → ClassId) (A : Nat → Prop) (S : MS) (a : Int32) (to : Int32) : OM l D (mT cy) A yX2_sign wsX2_sign 3 66 [.ref (ad 0), .int a, .int to] (mW ad cy S) (mW ad cy ((mSign a to S).2)) (some (.int ((mSign a to S).1))) := by
  refine OM.of (cc := cX2_sign) (maxL := 4) (ret := some .int) (own := RX2) (by decide) rfl rfl (Nat.le_of_ble_eq_true rfl) ?_
  intro p e s m below meth c ls S0 hr hlk hl hw
  have hx := S0.1
  have hb := S0.2.1
  have hl : lv_has ls 4 [(0, .ref (ad 0)), (1, .int a), (2, .int to)] := hl
  have hin : ∀ w ∈ wsX20, w ∈ wsX2_sign := fun w h => List.mem_cons_of_mem _ (List.mem_append_right _ h)
  refine lv_aload_n hx hb dX2_sign_0 rfl (lv_at hl 0 rfl) ?_
  refine lv_iload_n hx hb dX2_sign_1 rfl (lv_at hl 1 rfl) ?_
  refine lv_iload_n hx hb dX2_sign_2 rfl (lv_at hl 1 rfl) ?_
  refine lv_iload_n hx hb dX2_sign_3 rfl (lv_at hl 2 rfl) ?_
  refine io_call (rest := []) (w1 := (mW ad cy S)) S0 (c_X2_whyNot l D ad cy A S a a to) gX2_sign_X2_whyNot hw rfl qX2_whyNot ⟨Nat.le_of_ble_eq_true rfl, Nat.le_of_ble_eq_true rfl⟩ ⟨Nat.le_of_ble_eq_true rfl, Nat.le_of_ble_eq_true rfl⟩ rfl rfl rfl hl.1 rfl (Nat.le_of_ble_eq_true rfl) dX2_sign_4 (fun H locs hw => ?_)
  rcases mWhy_cases a a to S with hq | hq | ⟨hq, hs1, hs2, hs3⟩
  · rw [hq]
    refine lv_istore_n (lv' := [(3, .int (-2)), (0, .ref (ad 0)), (1, .int a), (2, .int to)]) hx hb dX2_sign_7 rfl hl (by decide) rfl (fun ls hl => ?_)
    refine lv_iload_n hx hb dX2_sign_8 rfl (lv_at hl 0 rfl) ?_
    refine zi_ne (tgt := 27) hx hb dX2_sign_9 (by decide) (fun _ => ?_) (fun q => absurd q (by decide))
    refine lv_iload_n hx hb dX2_sign_27 rfl (lv_at hl 0 rfl) ?_
    refine zi_ge (tgt := 39) hx hb dX2_sign_28 (by decide) (fun q => absurd (by decide) q) (fun _ => ?_)
    refine lv_aload_n hx hb dX2_sign_31 rfl (lv_at hl 1 rfl) ?_
    refine lv_iload_n hx hb dX2_sign_32 rfl (lv_at hl 0 rfl) ?_
    refine io_call (rest := []) (w1 := (mW ad cy (mRef (-2) S))) S0 (c_X2_refuses l D ad cy A S (-2)) gX2_sign_X2_refuses hw rfl qX2_refuses ⟨Nat.le_of_ble_eq_true rfl, Nat.le_of_ble_eq_true rfl⟩ ⟨Nat.le_of_ble_eq_true rfl, Nat.le_of_ble_eq_true rfl⟩ rfl rfl rfl hl.1 rfl (Nat.le_of_ble_eq_true rfl) dX2_sign_33 (fun H locs hw => ?_)
    refine lv_goto (tgt := 80) hx hb dX2_sign_36 (by decide) ?_
    exact io_iret S0 hr hlk hw dX2_sign_80 (congrArg (fun z => some (Value.int z)) (show (mSign a to S).1 = (-2) from (by first | (simp [mSign, zd1, zd2, zd3, zd4, zd5, zd6, hq]; done) | (simp [mSign, zd1, zd2, zd3, zd4, zd5, zd6, eq_true hq]; done) | (simp [mSign, zd1, zd2, zd3, zd4, zd5, zd6, mso, mlo, mhi, mth, mwh, mas, mbs, mts, mst, mrf, met, msd, eq_true hq]; done) | (simp [mSign, zd1, zd2, zd3, zd4, zd5, zd6, mso, mlo, mhi, mth, mwh, mas, mbs, mts, mst, mrf, met, msd, hq]; done) | contradiction | rfl))) (congrArg (mW ad cy) (show (mSign a to S).2 = mRef (-2) S from (by first | (simp [mSign, zd1, zd2, zd3, zd4, zd5, zd6, hq]; done) | (simp [mSign, zd1, zd2, zd3, zd4, zd5, zd6, eq_true hq]; done) | (simp [mSign, zd1, zd2, zd3, zd4, zd5, zd6, mso, mlo, mhi, mth, mwh, mas, mbs, mts, mst, mrf, met, msd, eq_true hq]; done) | (simp [mSign, zd1, zd2, zd3, zd4, zd5, zd6, mso, mlo, mhi, mth, mwh, mas, mbs, mts, mst, mrf, met, msd, hq]; done) | contradiction | rfl)))
  · rw [hq]
    refine lv_istore_n (lv' := [(3, .int (-3)), (0, .ref (ad 0)), (1, .int a), (2, .int to)]) hx hb dX2_sign_7 rfl hl (by decide) rfl (fun ls hl => ?_)
    refine lv_iload_n hx hb dX2_sign_8 rfl (lv_at hl 0 rfl) ?_
    refine zi_ne (tgt := 27) hx hb dX2_sign_9 (by decide) (fun _ => ?_) (fun q => absurd q (by decide))
    refine lv_iload_n hx hb dX2_sign_27 rfl (lv_at hl 0 rfl) ?_
    refine zi_ge (tgt := 39) hx hb dX2_sign_28 (by decide) (fun q => absurd (by decide) q) (fun _ => ?_)
    refine lv_aload_n hx hb dX2_sign_31 rfl (lv_at hl 1 rfl) ?_
    refine lv_iload_n hx hb dX2_sign_32 rfl (lv_at hl 0 rfl) ?_
    refine io_call (rest := []) (w1 := (mW ad cy (mRef (-3) S))) S0 (c_X2_refuses l D ad cy A S (-3)) gX2_sign_X2_refuses hw rfl qX2_refuses ⟨Nat.le_of_ble_eq_true rfl, Nat.le_of_ble_eq_true rfl⟩ ⟨Nat.le_of_ble_eq_true rfl, Nat.le_of_ble_eq_true rfl⟩ rfl rfl rfl hl.1 rfl (Nat.le_of_ble_eq_true rfl) dX2_sign_33 (fun H locs hw => ?_)
    refine lv_goto (tgt := 80) hx hb dX2_sign_36 (by decide) ?_
    exact io_iret S0 hr hlk hw dX2_sign_80 (congrArg (fun z => some (Value.int z)) (show (mSign a to S).1 = (-3) from (by first | (simp [mSign, zd1, zd2, zd3, zd4, zd5, zd6, hq]; done) | (simp [mSign, zd1, zd2, zd3, zd4, zd5, zd6, eq_true hq]; done) | (simp [mSign, zd1, zd2, zd3, zd4, zd5, zd6, mso, mlo, mhi, mth, mwh, mas, mbs, mts, mst, mrf, met, msd, eq_true hq]; done) | (simp [mSign, zd1, zd2, zd3, zd4, zd5, zd6, mso, mlo, mhi, mth, mwh, mas, mbs, mts, mst, mrf, met, msd, hq]; done) | contradiction | rfl))) (congrArg (mW ad cy) (show (mSign a to S).2 = mRef (-3) S from (by first | (simp [mSign, zd1, zd2, zd3, zd4, zd5, zd6, hq]; done) | (simp [mSign, zd1, zd2, zd3, zd4, zd5, zd6, eq_true hq]; done) | (simp [mSign, zd1, zd2, zd3, zd4, zd5, zd6, mso, mlo, mhi, mth, mwh, mas, mbs, mts, mst, mrf, met, msd, eq_true hq]; done) | (simp [mSign, zd1, zd2, zd3, zd4, zd5, zd6, mso, mlo, mhi, mth, mwh, mas, mbs, mts, mst, mrf, met, msd, hq]; done) | contradiction | rfl)))
  · rw [hq]
    refine lv_istore_n (lv' := [(3, .int 0), (0, .ref (ad 0)), (1, .int a), (2, .int to)]) hx hb dX2_sign_7 rfl hl (by decide) rfl (fun ls hl => ?_)
    refine lv_iload_n hx hb dX2_sign_8 rfl (lv_at hl 0 rfl) ?_
    refine zi_ne (tgt := 27) hx hb dX2_sign_9 (by decide) (fun q => absurd (by decide) q) (fun _ => ?_)
    refine lv_aload_n hx hb dX2_sign_12 rfl (lv_at hl 1 rfl) ?_
    refine gd_get S0 hin hw rfl rfl 0 (by decide) (S0.2.2.2.2 (.fieldLink RX2 7 "StretchDeskModel" "sorts" "[I") (by decide +kernel)) rfl (v := .ref (ad 1)) rfl dX2_sign_13 ?_
    refine lv_iload_n hx hb dX2_sign_16 rfl (lv_at hl 2 rfl) ?_
    refine va_iald hx hb hw.2.2.1 hw.1 1 0 rfl rfl (zIn (by assumption)) dX2_sign_17 ?_
    refine ps_call (rest := []) S0 (c_X2_isBroken l (ixI (mso S) a)) gX2_sign_X2_isBroken rfl qX2_isBroken ⟨Nat.le_of_ble_eq_true rfl, Nat.le_of_ble_eq_true rfl⟩ ⟨Nat.le_of_ble_eq_true rfl, Nat.le_of_ble_eq_true rfl⟩ hl.1 rfl (Nat.le_of_ble_eq_true rfl) dX2_sign_18 ?_
    refine zb_ne (P := kBroken (ixI (mso S) a)) (tgt := 27) hx hb dX2_sign_21 (by decide) (fun c_1 => ?_) (fun c_1 => ?_)
    · refine lv_iload_n hx hb dX2_sign_27 rfl (lv_at hl 0 rfl) ?_
      refine zi_ge (tgt := 39) hx hb dX2_sign_28 (by decide) (fun _ => ?_) (fun q => absurd q (by decide))
      refine lv_aload_n hx hb dX2_sign_39 rfl (lv_at hl 1 rfl) ?_
      refine lv_iload_n hx hb dX2_sign_40 rfl (lv_at hl 3 rfl) ?_
      refine lv_aload_n hx hb dX2_sign_41 rfl (lv_at hl 1 rfl) ?_
      refine gd_get S0 hin hw rfl rfl 0 (by decide) (S0.2.2.2.2 (.fieldLink RX2 7 "StretchDeskModel" "sorts" "[I") (by decide +kernel)) rfl (v := .ref (ad 1)) rfl dX2_sign_42 ?_
      refine lv_iload_n hx hb dX2_sign_45 rfl (lv_at hl 2 rfl) ?_
      refine va_iald hx hb hw.2.2.1 hw.1 1 0 rfl rfl (zIn (by assumption)) dX2_sign_46 ?_
      refine lv_aload_n hx hb dX2_sign_47 rfl (lv_at hl 1 rfl) ?_
      refine gd_get S0 hin hw rfl rfl 0 (by decide) (S0.2.2.2.2 (.fieldLink RX2 7 "StretchDeskModel" "sorts" "[I") (by decide +kernel)) rfl (v := .ref (ad 1)) rfl dX2_sign_48 ?_
      refine lv_iload_n hx hb dX2_sign_51 rfl (lv_at hl 2 rfl) ?_
      refine va_iald hx hb hw.2.2.1 hw.1 1 0 rfl rfl (zIn (by assumption)) dX2_sign_52 ?_
      refine lv_aload_n hx hb dX2_sign_53 rfl (lv_at hl 1 rfl) ?_
      refine gd_get S0 hin hw rfl rfl 1 (by decide) (S0.2.2.2.2 (.fieldLink RX2 13 "StretchDeskModel" "lows" "[J") (by decide +kernel)) rfl (v := .ref (ad 2)) rfl dX2_sign_54 ?_
      refine lv_iload_n hx hb dX2_sign_57 rfl (lv_at hl 2 rfl) ?_
      refine va_lald hx hb hw.2.2.1 hw.1 2 1 rfl rfl (zIn (by assumption)) dX2_sign_58 ?_
      refine ps_call (rest := [.int (ixI (mso S) a), .int to, .ref (ad 0)]) S0 (c_X2_signOf l (ixI (mso S) a) (ixL (mlo S) a)) gX2_sign_X2_signOf rfl qX2_signOf ⟨Nat.le_of_ble_eq_true rfl, Nat.le_of_ble_eq_true rfl⟩ ⟨Nat.le_of_ble_eq_true rfl, Nat.le_of_ble_eq_true rfl⟩ hl.1 rfl (Nat.le_of_ble_eq_true rfl) dX2_sign_59 ?_
      refine lv_aload_n hx hb dX2_sign_62 rfl (lv_at hl 1 rfl) ?_
      refine gd_get S0 hin hw rfl rfl 0 (by decide) (S0.2.2.2.2 (.fieldLink RX2 7 "StretchDeskModel" "sorts" "[I") (by decide +kernel)) rfl (v := .ref (ad 1)) rfl dX2_sign_63 ?_
      refine lv_iload_n hx hb dX2_sign_66 rfl (lv_at hl 2 rfl) ?_
      refine va_iald hx hb hw.2.2.1 hw.1 1 0 rfl rfl (zIn (by assumption)) dX2_sign_67 ?_
      refine lv_aload_n hx hb dX2_sign_68 rfl (lv_at hl 1 rfl) ?_
      refine gd_get S0 hin hw rfl rfl 2 (by decide) (S0.2.2.2.2 (.fieldLink RX2 17 "StretchDeskModel" "highs" "[J") (by decide +kernel)) rfl (v := .ref (ad 3)) rfl dX2_sign_69 ?_
      refine lv_iload_n hx hb dX2_sign_72 rfl (lv_at hl 2 rfl) ?_
      refine va_lald hx hb hw.2.2.1 hw.1 3 2 rfl rfl (zIn (by assumption)) dX2_sign_73 ?_
      refine ps_call (rest := [.long (kSignOf (ixI (mso S) a) (ixL (mlo S) a)), .int (ixI (mso S) a), .int to, .ref (ad 0)]) S0 (c_X2_signOf l (ixI (mso S) a) (ixL (mhi S) a)) gX2_sign_X2_signOf rfl qX2_signOf ⟨Nat.le_of_ble_eq_true rfl, Nat.le_of_ble_eq_true rfl⟩ ⟨Nat.le_of_ble_eq_true rfl, Nat.le_of_ble_eq_true rfl⟩ hl.1 rfl (Nat.le_of_ble_eq_true rfl) dX2_sign_74 ?_
      refine io_call (rest := []) (w1 := (mW ad cy (mComes to (ixI (mso S) a) (kSignOf (ixI (mso S) a) (ixL (mlo S) a)) (kSignOf (ixI (mso S) a) (ixL (mhi S) a)) S))) S0 (c_X2_comes l D ad cy A S to (ixI (mso S) a) (kSignOf (ixI (mso S) a) (ixL (mlo S) a)) (kSignOf (ixI (mso S) a) (ixL (mhi S) a)) (by assumption)) gX2_sign_X2_comes hw rfl qX2_comes ⟨Nat.le_of_ble_eq_true rfl, Nat.le_of_ble_eq_true rfl⟩ ⟨Nat.le_of_ble_eq_true rfl, Nat.le_of_ble_eq_true rfl⟩ rfl rfl rfl hl.1 rfl (Nat.le_of_ble_eq_true rfl) dX2_sign_77 (fun H locs hw => ?_)
      exact io_iret S0 hr hlk hw dX2_sign_80 (congrArg (fun z => some (Value.int z)) (show (mSign a to S).1 = 1 from (by first | (simp [mSign, zd1, zd2, zd3, zd4, zd5, zd6, hq, eq_true c_1]; done) | (simp [mSign, zd1, zd2, zd3, zd4, zd5, zd6, eq_true hq, eq_true c_1]; done) | (simp [mSign, zd1, zd2, zd3, zd4, zd5, zd6, mso, mlo, mhi, mth, mwh, mas, mbs, mts, mst, mrf, met, msd, eq_true hq, eq_true c_1]; done) | (simp [mSign, zd1, zd2, zd3, zd4, zd5, zd6, mso, mlo, mhi, mth, mwh, mas, mbs, mts, mst, mrf, met, msd, hq, c_1]; done) | contradiction | rfl))) (congrArg (mW ad cy) (show (mSign a to S).2 = mComes to (ixI (mso S) a) (kSignOf (ixI (mso S) a) (ixL (mlo S) a)) (kSignOf (ixI (mso S) a) (ixL (mhi S) a)) S from (by first | (simp [mSign, zd1, zd2, zd3, zd4, zd5, zd6, hq, eq_true c_1]; done) | (simp [mSign, zd1, zd2, zd3, zd4, zd5, zd6, eq_true hq, eq_true c_1]; done) | (simp [mSign, zd1, zd2, zd3, zd4, zd5, zd6, mso, mlo, mhi, mth, mwh, mas, mbs, mts, mst, mrf, met, msd, eq_true hq, eq_true c_1]; done) | (simp [mSign, zd1, zd2, zd3, zd4, zd5, zd6, mso, mlo, mhi, mth, mwh, mas, mbs, mts, mst, mrf, met, msd, hq, c_1]; done) | contradiction | rfl)))
    · refine lv_bipush (v := -4) hx hb dX2_sign_24 (by decide) ?_
      refine lv_istore_n (lv' := [(3, .int (-4)), (0, .ref (ad 0)), (1, .int a), (2, .int to)]) hx hb dX2_sign_26 rfl hl (by decide) rfl (fun ls hl => ?_)
      refine lv_iload_n hx hb dX2_sign_27 rfl (lv_at hl 0 rfl) ?_
      refine zi_ge (tgt := 39) hx hb dX2_sign_28 (by decide) (fun q => absurd (by decide) q) (fun _ => ?_)
      refine lv_aload_n hx hb dX2_sign_31 rfl (lv_at hl 1 rfl) ?_
      refine lv_iload_n hx hb dX2_sign_32 rfl (lv_at hl 0 rfl) ?_
      refine io_call (rest := []) (w1 := (mW ad cy (mRef (-4) S))) S0 (c_X2_refuses l D ad cy A S (-4)) gX2_sign_X2_refuses hw rfl qX2_refuses ⟨Nat.le_of_ble_eq_true rfl, Nat.le_of_ble_eq_true rfl⟩ ⟨Nat.le_of_ble_eq_true rfl, Nat.le_of_ble_eq_true rfl⟩ rfl rfl rfl hl.1 rfl (Nat.le_of_ble_eq_true rfl) dX2_sign_33 (fun H locs hw => ?_)
      refine lv_goto (tgt := 80) hx hb dX2_sign_36 (by decide) ?_
      exact io_iret S0 hr hlk hw dX2_sign_80 (congrArg (fun z => some (Value.int z)) (show (mSign a to S).1 = (-4) from (by first | (simp [mSign, zd1, zd2, zd3, zd4, zd5, zd6, hq, eq_false c_1]; done) | (simp [mSign, zd1, zd2, zd3, zd4, zd5, zd6, eq_true hq, eq_false c_1]; done) | (simp [mSign, zd1, zd2, zd3, zd4, zd5, zd6, mso, mlo, mhi, mth, mwh, mas, mbs, mts, mst, mrf, met, msd, eq_true hq, eq_false c_1]; done) | (simp [mSign, zd1, zd2, zd3, zd4, zd5, zd6, mso, mlo, mhi, mth, mwh, mas, mbs, mts, mst, mrf, met, msd, hq, c_1]; done) | contradiction | rfl))) (congrArg (mW ad cy) (show (mSign a to S).2 = mRef (-4) S from (by first | (simp [mSign, zd1, zd2, zd3, zd4, zd5, zd6, hq, eq_false c_1]; done) | (simp [mSign, zd1, zd2, zd3, zd4, zd5, zd6, eq_true hq, eq_false c_1]; done) | (simp [mSign, zd1, zd2, zd3, zd4, zd5, zd6, mso, mlo, mhi, mth, mwh, mas, mbs, mts, mst, mrf, met, msd, eq_true hq, eq_false c_1]; done) | (simp [mSign, zd1, zd2, zd3, zd4, zd5, zd6, mso, mlo, mhi, mth, mwh, mas, mbs, mts, mst, mrf, met, msd, hq, c_1]; done) | contradiction | rfl)))
theorem qX2_lend : yX2_lend.cls = RX2 ∧ yX2_lend.cls ≠ "java/lang/invoke/MethodHandle" ∧ yX2_lend.cls ≠ "java/lang/invoke/VarHandle" ∧ (parseMethodDescriptor yX2_lend.desc).map (fun d => d.parameters.length) = some 3 := by decide +kernel
set_option maxHeartbeats 4000000 in
set_option maxRecDepth 100000 in
theorem c_X2_lend (l : Launch) (D : va_G) (ad : Nat → Nat) (cy : Nat → ClassId) (A : Nat → Prop) (S : MS) (a : Int32) (b : Int32) (to : Int32) : OM l D (mT cy) A yX2_lend wsX2_lend 5 116 [.ref (ad 0), .int a, .int b, .int to] (mW ad cy S) (mW ad cy ((mLend a b to S).2)) (some (.int ((mLend a b to S).1))) := by
  refine OM.of (cc := cX2_lend) (maxL := 6) (ret := some .int) (own := RX2) (by decide) rfl rfl (Nat.le_of_ble_eq_true rfl) ?_
  intro p e s m below meth c ls S0 hr hlk hl hw
  have hx := S0.1
  have hb := S0.2.1
  have hl : lv_has ls 6 [(0, .ref (ad 0)), (1, .int a), (2, .int b), (3, .int to)] := hl
  have hin : ∀ w ∈ wsX20, w ∈ wsX2_lend := fun w h => List.mem_cons_of_mem _ (List.mem_append_right _ h)
  refine lv_aload_n hx hb dX2_lend_0 rfl (lv_at hl 0 rfl) ?_
  refine lv_iload_n hx hb dX2_lend_1 rfl (lv_at hl 1 rfl) ?_
  refine lv_iload_n hx hb dX2_lend_2 rfl (lv_at hl 2 rfl) ?_
  refine lv_iload_n hx hb dX2_lend_3 rfl (lv_at hl 3 rfl) ?_
  refine io_call (rest := []) (w1 := (mW ad cy S)) S0 (c_X2_whyNot l D ad cy A S a b to) gX2_lend_X2_whyNot hw rfl qX2_whyNot ⟨Nat.le_of_ble_eq_true rfl, Nat.le_of_ble_eq_true rfl⟩ ⟨Nat.le_of_ble_eq_true rfl, Nat.le_of_ble_eq_true rfl⟩ rfl rfl rfl hl.1 rfl (Nat.le_of_ble_eq_true rfl) dX2_lend_4 (fun H locs hw => ?_)
  rcases mWhy_cases a b to S with hq | hq | ⟨hq, hs1, hs2, hs3⟩
  · rw [hq]
    refine lv_istore (lv' := [(4, .int (-2)), (0, .ref (ad 0)), (1, .int a), (2, .int b), (3, .int to)]) hx hb dX2_lend_7 hl (by decide) rfl (fun ls hl => ?_)
    refine lv_iload hx hb dX2_lend_9 (lv_at hl 0 rfl) ?_
    refine zi_ne (tgt := 45) hx hb dX2_lend_11 (by decide) (fun _ => ?_) (fun q => absurd q (by decide))
    refine lv_iload hx hb dX2_lend_45 (lv_at hl 0 rfl) ?_
    refine zi_ge (tgt := 57) hx hb dX2_lend_47 (by decide) (fun q => absurd (by decide) q) (fun _ => ?_)
    refine lv_aload_n hx hb dX2_lend_50 rfl (lv_at hl 1 rfl) ?_
    refine lv_iload hx hb dX2_lend_51 (lv_at hl 0 rfl) ?_
    refine io_call (rest := []) (w1 := (mW ad cy (mRef (-2) S))) S0 (c_X2_refuses l D ad cy A S (-2)) gX2_lend_X2_refuses hw rfl qX2_refuses ⟨Nat.le_of_ble_eq_true rfl, Nat.le_of_ble_eq_true rfl⟩ ⟨Nat.le_of_ble_eq_true rfl, Nat.le_of_ble_eq_true rfl⟩ rfl rfl rfl hl.1 rfl (Nat.le_of_ble_eq_true rfl) dX2_lend_53 (fun H locs hw => ?_)
    exact io_iret S0 hr hlk hw dX2_lend_56 (congrArg (fun z => some (Value.int z)) (show (mLend a b to S).1 = (-2) from (by first | (simp [mLend, zd1, zd2, zd3, zd4, zd5, zd6, hq]; done) | (simp [mLend, zd1, zd2, zd3, zd4, zd5, zd6, eq_true hq]; done) | (simp [mLend, zd1, zd2, zd3, zd4, zd5, zd6, mso, mlo, mhi, mth, mwh, mas, mbs, mts, mst, mrf, met, msd, eq_true hq]; done) | (simp [mLend, zd1, zd2, zd3, zd4, zd5, zd6, mso, mlo, mhi, mth, mwh, mas, mbs, mts, mst, mrf, met, msd, hq]; done) | contradiction | rfl))) (congrArg (mW ad cy) (show (mLend a b to S).2 = mRef (-2) S from (by first | (simp [mLend, zd1, zd2, zd3, zd4, zd5, zd6, hq]; done) | (simp [mLend, zd1, zd2, zd3, zd4, zd5, zd6, eq_true hq]; done) | (simp [mLend, zd1, zd2, zd3, zd4, zd5, zd6, mso, mlo, mhi, mth, mwh, mas, mbs, mts, mst, mrf, met, msd, eq_true hq]; done) | (simp [mLend, zd1, zd2, zd3, zd4, zd5, zd6, mso, mlo, mhi, mth, mwh, mas, mbs, mts, mst, mrf, met, msd, hq]; done) | contradiction | rfl)))
  · rw [hq]
    refine lv_istore (lv' := [(4, .int (-3)), (0, .ref (ad 0)), (1, .int a), (2, .int b), (3, .int to)]) hx hb dX2_lend_7 hl (by decide) rfl (fun ls hl => ?_)
    refine lv_iload hx hb dX2_lend_9 (lv_at hl 0 rfl) ?_
    refine zi_ne (tgt := 45) hx hb dX2_lend_11 (by decide) (fun _ => ?_) (fun q => absurd q (by decide))
    refine lv_iload hx hb dX2_lend_45 (lv_at hl 0 rfl) ?_
    refine zi_ge (tgt := 57) hx hb dX2_lend_47 (by decide) (fun q => absurd (by decide) q) (fun _ => ?_)
    refine lv_aload_n hx hb dX2_lend_50 rfl (lv_at hl 1 rfl) ?_
    refine lv_iload hx hb dX2_lend_51 (lv_at hl 0 rfl) ?_
    refine io_call (rest := []) (w1 := (mW ad cy (mRef (-3) S))) S0 (c_X2_refuses l D ad cy A S (-3)) gX2_lend_X2_refuses hw rfl qX2_refuses ⟨Nat.le_of_ble_eq_true rfl, Nat.le_of_ble_eq_true rfl⟩ ⟨Nat.le_of_ble_eq_true rfl, Nat.le_of_ble_eq_true rfl⟩ rfl rfl rfl hl.1 rfl (Nat.le_of_ble_eq_true rfl) dX2_lend_53 (fun H locs hw => ?_)
    exact io_iret S0 hr hlk hw dX2_lend_56 (congrArg (fun z => some (Value.int z)) (show (mLend a b to S).1 = (-3) from (by first | (simp [mLend, zd1, zd2, zd3, zd4, zd5, zd6, hq]; done) | (simp [mLend, zd1, zd2, zd3, zd4, zd5, zd6, eq_true hq]; done) | (simp [mLend, zd1, zd2, zd3, zd4, zd5, zd6, mso, mlo, mhi, mth, mwh, mas, mbs, mts, mst, mrf, met, msd, eq_true hq]; done) | (simp [mLend, zd1, zd2, zd3, zd4, zd5, zd6, mso, mlo, mhi, mth, mwh, mas, mbs, mts, mst, mrf, met, msd, hq]; done) | contradiction | rfl))) (congrArg (mW ad cy) (show (mLend a b to S).2 = mRef (-3) S from (by first | (simp [mLend, zd1, zd2, zd3, zd4, zd5, zd6, hq]; done) | (simp [mLend, zd1, zd2, zd3, zd4, zd5, zd6, eq_true hq]; done) | (simp [mLend, zd1, zd2, zd3, zd4, zd5, zd6, mso, mlo, mhi, mth, mwh, mas, mbs, mts, mst, mrf, met, msd, eq_true hq]; done) | (simp [mLend, zd1, zd2, zd3, zd4, zd5, zd6, mso, mlo, mhi, mth, mwh, mas, mbs, mts, mst, mrf, met, msd, hq]; done) | contradiction | rfl)))
  · rw [hq]
    refine lv_istore (lv' := [(4, .int 0), (0, .ref (ad 0)), (1, .int a), (2, .int b), (3, .int to)]) hx hb dX2_lend_7 hl (by decide) rfl (fun ls hl => ?_)
    refine lv_iload hx hb dX2_lend_9 (lv_at hl 0 rfl) ?_
    refine zi_ne (tgt := 45) hx hb dX2_lend_11 (by decide) (fun q => absurd (by decide) q) (fun _ => ?_)
    refine lv_aload_n hx hb dX2_lend_14 rfl (lv_at hl 1 rfl) ?_
    refine gd_get S0 hin hw rfl rfl 0 (by decide) (S0.2.2.2.2 (.fieldLink RX2 7 "StretchDeskModel" "sorts" "[I") (by decide +kernel)) rfl (v := .ref (ad 1)) rfl dX2_lend_15 ?_
    refine lv_iload_n hx hb dX2_lend_18 rfl (lv_at hl 2 rfl) ?_
    refine va_iald hx hb hw.2.2.1 hw.1 1 0 rfl rfl (zIn (by assumption)) dX2_lend_19 ?_
    refine ps_call (rest := []) S0 (c_X2_isBroken l (ixI (mso S) a)) gX2_lend_X2_isBroken rfl qX2_isBroken ⟨Nat.le_of_ble_eq_true rfl, Nat.le_of_ble_eq_true rfl⟩ ⟨Nat.le_of_ble_eq_true rfl, Nat.le_of_ble_eq_true rfl⟩ hl.1 rfl (Nat.le_of_ble_eq_true rfl) dX2_lend_20 ?_
    refine zb_eq (P := kBroken (ixI (mso S) a)) (tgt := 41) hx hb dX2_lend_23 (by decide) (fun c_1 => ?_) (fun c_1 => ?_)
    · refine lv_bipush (v := -4) hx hb dX2_lend_41 (by decide) ?_
      refine lv_istore (lv' := [(4, .int (-4)), (0, .ref (ad 0)), (1, .int a), (2, .int b), (3, .int to)]) hx hb dX2_lend_43 hl (by decide) rfl (fun ls hl => ?_)
      refine lv_iload hx hb dX2_lend_45 (lv_at hl 0 rfl) ?_
      refine zi_ge (tgt := 57) hx hb dX2_lend_47 (by decide) (fun q => absurd (by decide) q) (fun _ => ?_)
      refine lv_aload_n hx hb dX2_lend_50 rfl (lv_at hl 1 rfl) ?_
      refine lv_iload hx hb dX2_lend_51 (lv_at hl 0 rfl) ?_
      refine io_call (rest := []) (w1 := (mW ad cy (mRef (-4) S))) S0 (c_X2_refuses l D ad cy A S (-4)) gX2_lend_X2_refuses hw rfl qX2_refuses ⟨Nat.le_of_ble_eq_true rfl, Nat.le_of_ble_eq_true rfl⟩ ⟨Nat.le_of_ble_eq_true rfl, Nat.le_of_ble_eq_true rfl⟩ rfl rfl rfl hl.1 rfl (Nat.le_of_ble_eq_true rfl) dX2_lend_53 (fun H locs hw => ?_)
      exact io_iret S0 hr hlk hw dX2_lend_56 (congrArg (fun z => some (Value.int z)) (show (mLend a b to S).1 = (-4) from (by first | (simp [mLend, zd1, zd2, zd3, zd4, zd5, zd6, hq, eq_false c_1]; done) | (simp [mLend, zd1, zd2, zd3, zd4, zd5, zd6, eq_true hq, eq_false c_1]; done) | (simp [mLend, zd1, zd2, zd3, zd4, zd5, zd6, mso, mlo, mhi, mth, mwh, mas, mbs, mts, mst, mrf, met, msd, eq_true hq, eq_false c_1]; done) | (simp [mLend, zd1, zd2, zd3, zd4, zd5, zd6, mso, mlo, mhi, mth, mwh, mas, mbs, mts, mst, mrf, met, msd, hq, c_1]; done) | contradiction | rfl))) (congrArg (mW ad cy) (show (mLend a b to S).2 = mRef (-4) S from (by first | (simp [mLend, zd1, zd2, zd3, zd4, zd5, zd6, hq, eq_false c_1]; done) | (simp [mLend, zd1, zd2, zd3, zd4, zd5, zd6, eq_true hq, eq_false c_1]; done) | (simp [mLend, zd1, zd2, zd3, zd4, zd5, zd6, mso, mlo, mhi, mth, mwh, mas, mbs, mts, mst, mrf, met, msd, eq_true hq, eq_false c_1]; done) | (simp [mLend, zd1, zd2, zd3, zd4, zd5, zd6, mso, mlo, mhi, mth, mwh, mas, mbs, mts, mst, mrf, met, msd, hq, c_1]; done) | contradiction | rfl)))
    · refine lv_aload_n hx hb dX2_lend_26 rfl (lv_at hl 1 rfl) ?_
      refine gd_get S0 hin hw rfl rfl 0 (by decide) (S0.2.2.2.2 (.fieldLink RX2 7 "StretchDeskModel" "sorts" "[I") (by decide +kernel)) rfl (v := .ref (ad 1)) rfl dX2_lend_27 ?_
      refine lv_iload_n hx hb dX2_lend_30 rfl (lv_at hl 2 rfl) ?_
      refine va_iald hx hb hw.2.2.1 hw.1 1 0 rfl rfl (zIn (by assumption)) dX2_lend_31 ?_
      refine lv_aload_n hx hb dX2_lend_32 rfl (lv_at hl 1 rfl) ?_
      refine gd_get S0 hin hw rfl rfl 0 (by decide) (S0.2.2.2.2 (.fieldLink RX2 7 "StretchDeskModel" "sorts" "[I") (by decide +kernel)) rfl (v := .ref (ad 1)) rfl dX2_lend_33 ?_
      refine lv_iload_n hx hb dX2_lend_36 rfl (lv_at hl 3 rfl) ?_
      refine va_iald hx hb hw.2.2.1 hw.1 1 0 rfl rfl (zIn (by assumption)) dX2_lend_37 ?_
      refine zc_eq (tgt := 45) hx hb dX2_lend_38 (by decide) (fun c_2 => ?_) (fun c_2 => ?_)
      · refine lv_iload hx hb dX2_lend_45 (lv_at hl 0 rfl) ?_
        refine zi_ge (tgt := 57) hx hb dX2_lend_47 (by decide) (fun _ => ?_) (fun q => absurd q (by decide))
        refine lv_aload_n hx hb dX2_lend_57 rfl (lv_at hl 1 rfl) ?_
        refine gd_get S0 hin hw rfl rfl 0 (by decide) (S0.2.2.2.2 (.fieldLink RX2 7 "StretchDeskModel" "sorts" "[I") (by decide +kernel)) rfl (v := .ref (ad 1)) rfl dX2_lend_58 ?_
        refine lv_iload_n hx hb dX2_lend_61 rfl (lv_at hl 2 rfl) ?_
        refine va_iald hx hb hw.2.2.1 hw.1 1 0 rfl rfl (zIn (by assumption)) dX2_lend_62 ?_
        refine lv_istore (lv' := [(5, .int (ixI (mso S) a)), (4, .int 0), (0, .ref (ad 0)), (1, .int a), (2, .int b), (3, .int to)]) hx hb dX2_lend_63 hl (by decide) rfl (fun ls hl => ?_)
        refine lv_aload_n hx hb dX2_lend_65 rfl (lv_at hl 2 rfl) ?_
        refine lv_iload_n hx hb dX2_lend_66 rfl (lv_at hl 5 rfl) ?_
        refine lv_iload hx hb dX2_lend_67 (lv_at hl 0 rfl) ?_
        refine lv_iload hx hb dX2_lend_69 (lv_at hl 0 rfl) ?_
        refine lv_iload hx hb dX2_lend_71 (lv_at hl 0 rfl) ?_
        refine lv_aload_n hx hb dX2_lend_73 rfl (lv_at hl 2 rfl) ?_
        refine gd_get S0 hin hw rfl rfl 1 (by decide) (S0.2.2.2.2 (.fieldLink RX2 13 "StretchDeskModel" "lows" "[J") (by decide +kernel)) rfl (v := .ref (ad 2)) rfl dX2_lend_74 ?_
        refine lv_iload_n hx hb dX2_lend_77 rfl (lv_at hl 3 rfl) ?_
        refine va_lald hx hb hw.2.2.1 hw.1 2 1 rfl rfl (zIn (by assumption)) dX2_lend_78 ?_
        refine ps_call (rest := [.int (ixI (mso S) a), .int (ixI (mso S) a), .int to, .ref (ad 0)]) S0 (c_X2_magnitude l (ixI (mso S) a) (ixL (mlo S) a)) gX2_lend_X2_magnitude rfl qX2_magnitude ⟨Nat.le_of_ble_eq_true rfl, Nat.le_of_ble_eq_true rfl⟩ ⟨Nat.le_of_ble_eq_true rfl, Nat.le_of_ble_eq_true rfl⟩ hl.1 rfl (Nat.le_of_ble_eq_true rfl) dX2_lend_79 ?_
        refine lv_aload_n hx hb dX2_lend_82 rfl (lv_at hl 2 rfl) ?_
        refine gd_get S0 hin hw rfl rfl 1 (by decide) (S0.2.2.2.2 (.fieldLink RX2 13 "StretchDeskModel" "lows" "[J") (by decide +kernel)) rfl (v := .ref (ad 2)) rfl dX2_lend_83 ?_
        refine lv_iload_n hx hb dX2_lend_86 rfl (lv_at hl 4 rfl) ?_
        refine va_lald hx hb hw.2.2.1 hw.1 2 1 rfl rfl (zIn (by assumption)) dX2_lend_87 ?_
        refine lv_lconst (v := 0) hx hb dX2_lend_88 (by decide) ?_
        refine zl_ge (tgt := 97) hx hb dX2_lend_89 dX2_lend_90 (by decide) (fun c_3 => ?_) (fun c_3 => ?_)
        · refine lv_iconst (v := 0) hx hb dX2_lend_97 (by decide) ?_
          refine ps_call (rest := [.int (ixI (mso S) a), .int to, .ref (ad 0)]) S0 (c_X2_signed l (ixI (mso S) a) (kMag (ixI (mso S) a) (ixL (mlo S) a)) 0) gX2_lend_X2_signed rfl qX2_signed ⟨Nat.le_of_ble_eq_true rfl, Nat.le_of_ble_eq_true rfl⟩ ⟨Nat.le_of_ble_eq_true rfl, Nat.le_of_ble_eq_true rfl⟩ hl.1 rfl (Nat.le_of_ble_eq_true rfl) dX2_lend_98 ?_
          refine lv_iload hx hb dX2_lend_101 (lv_at hl 0 rfl) ?_
          refine lv_iload hx hb dX2_lend_103 (lv_at hl 0 rfl) ?_
          refine lv_aload_n hx hb dX2_lend_105 rfl (lv_at hl 2 rfl) ?_
          refine gd_get S0 hin hw rfl rfl 2 (by decide) (S0.2.2.2.2 (.fieldLink RX2 17 "StretchDeskModel" "highs" "[J") (by decide +kernel)) rfl (v := .ref (ad 3)) rfl dX2_lend_106 ?_
          refine lv_iload_n hx hb dX2_lend_109 rfl (lv_at hl 3 rfl) ?_
          refine va_lald hx hb hw.2.2.1 hw.1 3 2 rfl rfl (zIn (by assumption)) dX2_lend_110 ?_
          refine ps_call (rest := [.int (ixI (mso S) a), .long (kSgn (ixI (mso S) a) (kMag (ixI (mso S) a) (ixL (mlo S) a)) 0), .int (ixI (mso S) a), .int to, .ref (ad 0)]) S0 (c_X2_magnitude l (ixI (mso S) a) (ixL (mhi S) a)) gX2_lend_X2_magnitude rfl qX2_magnitude ⟨Nat.le_of_ble_eq_true rfl, Nat.le_of_ble_eq_true rfl⟩ ⟨Nat.le_of_ble_eq_true rfl, Nat.le_of_ble_eq_true rfl⟩ hl.1 rfl (Nat.le_of_ble_eq_true rfl) dX2_lend_111 ?_
          refine lv_aload_n hx hb dX2_lend_114 rfl (lv_at hl 2 rfl) ?_
          refine gd_get S0 hin hw rfl rfl 2 (by decide) (S0.2.2.2.2 (.fieldLink RX2 17 "StretchDeskModel" "highs" "[J") (by decide +kernel)) rfl (v := .ref (ad 3)) rfl dX2_lend_115 ?_
          refine lv_iload_n hx hb dX2_lend_118 rfl (lv_at hl 4 rfl) ?_
          refine va_lald hx hb hw.2.2.1 hw.1 3 2 rfl rfl (zIn (by assumption)) dX2_lend_119 ?_
          refine lv_lconst (v := 0) hx hb dX2_lend_120 (by decide) ?_
          refine zl_ge (tgt := 129) hx hb dX2_lend_121 dX2_lend_122 (by decide) (fun c_4 => ?_) (fun c_4 => ?_)
          · refine lv_iconst (v := 0) hx hb dX2_lend_129 (by decide) ?_
            refine ps_call (rest := [.long (kSgn (ixI (mso S) a) (kMag (ixI (mso S) a) (ixL (mlo S) a)) 0), .int (ixI (mso S) a), .int to, .ref (ad 0)]) S0 (c_X2_signed l (ixI (mso S) a) (kMag (ixI (mso S) a) (ixL (mhi S) a)) 0) gX2_lend_X2_signed rfl qX2_signed ⟨Nat.le_of_ble_eq_true rfl, Nat.le_of_ble_eq_true rfl⟩ ⟨Nat.le_of_ble_eq_true rfl, Nat.le_of_ble_eq_true rfl⟩ hl.1 rfl (Nat.le_of_ble_eq_true rfl) dX2_lend_130 ?_
            refine io_call (rest := []) (w1 := (mW ad cy (mOrd to (ixI (mso S) a) (kSgn (ixI (mso S) a) (kMag (ixI (mso S) a) (ixL (mlo S) a)) 0) (kSgn (ixI (mso S) a) (kMag (ixI (mso S) a) (ixL (mhi S) a)) 0) S))) S0 (c_X2_ordered l D ad cy A S to (ixI (mso S) a) (kSgn (ixI (mso S) a) (kMag (ixI (mso S) a) (ixL (mlo S) a)) 0) (kSgn (ixI (mso S) a) (kMag (ixI (mso S) a) (ixL (mhi S) a)) 0) (by assumption)) gX2_lend_X2_ordered hw rfl qX2_ordered ⟨Nat.le_of_ble_eq_true rfl, Nat.le_of_ble_eq_true rfl⟩ ⟨Nat.le_of_ble_eq_true rfl, Nat.le_of_ble_eq_true rfl⟩ rfl rfl rfl hl.1 rfl (Nat.le_of_ble_eq_true rfl) dX2_lend_133 (fun H locs hw => ?_)
            exact io_iret S0 hr hlk hw dX2_lend_136 (congrArg (fun z => some (Value.int z)) (show (mLend a b to S).1 = 1 from (by first | (simp [mLend, zd1, zd2, zd3, zd4, zd5, zd6, hq, eq_true c_1, if_pos c_2, eq_false c_3, eq_false c_4]; done) | (simp [mLend, zd1, zd2, zd3, zd4, zd5, zd6, eq_true hq, eq_true c_1, eq_true c_2, eq_false c_3, eq_false c_4]; done) | (simp [mLend, zd1, zd2, zd3, zd4, zd5, zd6, mso, mlo, mhi, mth, mwh, mas, mbs, mts, mst, mrf, met, msd, eq_true hq, eq_true c_1, eq_true c_2, eq_false c_3, eq_false c_4]; done) | (simp [mLend, zd1, zd2, zd3, zd4, zd5, zd6, mso, mlo, mhi, mth, mwh, mas, mbs, mts, mst, mrf, met, msd, hq, c_1, c_2, c_3, c_4]; done) | contradiction | rfl))) (congrArg (mW ad cy) (show (mLend a b to S).2 = mOrd to (ixI (mso S) a) (kSgn (ixI (mso S) a) (kMag (ixI (mso S) a) (ixL (mlo S) a)) 0) (kSgn (ixI (mso S) a) (kMag (ixI (mso S) a) (ixL (mhi S) a)) 0) S from (by first | (simp [mLend, zd1, zd2, zd3, zd4, zd5, zd6, hq, eq_true c_1, if_pos c_2, eq_false c_3, eq_false c_4]; done) | (simp [mLend, zd1, zd2, zd3, zd4, zd5, zd6, eq_true hq, eq_true c_1, eq_true c_2, eq_false c_3, eq_false c_4]; done) | (simp [mLend, zd1, zd2, zd3, zd4, zd5, zd6, mso, mlo, mhi, mth, mwh, mas, mbs, mts, mst, mrf, met, msd, eq_true hq, eq_true c_1, eq_true c_2, eq_false c_3, eq_false c_4]; done) | (simp [mLend, zd1, zd2, zd3, zd4, zd5, zd6, mso, mlo, mhi, mth, mwh, mas, mbs, mts, mst, mrf, met, msd, hq, c_1, c_2, c_3, c_4]; done) | contradiction | rfl)))
          · refine lv_iconst (v := 1) hx hb dX2_lend_125 (by decide) ?_
            refine lv_goto (tgt := 130) hx hb dX2_lend_126 (by decide) ?_
            refine ps_call (rest := [.long (kSgn (ixI (mso S) a) (kMag (ixI (mso S) a) (ixL (mlo S) a)) 0), .int (ixI (mso S) a), .int to, .ref (ad 0)]) S0 (c_X2_signed l (ixI (mso S) a) (kMag (ixI (mso S) a) (ixL (mhi S) a)) 1) gX2_lend_X2_signed rfl qX2_signed ⟨Nat.le_of_ble_eq_true rfl, Nat.le_of_ble_eq_true rfl⟩ ⟨Nat.le_of_ble_eq_true rfl, Nat.le_of_ble_eq_true rfl⟩ hl.1 rfl (Nat.le_of_ble_eq_true rfl) dX2_lend_130 ?_
            refine io_call (rest := []) (w1 := (mW ad cy (mOrd to (ixI (mso S) a) (kSgn (ixI (mso S) a) (kMag (ixI (mso S) a) (ixL (mlo S) a)) 0) (kSgn (ixI (mso S) a) (kMag (ixI (mso S) a) (ixL (mhi S) a)) 1) S))) S0 (c_X2_ordered l D ad cy A S to (ixI (mso S) a) (kSgn (ixI (mso S) a) (kMag (ixI (mso S) a) (ixL (mlo S) a)) 0) (kSgn (ixI (mso S) a) (kMag (ixI (mso S) a) (ixL (mhi S) a)) 1) (by assumption)) gX2_lend_X2_ordered hw rfl qX2_ordered ⟨Nat.le_of_ble_eq_true rfl, Nat.le_of_ble_eq_true rfl⟩ ⟨Nat.le_of_ble_eq_true rfl, Nat.le_of_ble_eq_true rfl⟩ rfl rfl rfl hl.1 rfl (Nat.le_of_ble_eq_true rfl) dX2_lend_133 (fun H locs hw => ?_)
            exact io_iret S0 hr hlk hw dX2_lend_136 (congrArg (fun z => some (Value.int z)) (show (mLend a b to S).1 = 1 from (by first | (simp [mLend, zd1, zd2, zd3, zd4, zd5, zd6, hq, eq_true c_1, if_pos c_2, eq_false c_3, eq_true c_4]; done) | (simp [mLend, zd1, zd2, zd3, zd4, zd5, zd6, eq_true hq, eq_true c_1, eq_true c_2, eq_false c_3, eq_true c_4]; done) | (simp [mLend, zd1, zd2, zd3, zd4, zd5, zd6, mso, mlo, mhi, mth, mwh, mas, mbs, mts, mst, mrf, met, msd, eq_true hq, eq_true c_1, eq_true c_2, eq_false c_3, eq_true c_4]; done) | (simp [mLend, zd1, zd2, zd3, zd4, zd5, zd6, mso, mlo, mhi, mth, mwh, mas, mbs, mts, mst, mrf, met, msd, hq, c_1, c_2, c_3, c_4]; done) | contradiction | rfl))) (congrArg (mW ad cy) (show (mLend a b to S).2 = mOrd to (ixI (mso S) a) (kSgn (ixI (mso S) a) (kMag (ixI (mso S) a) (ixL (mlo S) a)) 0) (kSgn (ixI (mso S) a) (kMag (ixI (mso S) a) (ixL (mhi S) a)) 1) S from (by first | (simp [mLend, zd1, zd2, zd3, zd4, zd5, zd6, hq, eq_true c_1, if_pos c_2, eq_false c_3, eq_true c_4]; done) | (simp [mLend, zd1, zd2, zd3, zd4, zd5, zd6, eq_true hq, eq_true c_1, eq_true c_2, eq_false c_3, eq_true c_4]; done) | (simp [mLend, zd1, zd2, zd3, zd4, zd5, zd6, mso, mlo, mhi, mth, mwh, mas, mbs, mts, mst, mrf, met, msd, eq_true hq, eq_true c_1, eq_true c_2, eq_false c_3, eq_true c_4]; done) | (simp [mLend, zd1, zd2, zd3, zd4, zd5, zd6, mso, mlo, mhi, mth, mwh, mas, mbs, mts, mst, mrf, met, msd, hq, c_1, c_2, c_3, c_4]; done) | contradiction | rfl)))
        · refine lv_iconst (v := 1) hx hb dX2_lend_93 (by decide) ?_
          refine lv_goto (tgt := 98) hx hb dX2_lend_94 (by decide) ?_
          refine ps_call (rest := [.int (ixI (mso S) a), .int to, .ref (ad 0)]) S0 (c_X2_signed l (ixI (mso S) a) (kMag (ixI (mso S) a) (ixL (mlo S) a)) 1) gX2_lend_X2_signed rfl qX2_signed ⟨Nat.le_of_ble_eq_true rfl, Nat.le_of_ble_eq_true rfl⟩ ⟨Nat.le_of_ble_eq_true rfl, Nat.le_of_ble_eq_true rfl⟩ hl.1 rfl (Nat.le_of_ble_eq_true rfl) dX2_lend_98 ?_
          refine lv_iload hx hb dX2_lend_101 (lv_at hl 0 rfl) ?_
          refine lv_iload hx hb dX2_lend_103 (lv_at hl 0 rfl) ?_
          refine lv_aload_n hx hb dX2_lend_105 rfl (lv_at hl 2 rfl) ?_
          refine gd_get S0 hin hw rfl rfl 2 (by decide) (S0.2.2.2.2 (.fieldLink RX2 17 "StretchDeskModel" "highs" "[J") (by decide +kernel)) rfl (v := .ref (ad 3)) rfl dX2_lend_106 ?_
          refine lv_iload_n hx hb dX2_lend_109 rfl (lv_at hl 3 rfl) ?_
          refine va_lald hx hb hw.2.2.1 hw.1 3 2 rfl rfl (zIn (by assumption)) dX2_lend_110 ?_
          refine ps_call (rest := [.int (ixI (mso S) a), .long (kSgn (ixI (mso S) a) (kMag (ixI (mso S) a) (ixL (mlo S) a)) 1), .int (ixI (mso S) a), .int to, .ref (ad 0)]) S0 (c_X2_magnitude l (ixI (mso S) a) (ixL (mhi S) a)) gX2_lend_X2_magnitude rfl qX2_magnitude ⟨Nat.le_of_ble_eq_true rfl, Nat.le_of_ble_eq_true rfl⟩ ⟨Nat.le_of_ble_eq_true rfl, Nat.le_of_ble_eq_true rfl⟩ hl.1 rfl (Nat.le_of_ble_eq_true rfl) dX2_lend_111 ?_
          refine lv_aload_n hx hb dX2_lend_114 rfl (lv_at hl 2 rfl) ?_
          refine gd_get S0 hin hw rfl rfl 2 (by decide) (S0.2.2.2.2 (.fieldLink RX2 17 "StretchDeskModel" "highs" "[J") (by decide +kernel)) rfl (v := .ref (ad 3)) rfl dX2_lend_115 ?_
          refine lv_iload_n hx hb dX2_lend_118 rfl (lv_at hl 4 rfl) ?_
          refine va_lald hx hb hw.2.2.1 hw.1 3 2 rfl rfl (zIn (by assumption)) dX2_lend_119 ?_
          refine lv_lconst (v := 0) hx hb dX2_lend_120 (by decide) ?_
          refine zl_ge (tgt := 129) hx hb dX2_lend_121 dX2_lend_122 (by decide) (fun c_5 => ?_) (fun c_5 => ?_)
          · refine lv_iconst (v := 0) hx hb dX2_lend_129 (by decide) ?_
            refine ps_call (rest := [.long (kSgn (ixI (mso S) a) (kMag (ixI (mso S) a) (ixL (mlo S) a)) 1), .int (ixI (mso S) a), .int to, .ref (ad 0)]) S0 (c_X2_signed l (ixI (mso S) a) (kMag (ixI (mso S) a) (ixL (mhi S) a)) 0) gX2_lend_X2_signed rfl qX2_signed ⟨Nat.le_of_ble_eq_true rfl, Nat.le_of_ble_eq_true rfl⟩ ⟨Nat.le_of_ble_eq_true rfl, Nat.le_of_ble_eq_true rfl⟩ hl.1 rfl (Nat.le_of_ble_eq_true rfl) dX2_lend_130 ?_
            refine io_call (rest := []) (w1 := (mW ad cy (mOrd to (ixI (mso S) a) (kSgn (ixI (mso S) a) (kMag (ixI (mso S) a) (ixL (mlo S) a)) 1) (kSgn (ixI (mso S) a) (kMag (ixI (mso S) a) (ixL (mhi S) a)) 0) S))) S0 (c_X2_ordered l D ad cy A S to (ixI (mso S) a) (kSgn (ixI (mso S) a) (kMag (ixI (mso S) a) (ixL (mlo S) a)) 1) (kSgn (ixI (mso S) a) (kMag (ixI (mso S) a) (ixL (mhi S) a)) 0) (by assumption)) gX2_lend_X2_ordered hw rfl qX2_ordered ⟨Nat.le_of_ble_eq_true rfl, Nat.le_of_ble_eq_true rfl⟩ ⟨Nat.le_of_ble_eq_true rfl, Nat.le_of_ble_eq_true rfl⟩ rfl rfl rfl hl.1 rfl (Nat.le_of_ble_eq_true rfl) dX2_lend_133 (fun H locs hw => ?_)
            exact io_iret S0 hr hlk hw dX2_lend_136 (congrArg (fun z => some (Value.int z)) (show (mLend a b to S).1 = 1 from (by first | (simp [mLend, zd1, zd2, zd3, zd4, zd5, zd6, hq, eq_true c_1, if_pos c_2, eq_true c_3, eq_false c_5]; done) | (simp [mLend, zd1, zd2, zd3, zd4, zd5, zd6, eq_true hq, eq_true c_1, eq_true c_2, eq_true c_3, eq_false c_5]; done) | (simp [mLend, zd1, zd2, zd3, zd4, zd5, zd6, mso, mlo, mhi, mth, mwh, mas, mbs, mts, mst, mrf, met, msd, eq_true hq, eq_true c_1, eq_true c_2, eq_true c_3, eq_false c_5]; done) | (simp [mLend, zd1, zd2, zd3, zd4, zd5, zd6, mso, mlo, mhi, mth, mwh, mas, mbs, mts, mst, mrf, met, msd, hq, c_1, c_2, c_3, c_5]; done) | contradiction | rfl))) (congrArg (mW ad cy) (show (mLend a b to S).2 = mOrd to (ixI (mso S) a) (kSgn (ixI (mso S) a) (kMag (ixI (mso S) a) (ixL (mlo S) a)) 1) (kSgn (ixI (mso S) a) (kMag (ixI (mso S) a) (ixL (mhi S) a)) 0) S from (by first | (simp [mLend, zd1, zd2, zd3, zd4, zd5, zd6, hq, eq_true c_1, if_pos c_2, eq_true c_3, eq_false c_5]; done) | (simp [mLend, zd1, zd2, zd3, zd4, zd5, zd6, eq_true hq, eq_true c_1, eq_true c_2, eq_true c_3, eq_false c_5]; done) | (simp [mLend, zd1, zd2, zd3, zd4, zd5, zd6, mso, mlo, mhi, mth, mwh, mas, mbs, mts, mst, mrf, met, msd, eq_true hq, eq_true c_1, eq_true c_2, eq_true c_3, eq_false c_5]; done) | (simp [mLend, zd1, zd2, zd3, zd4, zd5, zd6, mso, mlo, mhi, mth, mwh, mas, mbs, mts, mst, mrf, met, msd, hq, c_1, c_2, c_3, c_5]; done) | contradiction | rfl)))
          · refine lv_iconst (v := 1) hx hb dX2_lend_125 (by decide) ?_
            refine lv_goto (tgt := 130) hx hb dX2_lend_126 (by decide) ?_
            refine ps_call (rest := [.long (kSgn (ixI (mso S) a) (kMag (ixI (mso S) a) (ixL (mlo S) a)) 1), .int (ixI (mso S) a), .int to, .ref (ad 0)]) S0 (c_X2_signed l (ixI (mso S) a) (kMag (ixI (mso S) a) (ixL (mhi S) a)) 1) gX2_lend_X2_signed rfl qX2_signed ⟨Nat.le_of_ble_eq_true rfl, Nat.le_of_ble_eq_true rfl⟩ ⟨Nat.le_of_ble_eq_true rfl, Nat.le_of_ble_eq_true rfl⟩ hl.1 rfl (Nat.le_of_ble_eq_true rfl) dX2_lend_130 ?_
            refine io_call (rest := []) (w1 := (mW ad cy (mOrd to (ixI (mso S) a) (kSgn (ixI (mso S) a) (kMag (ixI (mso S) a) (ixL (mlo S) a)) 1) (kSgn (ixI (mso S) a) (kMag (ixI (mso S) a) (ixL (mhi S) a)) 1) S))) S0 (c_X2_ordered l D ad cy A S to (ixI (mso S) a) (kSgn (ixI (mso S) a) (kMag (ixI (mso S) a) (ixL (mlo S) a)) 1) (kSgn (ixI (mso S) a) (kMag (ixI (mso S) a) (ixL (mhi S) a)) 1) (by assumption)) gX2_lend_X2_ordered hw rfl qX2_ordered ⟨Nat.le_of_ble_eq_true rfl, Nat.le_of_ble_eq_true rfl⟩ ⟨Nat.le_of_ble_eq_true rfl, Nat.le_of_ble_eq_true rfl⟩ rfl rfl rfl hl.1 rfl (Nat.le_of_ble_eq_true rfl) dX2_lend_133 (fun H locs hw => ?_)
            exact io_iret S0 hr hlk hw dX2_lend_136 (congrArg (fun z => some (Value.int z)) (show (mLend a b to S).1 = 1 from (by first | (simp [mLend, zd1, zd2, zd3, zd4, zd5, zd6, hq, eq_true c_1, if_pos c_2, eq_true c_3, eq_true c_5]; done) | (simp [mLend, zd1, zd2, zd3, zd4, zd5, zd6, eq_true hq, eq_true c_1, eq_true c_2, eq_true c_3, eq_true c_5]; done) | (simp [mLend, zd1, zd2, zd3, zd4, zd5, zd6, mso, mlo, mhi, mth, mwh, mas, mbs, mts, mst, mrf, met, msd, eq_true hq, eq_true c_1, eq_true c_2, eq_true c_3, eq_true c_5]; done) | (simp [mLend, zd1, zd2, zd3, zd4, zd5, zd6, mso, mlo, mhi, mth, mwh, mas, mbs, mts, mst, mrf, met, msd, hq, c_1, c_2, c_3, c_5]; done) | contradiction | rfl))) (congrArg (mW ad cy) (show (mLend a b to S).2 = mOrd to (ixI (mso S) a) (kSgn (ixI (mso S) a) (kMag (ixI (mso S) a) (ixL (mlo S) a)) 1) (kSgn (ixI (mso S) a) (kMag (ixI (mso S) a) (ixL (mhi S) a)) 1) S from (by first | (simp [mLend, zd1, zd2, zd3, zd4, zd5, zd6, hq, eq_true c_1, if_pos c_2, eq_true c_3, eq_true c_5]; done) | (simp [mLend, zd1, zd2, zd3, zd4, zd5, zd6, eq_true hq, eq_true c_1, eq_true c_2, eq_true c_3, eq_true c_5]; done) | (simp [mLend, zd1, zd2, zd3, zd4, zd5, zd6, mso, mlo, mhi, mth, mwh, mas, mbs, mts, mst, mrf, met, msd, eq_true hq, eq_true c_1, eq_true c_2, eq_true c_3, eq_true c_5]; done) | (simp [mLend, zd1, zd2, zd3, zd4, zd5, zd6, mso, mlo, mhi, mth, mwh, mas, mbs, mts, mst, mrf, met, msd, hq, c_1, c_2, c_3, c_5]; done) | contradiction | rfl)))
      · refine lv_bipush (v := -4) hx hb dX2_lend_41 (by decide) ?_
        refine lv_istore (lv' := [(4, .int (-4)), (0, .ref (ad 0)), (1, .int a), (2, .int b), (3, .int to)]) hx hb dX2_lend_43 hl (by decide) rfl (fun ls hl => ?_)
        refine lv_iload hx hb dX2_lend_45 (lv_at hl 0 rfl) ?_
        refine zi_ge (tgt := 57) hx hb dX2_lend_47 (by decide) (fun q => absurd (by decide) q) (fun _ => ?_)
        refine lv_aload_n hx hb dX2_lend_50 rfl (lv_at hl 1 rfl) ?_
        refine lv_iload hx hb dX2_lend_51 (lv_at hl 0 rfl) ?_
        refine io_call (rest := []) (w1 := (mW ad cy (mRef (-4) S))) S0 (c_X2_refuses l D ad cy A S (-4)) gX2_lend_X2_refuses hw rfl qX2_refuses ⟨Nat.le_of_ble_eq_true rfl, Nat.le_of_ble_eq_true rfl⟩ ⟨Nat.le_of_ble_eq_true rfl, Nat.le_of_ble_eq_true rfl⟩ rfl rfl rfl hl.1 rfl (Nat.le_of_ble_eq_true rfl) dX2_lend_53 (fun H locs hw => ?_)
        exact io_iret S0 hr hlk hw dX2_lend_56 (congrArg (fun z => some (Value.int z)) (show (mLend a b to S).1 = (-4) from (by first | (simp [mLend, zd1, zd2, zd3, zd4, zd5, zd6, hq, eq_true c_1, eq_false c_2]; done) | (simp [mLend, zd1, zd2, zd3, zd4, zd5, zd6, eq_true hq, eq_true c_1, eq_false c_2]; done) | (simp [mLend, zd1, zd2, zd3, zd4, zd5, zd6, mso, mlo, mhi, mth, mwh, mas, mbs, mts, mst, mrf, met, msd, eq_true hq, eq_true c_1, eq_false c_2]; done) | (simp [mLend, zd1, zd2, zd3, zd4, zd5, zd6, mso, mlo, mhi, mth, mwh, mas, mbs, mts, mst, mrf, met, msd, hq, c_1, c_2]; done) | contradiction | rfl))) (congrArg (mW ad cy) (show (mLend a b to S).2 = mRef (-4) S from (by first | (simp [mLend, zd1, zd2, zd3, zd4, zd5, zd6, hq, eq_true c_1, eq_false c_2]; done) | (simp [mLend, zd1, zd2, zd3, zd4, zd5, zd6, eq_true hq, eq_true c_1, eq_false c_2]; done) | (simp [mLend, zd1, zd2, zd3, zd4, zd5, zd6, mso, mlo, mhi, mth, mwh, mas, mbs, mts, mst, mrf, met, msd, eq_true hq, eq_true c_1, eq_false c_2]; done) | (simp [mLend, zd1, zd2, zd3, zd4, zd5, zd6, mso, mlo, mhi, mth, mwh, mas, mbs, mts, mst, mrf, met, msd, hq, c_1, c_2]; done) | contradiction | rfl)))
theorem qX2_turn : yX2_turn.cls = RX2 ∧ yX2_turn.cls ≠ "java/lang/invoke/MethodHandle" ∧ yX2_turn.cls ≠ "java/lang/invoke/VarHandle" ∧ (parseMethodDescriptor yX2_turn.desc).map (fun d => d.parameters.length) = some 2 := by decide +kernel
set_option maxHeartbeats 4000000 in
set_option maxRecDepth 100000 in
theorem c_X2_turn (l : Launch) (D : va_G) (ad : Nat → Nat) (cy : Nat → ClassId) (A : Nat → Prop) (S : MS) (a : Int32) (to : Int32) : OM l D (mT cy) A yX2_turn wsX2_turn 5 116 [.ref (ad 0), .int a, .int to] (mW ad cy S) (mW ad cy ((mTurn a to S).2)) (some (.int ((mTurn a to S).1))) := by
  refine OM.of (cc := cX2_turn) (maxL := 4) (ret := some .int) (own := RX2) (by decide) rfl rfl (Nat.le_of_ble_eq_true rfl) ?_
  intro p e s m below meth c ls S0 hr hlk hl hw
  have hx := S0.1
  have hb := S0.2.1
  have hl : lv_has ls 4 [(0, .ref (ad 0)), (1, .int a), (2, .int to)] := hl
  have hin : ∀ w ∈ wsX20, w ∈ wsX2_turn := fun w h => List.mem_cons_of_mem _ (List.mem_append_right _ h)
  refine lv_aload_n hx hb dX2_turn_0 rfl (lv_at hl 0 rfl) ?_
  refine lv_iload_n hx hb dX2_turn_1 rfl (lv_at hl 1 rfl) ?_
  refine lv_iload_n hx hb dX2_turn_2 rfl (lv_at hl 1 rfl) ?_
  refine lv_iload_n hx hb dX2_turn_3 rfl (lv_at hl 2 rfl) ?_
  refine io_call (rest := []) (w1 := (mW ad cy S)) S0 (c_X2_whyNot l D ad cy A S a a to) gX2_turn_X2_whyNot hw rfl qX2_whyNot ⟨Nat.le_of_ble_eq_true rfl, Nat.le_of_ble_eq_true rfl⟩ ⟨Nat.le_of_ble_eq_true rfl, Nat.le_of_ble_eq_true rfl⟩ rfl rfl rfl hl.1 rfl (Nat.le_of_ble_eq_true rfl) dX2_turn_4 (fun H locs hw => ?_)
  rcases mWhy_cases a a to S with hq | hq | ⟨hq, hs1, hs2, hs3⟩
  · rw [hq]
    refine lv_istore_n (lv' := [(3, .int (-2)), (0, .ref (ad 0)), (1, .int a), (2, .int to)]) hx hb dX2_turn_7 rfl hl (by decide) rfl (fun ls hl => ?_)
    refine lv_iload_n hx hb dX2_turn_8 rfl (lv_at hl 0 rfl) ?_
    refine zi_ge (tgt := 20) hx hb dX2_turn_9 (by decide) (fun q => absurd (by decide) q) (fun _ => ?_)
    refine lv_aload_n hx hb dX2_turn_12 rfl (lv_at hl 1 rfl) ?_
    refine lv_iload_n hx hb dX2_turn_13 rfl (lv_at hl 0 rfl) ?_
    refine io_call (rest := []) (w1 := (mW ad cy (mRef (-2) S))) S0 (c_X2_refuses l D ad cy A S (-2)) gX2_turn_X2_refuses hw rfl qX2_refuses ⟨Nat.le_of_ble_eq_true rfl, Nat.le_of_ble_eq_true rfl⟩ ⟨Nat.le_of_ble_eq_true rfl, Nat.le_of_ble_eq_true rfl⟩ rfl rfl rfl hl.1 rfl (Nat.le_of_ble_eq_true rfl) dX2_turn_14 (fun H locs hw => ?_)
    refine lv_goto (tgt := 61) hx hb dX2_turn_17 (by decide) ?_
    exact io_iret S0 hr hlk hw dX2_turn_61 (congrArg (fun z => some (Value.int z)) (show (mTurn a to S).1 = (-2) from (by first | (simp [mTurn, zd1, zd2, zd3, zd4, zd5, zd6, hq]; done) | (simp [mTurn, zd1, zd2, zd3, zd4, zd5, zd6, eq_true hq]; done) | (simp [mTurn, zd1, zd2, zd3, zd4, zd5, zd6, mso, mlo, mhi, mth, mwh, mas, mbs, mts, mst, mrf, met, msd, eq_true hq]; done) | (simp [mTurn, zd1, zd2, zd3, zd4, zd5, zd6, mso, mlo, mhi, mth, mwh, mas, mbs, mts, mst, mrf, met, msd, hq]; done) | contradiction | rfl))) (congrArg (mW ad cy) (show (mTurn a to S).2 = mRef (-2) S from (by first | (simp [mTurn, zd1, zd2, zd3, zd4, zd5, zd6, hq]; done) | (simp [mTurn, zd1, zd2, zd3, zd4, zd5, zd6, eq_true hq]; done) | (simp [mTurn, zd1, zd2, zd3, zd4, zd5, zd6, mso, mlo, mhi, mth, mwh, mas, mbs, mts, mst, mrf, met, msd, eq_true hq]; done) | (simp [mTurn, zd1, zd2, zd3, zd4, zd5, zd6, mso, mlo, mhi, mth, mwh, mas, mbs, mts, mst, mrf, met, msd, hq]; done) | contradiction | rfl)))
  · rw [hq]
    refine lv_istore_n (lv' := [(3, .int (-3)), (0, .ref (ad 0)), (1, .int a), (2, .int to)]) hx hb dX2_turn_7 rfl hl (by decide) rfl (fun ls hl => ?_)
    refine lv_iload_n hx hb dX2_turn_8 rfl (lv_at hl 0 rfl) ?_
    refine zi_ge (tgt := 20) hx hb dX2_turn_9 (by decide) (fun q => absurd (by decide) q) (fun _ => ?_)
    refine lv_aload_n hx hb dX2_turn_12 rfl (lv_at hl 1 rfl) ?_
    refine lv_iload_n hx hb dX2_turn_13 rfl (lv_at hl 0 rfl) ?_
    refine io_call (rest := []) (w1 := (mW ad cy (mRef (-3) S))) S0 (c_X2_refuses l D ad cy A S (-3)) gX2_turn_X2_refuses hw rfl qX2_refuses ⟨Nat.le_of_ble_eq_true rfl, Nat.le_of_ble_eq_true rfl⟩ ⟨Nat.le_of_ble_eq_true rfl, Nat.le_of_ble_eq_true rfl⟩ rfl rfl rfl hl.1 rfl (Nat.le_of_ble_eq_true rfl) dX2_turn_14 (fun H locs hw => ?_)
    refine lv_goto (tgt := 61) hx hb dX2_turn_17 (by decide) ?_
    exact io_iret S0 hr hlk hw dX2_turn_61 (congrArg (fun z => some (Value.int z)) (show (mTurn a to S).1 = (-3) from (by first | (simp [mTurn, zd1, zd2, zd3, zd4, zd5, zd6, hq]; done) | (simp [mTurn, zd1, zd2, zd3, zd4, zd5, zd6, eq_true hq]; done) | (simp [mTurn, zd1, zd2, zd3, zd4, zd5, zd6, mso, mlo, mhi, mth, mwh, mas, mbs, mts, mst, mrf, met, msd, eq_true hq]; done) | (simp [mTurn, zd1, zd2, zd3, zd4, zd5, zd6, mso, mlo, mhi, mth, mwh, mas, mbs, mts, mst, mrf, met, msd, hq]; done) | contradiction | rfl))) (congrArg (mW ad cy) (show (mTurn a to S).2 = mRef (-3) S from (by first | (simp [mTurn, zd1, zd2, zd3, zd4, zd5, zd6, hq]; done) | (simp [mTurn, zd1, zd2, zd3, zd4, zd5, zd6, eq_true hq]; done) | (simp [mTurn, zd1, zd2, zd3, zd4, zd5, zd6, mso, mlo, mhi, mth, mwh, mas, mbs, mts, mst, mrf, met, msd, eq_true hq]; done) | (simp [mTurn, zd1, zd2, zd3, zd4, zd5, zd6, mso, mlo, mhi, mth, mwh, mas, mbs, mts, mst, mrf, met, msd, hq]; done) | contradiction | rfl)))
  · rw [hq]
    refine lv_istore_n (lv' := [(3, .int 0), (0, .ref (ad 0)), (1, .int a), (2, .int to)]) hx hb dX2_turn_7 rfl hl (by decide) rfl (fun ls hl => ?_)
    refine lv_iload_n hx hb dX2_turn_8 rfl (lv_at hl 0 rfl) ?_
    refine zi_ge (tgt := 20) hx hb dX2_turn_9 (by decide) (fun _ => ?_) (fun q => absurd q (by decide))
    refine lv_aload_n hx hb dX2_turn_20 rfl (lv_at hl 1 rfl) ?_
    refine lv_iload_n hx hb dX2_turn_21 rfl (lv_at hl 3 rfl) ?_
    refine lv_aload_n hx hb dX2_turn_22 rfl (lv_at hl 1 rfl) ?_
    refine gd_get S0 hin hw rfl rfl 0 (by decide) (S0.2.2.2.2 (.fieldLink RX2 7 "StretchDeskModel" "sorts" "[I") (by decide +kernel)) rfl (v := .ref (ad 1)) rfl dX2_turn_23 ?_
    refine lv_iload_n hx hb dX2_turn_26 rfl (lv_at hl 2 rfl) ?_
    refine va_iald hx hb hw.2.2.1 hw.1 1 0 rfl rfl (zIn (by assumption)) dX2_turn_27 ?_
    refine lv_aload_n hx hb dX2_turn_28 rfl (lv_at hl 1 rfl) ?_
    refine gd_get S0 hin hw rfl rfl 0 (by decide) (S0.2.2.2.2 (.fieldLink RX2 7 "StretchDeskModel" "sorts" "[I") (by decide +kernel)) rfl (v := .ref (ad 1)) rfl dX2_turn_29 ?_
    refine lv_iload_n hx hb dX2_turn_32 rfl (lv_at hl 2 rfl) ?_
    refine va_iald hx hb hw.2.2.1 hw.1 1 0 rfl rfl (zIn (by assumption)) dX2_turn_33 ?_
    refine lv_aload_n hx hb dX2_turn_34 rfl (lv_at hl 1 rfl) ?_
    refine gd_get S0 hin hw rfl rfl 1 (by decide) (S0.2.2.2.2 (.fieldLink RX2 13 "StretchDeskModel" "lows" "[J") (by decide +kernel)) rfl (v := .ref (ad 2)) rfl dX2_turn_35 ?_
    refine lv_iload_n hx hb dX2_turn_38 rfl (lv_at hl 2 rfl) ?_
    refine va_lald hx hb hw.2.2.1 hw.1 2 1 rfl rfl (zIn (by assumption)) dX2_turn_39 ?_
    refine ps_call (rest := [.int (ixI (mso S) a), .int to, .ref (ad 0)]) S0 (c_X2_turned l (ixI (mso S) a) (ixL (mlo S) a)) gX2_turn_X2_turned rfl qX2_turned ⟨Nat.le_of_ble_eq_true rfl, Nat.le_of_ble_eq_true rfl⟩ ⟨Nat.le_of_ble_eq_true rfl, Nat.le_of_ble_eq_true rfl⟩ hl.1 rfl (Nat.le_of_ble_eq_true rfl) dX2_turn_40 ?_
    refine lv_aload_n hx hb dX2_turn_43 rfl (lv_at hl 1 rfl) ?_
    refine gd_get S0 hin hw rfl rfl 0 (by decide) (S0.2.2.2.2 (.fieldLink RX2 7 "StretchDeskModel" "sorts" "[I") (by decide +kernel)) rfl (v := .ref (ad 1)) rfl dX2_turn_44 ?_
    refine lv_iload_n hx hb dX2_turn_47 rfl (lv_at hl 2 rfl) ?_
    refine va_iald hx hb hw.2.2.1 hw.1 1 0 rfl rfl (zIn (by assumption)) dX2_turn_48 ?_
    refine lv_aload_n hx hb dX2_turn_49 rfl (lv_at hl 1 rfl) ?_
    refine gd_get S0 hin hw rfl rfl 2 (by decide) (S0.2.2.2.2 (.fieldLink RX2 17 "StretchDeskModel" "highs" "[J") (by decide +kernel)) rfl (v := .ref (ad 3)) rfl dX2_turn_50 ?_
    refine lv_iload_n hx hb dX2_turn_53 rfl (lv_at hl 2 rfl) ?_
    refine va_lald hx hb hw.2.2.1 hw.1 3 2 rfl rfl (zIn (by assumption)) dX2_turn_54 ?_
    refine ps_call (rest := [.long (kTurned (ixI (mso S) a) (ixL (mlo S) a)), .int (ixI (mso S) a), .int to, .ref (ad 0)]) S0 (c_X2_turned l (ixI (mso S) a) (ixL (mhi S) a)) gX2_turn_X2_turned rfl qX2_turned ⟨Nat.le_of_ble_eq_true rfl, Nat.le_of_ble_eq_true rfl⟩ ⟨Nat.le_of_ble_eq_true rfl, Nat.le_of_ble_eq_true rfl⟩ hl.1 rfl (Nat.le_of_ble_eq_true rfl) dX2_turn_55 ?_
    refine io_call (rest := []) (w1 := (mW ad cy (mOrd to (ixI (mso S) a) (kTurned (ixI (mso S) a) (ixL (mlo S) a)) (kTurned (ixI (mso S) a) (ixL (mhi S) a)) S))) S0 (c_X2_ordered l D ad cy A S to (ixI (mso S) a) (kTurned (ixI (mso S) a) (ixL (mlo S) a)) (kTurned (ixI (mso S) a) (ixL (mhi S) a)) (by assumption)) gX2_turn_X2_ordered hw rfl qX2_ordered ⟨Nat.le_of_ble_eq_true rfl, Nat.le_of_ble_eq_true rfl⟩ ⟨Nat.le_of_ble_eq_true rfl, Nat.le_of_ble_eq_true rfl⟩ rfl rfl rfl hl.1 rfl (Nat.le_of_ble_eq_true rfl) dX2_turn_58 (fun H locs hw => ?_)
    exact io_iret S0 hr hlk hw dX2_turn_61 (congrArg (fun z => some (Value.int z)) (show (mTurn a to S).1 = 1 from (by first | (simp [mTurn, zd1, zd2, zd3, zd4, zd5, zd6, hq]; done) | (simp [mTurn, zd1, zd2, zd3, zd4, zd5, zd6, eq_true hq]; done) | (simp [mTurn, zd1, zd2, zd3, zd4, zd5, zd6, mso, mlo, mhi, mth, mwh, mas, mbs, mts, mst, mrf, met, msd, eq_true hq]; done) | (simp [mTurn, zd1, zd2, zd3, zd4, zd5, zd6, mso, mlo, mhi, mth, mwh, mas, mbs, mts, mst, mrf, met, msd, hq]; done) | contradiction | rfl))) (congrArg (mW ad cy) (show (mTurn a to S).2 = mOrd to (ixI (mso S) a) (kTurned (ixI (mso S) a) (ixL (mlo S) a)) (kTurned (ixI (mso S) a) (ixL (mhi S) a)) S from (by first | (simp [mTurn, zd1, zd2, zd3, zd4, zd5, zd6, hq]; done) | (simp [mTurn, zd1, zd2, zd3, zd4, zd5, zd6, eq_true hq]; done) | (simp [mTurn, zd1, zd2, zd3, zd4, zd5, zd6, mso, mlo, mhi, mth, mwh, mas, mbs, mts, mst, mrf, met, msd, eq_true hq]; done) | (simp [mTurn, zd1, zd2, zd3, zd4, zd5, zd6, mso, mlo, mhi, mth, mwh, mas, mbs, mts, mst, mrf, met, msd, hq]; done) | contradiction | rfl)))
theorem qX2_as : yX2_as.cls = RX2 ∧ yX2_as.cls ≠ "java/lang/invoke/MethodHandle" ∧ yX2_as.cls ≠ "java/lang/invoke/VarHandle" ∧ (parseMethodDescriptor yX2_as.desc).map (fun d => d.parameters.length) = some 3 := by decide +kernel
set_option maxHeartbeats 4000000 in
set_option maxRecDepth 100000 in
theorem c_X2_as (l : Launch) (D : va_G) (ad : Nat → Nat) (cy : Nat → ClassId) (A : Nat → Prop) (S : MS) (a : Int32) (t : Int32) (to : Int32) (hfine : zSl a → ¬ mWhy a a to S < 0 → zSort (ixI (mso S) a) ∧ kFine (ixI (mso S) a) t (ixL (mlo S) a) ∧ kFine (ixI (mso S) a) t (ixL (mhi S) a)) : OM l D (mT cy) A yX2_as wsX2_as 5 116 [.ref (ad 0), .int a, .int t, .int to] (mW ad cy S) (mW ad cy ((mAs a t to S).2)) (some (.int ((mAs a t to S).1))) := by
  refine OM.of (cc := cX2_as) (maxL := 5) (ret := some .int) (own := RX2) (by decide) rfl rfl (Nat.le_of_ble_eq_true rfl) ?_
  intro p e s m below meth c ls S0 hr hlk hl hw
  have hx := S0.1
  have hb := S0.2.1
  have hl : lv_has ls 5 [(0, .ref (ad 0)), (1, .int a), (2, .int t), (3, .int to)] := hl
  have hin : ∀ w ∈ wsX20, w ∈ wsX2_as := fun w h => List.mem_cons_of_mem _ (List.mem_append_right _ h)
  refine lv_aload_n hx hb dX2_as_0 rfl (lv_at hl 0 rfl) ?_
  refine lv_iload_n hx hb dX2_as_1 rfl (lv_at hl 1 rfl) ?_
  refine lv_iload_n hx hb dX2_as_2 rfl (lv_at hl 1 rfl) ?_
  refine lv_iload_n hx hb dX2_as_3 rfl (lv_at hl 3 rfl) ?_
  refine io_call (rest := []) (w1 := (mW ad cy S)) S0 (c_X2_whyNot l D ad cy A S a a to) gX2_as_X2_whyNot hw rfl qX2_whyNot ⟨Nat.le_of_ble_eq_true rfl, Nat.le_of_ble_eq_true rfl⟩ ⟨Nat.le_of_ble_eq_true rfl, Nat.le_of_ble_eq_true rfl⟩ rfl rfl rfl hl.1 rfl (Nat.le_of_ble_eq_true rfl) dX2_as_4 (fun H locs hw => ?_)
  rcases mWhy_cases a a to S with hq | hq | ⟨hq, hs1, hs2, hs3⟩
  · rw [hq]
    refine lv_istore (lv' := [(4, .int (-2)), (0, .ref (ad 0)), (1, .int a), (2, .int t), (3, .int to)]) hx hb dX2_as_7 hl (by decide) rfl (fun ls hl => ?_)
    refine lv_iload hx hb dX2_as_9 (lv_at hl 0 rfl) ?_
    refine zi_ne (tgt := 27) hx hb dX2_as_11 (by decide) (fun _ => ?_) (fun q => absurd q (by decide))
    refine lv_iload hx hb dX2_as_27 (lv_at hl 0 rfl) ?_
    refine zi_ge (tgt := 41) hx hb dX2_as_29 (by decide) (fun q => absurd (by decide) q) (fun _ => ?_)
    refine lv_aload_n hx hb dX2_as_32 rfl (lv_at hl 1 rfl) ?_
    refine lv_iload hx hb dX2_as_33 (lv_at hl 0 rfl) ?_
    refine io_call (rest := []) (w1 := (mW ad cy (mRef (-2) S))) S0 (c_X2_refuses l D ad cy A S (-2)) gX2_as_X2_refuses hw rfl qX2_refuses ⟨Nat.le_of_ble_eq_true rfl, Nat.le_of_ble_eq_true rfl⟩ ⟨Nat.le_of_ble_eq_true rfl, Nat.le_of_ble_eq_true rfl⟩ rfl rfl rfl hl.1 rfl (Nat.le_of_ble_eq_true rfl) dX2_as_35 (fun H locs hw => ?_)
    refine lv_goto (tgt := 79) hx hb dX2_as_38 (by decide) ?_
    exact io_iret S0 hr hlk hw dX2_as_79 (congrArg (fun z => some (Value.int z)) (show (mAs a t to S).1 = (-2) from (by first | (simp [mAs, zSort, zd1, zd2, zd3, zd4, zd5, zd6, hq]; done) | (simp [mAs, zSort, zd1, zd2, zd3, zd4, zd5, zd6, eq_true hq]; done) | (simp [mAs, zSort, zd1, zd2, zd3, zd4, zd5, zd6, mso, mlo, mhi, mth, mwh, mas, mbs, mts, mst, mrf, met, msd, eq_true hq]; done) | (simp [mAs, zSort, zd1, zd2, zd3, zd4, zd5, zd6, mso, mlo, mhi, mth, mwh, mas, mbs, mts, mst, mrf, met, msd, hq]; done) | contradiction | rfl))) (congrArg (mW ad cy) (show (mAs a t to S).2 = mRef (-2) S from (by first | (simp [mAs, zSort, zd1, zd2, zd3, zd4, zd5, zd6, hq]; done) | (simp [mAs, zSort, zd1, zd2, zd3, zd4, zd5, zd6, eq_true hq]; done) | (simp [mAs, zSort, zd1, zd2, zd3, zd4, zd5, zd6, mso, mlo, mhi, mth, mwh, mas, mbs, mts, mst, mrf, met, msd, eq_true hq]; done) | (simp [mAs, zSort, zd1, zd2, zd3, zd4, zd5, zd6, mso, mlo, mhi, mth, mwh, mas, mbs, mts, mst, mrf, met, msd, hq]; done) | contradiction | rfl)))
  · rw [hq]
    refine lv_istore (lv' := [(4, .int (-3)), (0, .ref (ad 0)), (1, .int a), (2, .int t), (3, .int to)]) hx hb dX2_as_7 hl (by decide) rfl (fun ls hl => ?_)
    refine lv_iload hx hb dX2_as_9 (lv_at hl 0 rfl) ?_
    refine zi_ne (tgt := 27) hx hb dX2_as_11 (by decide) (fun _ => ?_) (fun q => absurd q (by decide))
    refine lv_iload hx hb dX2_as_27 (lv_at hl 0 rfl) ?_
    refine zi_ge (tgt := 41) hx hb dX2_as_29 (by decide) (fun q => absurd (by decide) q) (fun _ => ?_)
    refine lv_aload_n hx hb dX2_as_32 rfl (lv_at hl 1 rfl) ?_
    refine lv_iload hx hb dX2_as_33 (lv_at hl 0 rfl) ?_
    refine io_call (rest := []) (w1 := (mW ad cy (mRef (-3) S))) S0 (c_X2_refuses l D ad cy A S (-3)) gX2_as_X2_refuses hw rfl qX2_refuses ⟨Nat.le_of_ble_eq_true rfl, Nat.le_of_ble_eq_true rfl⟩ ⟨Nat.le_of_ble_eq_true rfl, Nat.le_of_ble_eq_true rfl⟩ rfl rfl rfl hl.1 rfl (Nat.le_of_ble_eq_true rfl) dX2_as_35 (fun H locs hw => ?_)
    refine lv_goto (tgt := 79) hx hb dX2_as_38 (by decide) ?_
    exact io_iret S0 hr hlk hw dX2_as_79 (congrArg (fun z => some (Value.int z)) (show (mAs a t to S).1 = (-3) from (by first | (simp [mAs, zSort, zd1, zd2, zd3, zd4, zd5, zd6, hq]; done) | (simp [mAs, zSort, zd1, zd2, zd3, zd4, zd5, zd6, eq_true hq]; done) | (simp [mAs, zSort, zd1, zd2, zd3, zd4, zd5, zd6, mso, mlo, mhi, mth, mwh, mas, mbs, mts, mst, mrf, met, msd, eq_true hq]; done) | (simp [mAs, zSort, zd1, zd2, zd3, zd4, zd5, zd6, mso, mlo, mhi, mth, mwh, mas, mbs, mts, mst, mrf, met, msd, hq]; done) | contradiction | rfl))) (congrArg (mW ad cy) (show (mAs a t to S).2 = mRef (-3) S from (by first | (simp [mAs, zSort, zd1, zd2, zd3, zd4, zd5, zd6, hq]; done) | (simp [mAs, zSort, zd1, zd2, zd3, zd4, zd5, zd6, eq_true hq]; done) | (simp [mAs, zSort, zd1, zd2, zd3, zd4, zd5, zd6, mso, mlo, mhi, mth, mwh, mas, mbs, mts, mst, mrf, met, msd, eq_true hq]; done) | (simp [mAs, zSort, zd1, zd2, zd3, zd4, zd5, zd6, mso, mlo, mhi, mth, mwh, mas, mbs, mts, mst, mrf, met, msd, hq]; done) | contradiction | rfl)))
  · rw [hq]
    refine lv_istore (lv' := [(4, .int 0), (0, .ref (ad 0)), (1, .int a), (2, .int t), (3, .int to)]) hx hb dX2_as_7 hl (by decide) rfl (fun ls hl => ?_)
    refine lv_iload hx hb dX2_as_9 (lv_at hl 0 rfl) ?_
    refine zi_ne (tgt := 27) hx hb dX2_as_11 (by decide) (fun q => absurd (by decide) q) (fun _ => ?_)
    refine lv_iload_n hx hb dX2_as_14 rfl (lv_at hl 3 rfl) ?_
    refine zi_lt (tgt := 23) hx hb dX2_as_15 (by decide) (fun c_1 => ?_) (fun c_1 => ?_)
    · refine lv_bipush (v := -4) hx hb dX2_as_23 (by decide) ?_
      refine lv_istore (lv' := [(4, .int (-4)), (0, .ref (ad 0)), (1, .int a), (2, .int t), (3, .int to)]) hx hb dX2_as_25 hl (by decide) rfl (fun ls hl => ?_)
      refine lv_iload hx hb dX2_as_27 (lv_at hl 0 rfl) ?_
      refine zi_ge (tgt := 41) hx hb dX2_as_29 (by decide) (fun q => absurd (by decide) q) (fun _ => ?_)
      refine lv_aload_n hx hb dX2_as_32 rfl (lv_at hl 1 rfl) ?_
      refine lv_iload hx hb dX2_as_33 (lv_at hl 0 rfl) ?_
      refine io_call (rest := []) (w1 := (mW ad cy (mRef (-4) S))) S0 (c_X2_refuses l D ad cy A S (-4)) gX2_as_X2_refuses hw rfl qX2_refuses ⟨Nat.le_of_ble_eq_true rfl, Nat.le_of_ble_eq_true rfl⟩ ⟨Nat.le_of_ble_eq_true rfl, Nat.le_of_ble_eq_true rfl⟩ rfl rfl rfl hl.1 rfl (Nat.le_of_ble_eq_true rfl) dX2_as_35 (fun H locs hw => ?_)
      refine lv_goto (tgt := 79) hx hb dX2_as_38 (by decide) ?_
      exact io_iret S0 hr hlk hw dX2_as_79 (congrArg (fun z => some (Value.int z)) (show (mAs a t to S).1 = (-4) from (by first | (simp [mAs, zSort, zd1, zd2, zd3, zd4, zd5, zd6, hq, eq_true c_1]; done) | (simp [mAs, zSort, zd1, zd2, zd3, zd4, zd5, zd6, eq_true hq, eq_true c_1]; done) | (simp [mAs, zSort, zd1, zd2, zd3, zd4, zd5, zd6, mso, mlo, mhi, mth, mwh, mas, mbs, mts, mst, mrf, met, msd, eq_true hq, eq_true c_1]; done) | (simp [mAs, zSort, zd1, zd2, zd3, zd4, zd5, zd6, mso, mlo, mhi, mth, mwh, mas, mbs, mts, mst, mrf, met, msd, hq, c_1]; done) | contradiction | rfl))) (congrArg (mW ad cy) (show (mAs a t to S).2 = mRef (-4) S from (by first | (simp [mAs, zSort, zd1, zd2, zd3, zd4, zd5, zd6, hq, eq_true c_1]; done) | (simp [mAs, zSort, zd1, zd2, zd3, zd4, zd5, zd6, eq_true hq, eq_true c_1]; done) | (simp [mAs, zSort, zd1, zd2, zd3, zd4, zd5, zd6, mso, mlo, mhi, mth, mwh, mas, mbs, mts, mst, mrf, met, msd, eq_true hq, eq_true c_1]; done) | (simp [mAs, zSort, zd1, zd2, zd3, zd4, zd5, zd6, mso, mlo, mhi, mth, mwh, mas, mbs, mts, mst, mrf, met, msd, hq, c_1]; done) | contradiction | rfl)))
    · refine lv_iload_n hx hb dX2_as_18 rfl (lv_at hl 3 rfl) ?_
      refine lv_iconst (v := 3) hx hb dX2_as_19 (by decide) ?_
      refine zc_le (tgt := 27) hx hb dX2_as_20 (by decide) (fun c_2 => ?_) (fun c_2 => ?_)
      · refine lv_iload hx hb dX2_as_27 (lv_at hl 0 rfl) ?_
        refine zi_ge (tgt := 41) hx hb dX2_as_29 (by decide) (fun _ => ?_) (fun q => absurd q (by decide))
        obtain ⟨hz1, hz2, hz3⟩ := hfine hs1 (fun z => by rw [hq] at z; exact absurd z (by decide))
        refine lv_aload_n hx hb dX2_as_41 rfl (lv_at hl 1 rfl) ?_
        refine lv_iload_n hx hb dX2_as_42 rfl (lv_at hl 4 rfl) ?_
        refine lv_iload_n hx hb dX2_as_43 rfl (lv_at hl 3 rfl) ?_
        refine lv_aload_n hx hb dX2_as_44 rfl (lv_at hl 1 rfl) ?_
        refine gd_get S0 hin hw rfl rfl 0 (by decide) (S0.2.2.2.2 (.fieldLink RX2 7 "StretchDeskModel" "sorts" "[I") (by decide +kernel)) rfl (v := .ref (ad 1)) rfl dX2_as_45 ?_
        refine lv_iload_n hx hb dX2_as_48 rfl (lv_at hl 2 rfl) ?_
        refine va_iald hx hb hw.2.2.1 hw.1 1 0 rfl rfl (zIn (by assumption)) dX2_as_49 ?_
        refine lv_iload_n hx hb dX2_as_50 rfl (lv_at hl 3 rfl) ?_
        refine lv_aload_n hx hb dX2_as_51 rfl (lv_at hl 1 rfl) ?_
        refine gd_get S0 hin hw rfl rfl 1 (by decide) (S0.2.2.2.2 (.fieldLink RX2 13 "StretchDeskModel" "lows" "[J") (by decide +kernel)) rfl (v := .ref (ad 2)) rfl dX2_as_52 ?_
        refine lv_iload_n hx hb dX2_as_55 rfl (lv_at hl 2 rfl) ?_
        refine va_lald hx hb hw.2.2.1 hw.1 2 1 rfl rfl (zIn (by assumption)) dX2_as_56 ?_
        refine ps_call (rest := [.int t, .int to, .ref (ad 0)]) S0 (c_X2_made l (ixI (mso S) a) t (ixL (mlo S) a) (by assumption) (by assumption)) gX2_as_X2_made rfl qX2_made ⟨Nat.le_of_ble_eq_true rfl, Nat.le_of_ble_eq_true rfl⟩ ⟨Nat.le_of_ble_eq_true rfl, Nat.le_of_ble_eq_true rfl⟩ hl.1 rfl (Nat.le_of_ble_eq_true rfl) dX2_as_57 ?_
        refine lv_aload_n hx hb dX2_as_60 rfl (lv_at hl 1 rfl) ?_
        refine gd_get S0 hin hw rfl rfl 0 (by decide) (S0.2.2.2.2 (.fieldLink RX2 7 "StretchDeskModel" "sorts" "[I") (by decide +kernel)) rfl (v := .ref (ad 1)) rfl dX2_as_61 ?_
        refine lv_iload_n hx hb dX2_as_64 rfl (lv_at hl 2 rfl) ?_
        refine va_iald hx hb hw.2.2.1 hw.1 1 0 rfl rfl (zIn (by assumption)) dX2_as_65 ?_
        refine lv_iload_n hx hb dX2_as_66 rfl (lv_at hl 3 rfl) ?_
        refine lv_aload_n hx hb dX2_as_67 rfl (lv_at hl 1 rfl) ?_
        refine gd_get S0 hin hw rfl rfl 2 (by decide) (S0.2.2.2.2 (.fieldLink RX2 17 "StretchDeskModel" "highs" "[J") (by decide +kernel)) rfl (v := .ref (ad 3)) rfl dX2_as_68 ?_
        refine lv_iload_n hx hb dX2_as_71 rfl (lv_at hl 2 rfl) ?_
        refine va_lald hx hb hw.2.2.1 hw.1 3 2 rfl rfl (zIn (by assumption)) dX2_as_72 ?_
        refine ps_call (rest := [.long (kMade (ixI (mso S) a) t (ixL (mlo S) a)), .int t, .int to, .ref (ad 0)]) S0 (c_X2_made l (ixI (mso S) a) t (ixL (mhi S) a) (by assumption) (by assumption)) gX2_as_X2_made rfl qX2_made ⟨Nat.le_of_ble_eq_true rfl, Nat.le_of_ble_eq_true rfl⟩ ⟨Nat.le_of_ble_eq_true rfl, Nat.le_of_ble_eq_true rfl⟩ hl.1 rfl (Nat.le_of_ble_eq_true rfl) dX2_as_73 ?_
        refine io_call (rest := []) (w1 := (mW ad cy (mOrd to t (kMade (ixI (mso S) a) t (ixL (mlo S) a)) (kMade (ixI (mso S) a) t (ixL (mhi S) a)) S))) S0 (c_X2_ordered l D ad cy A S to t (kMade (ixI (mso S) a) t (ixL (mlo S) a)) (kMade (ixI (mso S) a) t (ixL (mhi S) a)) (by assumption)) gX2_as_X2_ordered hw rfl qX2_ordered ⟨Nat.le_of_ble_eq_true rfl, Nat.le_of_ble_eq_true rfl⟩ ⟨Nat.le_of_ble_eq_true rfl, Nat.le_of_ble_eq_true rfl⟩ rfl rfl rfl hl.1 rfl (Nat.le_of_ble_eq_true rfl) dX2_as_76 (fun H locs hw => ?_)
        exact io_iret S0 hr hlk hw dX2_as_79 (congrArg (fun z => some (Value.int z)) (show (mAs a t to S).1 = 1 from (by first | (simp [mAs, zSort, zd1, zd2, zd3, zd4, zd5, zd6, hq, eq_false c_1, eq_false c_2]; done) | (simp [mAs, zSort, zd1, zd2, zd3, zd4, zd5, zd6, eq_true hq, eq_false c_1, eq_false c_2]; done) | (simp [mAs, zSort, zd1, zd2, zd3, zd4, zd5, zd6, mso, mlo, mhi, mth, mwh, mas, mbs, mts, mst, mrf, met, msd, eq_true hq, eq_false c_1, eq_false c_2]; done) | (simp [mAs, zSort, zd1, zd2, zd3, zd4, zd5, zd6, mso, mlo, mhi, mth, mwh, mas, mbs, mts, mst, mrf, met, msd, hq, c_1, c_2]; done) | contradiction | rfl))) (congrArg (mW ad cy) (show (mAs a t to S).2 = mOrd to t (kMade (ixI (mso S) a) t (ixL (mlo S) a)) (kMade (ixI (mso S) a) t (ixL (mhi S) a)) S from (by first | (simp [mAs, zSort, zd1, zd2, zd3, zd4, zd5, zd6, hq, eq_false c_1, eq_false c_2]; done) | (simp [mAs, zSort, zd1, zd2, zd3, zd4, zd5, zd6, eq_true hq, eq_false c_1, eq_false c_2]; done) | (simp [mAs, zSort, zd1, zd2, zd3, zd4, zd5, zd6, mso, mlo, mhi, mth, mwh, mas, mbs, mts, mst, mrf, met, msd, eq_true hq, eq_false c_1, eq_false c_2]; done) | (simp [mAs, zSort, zd1, zd2, zd3, zd4, zd5, zd6, mso, mlo, mhi, mth, mwh, mas, mbs, mts, mst, mrf, met, msd, hq, c_1, c_2]; done) | contradiction | rfl)))
      · refine lv_bipush (v := -4) hx hb dX2_as_23 (by decide) ?_
        refine lv_istore (lv' := [(4, .int (-4)), (0, .ref (ad 0)), (1, .int a), (2, .int t), (3, .int to)]) hx hb dX2_as_25 hl (by decide) rfl (fun ls hl => ?_)
        refine lv_iload hx hb dX2_as_27 (lv_at hl 0 rfl) ?_
        refine zi_ge (tgt := 41) hx hb dX2_as_29 (by decide) (fun q => absurd (by decide) q) (fun _ => ?_)
        refine lv_aload_n hx hb dX2_as_32 rfl (lv_at hl 1 rfl) ?_
        refine lv_iload hx hb dX2_as_33 (lv_at hl 0 rfl) ?_
        refine io_call (rest := []) (w1 := (mW ad cy (mRef (-4) S))) S0 (c_X2_refuses l D ad cy A S (-4)) gX2_as_X2_refuses hw rfl qX2_refuses ⟨Nat.le_of_ble_eq_true rfl, Nat.le_of_ble_eq_true rfl⟩ ⟨Nat.le_of_ble_eq_true rfl, Nat.le_of_ble_eq_true rfl⟩ rfl rfl rfl hl.1 rfl (Nat.le_of_ble_eq_true rfl) dX2_as_35 (fun H locs hw => ?_)
        refine lv_goto (tgt := 79) hx hb dX2_as_38 (by decide) ?_
        exact io_iret S0 hr hlk hw dX2_as_79 (congrArg (fun z => some (Value.int z)) (show (mAs a t to S).1 = (-4) from (by first | (simp [mAs, zSort, zd1, zd2, zd3, zd4, zd5, zd6, hq, eq_false c_1, eq_true c_2]; done) | (simp [mAs, zSort, zd1, zd2, zd3, zd4, zd5, zd6, eq_true hq, eq_false c_1, eq_true c_2]; done) | (simp [mAs, zSort, zd1, zd2, zd3, zd4, zd5, zd6, mso, mlo, mhi, mth, mwh, mas, mbs, mts, mst, mrf, met, msd, eq_true hq, eq_false c_1, eq_true c_2]; done) | (simp [mAs, zSort, zd1, zd2, zd3, zd4, zd5, zd6, mso, mlo, mhi, mth, mwh, mas, mbs, mts, mst, mrf, met, msd, hq, c_1, c_2]; done) | contradiction | rfl))) (congrArg (mW ad cy) (show (mAs a t to S).2 = mRef (-4) S from (by first | (simp [mAs, zSort, zd1, zd2, zd3, zd4, zd5, zd6, hq, eq_false c_1, eq_true c_2]; done) | (simp [mAs, zSort, zd1, zd2, zd3, zd4, zd5, zd6, eq_true hq, eq_false c_1, eq_true c_2]; done) | (simp [mAs, zSort, zd1, zd2, zd3, zd4, zd5, zd6, mso, mlo, mhi, mth, mwh, mas, mbs, mts, mst, mrf, met, msd, eq_true hq, eq_false c_1, eq_true c_2]; done) | (simp [mAs, zSort, zd1, zd2, zd3, zd4, zd5, zd6, mso, mlo, mhi, mth, mwh, mas, mbs, mts, mst, mrf, met, msd, hq, c_1, c_2]; done) | contradiction | rfl)))
