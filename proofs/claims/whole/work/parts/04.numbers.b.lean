theorem qX0_nearestShifted : yX0_nearestShifted.cls ≠ "java/lang/invoke/MethodHandle" ∧ yX0_nearestShifted.cls ≠ "java/lang/invoke/VarHandle" ∧ (parseMethodDescriptor yX0_nearestShifted.desc).map (fun d => d.parameters.length) = some 2 := by decide +kernel
set_option maxHeartbeats 4000000 in
set_option maxRecDepth 100000 in
theorem c_X0_nearestShifted (l : Launch) (v : Int64) (k : Int32) : PS l yX0_nearestShifted wsX0_nearestShifted 0 0 [.long v, .int k] (.long (nNear v k)) := by
  refine PS.of (cc := cX0_nearestShifted) (maxL := 10) (ret := some .long) (own := RX0) (by decide) rfl rfl (Nat.le_of_ble_eq_true rfl) ?_
  intro p e s m below meth c ls S hr hlk hl
  have hx := S.1
  have hb := S.2.1
  have hl : lv_has ls 10 [(0, .long v), (2, .int k)] := hl
  refine lv_lload_n hx hb dX0_nearestShifted_0 rfl (lv_at hl 0 rfl) ?_
  refine lv_iload_n hx hb dX0_nearestShifted_1 rfl (lv_at hl 1 rfl) ?_
  refine lv_lushr (v := jushr v k) hx hb dX0_nearestShifted_2 rfl ?_
  refine lv_lstore_n (lv' := [(3, .long (jushr v k)), (0, .long v), (2, .int k)]) hx hb dX0_nearestShifted_3 rfl hl (by decide) rfl (fun ls hl => ?_)
  refine lv_lload_n hx hb dX0_nearestShifted_4 rfl (lv_at hl 1 rfl) ?_
  refine lv_lconst (v := 1) hx hb dX0_nearestShifted_5 (by decide) ?_
  refine lv_iload_n hx hb dX0_nearestShifted_6 rfl (lv_at hl 2 rfl) ?_
  refine lv_lshl (v := jshl 1 k) hx hb dX0_nearestShifted_7 rfl ?_
  refine lv_lconst (v := 1) hx hb dX0_nearestShifted_8 (by decide) ?_
  refine lv_lsub hx hb dX0_nearestShifted_9 ?_
  refine lv_land hx hb dX0_nearestShifted_10 ?_
  refine lv_lstore (lv' := [(5, .long (v &&& ((jshl 1 k) - 1))), (3, .long (jushr v k)), (0, .long v), (2, .int k)]) hx hb dX0_nearestShifted_11 hl (by decide) rfl (fun ls hl => ?_)
  refine lv_lconst (v := 1) hx hb dX0_nearestShifted_13 (by decide) ?_
  refine lv_iload_n hx hb dX0_nearestShifted_14 rfl (lv_at hl 3 rfl) ?_
  refine lv_iconst (v := 1) hx hb dX0_nearestShifted_15 (by decide) ?_
  refine lv_isub hx hb dX0_nearestShifted_16 ?_
  refine lv_lshl (v := jshl 1 (k - 1)) hx hb dX0_nearestShifted_17 rfl ?_
  refine lv_lstore (lv' := [(7, .long (jshl 1 (k - 1))), (5, .long (v &&& ((jshl 1 k) - 1))), (3, .long (jushr v k)), (0, .long v), (2, .int k)]) hx hb dX0_nearestShifted_18 hl (by decide) rfl (fun ls hl => ?_)
  refine lv_lload hx hb dX0_nearestShifted_20 (lv_at hl 1 rfl) ?_
  refine lv_lload hx hb dX0_nearestShifted_22 (lv_at hl 0 rfl) ?_
  refine zl_gt (tgt := 44) hx hb dX0_nearestShifted_24 dX0_nearestShifted_25 (by decide) (fun c_1 => ?_) (fun c_1 => ?_)
  · refine lv_iconst (v := 1) hx hb dX0_nearestShifted_44 (by decide) ?_
    refine lv_goto (tgt := 49) hx hb dX0_nearestShifted_45 (by decide) ?_
    refine lv_istore (lv' := [(9, .int 1), (7, .long (jshl 1 (k - 1))), (5, .long (v &&& ((jshl 1 k) - 1))), (3, .long (jushr v k)), (0, .long v), (2, .int k)]) hx hb dX0_nearestShifted_49 hl (by decide) rfl (fun ls hl => ?_)
    refine lv_iload hx hb dX0_nearestShifted_51 (lv_at hl 0 rfl) ?_
    refine zi_eq (tgt := 62) hx hb dX0_nearestShifted_53 (by decide) (fun q => absurd q (by decide)) (fun _ => ?_)
    refine lv_lload_n hx hb dX0_nearestShifted_56 rfl (lv_at hl 3 rfl) ?_
    refine lv_lconst (v := 1) hx hb dX0_nearestShifted_57 (by decide) ?_
    refine lv_ladd hx hb dX0_nearestShifted_58 ?_
    refine lv_goto (tgt := 63) hx hb dX0_nearestShifted_59 (by decide) ?_
    exact ps_lret S hr hlk dX0_nearestShifted_63 (by first | (simp [nNear, eq_true c_1]; done) | (simp [nNear, c_1]; done) | contradiction | rfl)
  · refine lv_lload hx hb dX0_nearestShifted_28 (lv_at hl 1 rfl) ?_
    refine lv_lload hx hb dX0_nearestShifted_30 (lv_at hl 0 rfl) ?_
    refine zl_ne (tgt := 48) hx hb dX0_nearestShifted_32 dX0_nearestShifted_33 (by decide) (fun c_2 => ?_) (fun c_2 => ?_)
    · refine lv_iconst (v := 0) hx hb dX0_nearestShifted_48 (by decide) ?_
      refine lv_istore (lv' := [(9, .int 0), (7, .long (jshl 1 (k - 1))), (5, .long (v &&& ((jshl 1 k) - 1))), (3, .long (jushr v k)), (0, .long v), (2, .int k)]) hx hb dX0_nearestShifted_49 hl (by decide) rfl (fun ls hl => ?_)
      refine lv_iload hx hb dX0_nearestShifted_51 (lv_at hl 0 rfl) ?_
      refine zi_eq (tgt := 62) hx hb dX0_nearestShifted_53 (by decide) (fun _ => ?_) (fun q => absurd (by decide) q)
      refine lv_lload_n hx hb dX0_nearestShifted_62 rfl (lv_at hl 3 rfl) ?_
      exact ps_lret S hr hlk dX0_nearestShifted_63 (by first | (simp [nNear, eq_false c_1, eq_false c_2]; done) | (simp [nNear, c_1, c_2]; done) | contradiction | rfl)
    · refine lv_lload_n hx hb dX0_nearestShifted_36 rfl (lv_at hl 2 rfl) ?_
      refine lv_lconst (v := 1) hx hb dX0_nearestShifted_37 (by decide) ?_
      refine lv_land hx hb dX0_nearestShifted_38 ?_
      refine lv_lconst (v := 1) hx hb dX0_nearestShifted_39 (by decide) ?_
      refine zl_ne (tgt := 48) hx hb dX0_nearestShifted_40 dX0_nearestShifted_41 (by decide) (fun c_3 => ?_) (fun c_3 => ?_)
      · refine lv_iconst (v := 0) hx hb dX0_nearestShifted_48 (by decide) ?_
        refine lv_istore (lv' := [(9, .int 0), (7, .long (jshl 1 (k - 1))), (5, .long (v &&& ((jshl 1 k) - 1))), (3, .long (jushr v k)), (0, .long v), (2, .int k)]) hx hb dX0_nearestShifted_49 hl (by decide) rfl (fun ls hl => ?_)
        refine lv_iload hx hb dX0_nearestShifted_51 (lv_at hl 0 rfl) ?_
        refine zi_eq (tgt := 62) hx hb dX0_nearestShifted_53 (by decide) (fun _ => ?_) (fun q => absurd (by decide) q)
        refine lv_lload_n hx hb dX0_nearestShifted_62 rfl (lv_at hl 3 rfl) ?_
        exact ps_lret S hr hlk dX0_nearestShifted_63 (by first | (simp [nNear, eq_false c_1, eq_true c_2, eq_false c_3]; done) | (simp [nNear, c_1, c_2, c_3]; done) | contradiction | rfl)
      · refine lv_iconst (v := 1) hx hb dX0_nearestShifted_44 (by decide) ?_
        refine lv_goto (tgt := 49) hx hb dX0_nearestShifted_45 (by decide) ?_
        refine lv_istore (lv' := [(9, .int 1), (7, .long (jshl 1 (k - 1))), (5, .long (v &&& ((jshl 1 k) - 1))), (3, .long (jushr v k)), (0, .long v), (2, .int k)]) hx hb dX0_nearestShifted_49 hl (by decide) rfl (fun ls hl => ?_)
        refine lv_iload hx hb dX0_nearestShifted_51 (lv_at hl 0 rfl) ?_
        refine zi_eq (tgt := 62) hx hb dX0_nearestShifted_53 (by decide) (fun q => absurd q (by decide)) (fun _ => ?_)
        refine lv_lload_n hx hb dX0_nearestShifted_56 rfl (lv_at hl 3 rfl) ?_
        refine lv_lconst (v := 1) hx hb dX0_nearestShifted_57 (by decide) ?_
        refine lv_ladd hx hb dX0_nearestShifted_58 ?_
        refine lv_goto (tgt := 63) hx hb dX0_nearestShifted_59 (by decide) ?_
        exact ps_lret S hr hlk dX0_nearestShifted_63 (by first | (simp [nNear, eq_false c_1, eq_true c_2, eq_true c_3]; done) | (simp [nNear, c_1, c_2, c_3]; done) | contradiction | rfl)
theorem qX0_wholeMagnitude : yX0_wholeMagnitude.cls ≠ "java/lang/invoke/MethodHandle" ∧ yX0_wholeMagnitude.cls ≠ "java/lang/invoke/VarHandle" ∧ (parseMethodDescriptor yX0_wholeMagnitude.desc).map (fun d => d.parameters.length) = some 4 := by decide +kernel
set_option maxHeartbeats 4000000 in
set_option maxRecDepth 100000 in
theorem c_X0_wholeMagnitude (l : Launch) (t : Int32) (z : Int64) (near : Int32) (away : Int32) : PS l yX0_wholeMagnitude wsX0_wholeMagnitude 2 42 [.int t, .long z, .int near, .int away] (.long (nWMag t z near away)) := by
  refine PS.of (cc := cX0_wholeMagnitude) (maxL := 12) (ret := some .long) (own := RX0) (by decide) rfl rfl (Nat.le_of_ble_eq_true rfl) ?_
  intro p e s m below meth c ls S hr hlk hl
  have hx := S.1
  have hb := S.2.1
  have hl : lv_has ls 12 [(0, .int t), (1, .long z), (3, .int near), (4, .int away)] := hl
  refine lv_iload_n hx hb dX0_wholeMagnitude_0 rfl (lv_at hl 0 rfl) ?_
  refine lv_lload_n hx hb dX0_wholeMagnitude_1 rfl (lv_at hl 1 rfl) ?_
  refine ps_call (rest := []) S (c_X0_power l t z) gX0_wholeMagnitude_X0_power rfl qX0_power ⟨Nat.le_of_ble_eq_true rfl, Nat.le_of_ble_eq_true rfl⟩ ⟨Nat.le_of_ble_eq_true rfl, Nat.le_of_ble_eq_true rfl⟩ hl.1 rfl (Nat.le_of_ble_eq_true rfl) dX0_wholeMagnitude_2 ?_
  refine lv_istore (lv' := [(5, .int (nPow t z)), (0, .int t), (1, .long z), (3, .int near), (4, .int away)]) hx hb dX0_wholeMagnitude_5 hl (by decide) rfl (fun ls hl => ?_)
  refine lv_lload_n hx hb dX0_wholeMagnitude_7 rfl (lv_at hl 2 rfl) ?_
  refine lv_lconst (v := 0) hx hb dX0_wholeMagnitude_8 (by decide) ?_
  refine zl_eq (tgt := 22) hx hb dX0_wholeMagnitude_9 dX0_wholeMagnitude_10 (by decide) (fun c_1 => ?_) (fun c_1 => ?_)
  · refine lv_lload_n hx hb dX0_wholeMagnitude_22 rfl (lv_at hl 2 rfl) ?_
    exact ps_lret S hr hlk dX0_wholeMagnitude_23 (by first | (simp [nWMag, eq_true c_1]; done) | (simp [nWMag, c_1]; done) | contradiction | rfl)
  · refine lv_iload hx hb dX0_wholeMagnitude_13 (lv_at hl 0 rfl) ?_
    refine lv_iload_n hx hb dX0_wholeMagnitude_15 rfl (lv_at hl 1 rfl) ?_
    refine ps_call (rest := [.int (nPow t z)]) S (c_X0_fractionBits l t) gX0_wholeMagnitude_X0_fractionBits rfl qX0_fractionBits ⟨Nat.le_of_ble_eq_true rfl, Nat.le_of_ble_eq_true rfl⟩ ⟨Nat.le_of_ble_eq_true rfl, Nat.le_of_ble_eq_true rfl⟩ hl.1 rfl (Nat.le_of_ble_eq_true rfl) dX0_wholeMagnitude_16 ?_
    refine zc_lt (tgt := 24) hx hb dX0_wholeMagnitude_19 (by decide) (fun c_2 => ?_) (fun c_2 => ?_)
    · refine lv_iload hx hb dX0_wholeMagnitude_24 (lv_at hl 0 rfl) ?_
      refine zi_ge (tgt := 68) hx hb dX0_wholeMagnitude_26 (by decide) (fun c_3 => ?_) (fun c_3 => ?_)
      · refine lv_iload_n hx hb dX0_wholeMagnitude_68 rfl (lv_at hl 1 rfl) ?_
        refine ps_call (rest := []) S (c_X0_fractionBits l t) gX0_wholeMagnitude_X0_fractionBits rfl qX0_fractionBits ⟨Nat.le_of_ble_eq_true rfl, Nat.le_of_ble_eq_true rfl⟩ ⟨Nat.le_of_ble_eq_true rfl, Nat.le_of_ble_eq_true rfl⟩ hl.1 rfl (Nat.le_of_ble_eq_true rfl) dX0_wholeMagnitude_69 ?_
        refine lv_iload hx hb dX0_wholeMagnitude_72 (lv_at hl 0 rfl) ?_
        refine lv_isub hx hb dX0_wholeMagnitude_74 ?_
        refine lv_istore (lv' := [(6, .int ((nFrac t) - (nPow t z))), (5, .int (nPow t z)), (0, .int t), (1, .long z), (3, .int near), (4, .int away)]) hx hb dX0_wholeMagnitude_75 hl (by decide) rfl (fun ls hl => ?_)
        refine lv_iload_n hx hb dX0_wholeMagnitude_77 rfl (lv_at hl 4 rfl) ?_
        refine zi_eq (tgt := 91) hx hb dX0_wholeMagnitude_78 (by decide) (fun c_4 => ?_) (fun c_4 => ?_)
        · refine lv_lconst (v := 1) hx hb dX0_wholeMagnitude_91 (by decide) ?_
          refine lv_iload hx hb dX0_wholeMagnitude_92 (lv_at hl 0 rfl) ?_
          refine lv_lshl (v := jshl 1 ((nFrac t) - (nPow t z))) hx hb dX0_wholeMagnitude_94 rfl ?_
          refine lv_lstore (lv' := [(7, .long (jshl 1 ((nFrac t) - (nPow t z)))), (6, .int ((nFrac t) - (nPow t z))), (5, .int (nPow t z)), (0, .int t), (1, .long z), (3, .int near), (4, .int away)]) hx hb dX0_wholeMagnitude_95 hl (by decide) rfl (fun ls hl => ?_)
          refine lv_lload_n hx hb dX0_wholeMagnitude_97 rfl (lv_at hl 4 rfl) ?_
          refine lv_lload hx hb dX0_wholeMagnitude_98 (lv_at hl 0 rfl) ?_
          refine lv_lconst (v := 1) hx hb dX0_wholeMagnitude_100 (by decide) ?_
          refine lv_lsub hx hb dX0_wholeMagnitude_101 ?_
          refine lv_land hx hb dX0_wholeMagnitude_102 ?_
          refine lv_lconst (v := 0) hx hb dX0_wholeMagnitude_103 (by decide) ?_
          refine zl_eq (tgt := 112) hx hb dX0_wholeMagnitude_104 dX0_wholeMagnitude_105 (by decide) (fun c_5 => ?_) (fun c_5 => ?_)
          · refine lv_iconst (v := 0) hx hb dX0_wholeMagnitude_112 (by decide) ?_
            refine lv_istore (lv' := [(9, .int 0), (7, .long (jshl 1 ((nFrac t) - (nPow t z)))), (6, .int ((nFrac t) - (nPow t z))), (5, .int (nPow t z)), (0, .int t), (1, .long z), (3, .int near), (4, .int away)]) hx hb dX0_wholeMagnitude_113 hl (by decide) rfl (fun ls hl => ?_)
            refine lv_lload_n hx hb dX0_wholeMagnitude_115 rfl (lv_at hl 5 rfl) ?_
            refine lv_lload hx hb dX0_wholeMagnitude_116 (lv_at hl 1 rfl) ?_
            refine lv_lneg hx hb dX0_wholeMagnitude_118 ?_
            refine lv_land hx hb dX0_wholeMagnitude_119 ?_
            refine lv_lstore (lv' := [(10, .long (z &&& (-(jshl 1 ((nFrac t) - (nPow t z)))))), (9, .int 0), (7, .long (jshl 1 ((nFrac t) - (nPow t z)))), (6, .int ((nFrac t) - (nPow t z))), (5, .int (nPow t z)), (0, .int t), (1, .long z), (3, .int near), (4, .int away)]) hx hb dX0_wholeMagnitude_120 hl (by decide) rfl (fun ls hl => ?_)
            refine lv_iload hx hb dX0_wholeMagnitude_122 (lv_at hl 1 rfl) ?_
            refine zi_eq (tgt := 140) hx hb dX0_wholeMagnitude_124 (by decide) (fun _ => ?_) (fun q => absurd (by decide) q)
            refine lv_lload hx hb dX0_wholeMagnitude_140 (lv_at hl 0 rfl) ?_
            exact ps_lret S hr hlk dX0_wholeMagnitude_142 (by first | (simp [nWMag, eq_false c_1, eq_true c_2, eq_false c_3, eq_true c_4, eq_true c_5]; done) | (simp [nWMag, c_1, c_2, c_3, c_4, c_5]; done) | contradiction | rfl)
          · refine lv_iconst (v := 1) hx hb dX0_wholeMagnitude_108 (by decide) ?_
            refine lv_goto (tgt := 113) hx hb dX0_wholeMagnitude_109 (by decide) ?_
            refine lv_istore (lv' := [(9, .int 1), (7, .long (jshl 1 ((nFrac t) - (nPow t z)))), (6, .int ((nFrac t) - (nPow t z))), (5, .int (nPow t z)), (0, .int t), (1, .long z), (3, .int near), (4, .int away)]) hx hb dX0_wholeMagnitude_113 hl (by decide) rfl (fun ls hl => ?_)
            refine lv_lload_n hx hb dX0_wholeMagnitude_115 rfl (lv_at hl 5 rfl) ?_
            refine lv_lload hx hb dX0_wholeMagnitude_116 (lv_at hl 1 rfl) ?_
            refine lv_lneg hx hb dX0_wholeMagnitude_118 ?_
            refine lv_land hx hb dX0_wholeMagnitude_119 ?_
            refine lv_lstore (lv' := [(10, .long (z &&& (-(jshl 1 ((nFrac t) - (nPow t z)))))), (9, .int 1), (7, .long (jshl 1 ((nFrac t) - (nPow t z)))), (6, .int ((nFrac t) - (nPow t z))), (5, .int (nPow t z)), (0, .int t), (1, .long z), (3, .int near), (4, .int away)]) hx hb dX0_wholeMagnitude_120 hl (by decide) rfl (fun ls hl => ?_)
            refine lv_iload hx hb dX0_wholeMagnitude_122 (lv_at hl 1 rfl) ?_
            refine zi_eq (tgt := 140) hx hb dX0_wholeMagnitude_124 (by decide) (fun q => absurd q (by decide)) (fun _ => ?_)
            refine lv_iload hx hb dX0_wholeMagnitude_127 (lv_at hl 8 rfl) ?_
            refine zi_eq (tgt := 140) hx hb dX0_wholeMagnitude_129 (by decide) (fun c_6 => ?_) (fun c_6 => ?_)
            · refine lv_lload hx hb dX0_wholeMagnitude_140 (lv_at hl 0 rfl) ?_
              exact ps_lret S hr hlk dX0_wholeMagnitude_142 (by first | (simp [nWMag, eq_false c_1, eq_true c_2, eq_false c_3, eq_true c_4, eq_false c_5, eq_true c_6]; done) | (simp [nWMag, c_1, c_2, c_3, c_4, c_5, c_6]; done) | contradiction | rfl)
            · refine lv_lload hx hb dX0_wholeMagnitude_132 (lv_at hl 0 rfl) ?_
              refine lv_lload hx hb dX0_wholeMagnitude_134 (lv_at hl 2 rfl) ?_
              refine lv_ladd hx hb dX0_wholeMagnitude_136 ?_
              refine lv_goto (tgt := 142) hx hb dX0_wholeMagnitude_137 (by decide) ?_
              exact ps_lret S hr hlk dX0_wholeMagnitude_142 (by first | (simp [nWMag, eq_false c_1, eq_true c_2, eq_false c_3, eq_true c_4, eq_false c_5, eq_false c_6]; done) | (simp [nWMag, c_1, c_2, c_3, c_4, c_5, c_6]; done) | contradiction | rfl)
        · refine lv_lload_n hx hb dX0_wholeMagnitude_81 rfl (lv_at hl 3 rfl) ?_
          refine lv_iload hx hb dX0_wholeMagnitude_82 (lv_at hl 0 rfl) ?_
          refine ps_call (rest := []) S (c_X0_nearestShifted l z ((nFrac t) - (nPow t z))) gX0_wholeMagnitude_X0_nearestShifted rfl qX0_nearestShifted ⟨Nat.le_of_ble_eq_true rfl, Nat.le_of_ble_eq_true rfl⟩ ⟨Nat.le_of_ble_eq_true rfl, Nat.le_of_ble_eq_true rfl⟩ hl.1 rfl (Nat.le_of_ble_eq_true rfl) dX0_wholeMagnitude_84 ?_
          refine lv_iload hx hb dX0_wholeMagnitude_87 (lv_at hl 0 rfl) ?_
          refine lv_lshl (v := jshl (nNear z ((nFrac t) - (nPow t z))) ((nFrac t) - (nPow t z))) hx hb dX0_wholeMagnitude_89 rfl ?_
          exact ps_lret S hr hlk dX0_wholeMagnitude_90 (by first | (simp [nWMag, eq_false c_1, eq_true c_2, eq_false c_3, eq_false c_4]; done) | (simp [nWMag, c_1, c_2, c_3, c_4]; done) | contradiction | rfl)
      · refine lv_iload_n hx hb dX0_wholeMagnitude_29 rfl (lv_at hl 3 rfl) ?_
        refine zi_eq (tgt := 50) hx hb dX0_wholeMagnitude_30 (by decide) (fun c_7 => ?_) (fun c_7 => ?_)
        · refine lv_iload hx hb dX0_wholeMagnitude_50 (lv_at hl 4 rfl) ?_
          refine lv_istore (lv' := [(6, .int away), (5, .int (nPow t z)), (0, .int t), (1, .long z), (3, .int near), (4, .int away)]) hx hb dX0_wholeMagnitude_52 hl (by decide) rfl (fun ls hl => ?_)
          refine lv_iload hx hb dX0_wholeMagnitude_54 (lv_at hl 0 rfl) ?_
          refine zi_eq (tgt := 66) hx hb dX0_wholeMagnitude_56 (by decide) (fun c_8 => ?_) (fun c_8 => ?_)
          · refine lv_lconst (v := 0) hx hb dX0_wholeMagnitude_66 (by decide) ?_
            exact ps_lret S hr hlk dX0_wholeMagnitude_67 (by first | (simp [nWMag, eq_false c_1, eq_true c_2, eq_true c_3, eq_true c_7, eq_true c_8]; done) | (simp [nWMag, c_1, c_2, c_3, c_7, c_8]; done) | contradiction | rfl)
          · refine lv_iload_n hx hb dX0_wholeMagnitude_59 rfl (lv_at hl 2 rfl) ?_
            refine ps_call (rest := []) S (c_X0_one l t) gX0_wholeMagnitude_X0_one rfl qX0_one ⟨Nat.le_of_ble_eq_true rfl, Nat.le_of_ble_eq_true rfl⟩ ⟨Nat.le_of_ble_eq_true rfl, Nat.le_of_ble_eq_true rfl⟩ hl.1 rfl (Nat.le_of_ble_eq_true rfl) dX0_wholeMagnitude_60 ?_
            refine lv_goto (tgt := 67) hx hb dX0_wholeMagnitude_63 (by decide) ?_
            exact ps_lret S hr hlk dX0_wholeMagnitude_67 (by first | (simp [nWMag, eq_false c_1, eq_true c_2, eq_true c_3, eq_true c_7, eq_false c_8]; done) | (simp [nWMag, c_1, c_2, c_3, c_7, c_8]; done) | contradiction | rfl)
        · refine lv_lload_n hx hb dX0_wholeMagnitude_33 rfl (lv_at hl 2 rfl) ?_
          refine lv_iload_n hx hb dX0_wholeMagnitude_34 rfl (lv_at hl 1 rfl) ?_
          refine ps_call (rest := [.long z]) S (c_X0_half l t) gX0_wholeMagnitude_X0_half rfl qX0_half ⟨Nat.le_of_ble_eq_true rfl, Nat.le_of_ble_eq_true rfl⟩ ⟨Nat.le_of_ble_eq_true rfl, Nat.le_of_ble_eq_true rfl⟩ hl.1 rfl (Nat.le_of_ble_eq_true rfl) dX0_wholeMagnitude_35 ?_
          refine zl_le (tgt := 46) hx hb dX0_wholeMagnitude_38 dX0_wholeMagnitude_39 (by decide) (fun c_9 => ?_) (fun c_9 => ?_)
          · refine lv_iconst (v := 0) hx hb dX0_wholeMagnitude_46 (by decide) ?_
            refine lv_goto (tgt := 52) hx hb dX0_wholeMagnitude_47 (by decide) ?_
            refine lv_istore (lv' := [(6, .int 0), (5, .int (nPow t z)), (0, .int t), (1, .long z), (3, .int near), (4, .int away)]) hx hb dX0_wholeMagnitude_52 hl (by decide) rfl (fun ls hl => ?_)
            refine lv_iload hx hb dX0_wholeMagnitude_54 (lv_at hl 0 rfl) ?_
            refine zi_eq (tgt := 66) hx hb dX0_wholeMagnitude_56 (by decide) (fun _ => ?_) (fun q => absurd (by decide) q)
            refine lv_lconst (v := 0) hx hb dX0_wholeMagnitude_66 (by decide) ?_
            exact ps_lret S hr hlk dX0_wholeMagnitude_67 (by first | (simp [nWMag, eq_false c_1, eq_true c_2, eq_true c_3, eq_false c_7, eq_false c_9]; done) | (simp [nWMag, c_1, c_2, c_3, c_7, c_9]; done) | contradiction | rfl)
          · refine lv_iconst (v := 1) hx hb dX0_wholeMagnitude_42 (by decide) ?_
            refine lv_goto (tgt := 52) hx hb dX0_wholeMagnitude_43 (by decide) ?_
            refine lv_istore (lv' := [(6, .int 1), (5, .int (nPow t z)), (0, .int t), (1, .long z), (3, .int near), (4, .int away)]) hx hb dX0_wholeMagnitude_52 hl (by decide) rfl (fun ls hl => ?_)
            refine lv_iload hx hb dX0_wholeMagnitude_54 (lv_at hl 0 rfl) ?_
            refine zi_eq (tgt := 66) hx hb dX0_wholeMagnitude_56 (by decide) (fun q => absurd q (by decide)) (fun _ => ?_)
            refine lv_iload_n hx hb dX0_wholeMagnitude_59 rfl (lv_at hl 2 rfl) ?_
            refine ps_call (rest := []) S (c_X0_one l t) gX0_wholeMagnitude_X0_one rfl qX0_one ⟨Nat.le_of_ble_eq_true rfl, Nat.le_of_ble_eq_true rfl⟩ ⟨Nat.le_of_ble_eq_true rfl, Nat.le_of_ble_eq_true rfl⟩ hl.1 rfl (Nat.le_of_ble_eq_true rfl) dX0_wholeMagnitude_60 ?_
            refine lv_goto (tgt := 67) hx hb dX0_wholeMagnitude_63 (by decide) ?_
            exact ps_lret S hr hlk dX0_wholeMagnitude_67 (by first | (simp [nWMag, eq_false c_1, eq_true c_2, eq_true c_3, eq_false c_7, eq_true c_9]; done) | (simp [nWMag, c_1, c_2, c_3, c_7, c_9]; done) | contradiction | rfl)
    · refine lv_lload_n hx hb dX0_wholeMagnitude_22 rfl (lv_at hl 2 rfl) ?_
      exact ps_lret S hr hlk dX0_wholeMagnitude_23 (by first | (simp [nWMag, eq_false c_1, eq_false c_2]; done) | (simp [nWMag, c_1, c_2]; done) | contradiction | rfl)
theorem qX0_whole : yX0_whole.cls ≠ "java/lang/invoke/MethodHandle" ∧ yX0_whole.cls ≠ "java/lang/invoke/VarHandle" ∧ (parseMethodDescriptor yX0_whole.desc).map (fun d => d.parameters.length) = some 3 := by decide +kernel
set_option maxHeartbeats 4000000 in
set_option maxRecDepth 100000 in
theorem c_X0_whole (l : Launch) (t : Int32) (v : Int64) (w : Int32) : PS l yX0_whole wsX0_whole 3 73 [.int t, .long v, .int w] (.long (nWhole t v w)) := by
  refine PS.of (cc := cX0_whole) (maxL := 7) (ret := some .long) (own := RX0) (by decide) rfl rfl (Nat.le_of_ble_eq_true rfl) ?_
  intro p e s m below meth c ls S hr hlk hl
  have hx := S.1
  have hb := S.2.1
  have hl : lv_has ls 7 [(0, .int t), (1, .long v), (3, .int w)] := hl
  refine lv_lload_n hx hb dX0_whole_0 rfl (lv_at hl 1 rfl) ?_
  refine lv_lconst (v := 0) hx hb dX0_whole_1 (by decide) ?_
  refine zl_ge (tgt := 18) hx hb dX0_whole_2 dX0_whole_3 (by decide) (fun c_1 => ?_) (fun c_1 => ?_)
  · refine lv_iload_n hx hb dX0_whole_18 rfl (lv_at hl 2 rfl) ?_
    refine lv_iconst (v := 1) hx hb dX0_whole_19 (by decide) ?_
    refine zc_ne (tgt := 27) hx hb dX0_whole_20 (by decide) (fun c_2 => ?_) (fun c_2 => ?_)
    · refine lv_iconst (v := 0) hx hb dX0_whole_27 (by decide) ?_
      refine lv_istore (lv' := [(4, .int 0), (0, .int t), (1, .long v), (3, .int w)]) hx hb dX0_whole_28 hl (by decide) rfl (fun ls hl => ?_)
      refine lv_iload_n hx hb dX0_whole_30 rfl (lv_at hl 1 rfl) ?_
      refine lv_iload_n hx hb dX0_whole_31 rfl (lv_at hl 1 rfl) ?_
      refine lv_lload_n hx hb dX0_whole_32 rfl (lv_at hl 2 rfl) ?_
      refine ps_call (rest := [.int t]) S (c_X0_magnitude l t v) gX0_whole_X0_magnitude rfl qX0_magnitude ⟨Nat.le_of_ble_eq_true rfl, Nat.le_of_ble_eq_true rfl⟩ ⟨Nat.le_of_ble_eq_true rfl, Nat.le_of_ble_eq_true rfl⟩ hl.1 rfl (Nat.le_of_ble_eq_true rfl) dX0_whole_33 ?_
      refine lv_iload_n hx hb dX0_whole_36 rfl (lv_at hl 3 rfl) ?_
      refine lv_iconst (v := 2) hx hb dX0_whole_37 (by decide) ?_
      refine zc_ne (tgt := 45) hx hb dX0_whole_38 (by decide) (fun c_3 => ?_) (fun c_3 => ?_)
      · refine lv_iconst (v := 0) hx hb dX0_whole_45 (by decide) ?_
        refine lv_iload hx hb dX0_whole_46 (lv_at hl 0 rfl) ?_
        refine ps_call (rest := []) S (c_X0_wholeMagnitude l t (nMag t v) 0 0) gX0_whole_X0_wholeMagnitude rfl qX0_wholeMagnitude ⟨Nat.le_of_ble_eq_true rfl, Nat.le_of_ble_eq_true rfl⟩ ⟨Nat.le_of_ble_eq_true rfl, Nat.le_of_ble_eq_true rfl⟩ hl.1 rfl (Nat.le_of_ble_eq_true rfl) dX0_whole_48 ?_
        refine lv_lstore (lv' := [(5, .long (nWMag t (nMag t v) 0 0)), (4, .int 0), (0, .int t), (1, .long v), (3, .int w)]) hx hb dX0_whole_51 hl (by decide) rfl (fun ls hl => ?_)
        refine lv_iload_n hx hb dX0_whole_53 rfl (lv_at hl 2 rfl) ?_
        refine lv_lload hx hb dX0_whole_54 (lv_at hl 0 rfl) ?_
        refine lv_lload_n hx hb dX0_whole_56 rfl (lv_at hl 3 rfl) ?_
        refine ps_call (rest := []) S (c_X0_withSign l t (nWMag t (nMag t v) 0 0) v) gX0_whole_X0_withSign rfl qX0_withSign ⟨Nat.le_of_ble_eq_true rfl, Nat.le_of_ble_eq_true rfl⟩ ⟨Nat.le_of_ble_eq_true rfl, Nat.le_of_ble_eq_true rfl⟩ hl.1 rfl (Nat.le_of_ble_eq_true rfl) dX0_whole_57 ?_
        exact ps_lret S hr hlk dX0_whole_60 (by first | (simp [nWhole, eq_false c_1, eq_false c_2, eq_false c_3]; done) | (simp [nWhole, c_1, c_2, c_3]; done) | contradiction | rfl)
      · refine lv_iconst (v := 1) hx hb dX0_whole_41 (by decide) ?_
        refine lv_goto (tgt := 46) hx hb dX0_whole_42 (by decide) ?_
        refine lv_iload hx hb dX0_whole_46 (lv_at hl 0 rfl) ?_
        refine ps_call (rest := []) S (c_X0_wholeMagnitude l t (nMag t v) 1 0) gX0_whole_X0_wholeMagnitude rfl qX0_wholeMagnitude ⟨Nat.le_of_ble_eq_true rfl, Nat.le_of_ble_eq_true rfl⟩ ⟨Nat.le_of_ble_eq_true rfl, Nat.le_of_ble_eq_true rfl⟩ hl.1 rfl (Nat.le_of_ble_eq_true rfl) dX0_whole_48 ?_
        refine lv_lstore (lv' := [(5, .long (nWMag t (nMag t v) 1 0)), (4, .int 0), (0, .int t), (1, .long v), (3, .int w)]) hx hb dX0_whole_51 hl (by decide) rfl (fun ls hl => ?_)
        refine lv_iload_n hx hb dX0_whole_53 rfl (lv_at hl 2 rfl) ?_
        refine lv_lload hx hb dX0_whole_54 (lv_at hl 0 rfl) ?_
        refine lv_lload_n hx hb dX0_whole_56 rfl (lv_at hl 3 rfl) ?_
        refine ps_call (rest := []) S (c_X0_withSign l t (nWMag t (nMag t v) 1 0) v) gX0_whole_X0_withSign rfl qX0_withSign ⟨Nat.le_of_ble_eq_true rfl, Nat.le_of_ble_eq_true rfl⟩ ⟨Nat.le_of_ble_eq_true rfl, Nat.le_of_ble_eq_true rfl⟩ hl.1 rfl (Nat.le_of_ble_eq_true rfl) dX0_whole_57 ?_
        exact ps_lret S hr hlk dX0_whole_60 (by first | (simp [nWhole, eq_false c_1, eq_false c_2, eq_true c_3]; done) | (simp [nWhole, c_1, c_2, c_3]; done) | contradiction | rfl)
    · refine lv_iconst (v := 1) hx hb dX0_whole_23 (by decide) ?_
      refine lv_goto (tgt := 28) hx hb dX0_whole_24 (by decide) ?_
      refine lv_istore (lv' := [(4, .int 1), (0, .int t), (1, .long v), (3, .int w)]) hx hb dX0_whole_28 hl (by decide) rfl (fun ls hl => ?_)
      refine lv_iload_n hx hb dX0_whole_30 rfl (lv_at hl 1 rfl) ?_
      refine lv_iload_n hx hb dX0_whole_31 rfl (lv_at hl 1 rfl) ?_
      refine lv_lload_n hx hb dX0_whole_32 rfl (lv_at hl 2 rfl) ?_
      refine ps_call (rest := [.int t]) S (c_X0_magnitude l t v) gX0_whole_X0_magnitude rfl qX0_magnitude ⟨Nat.le_of_ble_eq_true rfl, Nat.le_of_ble_eq_true rfl⟩ ⟨Nat.le_of_ble_eq_true rfl, Nat.le_of_ble_eq_true rfl⟩ hl.1 rfl (Nat.le_of_ble_eq_true rfl) dX0_whole_33 ?_
      refine lv_iload_n hx hb dX0_whole_36 rfl (lv_at hl 3 rfl) ?_
      refine lv_iconst (v := 2) hx hb dX0_whole_37 (by decide) ?_
      refine zc_ne (tgt := 45) hx hb dX0_whole_38 (by decide) (fun _ => ?_) (fun q => absurd q (by rw [c_2]; decide))
      refine lv_iconst (v := 0) hx hb dX0_whole_45 (by decide) ?_
      refine lv_iload hx hb dX0_whole_46 (lv_at hl 0 rfl) ?_
      refine ps_call (rest := []) S (c_X0_wholeMagnitude l t (nMag t v) 0 1) gX0_whole_X0_wholeMagnitude rfl qX0_wholeMagnitude ⟨Nat.le_of_ble_eq_true rfl, Nat.le_of_ble_eq_true rfl⟩ ⟨Nat.le_of_ble_eq_true rfl, Nat.le_of_ble_eq_true rfl⟩ hl.1 rfl (Nat.le_of_ble_eq_true rfl) dX0_whole_48 ?_
      refine lv_lstore (lv' := [(5, .long (nWMag t (nMag t v) 0 1)), (4, .int 1), (0, .int t), (1, .long v), (3, .int w)]) hx hb dX0_whole_51 hl (by decide) rfl (fun ls hl => ?_)
      refine lv_iload_n hx hb dX0_whole_53 rfl (lv_at hl 2 rfl) ?_
      refine lv_lload hx hb dX0_whole_54 (lv_at hl 0 rfl) ?_
      refine lv_lload_n hx hb dX0_whole_56 rfl (lv_at hl 3 rfl) ?_
      refine ps_call (rest := []) S (c_X0_withSign l t (nWMag t (nMag t v) 0 1) v) gX0_whole_X0_withSign rfl qX0_withSign ⟨Nat.le_of_ble_eq_true rfl, Nat.le_of_ble_eq_true rfl⟩ ⟨Nat.le_of_ble_eq_true rfl, Nat.le_of_ble_eq_true rfl⟩ hl.1 rfl (Nat.le_of_ble_eq_true rfl) dX0_whole_57 ?_
      exact ps_lret S hr hlk dX0_whole_60 (by first | (simp [nWhole, eq_false c_1, eq_true c_2]; done) | (simp [nWhole, c_1, c_2]; done) | contradiction | rfl)
  · refine lv_iload_n hx hb dX0_whole_6 rfl (lv_at hl 2 rfl) ?_
    refine zi_ne (tgt := 14) hx hb dX0_whole_7 (by decide) (fun c_4 => ?_) (fun c_4 => ?_)
    · refine lv_iconst (v := 0) hx hb dX0_whole_14 (by decide) ?_
      refine lv_goto (tgt := 28) hx hb dX0_whole_15 (by decide) ?_
      refine lv_istore (lv' := [(4, .int 0), (0, .int t), (1, .long v), (3, .int w)]) hx hb dX0_whole_28 hl (by decide) rfl (fun ls hl => ?_)
      refine lv_iload_n hx hb dX0_whole_30 rfl (lv_at hl 1 rfl) ?_
      refine lv_iload_n hx hb dX0_whole_31 rfl (lv_at hl 1 rfl) ?_
      refine lv_lload_n hx hb dX0_whole_32 rfl (lv_at hl 2 rfl) ?_
      refine ps_call (rest := [.int t]) S (c_X0_magnitude l t v) gX0_whole_X0_magnitude rfl qX0_magnitude ⟨Nat.le_of_ble_eq_true rfl, Nat.le_of_ble_eq_true rfl⟩ ⟨Nat.le_of_ble_eq_true rfl, Nat.le_of_ble_eq_true rfl⟩ hl.1 rfl (Nat.le_of_ble_eq_true rfl) dX0_whole_33 ?_
      refine lv_iload_n hx hb dX0_whole_36 rfl (lv_at hl 3 rfl) ?_
      refine lv_iconst (v := 2) hx hb dX0_whole_37 (by decide) ?_
      refine zc_ne (tgt := 45) hx hb dX0_whole_38 (by decide) (fun c_5 => ?_) (fun c_5 => ?_)
      · refine lv_iconst (v := 0) hx hb dX0_whole_45 (by decide) ?_
        refine lv_iload hx hb dX0_whole_46 (lv_at hl 0 rfl) ?_
        refine ps_call (rest := []) S (c_X0_wholeMagnitude l t (nMag t v) 0 0) gX0_whole_X0_wholeMagnitude rfl qX0_wholeMagnitude ⟨Nat.le_of_ble_eq_true rfl, Nat.le_of_ble_eq_true rfl⟩ ⟨Nat.le_of_ble_eq_true rfl, Nat.le_of_ble_eq_true rfl⟩ hl.1 rfl (Nat.le_of_ble_eq_true rfl) dX0_whole_48 ?_
        refine lv_lstore (lv' := [(5, .long (nWMag t (nMag t v) 0 0)), (4, .int 0), (0, .int t), (1, .long v), (3, .int w)]) hx hb dX0_whole_51 hl (by decide) rfl (fun ls hl => ?_)
        refine lv_iload_n hx hb dX0_whole_53 rfl (lv_at hl 2 rfl) ?_
        refine lv_lload hx hb dX0_whole_54 (lv_at hl 0 rfl) ?_
        refine lv_lload_n hx hb dX0_whole_56 rfl (lv_at hl 3 rfl) ?_
        refine ps_call (rest := []) S (c_X0_withSign l t (nWMag t (nMag t v) 0 0) v) gX0_whole_X0_withSign rfl qX0_withSign ⟨Nat.le_of_ble_eq_true rfl, Nat.le_of_ble_eq_true rfl⟩ ⟨Nat.le_of_ble_eq_true rfl, Nat.le_of_ble_eq_true rfl⟩ hl.1 rfl (Nat.le_of_ble_eq_true rfl) dX0_whole_57 ?_
        exact ps_lret S hr hlk dX0_whole_60 (by first | (simp [nWhole, eq_true c_1, eq_false c_4, eq_false c_5]; done) | (simp [nWhole, c_1, c_4, c_5]; done) | contradiction | rfl)
      · refine lv_iconst (v := 1) hx hb dX0_whole_41 (by decide) ?_
        refine lv_goto (tgt := 46) hx hb dX0_whole_42 (by decide) ?_
        refine lv_iload hx hb dX0_whole_46 (lv_at hl 0 rfl) ?_
        refine ps_call (rest := []) S (c_X0_wholeMagnitude l t (nMag t v) 1 0) gX0_whole_X0_wholeMagnitude rfl qX0_wholeMagnitude ⟨Nat.le_of_ble_eq_true rfl, Nat.le_of_ble_eq_true rfl⟩ ⟨Nat.le_of_ble_eq_true rfl, Nat.le_of_ble_eq_true rfl⟩ hl.1 rfl (Nat.le_of_ble_eq_true rfl) dX0_whole_48 ?_
        refine lv_lstore (lv' := [(5, .long (nWMag t (nMag t v) 1 0)), (4, .int 0), (0, .int t), (1, .long v), (3, .int w)]) hx hb dX0_whole_51 hl (by decide) rfl (fun ls hl => ?_)
        refine lv_iload_n hx hb dX0_whole_53 rfl (lv_at hl 2 rfl) ?_
        refine lv_lload hx hb dX0_whole_54 (lv_at hl 0 rfl) ?_
        refine lv_lload_n hx hb dX0_whole_56 rfl (lv_at hl 3 rfl) ?_
        refine ps_call (rest := []) S (c_X0_withSign l t (nWMag t (nMag t v) 1 0) v) gX0_whole_X0_withSign rfl qX0_withSign ⟨Nat.le_of_ble_eq_true rfl, Nat.le_of_ble_eq_true rfl⟩ ⟨Nat.le_of_ble_eq_true rfl, Nat.le_of_ble_eq_true rfl⟩ hl.1 rfl (Nat.le_of_ble_eq_true rfl) dX0_whole_57 ?_
        exact ps_lret S hr hlk dX0_whole_60 (by first | (simp [nWhole, eq_true c_1, eq_false c_4, eq_true c_5]; done) | (simp [nWhole, c_1, c_4, c_5]; done) | contradiction | rfl)
    · refine lv_iconst (v := 1) hx hb dX0_whole_10 (by decide) ?_
      refine lv_goto (tgt := 28) hx hb dX0_whole_11 (by decide) ?_
      refine lv_istore (lv' := [(4, .int 1), (0, .int t), (1, .long v), (3, .int w)]) hx hb dX0_whole_28 hl (by decide) rfl (fun ls hl => ?_)
      refine lv_iload_n hx hb dX0_whole_30 rfl (lv_at hl 1 rfl) ?_
      refine lv_iload_n hx hb dX0_whole_31 rfl (lv_at hl 1 rfl) ?_
      refine lv_lload_n hx hb dX0_whole_32 rfl (lv_at hl 2 rfl) ?_
      refine ps_call (rest := [.int t]) S (c_X0_magnitude l t v) gX0_whole_X0_magnitude rfl qX0_magnitude ⟨Nat.le_of_ble_eq_true rfl, Nat.le_of_ble_eq_true rfl⟩ ⟨Nat.le_of_ble_eq_true rfl, Nat.le_of_ble_eq_true rfl⟩ hl.1 rfl (Nat.le_of_ble_eq_true rfl) dX0_whole_33 ?_
      refine lv_iload_n hx hb dX0_whole_36 rfl (lv_at hl 3 rfl) ?_
      refine lv_iconst (v := 2) hx hb dX0_whole_37 (by decide) ?_
      refine zc_ne (tgt := 45) hx hb dX0_whole_38 (by decide) (fun _ => ?_) (fun q => absurd q (by rw [c_4]; decide))
      refine lv_iconst (v := 0) hx hb dX0_whole_45 (by decide) ?_
      refine lv_iload hx hb dX0_whole_46 (lv_at hl 0 rfl) ?_
      refine ps_call (rest := []) S (c_X0_wholeMagnitude l t (nMag t v) 0 1) gX0_whole_X0_wholeMagnitude rfl qX0_wholeMagnitude ⟨Nat.le_of_ble_eq_true rfl, Nat.le_of_ble_eq_true rfl⟩ ⟨Nat.le_of_ble_eq_true rfl, Nat.le_of_ble_eq_true rfl⟩ hl.1 rfl (Nat.le_of_ble_eq_true rfl) dX0_whole_48 ?_
      refine lv_lstore (lv' := [(5, .long (nWMag t (nMag t v) 0 1)), (4, .int 1), (0, .int t), (1, .long v), (3, .int w)]) hx hb dX0_whole_51 hl (by decide) rfl (fun ls hl => ?_)
      refine lv_iload_n hx hb dX0_whole_53 rfl (lv_at hl 2 rfl) ?_
      refine lv_lload hx hb dX0_whole_54 (lv_at hl 0 rfl) ?_
      refine lv_lload_n hx hb dX0_whole_56 rfl (lv_at hl 3 rfl) ?_
      refine ps_call (rest := []) S (c_X0_withSign l t (nWMag t (nMag t v) 0 1) v) gX0_whole_X0_withSign rfl qX0_withSign ⟨Nat.le_of_ble_eq_true rfl, Nat.le_of_ble_eq_true rfl⟩ ⟨Nat.le_of_ble_eq_true rfl, Nat.le_of_ble_eq_true rfl⟩ hl.1 rfl (Nat.le_of_ble_eq_true rfl) dX0_whole_57 ?_
      exact ps_lret S hr hlk dX0_whole_60 (by first | (simp [nWhole, eq_true c_1, eq_true c_4]; done) | (simp [nWhole, c_1, c_4]; done) | contradiction | rfl)
theorem qX0_extreme : yX0_extreme.cls ≠ "java/lang/invoke/MethodHandle" ∧ yX0_extreme.cls ≠ "java/lang/invoke/VarHandle" ∧ (parseMethodDescriptor yX0_extreme.desc).map (fun d => d.parameters.length) = some 2 := by decide +kernel
set_option maxHeartbeats 4000000 in
set_option maxRecDepth 100000 in
theorem c_X0_extreme (l : Launch) (t : Int32) (b : Int32) : PS l yX0_extreme wsX0_extreme 0 0 [.int t, .int b] (.long (nExt t b)) := by
  refine PS.of (cc := cX0_extreme) (maxL := 2) (ret := some .long) (own := RX0) (by decide) rfl rfl (Nat.le_of_ble_eq_true rfl) ?_
  intro p e s m below meth c ls S hr hlk hl
  have hx := S.1
  have hb := S.2.1
  have hl : lv_has ls 2 [(0, .int t), (1, .int b)] := hl
  refine lv_iload_n hx hb dX0_extreme_0 rfl (lv_at hl 0 rfl) ?_
  refine zi_ne (tgt := 18) hx hb dX0_extreme_1 (by decide) (fun c_1 => ?_) (fun c_1 => ?_)
  · refine lv_iload_n hx hb dX0_extreme_18 rfl (lv_at hl 1 rfl) ?_
    refine zi_eq (tgt := 28) hx hb dX0_extreme_19 (by decide) (fun c_2 => ?_) (fun c_2 => ?_)
    · refine lv_ldc2 hx hb S.2.2.2.1 (S.2.2.2.2 (.constantLong RX0 69 (9223372036854775807)) (by decide +kernel)) dX0_extreme_28 ?_
      exact ps_lret S hr hlk dX0_extreme_31 (by first | (simp [nExt, eq_false c_1, eq_true c_2]; done) | (simp [nExt, c_1, c_2]; done) | contradiction | rfl)
    · refine lv_ldc2 hx hb S.2.2.2.1 (S.2.2.2.2 (.constantLong RX0 73 (-9223372036854775808)) (by decide +kernel)) dX0_extreme_22 ?_
      refine lv_goto (tgt := 31) hx hb dX0_extreme_25 (by decide) ?_
      exact ps_lret S hr hlk dX0_extreme_31 (by first | (simp [nExt, eq_false c_1, eq_false c_2]; done) | (simp [nExt, c_1, c_2]; done) | contradiction | rfl)
  · refine lv_iload_n hx hb dX0_extreme_4 rfl (lv_at hl 1 rfl) ?_
    refine zi_eq (tgt := 14) hx hb dX0_extreme_5 (by decide) (fun c_3 => ?_) (fun c_3 => ?_)
    · refine lv_ldc2 hx hb S.2.2.2.1 (S.2.2.2.2 (.constantLong RX0 105 (2147483647)) (by decide +kernel)) dX0_extreme_14 ?_
      exact ps_lret S hr hlk dX0_extreme_17 (by first | (simp [nExt, eq_true c_1, eq_true c_3]; done) | (simp [nExt, c_1, c_3]; done) | contradiction | rfl)
    · refine lv_ldc2 hx hb S.2.2.2.1 (S.2.2.2.2 (.constantLong RX0 71 (-2147483648)) (by decide +kernel)) dX0_extreme_8 ?_
      refine lv_goto (tgt := 17) hx hb dX0_extreme_11 (by decide) ?_
      exact ps_lret S hr hlk dX0_extreme_17 (by first | (simp [nExt, eq_true c_1, eq_false c_3]; done) | (simp [nExt, c_1, c_3]; done) | contradiction | rfl)
theorem qX0_brokenToWhole : yX0_brokenToWhole.cls ≠ "java/lang/invoke/MethodHandle" ∧ yX0_brokenToWhole.cls ≠ "java/lang/invoke/VarHandle" ∧ (parseMethodDescriptor yX0_brokenToWhole.desc).map (fun d => d.parameters.length) = some 3 := by decide +kernel
set_option maxHeartbeats 4000000 in
set_option maxRecDepth 100000 in
theorem c_X0_brokenToWhole (l : Launch) (f : Int32) (v : Int64) (t : Int32) : PS l yX0_brokenToWhole wsX0_brokenToWhole 2 44 [.int f, .long v, .int t] (.long (nB2W f v t)) := by
  refine PS.of (cc := cX0_brokenToWhole) (maxL := 12) (ret := some .long) (own := RX0) (by decide) rfl rfl (Nat.le_of_ble_eq_true rfl) ?_
  intro p e s m below meth c ls S hr hlk hl
  have hx := S.1
  have hb := S.2.1
  have hl : lv_has ls 12 [(0, .int f), (1, .long v), (3, .int t)] := hl
  refine lv_iload_n hx hb dX0_brokenToWhole_0 rfl (lv_at hl 0 rfl) ?_
  refine lv_lload_n hx hb dX0_brokenToWhole_1 rfl (lv_at hl 1 rfl) ?_
  refine ps_call (rest := []) S (c_X0_magnitude l f v) gX0_brokenToWhole_X0_magnitude rfl qX0_magnitude ⟨Nat.le_of_ble_eq_true rfl, Nat.le_of_ble_eq_true rfl⟩ ⟨Nat.le_of_ble_eq_true rfl, Nat.le_of_ble_eq_true rfl⟩ hl.1 rfl (Nat.le_of_ble_eq_true rfl) dX0_brokenToWhole_2 ?_
  refine lv_lstore (lv' := [(4, .long (nMag f v)), (0, .int f), (1, .long v), (3, .int t)]) hx hb dX0_brokenToWhole_5 hl (by decide) rfl (fun ls hl => ?_)
  refine lv_iload_n hx hb dX0_brokenToWhole_7 rfl (lv_at hl 1 rfl) ?_
  refine lv_lload hx hb dX0_brokenToWhole_8 (lv_at hl 0 rfl) ?_
  refine ps_call (rest := []) S (c_X0_power l f (nMag f v)) gX0_brokenToWhole_X0_power rfl qX0_power ⟨Nat.le_of_ble_eq_true rfl, Nat.le_of_ble_eq_true rfl⟩ ⟨Nat.le_of_ble_eq_true rfl, Nat.le_of_ble_eq_true rfl⟩ hl.1 rfl (Nat.le_of_ble_eq_true rfl) dX0_brokenToWhole_10 ?_
  refine lv_istore (lv' := [(6, .int (nPow f (nMag f v))), (4, .long (nMag f v)), (0, .int f), (1, .long v), (3, .int t)]) hx hb dX0_brokenToWhole_13 hl (by decide) rfl (fun ls hl => ?_)
  refine lv_iload hx hb dX0_brokenToWhole_15 (lv_at hl 0 rfl) ?_
  refine zi_ge (tgt := 22) hx hb dX0_brokenToWhole_17 (by decide) (fun c_1 => ?_) (fun c_1 => ?_)
  · refine lv_iload hx hb dX0_brokenToWhole_22 (lv_at hl 0 rfl) ?_
    refine lv_iload_n hx hb dX0_brokenToWhole_24 rfl (lv_at hl 4 rfl) ?_
    refine lv_iconst (v := 1) hx hb dX0_brokenToWhole_25 (by decide) ?_
    refine zc_ne (tgt := 34) hx hb dX0_brokenToWhole_26 (by decide) (fun c_2 => ?_) (fun c_2 => ?_)
    · refine lv_bipush (v := 31) hx hb dX0_brokenToWhole_34 (by decide) ?_
      refine zc_lt (tgt := 55) hx hb dX0_brokenToWhole_36 (by decide) (fun c_3 => ?_) (fun c_3 => ?_)
      · refine lv_iload_n hx hb dX0_brokenToWhole_55 rfl (lv_at hl 2 rfl) ?_
        refine ps_call (rest := []) S (c_X0_fractionBits l f) gX0_brokenToWhole_X0_fractionBits rfl qX0_fractionBits ⟨Nat.le_of_ble_eq_true rfl, Nat.le_of_ble_eq_true rfl⟩ ⟨Nat.le_of_ble_eq_true rfl, Nat.le_of_ble_eq_true rfl⟩ hl.1 rfl (Nat.le_of_ble_eq_true rfl) dX0_brokenToWhole_56 ?_
        refine lv_iload hx hb dX0_brokenToWhole_59 (lv_at hl 0 rfl) ?_
        refine lv_isub hx hb dX0_brokenToWhole_61 ?_
        refine lv_istore (lv' := [(7, .int ((nFrac f) - (nPow f (nMag f v)))), (6, .int (nPow f (nMag f v))), (4, .long (nMag f v)), (0, .int f), (1, .long v), (3, .int t)]) hx hb dX0_brokenToWhole_62 hl (by decide) rfl (fun ls hl => ?_)
        refine lv_iload_n hx hb dX0_brokenToWhole_64 rfl (lv_at hl 3 rfl) ?_
        refine lv_lload hx hb dX0_brokenToWhole_65 (lv_at hl 2 rfl) ?_
        refine ps_call (rest := []) S (c_X0_mantissa l f (nMag f v)) gX0_brokenToWhole_X0_mantissa rfl qX0_mantissa ⟨Nat.le_of_ble_eq_true rfl, Nat.le_of_ble_eq_true rfl⟩ ⟨Nat.le_of_ble_eq_true rfl, Nat.le_of_ble_eq_true rfl⟩ hl.1 rfl (Nat.le_of_ble_eq_true rfl) dX0_brokenToWhole_67 ?_
        refine lv_lstore (lv' := [(8, .long (nMant f (nMag f v))), (7, .int ((nFrac f) - (nPow f (nMag f v)))), (6, .int (nPow f (nMag f v))), (4, .long (nMag f v)), (0, .int f), (1, .long v), (3, .int t)]) hx hb dX0_brokenToWhole_70 hl (by decide) rfl (fun ls hl => ?_)
        refine lv_iload hx hb dX0_brokenToWhole_72 (lv_at hl 1 rfl) ?_
        refine zi_lt (tgt := 85) hx hb dX0_brokenToWhole_74 (by decide) (fun c_4 => ?_) (fun c_4 => ?_)
        · refine lv_lload hx hb dX0_brokenToWhole_85 (lv_at hl 0 rfl) ?_
          refine lv_iload hx hb dX0_brokenToWhole_87 (lv_at hl 1 rfl) ?_
          refine lv_ineg hx hb dX0_brokenToWhole_89 ?_
          refine lv_lshl (v := jshl (nMant f (nMag f v)) (-((nFrac f) - (nPow f (nMag f v))))) hx hb dX0_brokenToWhole_90 rfl ?_
          refine lv_lstore (lv' := [(10, .long (jshl (nMant f (nMag f v)) (-((nFrac f) - (nPow f (nMag f v)))))), (8, .long (nMant f (nMag f v))), (7, .int ((nFrac f) - (nPow f (nMag f v)))), (6, .int (nPow f (nMag f v))), (4, .long (nMag f v)), (0, .int f), (1, .long v), (3, .int t)]) hx hb dX0_brokenToWhole_91 hl (by decide) rfl (fun ls hl => ?_)
          refine lv_lload_n hx hb dX0_brokenToWhole_93 rfl (lv_at hl 6 rfl) ?_
          refine lv_lconst (v := 0) hx hb dX0_brokenToWhole_94 (by decide) ?_
          refine zl_ge (tgt := 105) hx hb dX0_brokenToWhole_95 dX0_brokenToWhole_96 (by decide) (fun c_5 => ?_) (fun c_5 => ?_)
          · refine lv_lload hx hb dX0_brokenToWhole_105 (lv_at hl 0 rfl) ?_
            exact ps_lret S hr hlk dX0_brokenToWhole_107 (by first | (simp [nB2W, nB2Wm, eq_false c_1, eq_false c_2, eq_true c_3, eq_true c_4, eq_false c_5]; done) | (simp [nB2W, nB2Wm, c_1, c_2, c_3, c_4, c_5]; done) | contradiction | rfl)
          · refine lv_lload hx hb dX0_brokenToWhole_99 (lv_at hl 0 rfl) ?_
            refine lv_lneg hx hb dX0_brokenToWhole_101 ?_
            refine lv_goto (tgt := 107) hx hb dX0_brokenToWhole_102 (by decide) ?_
            exact ps_lret S hr hlk dX0_brokenToWhole_107 (by first | (simp [nB2W, nB2Wm, eq_false c_1, eq_false c_2, eq_true c_3, eq_true c_4, eq_true c_5]; done) | (simp [nB2W, nB2Wm, c_1, c_2, c_3, c_4, c_5]; done) | contradiction | rfl)
        · refine lv_lload hx hb dX0_brokenToWhole_77 (lv_at hl 0 rfl) ?_
          refine lv_iload hx hb dX0_brokenToWhole_79 (lv_at hl 1 rfl) ?_
          refine lv_lushr (v := jushr (nMant f (nMag f v)) ((nFrac f) - (nPow f (nMag f v)))) hx hb dX0_brokenToWhole_81 rfl ?_
          refine lv_goto (tgt := 91) hx hb dX0_brokenToWhole_82 (by decide) ?_
          refine lv_lstore (lv' := [(10, .long (jushr (nMant f (nMag f v)) ((nFrac f) - (nPow f (nMag f v))))), (8, .long (nMant f (nMag f v))), (7, .int ((nFrac f) - (nPow f (nMag f v)))), (6, .int (nPow f (nMag f v))), (4, .long (nMag f v)), (0, .int f), (1, .long v), (3, .int t)]) hx hb dX0_brokenToWhole_91 hl (by decide) rfl (fun ls hl => ?_)
          refine lv_lload_n hx hb dX0_brokenToWhole_93 rfl (lv_at hl 6 rfl) ?_
          refine lv_lconst (v := 0) hx hb dX0_brokenToWhole_94 (by decide) ?_
          refine zl_ge (tgt := 105) hx hb dX0_brokenToWhole_95 dX0_brokenToWhole_96 (by decide) (fun c_6 => ?_) (fun c_6 => ?_)
          · refine lv_lload hx hb dX0_brokenToWhole_105 (lv_at hl 0 rfl) ?_
            exact ps_lret S hr hlk dX0_brokenToWhole_107 (by first | (simp [nB2W, nB2Wm, eq_false c_1, eq_false c_2, eq_true c_3, eq_false c_4, eq_false c_6]; done) | (simp [nB2W, nB2Wm, c_1, c_2, c_3, c_4, c_6]; done) | contradiction | rfl)
          · refine lv_lload hx hb dX0_brokenToWhole_99 (lv_at hl 0 rfl) ?_
            refine lv_lneg hx hb dX0_brokenToWhole_101 ?_
            refine lv_goto (tgt := 107) hx hb dX0_brokenToWhole_102 (by decide) ?_
            exact ps_lret S hr hlk dX0_brokenToWhole_107 (by first | (simp [nB2W, nB2Wm, eq_false c_1, eq_false c_2, eq_true c_3, eq_false c_4, eq_true c_6]; done) | (simp [nB2W, nB2Wm, c_1, c_2, c_3, c_4, c_6]; done) | contradiction | rfl)
      · refine lv_iload_n hx hb dX0_brokenToWhole_39 rfl (lv_at hl 4 rfl) ?_
        refine lv_lload_n hx hb dX0_brokenToWhole_40 rfl (lv_at hl 3 rfl) ?_
        refine lv_lconst (v := 0) hx hb dX0_brokenToWhole_41 (by decide) ?_
        refine zl_ge (tgt := 50) hx hb dX0_brokenToWhole_42 dX0_brokenToWhole_43 (by decide) (fun c_7 => ?_) (fun c_7 => ?_)
        · refine lv_iconst (v := 0) hx hb dX0_brokenToWhole_50 (by decide) ?_
          refine ps_call (rest := []) S (c_X0_extreme l t 0) gX0_brokenToWhole_X0_extreme rfl qX0_extreme ⟨Nat.le_of_ble_eq_true rfl, Nat.le_of_ble_eq_true rfl⟩ ⟨Nat.le_of_ble_eq_true rfl, Nat.le_of_ble_eq_true rfl⟩ hl.1 rfl (Nat.le_of_ble_eq_true rfl) dX0_brokenToWhole_51 ?_
          exact ps_lret S hr hlk dX0_brokenToWhole_54 (by first | (simp [nB2W, nB2Wm, eq_false c_1, eq_false c_2, eq_false c_3, eq_false c_7]; done) | (simp [nB2W, nB2Wm, c_1, c_2, c_3, c_7]; done) | contradiction | rfl)
        · refine lv_iconst (v := 1) hx hb dX0_brokenToWhole_46 (by decide) ?_
          refine lv_goto (tgt := 51) hx hb dX0_brokenToWhole_47 (by decide) ?_
          refine ps_call (rest := []) S (c_X0_extreme l t 1) gX0_brokenToWhole_X0_extreme rfl qX0_extreme ⟨Nat.le_of_ble_eq_true rfl, Nat.le_of_ble_eq_true rfl⟩ ⟨Nat.le_of_ble_eq_true rfl, Nat.le_of_ble_eq_true rfl⟩ hl.1 rfl (Nat.le_of_ble_eq_true rfl) dX0_brokenToWhole_51 ?_
          exact ps_lret S hr hlk dX0_brokenToWhole_54 (by first | (simp [nB2W, nB2Wm, eq_false c_1, eq_false c_2, eq_false c_3, eq_true c_7]; done) | (simp [nB2W, nB2Wm, c_1, c_2, c_3, c_7]; done) | contradiction | rfl)
    · refine lv_bipush (v := 63) hx hb dX0_brokenToWhole_29 (by decide) ?_
      refine lv_goto (tgt := 36) hx hb dX0_brokenToWhole_31 (by decide) ?_
      refine zc_lt (tgt := 55) hx hb dX0_brokenToWhole_36 (by decide) (fun c_8 => ?_) (fun c_8 => ?_)
      · refine lv_iload_n hx hb dX0_brokenToWhole_55 rfl (lv_at hl 2 rfl) ?_
        refine ps_call (rest := []) S (c_X0_fractionBits l f) gX0_brokenToWhole_X0_fractionBits rfl qX0_fractionBits ⟨Nat.le_of_ble_eq_true rfl, Nat.le_of_ble_eq_true rfl⟩ ⟨Nat.le_of_ble_eq_true rfl, Nat.le_of_ble_eq_true rfl⟩ hl.1 rfl (Nat.le_of_ble_eq_true rfl) dX0_brokenToWhole_56 ?_
        refine lv_iload hx hb dX0_brokenToWhole_59 (lv_at hl 0 rfl) ?_
        refine lv_isub hx hb dX0_brokenToWhole_61 ?_
        refine lv_istore (lv' := [(7, .int ((nFrac f) - (nPow f (nMag f v)))), (6, .int (nPow f (nMag f v))), (4, .long (nMag f v)), (0, .int f), (1, .long v), (3, .int t)]) hx hb dX0_brokenToWhole_62 hl (by decide) rfl (fun ls hl => ?_)
        refine lv_iload_n hx hb dX0_brokenToWhole_64 rfl (lv_at hl 3 rfl) ?_
        refine lv_lload hx hb dX0_brokenToWhole_65 (lv_at hl 2 rfl) ?_
        refine ps_call (rest := []) S (c_X0_mantissa l f (nMag f v)) gX0_brokenToWhole_X0_mantissa rfl qX0_mantissa ⟨Nat.le_of_ble_eq_true rfl, Nat.le_of_ble_eq_true rfl⟩ ⟨Nat.le_of_ble_eq_true rfl, Nat.le_of_ble_eq_true rfl⟩ hl.1 rfl (Nat.le_of_ble_eq_true rfl) dX0_brokenToWhole_67 ?_
        refine lv_lstore (lv' := [(8, .long (nMant f (nMag f v))), (7, .int ((nFrac f) - (nPow f (nMag f v)))), (6, .int (nPow f (nMag f v))), (4, .long (nMag f v)), (0, .int f), (1, .long v), (3, .int t)]) hx hb dX0_brokenToWhole_70 hl (by decide) rfl (fun ls hl => ?_)
        refine lv_iload hx hb dX0_brokenToWhole_72 (lv_at hl 1 rfl) ?_
        refine zi_lt (tgt := 85) hx hb dX0_brokenToWhole_74 (by decide) (fun c_9 => ?_) (fun c_9 => ?_)
        · refine lv_lload hx hb dX0_brokenToWhole_85 (lv_at hl 0 rfl) ?_
          refine lv_iload hx hb dX0_brokenToWhole_87 (lv_at hl 1 rfl) ?_
          refine lv_ineg hx hb dX0_brokenToWhole_89 ?_
          refine lv_lshl (v := jshl (nMant f (nMag f v)) (-((nFrac f) - (nPow f (nMag f v))))) hx hb dX0_brokenToWhole_90 rfl ?_
          refine lv_lstore (lv' := [(10, .long (jshl (nMant f (nMag f v)) (-((nFrac f) - (nPow f (nMag f v)))))), (8, .long (nMant f (nMag f v))), (7, .int ((nFrac f) - (nPow f (nMag f v)))), (6, .int (nPow f (nMag f v))), (4, .long (nMag f v)), (0, .int f), (1, .long v), (3, .int t)]) hx hb dX0_brokenToWhole_91 hl (by decide) rfl (fun ls hl => ?_)
          refine lv_lload_n hx hb dX0_brokenToWhole_93 rfl (lv_at hl 6 rfl) ?_
          refine lv_lconst (v := 0) hx hb dX0_brokenToWhole_94 (by decide) ?_
          refine zl_ge (tgt := 105) hx hb dX0_brokenToWhole_95 dX0_brokenToWhole_96 (by decide) (fun c_10 => ?_) (fun c_10 => ?_)
          · refine lv_lload hx hb dX0_brokenToWhole_105 (lv_at hl 0 rfl) ?_
            exact ps_lret S hr hlk dX0_brokenToWhole_107 (by first | (simp [nB2W, nB2Wm, eq_false c_1, if_pos c_2, eq_true c_8, eq_true c_9, eq_false c_10]; done) | (simp [nB2W, nB2Wm, eq_false c_1, eq_true c_2, eq_true c_8, eq_true c_9, eq_false c_10]; done) | (simp [nB2W, nB2Wm, c_1, c_2, c_8, c_9, c_10]; done) | contradiction | rfl)
          · refine lv_lload hx hb dX0_brokenToWhole_99 (lv_at hl 0 rfl) ?_
            refine lv_lneg hx hb dX0_brokenToWhole_101 ?_
            refine lv_goto (tgt := 107) hx hb dX0_brokenToWhole_102 (by decide) ?_
            exact ps_lret S hr hlk dX0_brokenToWhole_107 (by first | (simp [nB2W, nB2Wm, eq_false c_1, if_pos c_2, eq_true c_8, eq_true c_9, eq_true c_10]; done) | (simp [nB2W, nB2Wm, eq_false c_1, eq_true c_2, eq_true c_8, eq_true c_9, eq_true c_10]; done) | (simp [nB2W, nB2Wm, c_1, c_2, c_8, c_9, c_10]; done) | contradiction | rfl)
        · refine lv_lload hx hb dX0_brokenToWhole_77 (lv_at hl 0 rfl) ?_
          refine lv_iload hx hb dX0_brokenToWhole_79 (lv_at hl 1 rfl) ?_
          refine lv_lushr (v := jushr (nMant f (nMag f v)) ((nFrac f) - (nPow f (nMag f v)))) hx hb dX0_brokenToWhole_81 rfl ?_
          refine lv_goto (tgt := 91) hx hb dX0_brokenToWhole_82 (by decide) ?_
          refine lv_lstore (lv' := [(10, .long (jushr (nMant f (nMag f v)) ((nFrac f) - (nPow f (nMag f v))))), (8, .long (nMant f (nMag f v))), (7, .int ((nFrac f) - (nPow f (nMag f v)))), (6, .int (nPow f (nMag f v))), (4, .long (nMag f v)), (0, .int f), (1, .long v), (3, .int t)]) hx hb dX0_brokenToWhole_91 hl (by decide) rfl (fun ls hl => ?_)
          refine lv_lload_n hx hb dX0_brokenToWhole_93 rfl (lv_at hl 6 rfl) ?_
          refine lv_lconst (v := 0) hx hb dX0_brokenToWhole_94 (by decide) ?_
          refine zl_ge (tgt := 105) hx hb dX0_brokenToWhole_95 dX0_brokenToWhole_96 (by decide) (fun c_11 => ?_) (fun c_11 => ?_)
          · refine lv_lload hx hb dX0_brokenToWhole_105 (lv_at hl 0 rfl) ?_
            exact ps_lret S hr hlk dX0_brokenToWhole_107 (by first | (simp [nB2W, nB2Wm, eq_false c_1, if_pos c_2, eq_true c_8, eq_false c_9, eq_false c_11]; done) | (simp [nB2W, nB2Wm, eq_false c_1, eq_true c_2, eq_true c_8, eq_false c_9, eq_false c_11]; done) | (simp [nB2W, nB2Wm, c_1, c_2, c_8, c_9, c_11]; done) | contradiction | rfl)
          · refine lv_lload hx hb dX0_brokenToWhole_99 (lv_at hl 0 rfl) ?_
            refine lv_lneg hx hb dX0_brokenToWhole_101 ?_
            refine lv_goto (tgt := 107) hx hb dX0_brokenToWhole_102 (by decide) ?_
            exact ps_lret S hr hlk dX0_brokenToWhole_107 (by first | (simp [nB2W, nB2Wm, eq_false c_1, if_pos c_2, eq_true c_8, eq_false c_9, eq_true c_11]; done) | (simp [nB2W, nB2Wm, eq_false c_1, eq_true c_2, eq_true c_8, eq_false c_9, eq_true c_11]; done) | (simp [nB2W, nB2Wm, c_1, c_2, c_8, c_9, c_11]; done) | contradiction | rfl)
      · refine lv_iload_n hx hb dX0_brokenToWhole_39 rfl (lv_at hl 4 rfl) ?_
        refine lv_lload_n hx hb dX0_brokenToWhole_40 rfl (lv_at hl 3 rfl) ?_
        refine lv_lconst (v := 0) hx hb dX0_brokenToWhole_41 (by decide) ?_
        refine zl_ge (tgt := 50) hx hb dX0_brokenToWhole_42 dX0_brokenToWhole_43 (by decide) (fun c_12 => ?_) (fun c_12 => ?_)
        · refine lv_iconst (v := 0) hx hb dX0_brokenToWhole_50 (by decide) ?_
          refine ps_call (rest := []) S (c_X0_extreme l t 0) gX0_brokenToWhole_X0_extreme rfl qX0_extreme ⟨Nat.le_of_ble_eq_true rfl, Nat.le_of_ble_eq_true rfl⟩ ⟨Nat.le_of_ble_eq_true rfl, Nat.le_of_ble_eq_true rfl⟩ hl.1 rfl (Nat.le_of_ble_eq_true rfl) dX0_brokenToWhole_51 ?_
          exact ps_lret S hr hlk dX0_brokenToWhole_54 (by first | (simp [nB2W, nB2Wm, eq_false c_1, if_pos c_2, eq_false c_8, eq_false c_12]; done) | (simp [nB2W, nB2Wm, eq_false c_1, eq_true c_2, eq_false c_8, eq_false c_12]; done) | (simp [nB2W, nB2Wm, c_1, c_2, c_8, c_12]; done) | contradiction | rfl)
        · refine lv_iconst (v := 1) hx hb dX0_brokenToWhole_46 (by decide) ?_
          refine lv_goto (tgt := 51) hx hb dX0_brokenToWhole_47 (by decide) ?_
          refine ps_call (rest := []) S (c_X0_extreme l t 1) gX0_brokenToWhole_X0_extreme rfl qX0_extreme ⟨Nat.le_of_ble_eq_true rfl, Nat.le_of_ble_eq_true rfl⟩ ⟨Nat.le_of_ble_eq_true rfl, Nat.le_of_ble_eq_true rfl⟩ hl.1 rfl (Nat.le_of_ble_eq_true rfl) dX0_brokenToWhole_51 ?_
          exact ps_lret S hr hlk dX0_brokenToWhole_54 (by first | (simp [nB2W, nB2Wm, eq_false c_1, if_pos c_2, eq_false c_8, eq_true c_12]; done) | (simp [nB2W, nB2Wm, eq_false c_1, eq_true c_2, eq_false c_8, eq_true c_12]; done) | (simp [nB2W, nB2Wm, c_1, c_2, c_8, c_12]; done) | contradiction | rfl)
  · refine lv_lconst (v := 0) hx hb dX0_brokenToWhole_20 (by decide) ?_
    exact ps_lret S hr hlk dX0_brokenToWhole_21 (by first | (simp [nB2W, nB2Wm, eq_true c_1]; done) | (simp [nB2W, nB2Wm, c_1]; done) | contradiction | rfl)
theorem qX0_highestBit : yX0_highestBit.cls ≠ "java/lang/invoke/MethodHandle" ∧ yX0_highestBit.cls ≠ "java/lang/invoke/VarHandle" ∧ (parseMethodDescriptor yX0_highestBit.desc).map (fun d => d.parameters.length) = some 1 := by decide +kernel
set_option maxHeartbeats 4000000 in
set_option maxRecDepth 100000 in
theorem c_X0_highestBit (l : Launch) (v : Int64) : PS l yX0_highestBit wsX0_highestBit 0 0 [.long v] (.int (nHigh v)) := by
  refine PS.of (cc := cX0_highestBit) (maxL := 3) (ret := some .int) (own := RX0) (by decide) rfl rfl (Nat.le_of_ble_eq_true rfl) ?_
  intro p e s m below meth c ls S hr hlk hl
  have hx := S.1
  have hb := S.2.1
  have hl : lv_has ls 3 [(0, .long v)] := hl
  have K : ∀ (n : Nat), n ≤ 63 → nHigh v = nHb v n → ∀ (ls : Array Slot), lv_has ls 3 [(2, .int (nI n)), (0, .long v)] → W p l e { frames := 0, cells := 0, slots := 0, locals := 0 } s m [Value.long v].toArray below meth c s.heap [] 0 0 (MQ below (k2_QcV (.int (nHigh v))) [Value.long v].toArray s 0 0 (fun _ => False)) (F0 m 3 ls []) := by
    intro n
    induction n with
    | zero =>
      intro _ hn ls hl
      refine lv_iload_n hx hb dX0_highestBit_3 rfl (lv_at hl 0 rfl) ?_
      refine zi_le (tgt := 23) hx hb dX0_highestBit_4 (by decide) (fun _ => ?_) (fun q => absurd q (by decide))
      refine lv_iconst (v := 0) hx hb dX0_highestBit_23 (by decide) ?_
      exact ps_iret S hr hlk dX0_highestBit_24 (by rw [hn]; rfl)
    | succ n ih =>
      intro hle hn ls hl
      refine lv_iload_n hx hb dX0_highestBit_3 rfl (lv_at hl 0 rfl) ?_
      refine zi_le (tgt := 23) hx hb dX0_highestBit_4 (by decide) (fun q => absurd (nI_lt (a := 0) (b := n + 1) (by omega) (by omega)) q) (fun _ => ?_)
      refine lv_lload_n hx hb dX0_highestBit_7 rfl (lv_at hl 1 rfl) ?_
      refine lv_iload_n hx hb dX0_highestBit_8 rfl (lv_at hl 0 rfl) ?_
      refine lv_lushr (v := jushr v (nI (n + 1))) hx hb dX0_highestBit_9 rfl ?_
      refine lv_lconst (v := 0) hx hb dX0_highestBit_10 (by decide) ?_
      refine zl_eq (tgt := 17) hx hb dX0_highestBit_11 dX0_highestBit_12 (by decide) (fun c_1 => ?_) (fun c_1 => ?_)
      · refine lv_iinc (v := nI n) (lv' := [(2, .int (nI n)), (0, .long v)]) hx hb dX0_highestBit_17 hl (k := 0) rfl (by rw [show Int32.ofInt (-1) = -1 from by decide]; exact pk_m1 n) (by decide) rfl (fun ls hl => ?_)
        refine lv_goto (tgt := 3) hx hb dX0_highestBit_20 (by decide) ?_
        exact ih (by omega) (by rw [hn]; simp [nHb, c_1]) ls hl
      · refine lv_iload_n hx hb dX0_highestBit_15 rfl (lv_at hl 0 rfl) ?_
        exact ps_iret S hr hlk dX0_highestBit_16 (by rw [hn]; simp [nHb, c_1])
  refine lv_bipush (v := 63) hx hb dX0_highestBit_0 (by decide) ?_
  refine lv_istore_n (lv' := [(2, .int 63), (0, .long v)]) hx hb dX0_highestBit_2 rfl hl (by decide) rfl (fun ls hl => ?_)
  exact K 63 (Nat.le_refl 63) rfl ls hl
theorem qX0_wholeToBroken : yX0_wholeToBroken.cls ≠ "java/lang/invoke/MethodHandle" ∧ yX0_wholeToBroken.cls ≠ "java/lang/invoke/VarHandle" ∧ (parseMethodDescriptor yX0_wholeToBroken.desc).map (fun d => d.parameters.length) = some 2 := by decide +kernel
set_option maxHeartbeats 4000000 in
set_option maxRecDepth 100000 in
theorem c_X0_wholeToBroken (l : Launch) (v : Int64) (t : Int32) : PS l yX0_wholeToBroken wsX0_wholeToBroken 1 29 [.long v, .int t] (.long (nW2B v t)) := by
  refine PS.of (cc := cX0_wholeToBroken) (maxL := 11) (ret := some .long) (own := RX0) (by decide) rfl rfl (Nat.le_of_ble_eq_true rfl) ?_
  intro p e s m below meth c ls S hr hlk hl
  have hx := S.1
  have hb := S.2.1
  have hl : lv_has ls 11 [(0, .long v), (2, .int t)] := hl
  refine lv_lload_n hx hb dX0_wholeToBroken_0 rfl (lv_at hl 0 rfl) ?_
  refine lv_lconst (v := 0) hx hb dX0_wholeToBroken_1 (by decide) ?_
  refine zl_ne (tgt := 8) hx hb dX0_wholeToBroken_2 dX0_wholeToBroken_3 (by decide) (fun c_1 => ?_) (fun c_1 => ?_)
  · refine lv_lload_n hx hb dX0_wholeToBroken_8 rfl (lv_at hl 0 rfl) ?_
    refine lv_lconst (v := 0) hx hb dX0_wholeToBroken_9 (by decide) ?_
    refine zl_ge (tgt := 19) hx hb dX0_wholeToBroken_10 dX0_wholeToBroken_11 (by decide) (fun c_2 => ?_) (fun c_2 => ?_)
    · refine lv_lload_n hx hb dX0_wholeToBroken_19 rfl (lv_at hl 0 rfl) ?_
      refine lv_lstore_n (lv' := [(3, .long v), (0, .long v), (2, .int t)]) hx hb dX0_wholeToBroken_20 rfl hl (by decide) rfl (fun ls hl => ?_)
      refine lv_lload_n hx hb dX0_wholeToBroken_21 rfl (lv_at hl 0 rfl) ?_
      refine ps_call (rest := []) S (c_X0_highestBit l v) gX0_wholeToBroken_X0_highestBit rfl qX0_highestBit ⟨Nat.le_of_ble_eq_true rfl, Nat.le_of_ble_eq_true rfl⟩ ⟨Nat.le_of_ble_eq_true rfl, Nat.le_of_ble_eq_true rfl⟩ hl.1 rfl (Nat.le_of_ble_eq_true rfl) dX0_wholeToBroken_22 ?_
      refine lv_istore (lv' := [(5, .int (nHigh v)), (3, .long v), (0, .long v), (2, .int t)]) hx hb dX0_wholeToBroken_25 hl (by decide) rfl (fun ls hl => ?_)
      refine lv_iload_n hx hb dX0_wholeToBroken_27 rfl (lv_at hl 3 rfl) ?_
      refine ps_call (rest := []) S (c_X0_fractionBits l t) gX0_wholeToBroken_X0_fractionBits rfl qX0_fractionBits ⟨Nat.le_of_ble_eq_true rfl, Nat.le_of_ble_eq_true rfl⟩ ⟨Nat.le_of_ble_eq_true rfl, Nat.le_of_ble_eq_true rfl⟩ hl.1 rfl (Nat.le_of_ble_eq_true rfl) dX0_wholeToBroken_28 ?_
      refine lv_istore (lv' := [(6, .int (nFrac t)), (5, .int (nHigh v)), (3, .long v), (0, .long v), (2, .int t)]) hx hb dX0_wholeToBroken_31 hl (by decide) rfl (fun ls hl => ?_)
      refine lv_iload hx hb dX0_wholeToBroken_33 (lv_at hl 1 rfl) ?_
      refine lv_iload hx hb dX0_wholeToBroken_35 (lv_at hl 0 rfl) ?_
      refine zc_gt (tgt := 50) hx hb dX0_wholeToBroken_37 (by decide) (fun c_3 => ?_) (fun c_3 => ?_)
      · refine lv_lload_n hx hb dX0_wholeToBroken_50 rfl (lv_at hl 2 rfl) ?_
        refine lv_iload hx hb dX0_wholeToBroken_51 (lv_at hl 1 rfl) ?_
        refine lv_iload hx hb dX0_wholeToBroken_53 (lv_at hl 0 rfl) ?_
        refine lv_isub hx hb dX0_wholeToBroken_55 ?_
        refine ps_call (rest := []) S (c_X0_nearestShifted l v ((nHigh v) - (nFrac t))) gX0_wholeToBroken_X0_nearestShifted rfl qX0_nearestShifted ⟨Nat.le_of_ble_eq_true rfl, Nat.le_of_ble_eq_true rfl⟩ ⟨Nat.le_of_ble_eq_true rfl, Nat.le_of_ble_eq_true rfl⟩ hl.1 rfl (Nat.le_of_ble_eq_true rfl) dX0_wholeToBroken_56 ?_
        refine lv_lstore (lv' := [(7, .long (nNear v ((nHigh v) - (nFrac t)))), (6, .int (nFrac t)), (5, .int (nHigh v)), (3, .long v), (0, .long v), (2, .int t)]) hx hb dX0_wholeToBroken_59 hl (by decide) rfl (fun ls hl => ?_)
        refine lv_iload hx hb dX0_wholeToBroken_61 (lv_at hl 2 rfl) ?_
        refine lv_iload_n hx hb dX0_wholeToBroken_63 rfl (lv_at hl 5 rfl) ?_
        refine ps_call (rest := [.int (nHigh v)]) S (c_X0_bias l t) gX0_wholeToBroken_X0_bias rfl qX0_bias ⟨Nat.le_of_ble_eq_true rfl, Nat.le_of_ble_eq_true rfl⟩ ⟨Nat.le_of_ble_eq_true rfl, Nat.le_of_ble_eq_true rfl⟩ hl.1 rfl (Nat.le_of_ble_eq_true rfl) dX0_wholeToBroken_64 ?_
        refine lv_iadd hx hb dX0_wholeToBroken_67 ?_
        refine lv_iconst (v := 1) hx hb dX0_wholeToBroken_68 (by decide) ?_
        refine lv_isub hx hb dX0_wholeToBroken_69 ?_
        refine lv_i2l (v := Int32.toInt64 (((nHigh v) + (nBias t)) - 1)) hx hb dX0_wholeToBroken_70 rfl ?_
        refine lv_iload hx hb dX0_wholeToBroken_71 (lv_at hl 1 rfl) ?_
        refine lv_lshl (v := jshl (Int32.toInt64 (((nHigh v) + (nBias t)) - 1)) (nFrac t)) hx hb dX0_wholeToBroken_73 rfl ?_
        refine lv_lload hx hb dX0_wholeToBroken_74 (lv_at hl 0 rfl) ?_
        refine lv_ladd hx hb dX0_wholeToBroken_76 ?_
        refine lv_lstore (lv' := [(9, .long ((jshl (Int32.toInt64 (((nHigh v) + (nBias t)) - 1)) (nFrac t)) + (nNear v ((nHigh v) - (nFrac t))))), (7, .long (nNear v ((nHigh v) - (nFrac t)))), (6, .int (nFrac t)), (5, .int (nHigh v)), (3, .long v), (0, .long v), (2, .int t)]) hx hb dX0_wholeToBroken_77 hl (by decide) rfl (fun ls hl => ?_)
        refine lv_lload_n hx hb dX0_wholeToBroken_79 rfl (lv_at hl 5 rfl) ?_
        refine lv_lconst (v := 0) hx hb dX0_wholeToBroken_80 (by decide) ?_
        refine zl_ge (tgt := 95) hx hb dX0_wholeToBroken_81 dX0_wholeToBroken_82 (by decide) (fun _ => ?_) (fun q => absurd q c_2)
        refine lv_lload hx hb dX0_wholeToBroken_95 (lv_at hl 0 rfl) ?_
        exact ps_lret S hr hlk dX0_wholeToBroken_97 (by first | (simp [nW2B, nW2Bb, nW2Bm, eq_false c_1, eq_false c_2, eq_true c_3]; done) | (simp [nW2B, nW2Bb, nW2Bm, c_1, c_2, c_3]; done) | contradiction | rfl)
      · refine lv_lload_n hx hb dX0_wholeToBroken_40 rfl (lv_at hl 2 rfl) ?_
        refine lv_iload hx hb dX0_wholeToBroken_41 (lv_at hl 0 rfl) ?_
        refine lv_iload hx hb dX0_wholeToBroken_43 (lv_at hl 1 rfl) ?_
        refine lv_isub hx hb dX0_wholeToBroken_45 ?_
        refine lv_lshl (v := jshl v ((nFrac t) - (nHigh v))) hx hb dX0_wholeToBroken_46 rfl ?_
        refine lv_goto (tgt := 59) hx hb dX0_wholeToBroken_47 (by decide) ?_
        refine lv_lstore (lv' := [(7, .long (jshl v ((nFrac t) - (nHigh v)))), (6, .int (nFrac t)), (5, .int (nHigh v)), (3, .long v), (0, .long v), (2, .int t)]) hx hb dX0_wholeToBroken_59 hl (by decide) rfl (fun ls hl => ?_)
        refine lv_iload hx hb dX0_wholeToBroken_61 (lv_at hl 2 rfl) ?_
        refine lv_iload_n hx hb dX0_wholeToBroken_63 rfl (lv_at hl 5 rfl) ?_
        refine ps_call (rest := [.int (nHigh v)]) S (c_X0_bias l t) gX0_wholeToBroken_X0_bias rfl qX0_bias ⟨Nat.le_of_ble_eq_true rfl, Nat.le_of_ble_eq_true rfl⟩ ⟨Nat.le_of_ble_eq_true rfl, Nat.le_of_ble_eq_true rfl⟩ hl.1 rfl (Nat.le_of_ble_eq_true rfl) dX0_wholeToBroken_64 ?_
        refine lv_iadd hx hb dX0_wholeToBroken_67 ?_
        refine lv_iconst (v := 1) hx hb dX0_wholeToBroken_68 (by decide) ?_
        refine lv_isub hx hb dX0_wholeToBroken_69 ?_
        refine lv_i2l (v := Int32.toInt64 (((nHigh v) + (nBias t)) - 1)) hx hb dX0_wholeToBroken_70 rfl ?_
        refine lv_iload hx hb dX0_wholeToBroken_71 (lv_at hl 1 rfl) ?_
        refine lv_lshl (v := jshl (Int32.toInt64 (((nHigh v) + (nBias t)) - 1)) (nFrac t)) hx hb dX0_wholeToBroken_73 rfl ?_
        refine lv_lload hx hb dX0_wholeToBroken_74 (lv_at hl 0 rfl) ?_
        refine lv_ladd hx hb dX0_wholeToBroken_76 ?_
        refine lv_lstore (lv' := [(9, .long ((jshl (Int32.toInt64 (((nHigh v) + (nBias t)) - 1)) (nFrac t)) + (jshl v ((nFrac t) - (nHigh v))))), (7, .long (jshl v ((nFrac t) - (nHigh v)))), (6, .int (nFrac t)), (5, .int (nHigh v)), (3, .long v), (0, .long v), (2, .int t)]) hx hb dX0_wholeToBroken_77 hl (by decide) rfl (fun ls hl => ?_)
        refine lv_lload_n hx hb dX0_wholeToBroken_79 rfl (lv_at hl 5 rfl) ?_
        refine lv_lconst (v := 0) hx hb dX0_wholeToBroken_80 (by decide) ?_
        refine zl_ge (tgt := 95) hx hb dX0_wholeToBroken_81 dX0_wholeToBroken_82 (by decide) (fun _ => ?_) (fun q => absurd q c_2)
        refine lv_lload hx hb dX0_wholeToBroken_95 (lv_at hl 0 rfl) ?_
        exact ps_lret S hr hlk dX0_wholeToBroken_97 (by first | (simp [nW2B, nW2Bb, nW2Bm, eq_false c_1, eq_false c_2, eq_false c_3]; done) | (simp [nW2B, nW2Bb, nW2Bm, c_1, c_2, c_3]; done) | contradiction | rfl)
    · refine lv_lload_n hx hb dX0_wholeToBroken_14 rfl (lv_at hl 0 rfl) ?_
      refine lv_lneg hx hb dX0_wholeToBroken_15 ?_
      refine lv_goto (tgt := 20) hx hb dX0_wholeToBroken_16 (by decide) ?_
      refine lv_lstore_n (lv' := [(3, .long (-v)), (0, .long v), (2, .int t)]) hx hb dX0_wholeToBroken_20 rfl hl (by decide) rfl (fun ls hl => ?_)
      refine lv_lload_n hx hb dX0_wholeToBroken_21 rfl (lv_at hl 0 rfl) ?_
      refine ps_call (rest := []) S (c_X0_highestBit l (-v)) gX0_wholeToBroken_X0_highestBit rfl qX0_highestBit ⟨Nat.le_of_ble_eq_true rfl, Nat.le_of_ble_eq_true rfl⟩ ⟨Nat.le_of_ble_eq_true rfl, Nat.le_of_ble_eq_true rfl⟩ hl.1 rfl (Nat.le_of_ble_eq_true rfl) dX0_wholeToBroken_22 ?_
      refine lv_istore (lv' := [(5, .int (nHigh (-v))), (3, .long (-v)), (0, .long v), (2, .int t)]) hx hb dX0_wholeToBroken_25 hl (by decide) rfl (fun ls hl => ?_)
      refine lv_iload_n hx hb dX0_wholeToBroken_27 rfl (lv_at hl 3 rfl) ?_
      refine ps_call (rest := []) S (c_X0_fractionBits l t) gX0_wholeToBroken_X0_fractionBits rfl qX0_fractionBits ⟨Nat.le_of_ble_eq_true rfl, Nat.le_of_ble_eq_true rfl⟩ ⟨Nat.le_of_ble_eq_true rfl, Nat.le_of_ble_eq_true rfl⟩ hl.1 rfl (Nat.le_of_ble_eq_true rfl) dX0_wholeToBroken_28 ?_
      refine lv_istore (lv' := [(6, .int (nFrac t)), (5, .int (nHigh (-v))), (3, .long (-v)), (0, .long v), (2, .int t)]) hx hb dX0_wholeToBroken_31 hl (by decide) rfl (fun ls hl => ?_)
      refine lv_iload hx hb dX0_wholeToBroken_33 (lv_at hl 1 rfl) ?_
      refine lv_iload hx hb dX0_wholeToBroken_35 (lv_at hl 0 rfl) ?_
      refine zc_gt (tgt := 50) hx hb dX0_wholeToBroken_37 (by decide) (fun c_4 => ?_) (fun c_4 => ?_)
      · refine lv_lload_n hx hb dX0_wholeToBroken_50 rfl (lv_at hl 2 rfl) ?_
        refine lv_iload hx hb dX0_wholeToBroken_51 (lv_at hl 1 rfl) ?_
        refine lv_iload hx hb dX0_wholeToBroken_53 (lv_at hl 0 rfl) ?_
        refine lv_isub hx hb dX0_wholeToBroken_55 ?_
        refine ps_call (rest := []) S (c_X0_nearestShifted l (-v) ((nHigh (-v)) - (nFrac t))) gX0_wholeToBroken_X0_nearestShifted rfl qX0_nearestShifted ⟨Nat.le_of_ble_eq_true rfl, Nat.le_of_ble_eq_true rfl⟩ ⟨Nat.le_of_ble_eq_true rfl, Nat.le_of_ble_eq_true rfl⟩ hl.1 rfl (Nat.le_of_ble_eq_true rfl) dX0_wholeToBroken_56 ?_
        refine lv_lstore (lv' := [(7, .long (nNear (-v) ((nHigh (-v)) - (nFrac t)))), (6, .int (nFrac t)), (5, .int (nHigh (-v))), (3, .long (-v)), (0, .long v), (2, .int t)]) hx hb dX0_wholeToBroken_59 hl (by decide) rfl (fun ls hl => ?_)
        refine lv_iload hx hb dX0_wholeToBroken_61 (lv_at hl 2 rfl) ?_
        refine lv_iload_n hx hb dX0_wholeToBroken_63 rfl (lv_at hl 5 rfl) ?_
        refine ps_call (rest := [.int (nHigh (-v))]) S (c_X0_bias l t) gX0_wholeToBroken_X0_bias rfl qX0_bias ⟨Nat.le_of_ble_eq_true rfl, Nat.le_of_ble_eq_true rfl⟩ ⟨Nat.le_of_ble_eq_true rfl, Nat.le_of_ble_eq_true rfl⟩ hl.1 rfl (Nat.le_of_ble_eq_true rfl) dX0_wholeToBroken_64 ?_
        refine lv_iadd hx hb dX0_wholeToBroken_67 ?_
        refine lv_iconst (v := 1) hx hb dX0_wholeToBroken_68 (by decide) ?_
        refine lv_isub hx hb dX0_wholeToBroken_69 ?_
        refine lv_i2l (v := Int32.toInt64 (((nHigh (-v)) + (nBias t)) - 1)) hx hb dX0_wholeToBroken_70 rfl ?_
        refine lv_iload hx hb dX0_wholeToBroken_71 (lv_at hl 1 rfl) ?_
        refine lv_lshl (v := jshl (Int32.toInt64 (((nHigh (-v)) + (nBias t)) - 1)) (nFrac t)) hx hb dX0_wholeToBroken_73 rfl ?_
        refine lv_lload hx hb dX0_wholeToBroken_74 (lv_at hl 0 rfl) ?_
        refine lv_ladd hx hb dX0_wholeToBroken_76 ?_
        refine lv_lstore (lv' := [(9, .long ((jshl (Int32.toInt64 (((nHigh (-v)) + (nBias t)) - 1)) (nFrac t)) + (nNear (-v) ((nHigh (-v)) - (nFrac t))))), (7, .long (nNear (-v) ((nHigh (-v)) - (nFrac t)))), (6, .int (nFrac t)), (5, .int (nHigh (-v))), (3, .long (-v)), (0, .long v), (2, .int t)]) hx hb dX0_wholeToBroken_77 hl (by decide) rfl (fun ls hl => ?_)
        refine lv_lload_n hx hb dX0_wholeToBroken_79 rfl (lv_at hl 5 rfl) ?_
        refine lv_lconst (v := 0) hx hb dX0_wholeToBroken_80 (by decide) ?_
        refine zl_ge (tgt := 95) hx hb dX0_wholeToBroken_81 dX0_wholeToBroken_82 (by decide) (fun q => absurd c_2 q) (fun _ => ?_)
        refine lv_lload hx hb dX0_wholeToBroken_85 (lv_at hl 0 rfl) ?_
        refine lv_iload_n hx hb dX0_wholeToBroken_87 rfl (lv_at hl 6 rfl) ?_
        refine ps_call (rest := [.long ((jshl (Int32.toInt64 (((nHigh (-v)) + (nBias t)) - 1)) (nFrac t)) + (nNear (-v) ((nHigh (-v)) - (nFrac t))))]) S (c_X0_signMask l t) gX0_wholeToBroken_X0_signMask rfl qX0_signMask ⟨Nat.le_of_ble_eq_true rfl, Nat.le_of_ble_eq_true rfl⟩ ⟨Nat.le_of_ble_eq_true rfl, Nat.le_of_ble_eq_true rfl⟩ hl.1 rfl (Nat.le_of_ble_eq_true rfl) dX0_wholeToBroken_88 ?_
        refine lv_lor hx hb dX0_wholeToBroken_91 ?_
        refine lv_goto (tgt := 97) hx hb dX0_wholeToBroken_92 (by decide) ?_
        exact ps_lret S hr hlk dX0_wholeToBroken_97 (by first | (simp [nW2B, nW2Bb, nW2Bm, eq_false c_1, eq_true c_2, eq_true c_4]; done) | (simp [nW2B, nW2Bb, nW2Bm, c_1, c_2, c_4]; done) | contradiction | rfl)
      · refine lv_lload_n hx hb dX0_wholeToBroken_40 rfl (lv_at hl 2 rfl) ?_
        refine lv_iload hx hb dX0_wholeToBroken_41 (lv_at hl 0 rfl) ?_
        refine lv_iload hx hb dX0_wholeToBroken_43 (lv_at hl 1 rfl) ?_
        refine lv_isub hx hb dX0_wholeToBroken_45 ?_
        refine lv_lshl (v := jshl (-v) ((nFrac t) - (nHigh (-v)))) hx hb dX0_wholeToBroken_46 rfl ?_
        refine lv_goto (tgt := 59) hx hb dX0_wholeToBroken_47 (by decide) ?_
        refine lv_lstore (lv' := [(7, .long (jshl (-v) ((nFrac t) - (nHigh (-v))))), (6, .int (nFrac t)), (5, .int (nHigh (-v))), (3, .long (-v)), (0, .long v), (2, .int t)]) hx hb dX0_wholeToBroken_59 hl (by decide) rfl (fun ls hl => ?_)
        refine lv_iload hx hb dX0_wholeToBroken_61 (lv_at hl 2 rfl) ?_
        refine lv_iload_n hx hb dX0_wholeToBroken_63 rfl (lv_at hl 5 rfl) ?_
        refine ps_call (rest := [.int (nHigh (-v))]) S (c_X0_bias l t) gX0_wholeToBroken_X0_bias rfl qX0_bias ⟨Nat.le_of_ble_eq_true rfl, Nat.le_of_ble_eq_true rfl⟩ ⟨Nat.le_of_ble_eq_true rfl, Nat.le_of_ble_eq_true rfl⟩ hl.1 rfl (Nat.le_of_ble_eq_true rfl) dX0_wholeToBroken_64 ?_
        refine lv_iadd hx hb dX0_wholeToBroken_67 ?_
        refine lv_iconst (v := 1) hx hb dX0_wholeToBroken_68 (by decide) ?_
        refine lv_isub hx hb dX0_wholeToBroken_69 ?_
        refine lv_i2l (v := Int32.toInt64 (((nHigh (-v)) + (nBias t)) - 1)) hx hb dX0_wholeToBroken_70 rfl ?_
        refine lv_iload hx hb dX0_wholeToBroken_71 (lv_at hl 1 rfl) ?_
        refine lv_lshl (v := jshl (Int32.toInt64 (((nHigh (-v)) + (nBias t)) - 1)) (nFrac t)) hx hb dX0_wholeToBroken_73 rfl ?_
        refine lv_lload hx hb dX0_wholeToBroken_74 (lv_at hl 0 rfl) ?_
        refine lv_ladd hx hb dX0_wholeToBroken_76 ?_
        refine lv_lstore (lv' := [(9, .long ((jshl (Int32.toInt64 (((nHigh (-v)) + (nBias t)) - 1)) (nFrac t)) + (jshl (-v) ((nFrac t) - (nHigh (-v)))))), (7, .long (jshl (-v) ((nFrac t) - (nHigh (-v))))), (6, .int (nFrac t)), (5, .int (nHigh (-v))), (3, .long (-v)), (0, .long v), (2, .int t)]) hx hb dX0_wholeToBroken_77 hl (by decide) rfl (fun ls hl => ?_)
        refine lv_lload_n hx hb dX0_wholeToBroken_79 rfl (lv_at hl 5 rfl) ?_
        refine lv_lconst (v := 0) hx hb dX0_wholeToBroken_80 (by decide) ?_
        refine zl_ge (tgt := 95) hx hb dX0_wholeToBroken_81 dX0_wholeToBroken_82 (by decide) (fun q => absurd c_2 q) (fun _ => ?_)
        refine lv_lload hx hb dX0_wholeToBroken_85 (lv_at hl 0 rfl) ?_
        refine lv_iload_n hx hb dX0_wholeToBroken_87 rfl (lv_at hl 6 rfl) ?_
        refine ps_call (rest := [.long ((jshl (Int32.toInt64 (((nHigh (-v)) + (nBias t)) - 1)) (nFrac t)) + (jshl (-v) ((nFrac t) - (nHigh (-v)))))]) S (c_X0_signMask l t) gX0_wholeToBroken_X0_signMask rfl qX0_signMask ⟨Nat.le_of_ble_eq_true rfl, Nat.le_of_ble_eq_true rfl⟩ ⟨Nat.le_of_ble_eq_true rfl, Nat.le_of_ble_eq_true rfl⟩ hl.1 rfl (Nat.le_of_ble_eq_true rfl) dX0_wholeToBroken_88 ?_
        refine lv_lor hx hb dX0_wholeToBroken_91 ?_
        refine lv_goto (tgt := 97) hx hb dX0_wholeToBroken_92 (by decide) ?_
        exact ps_lret S hr hlk dX0_wholeToBroken_97 (by first | (simp [nW2B, nW2Bb, nW2Bm, eq_false c_1, eq_true c_2, eq_false c_4]; done) | (simp [nW2B, nW2Bb, nW2Bm, c_1, c_2, c_4]; done) | contradiction | rfl)
  · refine lv_lconst (v := 0) hx hb dX0_wholeToBroken_6 (by decide) ?_
    exact ps_lret S hr hlk dX0_wholeToBroken_7 (by first | (simp [nW2B, nW2Bb, nW2Bm, eq_true c_1]; done) | (simp [nW2B, nW2Bb, nW2Bm, c_1]; done) | contradiction | rfl)
theorem qX0_widened : yX0_widened.cls ≠ "java/lang/invoke/MethodHandle" ∧ yX0_widened.cls ≠ "java/lang/invoke/VarHandle" ∧ (parseMethodDescriptor yX0_widened.desc).map (fun d => d.parameters.length) = some 1 := by decide +kernel
set_option maxHeartbeats 4000000 in
set_option maxRecDepth 100000 in
theorem c_X0_widened (l : Launch) (z : Int64) : PS l yX0_widened wsX0_widened 2 40 [.long z] (.long (nWiden z)) := by
  refine PS.of (cc := cX0_widened) (maxL := 5) (ret := some .long) (own := RX0) (by decide) rfl rfl (Nat.le_of_ble_eq_true rfl) ?_
  intro p e s m below meth c ls S hr hlk hl
  have hx := S.1
  have hb := S.2.1
  have hl : lv_has ls 5 [(0, .long z)] := hl
  refine lv_lload_n hx hb dX0_widened_0 rfl (lv_at hl 0 rfl) ?_
  refine lv_lconst (v := 0) hx hb dX0_widened_1 (by decide) ?_
  refine zl_ne (tgt := 8) hx hb dX0_widened_2 dX0_widened_3 (by decide) (fun c_1 => ?_) (fun c_1 => ?_)
  · refine lv_lload_n hx hb dX0_widened_8 rfl (lv_at hl 0 rfl) ?_
    refine lv_iconst (v := 2) hx hb dX0_widened_9 (by decide) ?_
    refine ps_call (rest := [.long z]) S (c_X0_infinity l 2) gX0_widened_X0_infinity rfl qX0_infinity ⟨Nat.le_of_ble_eq_true rfl, Nat.le_of_ble_eq_true rfl⟩ ⟨Nat.le_of_ble_eq_true rfl, Nat.le_of_ble_eq_true rfl⟩ hl.1 rfl (Nat.le_of_ble_eq_true rfl) dX0_widened_10 ?_
    refine zl_ne (tgt := 22) hx hb dX0_widened_13 dX0_widened_14 (by decide) (fun c_2 => ?_) (fun c_2 => ?_)
    · refine lv_lload_n hx hb dX0_widened_22 rfl (lv_at hl 0 rfl) ?_
      refine lv_bipush (v := 23) hx hb dX0_widened_23 (by decide) ?_
      refine lv_lushr (v := jushr z 23) hx hb dX0_widened_25 rfl ?_
      refine lv_lconst (v := 0) hx hb dX0_widened_26 (by decide) ?_
      refine zl_eq (tgt := 42) hx hb dX0_widened_27 dX0_widened_28 (by decide) (fun c_3 => ?_) (fun c_3 => ?_)
      · refine lv_lload_n hx hb dX0_widened_42 rfl (lv_at hl 0 rfl) ?_
        refine ps_call (rest := []) S (c_X0_highestBit l z) gX0_widened_X0_highestBit rfl qX0_highestBit ⟨Nat.le_of_ble_eq_true rfl, Nat.le_of_ble_eq_true rfl⟩ ⟨Nat.le_of_ble_eq_true rfl, Nat.le_of_ble_eq_true rfl⟩ hl.1 rfl (Nat.le_of_ble_eq_true rfl) dX0_widened_43 ?_
        refine lv_istore_n (lv' := [(2, .int (nHigh z)), (0, .long z)]) hx hb dX0_widened_46 rfl hl (by decide) rfl (fun ls hl => ?_)
        refine lv_iload_n hx hb dX0_widened_47 rfl (lv_at hl 0 rfl) ?_
        refine lv_sipush (v := -149) hx hb dX0_widened_48 (by decide) ?_
        refine lv_iadd hx hb dX0_widened_51 ?_
        refine lv_sipush (v := 1023) hx hb dX0_widened_52 (by decide) ?_
        refine lv_iadd hx hb dX0_widened_55 ?_
        refine lv_iconst (v := 1) hx hb dX0_widened_56 (by decide) ?_
        refine lv_isub hx hb dX0_widened_57 ?_
        refine lv_i2l (v := Int32.toInt64 ((((nHigh z) + (-149)) + 1023) - 1)) hx hb dX0_widened_58 rfl ?_
        refine lv_lstore_n (lv' := [(3, .long (Int32.toInt64 ((((nHigh z) + (-149)) + 1023) - 1))), (2, .int (nHigh z)), (0, .long z)]) hx hb dX0_widened_59 rfl hl (by decide) rfl (fun ls hl => ?_)
        refine lv_lload_n hx hb dX0_widened_60 rfl (lv_at hl 0 rfl) ?_
        refine lv_bipush (v := 52) hx hb dX0_widened_61 (by decide) ?_
        refine lv_lshl (v := jshl (Int32.toInt64 ((((nHigh z) + (-149)) + 1023) - 1)) 52) hx hb dX0_widened_63 rfl ?_
        refine lv_lload_n hx hb dX0_widened_64 rfl (lv_at hl 2 rfl) ?_
        refine lv_bipush (v := 52) hx hb dX0_widened_65 (by decide) ?_
        refine lv_iload_n hx hb dX0_widened_67 rfl (lv_at hl 1 rfl) ?_
        refine lv_isub hx hb dX0_widened_68 ?_
        refine lv_lshl (v := jshl z (52 - (nHigh z))) hx hb dX0_widened_69 rfl ?_
        refine lv_ladd hx hb dX0_widened_70 ?_
        exact ps_lret S hr hlk dX0_widened_71 (by first | (simp [nWiden, eq_false c_1, eq_false c_2, eq_true c_3]; done) | (simp [nWiden, c_1, c_2, c_3]; done) | contradiction | rfl)
      · refine lv_lload_n hx hb dX0_widened_31 rfl (lv_at hl 0 rfl) ?_
        refine lv_bipush (v := 29) hx hb dX0_widened_32 (by decide) ?_
        refine lv_lshl (v := jshl z 29) hx hb dX0_widened_34 rfl ?_
        refine lv_lstore_n (lv' := [(2, .long (jshl z 29)), (0, .long z)]) hx hb dX0_widened_35 rfl hl (by decide) rfl (fun ls hl => ?_)
        refine lv_lload_n hx hb dX0_widened_36 rfl (lv_at hl 0 rfl) ?_
        refine lv_ldc2 hx hb S.2.2.2.1 (S.2.2.2.2 (.constantLong RX0 107 (4035225266123964416)) (by decide +kernel)) dX0_widened_37 ?_
        refine lv_ladd hx hb dX0_widened_40 ?_
        exact ps_lret S hr hlk dX0_widened_41 (by first | (simp [nWiden, eq_false c_1, eq_false c_2, eq_false c_3]; done) | (simp [nWiden, c_1, c_2, c_3]; done) | contradiction | rfl)
    · refine lv_iconst (v := 3) hx hb dX0_widened_17 (by decide) ?_
      refine ps_call (rest := []) S (c_X0_infinity l 3) gX0_widened_X0_infinity rfl qX0_infinity ⟨Nat.le_of_ble_eq_true rfl, Nat.le_of_ble_eq_true rfl⟩ ⟨Nat.le_of_ble_eq_true rfl, Nat.le_of_ble_eq_true rfl⟩ hl.1 rfl (Nat.le_of_ble_eq_true rfl) dX0_widened_18 ?_
      exact ps_lret S hr hlk dX0_widened_21 (by first | (simp [nWiden, eq_false c_1, eq_true c_2]; done) | (simp [nWiden, c_1, c_2]; done) | contradiction | rfl)
  · refine lv_lconst (v := 0) hx hb dX0_widened_6 (by decide) ?_
    exact ps_lret S hr hlk dX0_widened_7 (by first | (simp [nWiden, eq_true c_1]; done) | (simp [nWiden, c_1]; done) | contradiction | rfl)
theorem qX0_narrowed : yX0_narrowed.cls ≠ "java/lang/invoke/MethodHandle" ∧ yX0_narrowed.cls ≠ "java/lang/invoke/VarHandle" ∧ (parseMethodDescriptor yX0_narrowed.desc).map (fun d => d.parameters.length) = some 1 := by decide +kernel
set_option maxHeartbeats 4000000 in
set_option maxRecDepth 100000 in
theorem c_X0_narrowed (l : Launch) (z : Int64) : PS l yX0_narrowed wsX0_narrowed 2 44 [.long z] (.long (nNarrow z)) := by
  refine PS.of (cc := cX0_narrowed) (maxL := 5) (ret := some .long) (own := RX0) (by decide) rfl rfl (Nat.le_of_ble_eq_true rfl) ?_
  intro p e s m below meth c ls S hr hlk hl
  have hx := S.1
  have hb := S.2.1
  have hl : lv_has ls 5 [(0, .long z)] := hl
  refine lv_iconst (v := 3) hx hb dX0_narrowed_0 (by decide) ?_
  refine lv_lload_n hx hb dX0_narrowed_1 rfl (lv_at hl 0 rfl) ?_
  refine ps_call (rest := []) S (c_X0_power l 3 z) gX0_narrowed_X0_power rfl qX0_power ⟨Nat.le_of_ble_eq_true rfl, Nat.le_of_ble_eq_true rfl⟩ ⟨Nat.le_of_ble_eq_true rfl, Nat.le_of_ble_eq_true rfl⟩ hl.1 rfl (Nat.le_of_ble_eq_true rfl) dX0_narrowed_2 ?_
  refine lv_istore_n (lv' := [(2, .int (nPow 3 z)), (0, .long z)]) hx hb dX0_narrowed_5 rfl hl (by decide) rfl (fun ls hl => ?_)
  refine lv_iload_n hx hb dX0_narrowed_6 rfl (lv_at hl 0 rfl) ?_
  refine lv_bipush (v := 127) hx hb dX0_narrowed_7 (by decide) ?_
  refine zc_le (tgt := 17) hx hb dX0_narrowed_9 (by decide) (fun c_1 => ?_) (fun c_1 => ?_)
  · refine lv_iload_n hx hb dX0_narrowed_17 rfl (lv_at hl 0 rfl) ?_
    refine lv_sipush (v := -150) hx hb dX0_narrowed_18 (by decide) ?_
    refine zc_ge (tgt := 26) hx hb dX0_narrowed_21 (by decide) (fun c_2 => ?_) (fun c_2 => ?_)
    · refine lv_iload_n hx hb dX0_narrowed_26 rfl (lv_at hl 0 rfl) ?_
      refine lv_bipush (v := -127) hx hb dX0_narrowed_27 (by decide) ?_
      refine zc_le (tgt := 45) hx hb dX0_narrowed_29 (by decide) (fun c_3 => ?_) (fun c_3 => ?_)
      · refine lv_iconst (v := 3) hx hb dX0_narrowed_45 (by decide) ?_
        refine lv_lload_n hx hb dX0_narrowed_46 rfl (lv_at hl 1 rfl) ?_
        refine ps_call (rest := []) S (c_X0_mantissa l 3 z) gX0_narrowed_X0_mantissa rfl qX0_mantissa ⟨Nat.le_of_ble_eq_true rfl, Nat.le_of_ble_eq_true rfl⟩ ⟨Nat.le_of_ble_eq_true rfl, Nat.le_of_ble_eq_true rfl⟩ hl.1 rfl (Nat.le_of_ble_eq_true rfl) dX0_narrowed_47 ?_
        refine lv_bipush (v := -97) hx hb dX0_narrowed_50 (by decide) ?_
        refine lv_iload_n hx hb dX0_narrowed_52 rfl (lv_at hl 0 rfl) ?_
        refine lv_isub hx hb dX0_narrowed_53 ?_
        refine ps_call (rest := []) S (c_X0_nearestShifted l (nMant 3 z) ((-97) - (nPow 3 z))) gX0_narrowed_X0_nearestShifted rfl qX0_nearestShifted ⟨Nat.le_of_ble_eq_true rfl, Nat.le_of_ble_eq_true rfl⟩ ⟨Nat.le_of_ble_eq_true rfl, Nat.le_of_ble_eq_true rfl⟩ hl.1 rfl (Nat.le_of_ble_eq_true rfl) dX0_narrowed_54 ?_
        exact ps_lret S hr hlk dX0_narrowed_57 (by first | (simp [nNarrow, eq_false c_1, eq_false c_2, eq_false c_3]; done) | (simp [nNarrow, c_1, c_2, c_3]; done) | contradiction | rfl)
      · refine lv_lload_n hx hb dX0_narrowed_32 rfl (lv_at hl 1 rfl) ?_
        refine lv_ldc2 hx hb S.2.2.2.1 (S.2.2.2.2 (.constantLong RX0 107 (4035225266123964416)) (by decide +kernel)) dX0_narrowed_33 ?_
        refine lv_lsub hx hb dX0_narrowed_36 ?_
        refine lv_lstore_n (lv' := [(3, .long (z - 4035225266123964416)), (2, .int (nPow 3 z)), (0, .long z)]) hx hb dX0_narrowed_37 rfl hl (by decide) rfl (fun ls hl => ?_)
        refine lv_lload_n hx hb dX0_narrowed_38 rfl (lv_at hl 0 rfl) ?_
        refine lv_bipush (v := 29) hx hb dX0_narrowed_39 (by decide) ?_
        refine ps_call (rest := []) S (c_X0_nearestShifted l (z - 4035225266123964416) 29) gX0_narrowed_X0_nearestShifted rfl qX0_nearestShifted ⟨Nat.le_of_ble_eq_true rfl, Nat.le_of_ble_eq_true rfl⟩ ⟨Nat.le_of_ble_eq_true rfl, Nat.le_of_ble_eq_true rfl⟩ hl.1 rfl (Nat.le_of_ble_eq_true rfl) dX0_narrowed_41 ?_
        exact ps_lret S hr hlk dX0_narrowed_44 (by first | (simp [nNarrow, eq_false c_1, eq_false c_2, eq_true c_3]; done) | (simp [nNarrow, c_1, c_2, c_3]; done) | contradiction | rfl)
    · refine lv_lconst (v := 0) hx hb dX0_narrowed_24 (by decide) ?_
      exact ps_lret S hr hlk dX0_narrowed_25 (by first | (simp [nNarrow, eq_false c_1, eq_true c_2]; done) | (simp [nNarrow, c_1, c_2]; done) | contradiction | rfl)
  · refine lv_iconst (v := 2) hx hb dX0_narrowed_12 (by decide) ?_
    refine ps_call (rest := []) S (c_X0_infinity l 2) gX0_narrowed_X0_infinity rfl qX0_infinity ⟨Nat.le_of_ble_eq_true rfl, Nat.le_of_ble_eq_true rfl⟩ ⟨Nat.le_of_ble_eq_true rfl, Nat.le_of_ble_eq_true rfl⟩ hl.1 rfl (Nat.le_of_ble_eq_true rfl) dX0_narrowed_13 ?_
    exact ps_lret S hr hlk dX0_narrowed_16 (by first | (simp [nNarrow, eq_true c_1]; done) | (simp [nNarrow, c_1]; done) | contradiction | rfl)
theorem qX0_ofSort : yX0_ofSort.cls ≠ "java/lang/invoke/MethodHandle" ∧ yX0_ofSort.cls ≠ "java/lang/invoke/VarHandle" ∧ (parseMethodDescriptor yX0_ofSort.desc).map (fun d => d.parameters.length) = some 3 := by decide +kernel
set_option maxHeartbeats 4000000 in
set_option maxRecDepth 100000 in
theorem c_X0_ofSort (l : Launch) (f : Int32) (v : Int64) (t : Int32) : PS l yX0_ofSort wsX0_ofSort 3 75 [.int f, .long v, .int t] (.long (nOf f v t)) := by
  refine PS.of (cc := cX0_ofSort) (maxL := 8) (ret := some .long) (own := RX0) (by decide) rfl rfl (Nat.le_of_ble_eq_true rfl) ?_
  intro p e s m below meth c ls S hr hlk hl
  have hx := S.1
  have hb := S.2.1
  have hl : lv_has ls 8 [(0, .int f), (1, .long v), (3, .int t)] := hl
  refine lv_iload_n hx hb dX0_ofSort_0 rfl (lv_at hl 0 rfl) ?_
  refine lv_iload_n hx hb dX0_ofSort_1 rfl (lv_at hl 2 rfl) ?_
  refine zc_ne (tgt := 7) hx hb dX0_ofSort_2 (by decide) (fun c_1 => ?_) (fun c_1 => ?_)
  · refine lv_iload_n hx hb dX0_ofSort_7 rfl (lv_at hl 2 rfl) ?_
    refine ps_call (rest := []) S (c_X0_isBroken l t) gX0_ofSort_X0_isBroken rfl qX0_isBroken ⟨Nat.le_of_ble_eq_true rfl, Nat.le_of_ble_eq_true rfl⟩ ⟨Nat.le_of_ble_eq_true rfl, Nat.le_of_ble_eq_true rfl⟩ hl.1 rfl (Nat.le_of_ble_eq_true rfl) dX0_ofSort_8 ?_
    refine zb_ne (P := nBroken t) (tgt := 36) hx hb dX0_ofSort_11 (by decide) (fun c_2 => ?_) (fun c_2 => ?_)
    · refine lv_iload_n hx hb dX0_ofSort_36 rfl (lv_at hl 0 rfl) ?_
      refine ps_call (rest := []) S (c_X0_isBroken l f) gX0_ofSort_X0_isBroken rfl qX0_isBroken ⟨Nat.le_of_ble_eq_true rfl, Nat.le_of_ble_eq_true rfl⟩ ⟨Nat.le_of_ble_eq_true rfl, Nat.le_of_ble_eq_true rfl⟩ hl.1 rfl (Nat.le_of_ble_eq_true rfl) dX0_ofSort_37 ?_
      refine zb_ne (P := nBroken f) (tgt := 49) hx hb dX0_ofSort_40 (by decide) (fun c_3 => ?_) (fun c_3 => ?_)
      · refine lv_iload_n hx hb dX0_ofSort_49 rfl (lv_at hl 0 rfl) ?_
        refine lv_lload_n hx hb dX0_ofSort_50 rfl (lv_at hl 1 rfl) ?_
        refine ps_call (rest := []) S (c_X0_magnitude l f v) gX0_ofSort_X0_magnitude rfl qX0_magnitude ⟨Nat.le_of_ble_eq_true rfl, Nat.le_of_ble_eq_true rfl⟩ ⟨Nat.le_of_ble_eq_true rfl, Nat.le_of_ble_eq_true rfl⟩ hl.1 rfl (Nat.le_of_ble_eq_true rfl) dX0_ofSort_51 ?_
        refine lv_lstore (lv' := [(4, .long (nMag f v)), (0, .int f), (1, .long v), (3, .int t)]) hx hb dX0_ofSort_54 hl (by decide) rfl (fun ls hl => ?_)
        refine lv_iload_n hx hb dX0_ofSort_56 rfl (lv_at hl 3 rfl) ?_
        refine lv_iconst (v := 3) hx hb dX0_ofSort_57 (by decide) ?_
        refine zc_ne (tgt := 69) hx hb dX0_ofSort_58 (by decide) (fun c_4 => ?_) (fun c_4 => ?_)
        · refine lv_lload hx hb dX0_ofSort_69 (lv_at hl 0 rfl) ?_
          refine ps_call (rest := []) S (c_X0_narrowed l (nMag f v)) gX0_ofSort_X0_narrowed rfl qX0_narrowed ⟨Nat.le_of_ble_eq_true rfl, Nat.le_of_ble_eq_true rfl⟩ ⟨Nat.le_of_ble_eq_true rfl, Nat.le_of_ble_eq_true rfl⟩ hl.1 rfl (Nat.le_of_ble_eq_true rfl) dX0_ofSort_71 ?_
          refine lv_lstore (lv' := [(6, .long (nNarrow (nMag f v))), (4, .long (nMag f v)), (0, .int f), (1, .long v), (3, .int t)]) hx hb dX0_ofSort_74 hl (by decide) rfl (fun ls hl => ?_)
          refine lv_lload_n hx hb dX0_ofSort_76 rfl (lv_at hl 3 rfl) ?_
          refine lv_lconst (v := 0) hx hb dX0_ofSort_77 (by decide) ?_
          refine zl_ge (tgt := 92) hx hb dX0_ofSort_78 dX0_ofSort_79 (by decide) (fun c_5 => ?_) (fun c_5 => ?_)
          · refine lv_lload hx hb dX0_ofSort_92 (lv_at hl 0 rfl) ?_
            exact ps_lret S hr hlk dX0_ofSort_94 (by first | (simp [nOf, nOfb, eq_false c_1, eq_true c_2, eq_true c_3, eq_false c_4, eq_false c_5]; done) | (simp [nOf, nOfb, c_1, c_2, c_3, c_4, c_5]; done) | contradiction | rfl)
          · refine lv_lload hx hb dX0_ofSort_82 (lv_at hl 0 rfl) ?_
            refine lv_iload_n hx hb dX0_ofSort_84 rfl (lv_at hl 4 rfl) ?_
            refine ps_call (rest := [.long (nNarrow (nMag f v))]) S (c_X0_signMask l t) gX0_ofSort_X0_signMask rfl qX0_signMask ⟨Nat.le_of_ble_eq_true rfl, Nat.le_of_ble_eq_true rfl⟩ ⟨Nat.le_of_ble_eq_true rfl, Nat.le_of_ble_eq_true rfl⟩ hl.1 rfl (Nat.le_of_ble_eq_true rfl) dX0_ofSort_85 ?_
            refine lv_lor hx hb dX0_ofSort_88 ?_
            refine lv_goto (tgt := 94) hx hb dX0_ofSort_89 (by decide) ?_
            exact ps_lret S hr hlk dX0_ofSort_94 (by first | (simp [nOf, nOfb, eq_false c_1, eq_true c_2, eq_true c_3, eq_false c_4, eq_true c_5]; done) | (simp [nOf, nOfb, c_1, c_2, c_3, c_4, c_5]; done) | contradiction | rfl)
        · refine lv_lload hx hb dX0_ofSort_61 (lv_at hl 0 rfl) ?_
          refine ps_call (rest := []) S (c_X0_widened l (nMag f v)) gX0_ofSort_X0_widened rfl qX0_widened ⟨Nat.le_of_ble_eq_true rfl, Nat.le_of_ble_eq_true rfl⟩ ⟨Nat.le_of_ble_eq_true rfl, Nat.le_of_ble_eq_true rfl⟩ hl.1 rfl (Nat.le_of_ble_eq_true rfl) dX0_ofSort_63 ?_
          refine lv_goto (tgt := 74) hx hb dX0_ofSort_66 (by decide) ?_
          refine lv_lstore (lv' := [(6, .long (nWiden (nMag f v))), (4, .long (nMag f v)), (0, .int f), (1, .long v), (3, .int t)]) hx hb dX0_ofSort_74 hl (by decide) rfl (fun ls hl => ?_)
          refine lv_lload_n hx hb dX0_ofSort_76 rfl (lv_at hl 3 rfl) ?_
          refine lv_lconst (v := 0) hx hb dX0_ofSort_77 (by decide) ?_
          refine zl_ge (tgt := 92) hx hb dX0_ofSort_78 dX0_ofSort_79 (by decide) (fun c_6 => ?_) (fun c_6 => ?_)
          · refine lv_lload hx hb dX0_ofSort_92 (lv_at hl 0 rfl) ?_
            exact ps_lret S hr hlk dX0_ofSort_94 (by first | (simp [nOf, nOfb, eq_false c_1, eq_true c_2, eq_true c_3, eq_true c_4, eq_false c_6]; done) | (simp [nOf, nOfb, c_1, c_2, c_3, c_4, c_6]; done) | contradiction | rfl)
          · refine lv_lload hx hb dX0_ofSort_82 (lv_at hl 0 rfl) ?_
            refine lv_iload_n hx hb dX0_ofSort_84 rfl (lv_at hl 4 rfl) ?_
            refine ps_call (rest := [.long (nWiden (nMag f v))]) S (c_X0_signMask l t) gX0_ofSort_X0_signMask rfl qX0_signMask ⟨Nat.le_of_ble_eq_true rfl, Nat.le_of_ble_eq_true rfl⟩ ⟨Nat.le_of_ble_eq_true rfl, Nat.le_of_ble_eq_true rfl⟩ hl.1 rfl (Nat.le_of_ble_eq_true rfl) dX0_ofSort_85 ?_
            refine lv_lor hx hb dX0_ofSort_88 ?_
            refine lv_goto (tgt := 94) hx hb dX0_ofSort_89 (by decide) ?_
            exact ps_lret S hr hlk dX0_ofSort_94 (by first | (simp [nOf, nOfb, eq_false c_1, eq_true c_2, eq_true c_3, eq_true c_4, eq_true c_6]; done) | (simp [nOf, nOfb, c_1, c_2, c_3, c_4, c_6]; done) | contradiction | rfl)
      · refine lv_lload_n hx hb dX0_ofSort_43 rfl (lv_at hl 1 rfl) ?_
        refine lv_iload_n hx hb dX0_ofSort_44 rfl (lv_at hl 2 rfl) ?_
        refine ps_call (rest := []) S (c_X0_wholeToBroken l v t) gX0_ofSort_X0_wholeToBroken rfl qX0_wholeToBroken ⟨Nat.le_of_ble_eq_true rfl, Nat.le_of_ble_eq_true rfl⟩ ⟨Nat.le_of_ble_eq_true rfl, Nat.le_of_ble_eq_true rfl⟩ hl.1 rfl (Nat.le_of_ble_eq_true rfl) dX0_ofSort_45 ?_
        exact ps_lret S hr hlk dX0_ofSort_48 (by first | (simp [nOf, nOfb, eq_false c_1, eq_true c_2, eq_false c_3]; done) | (simp [nOf, nOfb, c_1, c_2, c_3]; done) | contradiction | rfl)
    · refine lv_iload_n hx hb dX0_ofSort_14 rfl (lv_at hl 0 rfl) ?_
      refine ps_call (rest := []) S (c_X0_isBroken l f) gX0_ofSort_X0_isBroken rfl qX0_isBroken ⟨Nat.le_of_ble_eq_true rfl, Nat.le_of_ble_eq_true rfl⟩ ⟨Nat.le_of_ble_eq_true rfl, Nat.le_of_ble_eq_true rfl⟩ hl.1 rfl (Nat.le_of_ble_eq_true rfl) dX0_ofSort_15 ?_
      refine zb_eq (P := nBroken f) (tgt := 30) hx hb dX0_ofSort_18 (by decide) (fun c_7 => ?_) (fun c_7 => ?_)
      · refine lv_iload_n hx hb dX0_ofSort_30 rfl (lv_at hl 2 rfl) ?_
        refine lv_lload_n hx hb dX0_ofSort_31 rfl (lv_at hl 1 rfl) ?_
        refine ps_call (rest := []) S (c_X0_fitted l t v) gX0_ofSort_X0_fitted rfl qX0_fitted ⟨Nat.le_of_ble_eq_true rfl, Nat.le_of_ble_eq_true rfl⟩ ⟨Nat.le_of_ble_eq_true rfl, Nat.le_of_ble_eq_true rfl⟩ hl.1 rfl (Nat.le_of_ble_eq_true rfl) dX0_ofSort_32 ?_
        exact ps_lret S hr hlk dX0_ofSort_35 (by first | (simp [nOf, nOfb, eq_false c_1, eq_false c_2, eq_false c_7]; done) | (simp [nOf, nOfb, c_1, c_2, c_7]; done) | contradiction | rfl)
      · refine lv_iload_n hx hb dX0_ofSort_21 rfl (lv_at hl 0 rfl) ?_
        refine lv_lload_n hx hb dX0_ofSort_22 rfl (lv_at hl 1 rfl) ?_
        refine lv_iload_n hx hb dX0_ofSort_23 rfl (lv_at hl 2 rfl) ?_
        refine ps_call (rest := []) S (c_X0_brokenToWhole l f v t) gX0_ofSort_X0_brokenToWhole rfl qX0_brokenToWhole ⟨Nat.le_of_ble_eq_true rfl, Nat.le_of_ble_eq_true rfl⟩ ⟨Nat.le_of_ble_eq_true rfl, Nat.le_of_ble_eq_true rfl⟩ hl.1 rfl (Nat.le_of_ble_eq_true rfl) dX0_ofSort_24 ?_
        refine lv_goto (tgt := 35) hx hb dX0_ofSort_27 (by decide) ?_
        exact ps_lret S hr hlk dX0_ofSort_35 (by first | (simp [nOf, nOfb, eq_false c_1, eq_false c_2, eq_true c_7]; done) | (simp [nOf, nOfb, c_1, c_2, c_7]; done) | contradiction | rfl)
  · refine lv_lload_n hx hb dX0_ofSort_5 rfl (lv_at hl 1 rfl) ?_
    exact ps_lret S hr hlk dX0_ofSort_6 (by first | (simp [nOf, nOfb, eq_true c_1]; done) | (simp [nOf, nOfb, c_1]; done) | contradiction | rfl)
