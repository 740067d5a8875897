theorem qX0_isBroken : yX0_isBroken.cls ≠ "java/lang/invoke/MethodHandle" ∧ yX0_isBroken.cls ≠ "java/lang/invoke/VarHandle" ∧ (parseMethodDescriptor yX0_isBroken.desc).map (fun d => d.parameters.length) = some 1 := by decide +kernel
set_option maxHeartbeats 4000000 in
set_option maxRecDepth 100000 in
theorem c_X0_isBroken (l : Launch) (t : Int32) : PS l yX0_isBroken wsX0_isBroken 0 0 [.int t] (.int (if nBroken t then 1 else 0)) := by
  refine PS.of (cc := cX0_isBroken) (maxL := 1) (ret := some .boolean) (own := RX0) (by decide) rfl rfl (Nat.le_of_ble_eq_true rfl) ?_
  intro p e s m below meth c ls S hr hlk hl
  have hx := S.1
  have hb := S.2.1
  have hl : lv_has ls 1 [(0, .int t)] := hl
  refine lv_iload_n hx hb dX0_isBroken_0 rfl (lv_at hl 0 rfl) ?_
  refine lv_iconst (v := 2) hx hb dX0_isBroken_1 (by decide) ?_
  refine zc_eq (tgt := 10) hx hb dX0_isBroken_2 (by decide) (fun c_1 => ?_) (fun c_1 => ?_)
  · refine lv_iconst (v := 1) hx hb dX0_isBroken_10 (by decide) ?_
    refine lv_goto (tgt := 15) hx hb dX0_isBroken_11 (by decide) ?_
    exact ps_zret S hr hlk dX0_isBroken_15 (by decide) (by first | (simp [nBroken, eq_true c_1]; done) | (simp [nBroken, c_1]; done) | contradiction | rfl)
  · refine lv_iload_n hx hb dX0_isBroken_5 rfl (lv_at hl 0 rfl) ?_
    refine lv_iconst (v := 3) hx hb dX0_isBroken_6 (by decide) ?_
    refine zc_ne (tgt := 14) hx hb dX0_isBroken_7 (by decide) (fun c_2 => ?_) (fun c_2 => ?_)
    · refine lv_iconst (v := 0) hx hb dX0_isBroken_14 (by decide) ?_
      exact ps_zret S hr hlk dX0_isBroken_15 (by decide) (by first | (simp [nBroken, eq_false c_1, eq_false c_2]; done) | (simp [nBroken, c_1, c_2]; done) | contradiction | rfl)
    · refine lv_iconst (v := 1) hx hb dX0_isBroken_10 (by decide) ?_
      refine lv_goto (tgt := 15) hx hb dX0_isBroken_11 (by decide) ?_
      exact ps_zret S hr hlk dX0_isBroken_15 (by decide) (by first | (simp [nBroken, eq_false c_1, eq_true c_2]; done) | (simp [nBroken, c_1, c_2]; done) | contradiction | rfl)
theorem qX0_fitted : yX0_fitted.cls ≠ "java/lang/invoke/MethodHandle" ∧ yX0_fitted.cls ≠ "java/lang/invoke/VarHandle" ∧ (parseMethodDescriptor yX0_fitted.desc).map (fun d => d.parameters.length) = some 2 := by decide +kernel
set_option maxHeartbeats 4000000 in
set_option maxRecDepth 100000 in
theorem c_X0_fitted (l : Launch) (t : Int32) (v : Int64) : PS l yX0_fitted wsX0_fitted 0 0 [.int t, .long v] (.long (nFit t v)) := by
  refine PS.of (cc := cX0_fitted) (maxL := 3) (ret := some .long) (own := RX0) (by decide) rfl rfl (Nat.le_of_ble_eq_true rfl) ?_
  intro p e s m below meth c ls S hr hlk hl
  have hx := S.1
  have hb := S.2.1
  have hl : lv_has ls 3 [(0, .int t), (1, .long v)] := hl
  refine lv_iload_n hx hb dX0_fitted_0 rfl (lv_at hl 0 rfl) ?_
  refine zi_eq (tgt := 9) hx hb dX0_fitted_1 (by decide) (fun c_1 => ?_) (fun c_1 => ?_)
  · refine lv_lload_n hx hb dX0_fitted_9 rfl (lv_at hl 1 rfl) ?_
    refine lv_l2i (v := Int64.toInt32 v) hx hb dX0_fitted_10 rfl ?_
    refine lv_i2l (v := Int32.toInt64 (Int64.toInt32 v)) hx hb dX0_fitted_11 rfl ?_
    refine lv_goto (tgt := 16) hx hb dX0_fitted_12 (by decide) ?_
    exact ps_lret S hr hlk dX0_fitted_16 (by first | (simp [nFit, eq_true c_1]; done) | (simp [nFit, c_1]; done) | contradiction | rfl)
  · refine lv_iload_n hx hb dX0_fitted_4 rfl (lv_at hl 0 rfl) ?_
    refine lv_iconst (v := 2) hx hb dX0_fitted_5 (by decide) ?_
    refine zc_ne (tgt := 15) hx hb dX0_fitted_6 (by decide) (fun c_2 => ?_) (fun c_2 => ?_)
    · refine lv_lload_n hx hb dX0_fitted_15 rfl (lv_at hl 1 rfl) ?_
      exact ps_lret S hr hlk dX0_fitted_16 (by first | (simp [nFit, eq_false c_1, eq_false c_2]; done) | (simp [nFit, c_1, c_2]; done) | contradiction | rfl)
    · refine lv_lload_n hx hb dX0_fitted_9 rfl (lv_at hl 1 rfl) ?_
      refine lv_l2i (v := Int64.toInt32 v) hx hb dX0_fitted_10 rfl ?_
      refine lv_i2l (v := Int32.toInt64 (Int64.toInt32 v)) hx hb dX0_fitted_11 rfl ?_
      refine lv_goto (tgt := 16) hx hb dX0_fitted_12 (by decide) ?_
      exact ps_lret S hr hlk dX0_fitted_16 (by first | (simp [nFit, eq_false c_1, eq_true c_2]; done) | (simp [nFit, c_1, c_2]; done) | contradiction | rfl)
theorem qX0_signMask : yX0_signMask.cls ≠ "java/lang/invoke/MethodHandle" ∧ yX0_signMask.cls ≠ "java/lang/invoke/VarHandle" ∧ (parseMethodDescriptor yX0_signMask.desc).map (fun d => d.parameters.length) = some 1 := by decide +kernel
set_option maxHeartbeats 4000000 in
set_option maxRecDepth 100000 in
theorem c_X0_signMask (l : Launch) (t : Int32) : PS l yX0_signMask wsX0_signMask 0 0 [.int t] (.long (nMask t)) := by
  refine PS.of (cc := cX0_signMask) (maxL := 1) (ret := some .long) (own := RX0) (by decide) rfl rfl (Nat.le_of_ble_eq_true rfl) ?_
  intro p e s m below meth c ls S hr hlk hl
  have hx := S.1
  have hb := S.2.1
  have hl : lv_has ls 1 [(0, .int t)] := hl
  refine lv_iload_n hx hb dX0_signMask_0 rfl (lv_at hl 0 rfl) ?_
  refine lv_iconst (v := 2) hx hb dX0_signMask_1 (by decide) ?_
  refine zc_ne (tgt := 11) hx hb dX0_signMask_2 (by decide) (fun c_1 => ?_) (fun c_1 => ?_)
  · refine lv_ldc2 hx hb S.2.2.2.1 (S.2.2.2.2 (.constantLong RX0 73 (-9223372036854775808)) (by decide +kernel)) dX0_signMask_11 ?_
    exact ps_lret S hr hlk dX0_signMask_14 (by first | (simp [nMask, eq_false c_1]; done) | (simp [nMask, c_1]; done) | contradiction | rfl)
  · refine lv_ldc2 hx hb S.2.2.2.1 (S.2.2.2.2 (.constantLong RX0 71 (-2147483648)) (by decide +kernel)) dX0_signMask_5 ?_
    refine lv_goto (tgt := 14) hx hb dX0_signMask_8 (by decide) ?_
    exact ps_lret S hr hlk dX0_signMask_14 (by first | (simp [nMask, eq_true c_1]; done) | (simp [nMask, c_1]; done) | contradiction | rfl)
theorem qX0_magnitude : yX0_magnitude.cls ≠ "java/lang/invoke/MethodHandle" ∧ yX0_magnitude.cls ≠ "java/lang/invoke/VarHandle" ∧ (parseMethodDescriptor yX0_magnitude.desc).map (fun d => d.parameters.length) = some 2 := by decide +kernel
set_option maxHeartbeats 4000000 in
set_option maxRecDepth 100000 in
theorem c_X0_magnitude (l : Launch) (t : Int32) (v : Int64) : PS l yX0_magnitude wsX0_magnitude 1 20 [.int t, .long v] (.long (nMag t v)) := by
  refine PS.of (cc := cX0_magnitude) (maxL := 3) (ret := some .long) (own := RX0) (by decide) rfl rfl (Nat.le_of_ble_eq_true rfl) ?_
  intro p e s m below meth c ls S hr hlk hl
  have hx := S.1
  have hb := S.2.1
  have hl : lv_has ls 3 [(0, .int t), (1, .long v)] := hl
  refine lv_lload_n hx hb dX0_magnitude_0 rfl (lv_at hl 1 rfl) ?_
  refine lv_iload_n hx hb dX0_magnitude_1 rfl (lv_at hl 0 rfl) ?_
  refine ps_call (rest := [.long v]) S (c_X0_signMask l t) gX0_magnitude_X0_signMask rfl qX0_signMask ⟨Nat.le_of_ble_eq_true rfl, Nat.le_of_ble_eq_true rfl⟩ ⟨Nat.le_of_ble_eq_true rfl, Nat.le_of_ble_eq_true rfl⟩ hl.1 rfl (Nat.le_of_ble_eq_true rfl) dX0_magnitude_2 ?_
  refine lv_ldc2 hx hb S.2.2.2.1 (S.2.2.2.2 (.constantLong RX0 75 (-1)) (by decide +kernel)) dX0_magnitude_5 ?_
  refine lv_lxor hx hb dX0_magnitude_8 ?_
  refine lv_land hx hb dX0_magnitude_9 ?_
  exact ps_lret S hr hlk dX0_magnitude_10 (by first | (simp [nMag]; done) | (simp [nMag]; done) | contradiction | rfl)
theorem qX0_fractionBits : yX0_fractionBits.cls ≠ "java/lang/invoke/MethodHandle" ∧ yX0_fractionBits.cls ≠ "java/lang/invoke/VarHandle" ∧ (parseMethodDescriptor yX0_fractionBits.desc).map (fun d => d.parameters.length) = some 1 := by decide +kernel
set_option maxHeartbeats 4000000 in
set_option maxRecDepth 100000 in
theorem c_X0_fractionBits (l : Launch) (t : Int32) : PS l yX0_fractionBits wsX0_fractionBits 0 0 [.int t] (.int (nFrac t)) := by
  refine PS.of (cc := cX0_fractionBits) (maxL := 1) (ret := some .int) (own := RX0) (by decide) rfl rfl (Nat.le_of_ble_eq_true rfl) ?_
  intro p e s m below meth c ls S hr hlk hl
  have hx := S.1
  have hb := S.2.1
  have hl : lv_has ls 1 [(0, .int t)] := hl
  refine lv_iload_n hx hb dX0_fractionBits_0 rfl (lv_at hl 0 rfl) ?_
  refine lv_iconst (v := 2) hx hb dX0_fractionBits_1 (by decide) ?_
  refine zc_ne (tgt := 10) hx hb dX0_fractionBits_2 (by decide) (fun c_1 => ?_) (fun c_1 => ?_)
  · refine lv_bipush (v := 52) hx hb dX0_fractionBits_10 (by decide) ?_
    exact ps_iret S hr hlk dX0_fractionBits_12 (by first | (simp [nFrac, eq_false c_1]; done) | (simp [nFrac, c_1]; done) | contradiction | rfl)
  · refine lv_bipush (v := 23) hx hb dX0_fractionBits_5 (by decide) ?_
    refine lv_goto (tgt := 12) hx hb dX0_fractionBits_7 (by decide) ?_
    exact ps_iret S hr hlk dX0_fractionBits_12 (by first | (simp [nFrac, eq_true c_1]; done) | (simp [nFrac, c_1]; done) | contradiction | rfl)
theorem qX0_bias : yX0_bias.cls ≠ "java/lang/invoke/MethodHandle" ∧ yX0_bias.cls ≠ "java/lang/invoke/VarHandle" ∧ (parseMethodDescriptor yX0_bias.desc).map (fun d => d.parameters.length) = some 1 := by decide +kernel
set_option maxHeartbeats 4000000 in
set_option maxRecDepth 100000 in
theorem c_X0_bias (l : Launch) (t : Int32) : PS l yX0_bias wsX0_bias 0 0 [.int t] (.int (nBias t)) := by
  refine PS.of (cc := cX0_bias) (maxL := 1) (ret := some .int) (own := RX0) (by decide) rfl rfl (Nat.le_of_ble_eq_true rfl) ?_
  intro p e s m below meth c ls S hr hlk hl
  have hx := S.1
  have hb := S.2.1
  have hl : lv_has ls 1 [(0, .int t)] := hl
  refine lv_iload_n hx hb dX0_bias_0 rfl (lv_at hl 0 rfl) ?_
  refine lv_iconst (v := 2) hx hb dX0_bias_1 (by decide) ?_
  refine zc_ne (tgt := 10) hx hb dX0_bias_2 (by decide) (fun c_1 => ?_) (fun c_1 => ?_)
  · refine lv_sipush (v := 1023) hx hb dX0_bias_10 (by decide) ?_
    exact ps_iret S hr hlk dX0_bias_13 (by first | (simp [nBias, eq_false c_1]; done) | (simp [nBias, c_1]; done) | contradiction | rfl)
  · refine lv_bipush (v := 127) hx hb dX0_bias_5 (by decide) ?_
    refine lv_goto (tgt := 13) hx hb dX0_bias_7 (by decide) ?_
    exact ps_iret S hr hlk dX0_bias_13 (by first | (simp [nBias, eq_true c_1]; done) | (simp [nBias, c_1]; done) | contradiction | rfl)
theorem qX0_infinity : yX0_infinity.cls ≠ "java/lang/invoke/MethodHandle" ∧ yX0_infinity.cls ≠ "java/lang/invoke/VarHandle" ∧ (parseMethodDescriptor yX0_infinity.desc).map (fun d => d.parameters.length) = some 1 := by decide +kernel
set_option maxHeartbeats 4000000 in
set_option maxRecDepth 100000 in
theorem c_X0_infinity (l : Launch) (t : Int32) : PS l yX0_infinity wsX0_infinity 1 20 [.int t] (.long (nInf t)) := by
  refine PS.of (cc := cX0_infinity) (maxL := 1) (ret := some .long) (own := RX0) (by decide) rfl rfl (Nat.le_of_ble_eq_true rfl) ?_
  intro p e s m below meth c ls S hr hlk hl
  have hx := S.1
  have hb := S.2.1
  have hl : lv_has ls 1 [(0, .int t)] := hl
  refine lv_iconst (v := 2) hx hb dX0_infinity_0 (by decide) ?_
  refine lv_iload_n hx hb dX0_infinity_1 rfl (lv_at hl 0 rfl) ?_
  refine ps_call (rest := [.int 2]) S (c_X0_bias l t) gX0_infinity_X0_bias rfl qX0_bias ⟨Nat.le_of_ble_eq_true rfl, Nat.le_of_ble_eq_true rfl⟩ ⟨Nat.le_of_ble_eq_true rfl, Nat.le_of_ble_eq_true rfl⟩ hl.1 rfl (Nat.le_of_ble_eq_true rfl) dX0_infinity_2 ?_
  refine lv_imul hx hb dX0_infinity_5 ?_
  refine lv_iconst (v := 1) hx hb dX0_infinity_6 (by decide) ?_
  refine lv_iadd hx hb dX0_infinity_7 ?_
  refine lv_i2l (v := Int32.toInt64 ((2 * (nBias t)) + 1)) hx hb dX0_infinity_8 rfl ?_
  refine lv_iload_n hx hb dX0_infinity_9 rfl (lv_at hl 0 rfl) ?_
  refine ps_call (rest := [.long (Int32.toInt64 ((2 * (nBias t)) + 1))]) S (c_X0_fractionBits l t) gX0_infinity_X0_fractionBits rfl qX0_fractionBits ⟨Nat.le_of_ble_eq_true rfl, Nat.le_of_ble_eq_true rfl⟩ ⟨Nat.le_of_ble_eq_true rfl, Nat.le_of_ble_eq_true rfl⟩ hl.1 rfl (Nat.le_of_ble_eq_true rfl) dX0_infinity_10 ?_
  refine lv_lshl (v := jshl (Int32.toInt64 ((2 * (nBias t)) + 1)) (nFrac t)) hx hb dX0_infinity_13 rfl ?_
  exact ps_lret S hr hlk dX0_infinity_14 (by first | (simp [nInf]; done) | (simp [nInf]; done) | contradiction | rfl)
theorem qX0_one : yX0_one.cls ≠ "java/lang/invoke/MethodHandle" ∧ yX0_one.cls ≠ "java/lang/invoke/VarHandle" ∧ (parseMethodDescriptor yX0_one.desc).map (fun d => d.parameters.length) = some 1 := by decide +kernel
set_option maxHeartbeats 4000000 in
set_option maxRecDepth 100000 in
theorem c_X0_one (l : Launch) (t : Int32) : PS l yX0_one wsX0_one 1 20 [.int t] (.long (nOne t)) := by
  refine PS.of (cc := cX0_one) (maxL := 1) (ret := some .long) (own := RX0) (by decide) rfl rfl (Nat.le_of_ble_eq_true rfl) ?_
  intro p e s m below meth c ls S hr hlk hl
  have hx := S.1
  have hb := S.2.1
  have hl : lv_has ls 1 [(0, .int t)] := hl
  refine lv_iload_n hx hb dX0_one_0 rfl (lv_at hl 0 rfl) ?_
  refine ps_call (rest := []) S (c_X0_bias l t) gX0_one_X0_bias rfl qX0_bias ⟨Nat.le_of_ble_eq_true rfl, Nat.le_of_ble_eq_true rfl⟩ ⟨Nat.le_of_ble_eq_true rfl, Nat.le_of_ble_eq_true rfl⟩ hl.1 rfl (Nat.le_of_ble_eq_true rfl) dX0_one_1 ?_
  refine lv_i2l (v := Int32.toInt64 (nBias t)) hx hb dX0_one_4 rfl ?_
  refine lv_iload_n hx hb dX0_one_5 rfl (lv_at hl 0 rfl) ?_
  refine ps_call (rest := [.long (Int32.toInt64 (nBias t))]) S (c_X0_fractionBits l t) gX0_one_X0_fractionBits rfl qX0_fractionBits ⟨Nat.le_of_ble_eq_true rfl, Nat.le_of_ble_eq_true rfl⟩ ⟨Nat.le_of_ble_eq_true rfl, Nat.le_of_ble_eq_true rfl⟩ hl.1 rfl (Nat.le_of_ble_eq_true rfl) dX0_one_6 ?_
  refine lv_lshl (v := jshl (Int32.toInt64 (nBias t)) (nFrac t)) hx hb dX0_one_9 rfl ?_
  exact ps_lret S hr hlk dX0_one_10 (by first | (simp [nOne]; done) | (simp [nOne]; done) | contradiction | rfl)
theorem qX0_half : yX0_half.cls ≠ "java/lang/invoke/MethodHandle" ∧ yX0_half.cls ≠ "java/lang/invoke/VarHandle" ∧ (parseMethodDescriptor yX0_half.desc).map (fun d => d.parameters.length) = some 1 := by decide +kernel
set_option maxHeartbeats 4000000 in
set_option maxRecDepth 100000 in
theorem c_X0_half (l : Launch) (t : Int32) : PS l yX0_half wsX0_half 1 20 [.int t] (.long (nHalf t)) := by
  refine PS.of (cc := cX0_half) (maxL := 1) (ret := some .long) (own := RX0) (by decide) rfl rfl (Nat.le_of_ble_eq_true rfl) ?_
  intro p e s m below meth c ls S hr hlk hl
  have hx := S.1
  have hb := S.2.1
  have hl : lv_has ls 1 [(0, .int t)] := hl
  refine lv_iload_n hx hb dX0_half_0 rfl (lv_at hl 0 rfl) ?_
  refine ps_call (rest := []) S (c_X0_bias l t) gX0_half_X0_bias rfl qX0_bias ⟨Nat.le_of_ble_eq_true rfl, Nat.le_of_ble_eq_true rfl⟩ ⟨Nat.le_of_ble_eq_true rfl, Nat.le_of_ble_eq_true rfl⟩ hl.1 rfl (Nat.le_of_ble_eq_true rfl) dX0_half_1 ?_
  refine lv_iconst (v := 1) hx hb dX0_half_4 (by decide) ?_
  refine lv_isub hx hb dX0_half_5 ?_
  refine lv_i2l (v := Int32.toInt64 ((nBias t) - 1)) hx hb dX0_half_6 rfl ?_
  refine lv_iload_n hx hb dX0_half_7 rfl (lv_at hl 0 rfl) ?_
  refine ps_call (rest := [.long (Int32.toInt64 ((nBias t) - 1))]) S (c_X0_fractionBits l t) gX0_half_X0_fractionBits rfl qX0_fractionBits ⟨Nat.le_of_ble_eq_true rfl, Nat.le_of_ble_eq_true rfl⟩ ⟨Nat.le_of_ble_eq_true rfl, Nat.le_of_ble_eq_true rfl⟩ hl.1 rfl (Nat.le_of_ble_eq_true rfl) dX0_half_8 ?_
  refine lv_lshl (v := jshl (Int32.toInt64 ((nBias t) - 1)) (nFrac t)) hx hb dX0_half_11 rfl ?_
  exact ps_lret S hr hlk dX0_half_12 (by first | (simp [nHalf]; done) | (simp [nHalf]; done) | contradiction | rfl)
theorem qX0_power : yX0_power.cls ≠ "java/lang/invoke/MethodHandle" ∧ yX0_power.cls ≠ "java/lang/invoke/VarHandle" ∧ (parseMethodDescriptor yX0_power.desc).map (fun d => d.parameters.length) = some 2 := by decide +kernel
set_option maxHeartbeats 4000000 in
set_option maxRecDepth 100000 in
theorem c_X0_power (l : Launch) (t : Int32) (z : Int64) : PS l yX0_power wsX0_power 1 20 [.int t, .long z] (.int (nPow t z)) := by
  refine PS.of (cc := cX0_power) (maxL := 3) (ret := some .int) (own := RX0) (by decide) rfl rfl (Nat.le_of_ble_eq_true rfl) ?_
  intro p e s m below meth c ls S hr hlk hl
  have hx := S.1
  have hb := S.2.1
  have hl : lv_has ls 3 [(0, .int t), (1, .long z)] := hl
  refine lv_lload_n hx hb dX0_power_0 rfl (lv_at hl 1 rfl) ?_
  refine lv_iload_n hx hb dX0_power_1 rfl (lv_at hl 0 rfl) ?_
  refine ps_call (rest := [.long z]) S (c_X0_fractionBits l t) gX0_power_X0_fractionBits rfl qX0_fractionBits ⟨Nat.le_of_ble_eq_true rfl, Nat.le_of_ble_eq_true rfl⟩ ⟨Nat.le_of_ble_eq_true rfl, Nat.le_of_ble_eq_true rfl⟩ hl.1 rfl (Nat.le_of_ble_eq_true rfl) dX0_power_2 ?_
  refine lv_lushr (v := jushr z (nFrac t)) hx hb dX0_power_5 rfl ?_
  refine lv_l2i (v := Int64.toInt32 (jushr z (nFrac t))) hx hb dX0_power_6 rfl ?_
  refine lv_iload_n hx hb dX0_power_7 rfl (lv_at hl 0 rfl) ?_
  refine ps_call (rest := [.int (Int64.toInt32 (jushr z (nFrac t)))]) S (c_X0_bias l t) gX0_power_X0_bias rfl qX0_bias ⟨Nat.le_of_ble_eq_true rfl, Nat.le_of_ble_eq_true rfl⟩ ⟨Nat.le_of_ble_eq_true rfl, Nat.le_of_ble_eq_true rfl⟩ hl.1 rfl (Nat.le_of_ble_eq_true rfl) dX0_power_8 ?_
  refine lv_isub hx hb dX0_power_11 ?_
  exact ps_iret S hr hlk dX0_power_12 (by first | (simp [nPow]; done) | (simp [nPow]; done) | contradiction | rfl)
theorem qX0_mantissa : yX0_mantissa.cls ≠ "java/lang/invoke/MethodHandle" ∧ yX0_mantissa.cls ≠ "java/lang/invoke/VarHandle" ∧ (parseMethodDescriptor yX0_mantissa.desc).map (fun d => d.parameters.length) = some 2 := by decide +kernel
set_option maxHeartbeats 4000000 in
set_option maxRecDepth 100000 in
theorem c_X0_mantissa (l : Launch) (t : Int32) (z : Int64) : PS l yX0_mantissa wsX0_mantissa 1 20 [.int t, .long z] (.long (nMant t z)) := by
  refine PS.of (cc := cX0_mantissa) (maxL := 5) (ret := some .long) (own := RX0) (by decide) rfl rfl (Nat.le_of_ble_eq_true rfl) ?_
  intro p e s m below meth c ls S hr hlk hl
  have hx := S.1
  have hb := S.2.1
  have hl : lv_has ls 5 [(0, .int t), (1, .long z)] := hl
  refine lv_lconst (v := 1) hx hb dX0_mantissa_0 (by decide) ?_
  refine lv_iload_n hx hb dX0_mantissa_1 rfl (lv_at hl 0 rfl) ?_
  refine ps_call (rest := [.long 1]) S (c_X0_fractionBits l t) gX0_mantissa_X0_fractionBits rfl qX0_fractionBits ⟨Nat.le_of_ble_eq_true rfl, Nat.le_of_ble_eq_true rfl⟩ ⟨Nat.le_of_ble_eq_true rfl, Nat.le_of_ble_eq_true rfl⟩ hl.1 rfl (Nat.le_of_ble_eq_true rfl) dX0_mantissa_2 ?_
  refine lv_lshl (v := jshl 1 (nFrac t)) hx hb dX0_mantissa_5 rfl ?_
  refine lv_lstore_n (lv' := [(3, .long (jshl 1 (nFrac t))), (0, .int t), (1, .long z)]) hx hb dX0_mantissa_6 rfl hl (by decide) rfl (fun ls hl => ?_)
  refine lv_lload_n hx hb dX0_mantissa_7 rfl (lv_at hl 2 rfl) ?_
  refine lv_lload_n hx hb dX0_mantissa_8 rfl (lv_at hl 0 rfl) ?_
  refine lv_lconst (v := 1) hx hb dX0_mantissa_9 (by decide) ?_
  refine lv_lsub hx hb dX0_mantissa_10 ?_
  refine lv_land hx hb dX0_mantissa_11 ?_
  refine lv_lload_n hx hb dX0_mantissa_12 rfl (lv_at hl 0 rfl) ?_
  refine lv_lor hx hb dX0_mantissa_13 ?_
  exact ps_lret S hr hlk dX0_mantissa_14 (by first | (simp [nMant]; done) | (simp [nMant]; done) | contradiction | rfl)
theorem qX0_isNumber : yX0_isNumber.cls ≠ "java/lang/invoke/MethodHandle" ∧ yX0_isNumber.cls ≠ "java/lang/invoke/VarHandle" ∧ (parseMethodDescriptor yX0_isNumber.desc).map (fun d => d.parameters.length) = some 2 := by decide +kernel
set_option maxHeartbeats 4000000 in
set_option maxRecDepth 100000 in
theorem c_X0_isNumber (l : Launch) (t : Int32) (v : Int64) : PS l yX0_isNumber wsX0_isNumber 2 42 [.int t, .long v] (.int (if nNum t v then 1 else 0)) := by
  refine PS.of (cc := cX0_isNumber) (maxL := 3) (ret := some .boolean) (own := RX0) (by decide) rfl rfl (Nat.le_of_ble_eq_true rfl) ?_
  intro p e s m below meth c ls S hr hlk hl
  have hx := S.1
  have hb := S.2.1
  have hl : lv_has ls 3 [(0, .int t), (1, .long v)] := hl
  refine lv_iload_n hx hb dX0_isNumber_0 rfl (lv_at hl 0 rfl) ?_
  refine ps_call (rest := []) S (c_X0_isBroken l t) gX0_isNumber_X0_isBroken rfl qX0_isBroken ⟨Nat.le_of_ble_eq_true rfl, Nat.le_of_ble_eq_true rfl⟩ ⟨Nat.le_of_ble_eq_true rfl, Nat.le_of_ble_eq_true rfl⟩ hl.1 rfl (Nat.le_of_ble_eq_true rfl) dX0_isNumber_1 ?_
  refine zb_eq (P := nBroken t) (tgt := 24) hx hb dX0_isNumber_4 (by decide) (fun c_1 => ?_) (fun c_1 => ?_)
  · refine lv_iconst (v := 1) hx hb dX0_isNumber_24 (by decide) ?_
    refine lv_goto (tgt := 29) hx hb dX0_isNumber_25 (by decide) ?_
    exact ps_zret S hr hlk dX0_isNumber_29 (by decide) (by first | (simp [nNum, eq_false c_1]; done) | (simp [nNum, c_1]; done) | contradiction | rfl)
  · refine lv_iload_n hx hb dX0_isNumber_7 rfl (lv_at hl 0 rfl) ?_
    refine lv_iload_n hx hb dX0_isNumber_8 rfl (lv_at hl 0 rfl) ?_
    refine lv_lload_n hx hb dX0_isNumber_9 rfl (lv_at hl 1 rfl) ?_
    refine ps_call (rest := [.int t]) S (c_X0_fitted l t v) gX0_isNumber_X0_fitted rfl qX0_fitted ⟨Nat.le_of_ble_eq_true rfl, Nat.le_of_ble_eq_true rfl⟩ ⟨Nat.le_of_ble_eq_true rfl, Nat.le_of_ble_eq_true rfl⟩ hl.1 rfl (Nat.le_of_ble_eq_true rfl) dX0_isNumber_10 ?_
    refine ps_call (rest := []) S (c_X0_magnitude l t (nFit t v)) gX0_isNumber_X0_magnitude rfl qX0_magnitude ⟨Nat.le_of_ble_eq_true rfl, Nat.le_of_ble_eq_true rfl⟩ ⟨Nat.le_of_ble_eq_true rfl, Nat.le_of_ble_eq_true rfl⟩ hl.1 rfl (Nat.le_of_ble_eq_true rfl) dX0_isNumber_13 ?_
    refine lv_iload_n hx hb dX0_isNumber_16 rfl (lv_at hl 0 rfl) ?_
    refine ps_call (rest := [.long (nMag t (nFit t v))]) S (c_X0_infinity l t) gX0_isNumber_X0_infinity rfl qX0_infinity ⟨Nat.le_of_ble_eq_true rfl, Nat.le_of_ble_eq_true rfl⟩ ⟨Nat.le_of_ble_eq_true rfl, Nat.le_of_ble_eq_true rfl⟩ hl.1 rfl (Nat.le_of_ble_eq_true rfl) dX0_isNumber_17 ?_
    refine zl_gt (tgt := 28) hx hb dX0_isNumber_20 dX0_isNumber_21 (by decide) (fun c_2 => ?_) (fun c_2 => ?_)
    · refine lv_iconst (v := 0) hx hb dX0_isNumber_28 (by decide) ?_
      exact ps_zret S hr hlk dX0_isNumber_29 (by decide) (by first | (simp [nNum, eq_true c_1, eq_true c_2]; done) | (simp [nNum, c_1, c_2]; done) | contradiction | rfl)
    · refine lv_iconst (v := 1) hx hb dX0_isNumber_24 (by decide) ?_
      refine lv_goto (tgt := 29) hx hb dX0_isNumber_25 (by decide) ?_
      exact ps_zret S hr hlk dX0_isNumber_29 (by decide) (by first | (simp [nNum, eq_true c_1, eq_false c_2]; done) | (simp [nNum, c_1, c_2]; done) | contradiction | rfl)
theorem qX0_brokenRank : yX0_brokenRank.cls ≠ "java/lang/invoke/MethodHandle" ∧ yX0_brokenRank.cls ≠ "java/lang/invoke/VarHandle" ∧ (parseMethodDescriptor yX0_brokenRank.desc).map (fun d => d.parameters.length) = some 1 := by decide +kernel
set_option maxHeartbeats 4000000 in
set_option maxRecDepth 100000 in
theorem c_X0_brokenRank (l : Launch) (v : Int64) : PS l yX0_brokenRank wsX0_brokenRank 0 0 [.long v] (.long (nRank v)) := by
  refine PS.of (cc := cX0_brokenRank) (maxL := 2) (ret := some .long) (own := RX0) (by decide) rfl rfl (Nat.le_of_ble_eq_true rfl) ?_
  intro p e s m below meth c ls S hr hlk hl
  have hx := S.1
  have hb := S.2.1
  have hl : lv_has ls 2 [(0, .long v)] := hl
  refine lv_lload_n hx hb dX0_brokenRank_0 rfl (lv_at hl 0 rfl) ?_
  refine lv_lconst (v := 0) hx hb dX0_brokenRank_1 (by decide) ?_
  refine zl_ge (tgt := 14) hx hb dX0_brokenRank_2 dX0_brokenRank_3 (by decide) (fun c_1 => ?_) (fun c_1 => ?_)
  · refine lv_lload_n hx hb dX0_brokenRank_14 rfl (lv_at hl 0 rfl) ?_
    exact ps_lret S hr hlk dX0_brokenRank_15 (by first | (simp [nRank, eq_false c_1]; done) | (simp [nRank, c_1]; done) | contradiction | rfl)
  · refine lv_lload_n hx hb dX0_brokenRank_6 rfl (lv_at hl 0 rfl) ?_
    refine lv_ldc2 hx hb S.2.2.2.1 (S.2.2.2.2 (.constantLong RX0 69 (9223372036854775807)) (by decide +kernel)) dX0_brokenRank_7 ?_
    refine lv_lxor hx hb dX0_brokenRank_10 ?_
    refine lv_goto (tgt := 15) hx hb dX0_brokenRank_11 (by decide) ?_
    exact ps_lret S hr hlk dX0_brokenRank_15 (by first | (simp [nRank, eq_true c_1]; done) | (simp [nRank, c_1]; done) | contradiction | rfl)
theorem qX0_isLess : yX0_isLess.cls ≠ "java/lang/invoke/MethodHandle" ∧ yX0_isLess.cls ≠ "java/lang/invoke/VarHandle" ∧ (parseMethodDescriptor yX0_isLess.desc).map (fun d => d.parameters.length) = some 3 := by decide +kernel
set_option maxHeartbeats 4000000 in
set_option maxRecDepth 100000 in
theorem c_X0_isLess (l : Launch) (t : Int32) (a : Int64) (b : Int64) : PS l yX0_isLess wsX0_isLess 1 21 [.int t, .long a, .long b] (.int (if nLess t a b then 1 else 0)) := by
  refine PS.of (cc := cX0_isLess) (maxL := 5) (ret := some .boolean) (own := RX0) (by decide) rfl rfl (Nat.le_of_ble_eq_true rfl) ?_
  intro p e s m below meth c ls S hr hlk hl
  have hx := S.1
  have hb := S.2.1
  have hl : lv_has ls 5 [(0, .int t), (1, .long a), (3, .long b)] := hl
  refine lv_iload_n hx hb dX0_isLess_0 rfl (lv_at hl 0 rfl) ?_
  refine ps_call (rest := []) S (c_X0_isBroken l t) gX0_isLess_X0_isBroken rfl qX0_isBroken ⟨Nat.le_of_ble_eq_true rfl, Nat.le_of_ble_eq_true rfl⟩ ⟨Nat.le_of_ble_eq_true rfl, Nat.le_of_ble_eq_true rfl⟩ hl.1 rfl (Nat.le_of_ble_eq_true rfl) dX0_isLess_1 ?_
  refine zb_eq (P := nBroken t) (tgt := 27) hx hb dX0_isLess_4 (by decide) (fun c_1 => ?_) (fun c_1 => ?_)
  · refine lv_lload_n hx hb dX0_isLess_27 rfl (lv_at hl 1 rfl) ?_
    refine lv_lload_n hx hb dX0_isLess_28 rfl (lv_at hl 2 rfl) ?_
    refine zl_ge (tgt := 37) hx hb dX0_isLess_29 dX0_isLess_30 (by decide) (fun c_2 => ?_) (fun c_2 => ?_)
    · refine lv_iconst (v := 0) hx hb dX0_isLess_37 (by decide) ?_
      exact ps_zret S hr hlk dX0_isLess_38 (by decide) (by first | (simp [nLess, eq_false c_1, eq_false c_2]; done) | (simp [nLess, c_1, c_2]; done) | contradiction | rfl)
    · refine lv_iconst (v := 1) hx hb dX0_isLess_33 (by decide) ?_
      refine lv_goto (tgt := 38) hx hb dX0_isLess_34 (by decide) ?_
      exact ps_zret S hr hlk dX0_isLess_38 (by decide) (by first | (simp [nLess, eq_false c_1, eq_true c_2]; done) | (simp [nLess, c_1, c_2]; done) | contradiction | rfl)
  · refine lv_lload_n hx hb dX0_isLess_7 rfl (lv_at hl 1 rfl) ?_
    refine ps_call (rest := []) S (c_X0_brokenRank l a) gX0_isLess_X0_brokenRank rfl qX0_brokenRank ⟨Nat.le_of_ble_eq_true rfl, Nat.le_of_ble_eq_true rfl⟩ ⟨Nat.le_of_ble_eq_true rfl, Nat.le_of_ble_eq_true rfl⟩ hl.1 rfl (Nat.le_of_ble_eq_true rfl) dX0_isLess_8 ?_
    refine lv_lload_n hx hb dX0_isLess_11 rfl (lv_at hl 2 rfl) ?_
    refine ps_call (rest := [.long (nRank a)]) S (c_X0_brokenRank l b) gX0_isLess_X0_brokenRank rfl qX0_brokenRank ⟨Nat.le_of_ble_eq_true rfl, Nat.le_of_ble_eq_true rfl⟩ ⟨Nat.le_of_ble_eq_true rfl, Nat.le_of_ble_eq_true rfl⟩ hl.1 rfl (Nat.le_of_ble_eq_true rfl) dX0_isLess_12 ?_
    refine zl_ge (tgt := 23) hx hb dX0_isLess_15 dX0_isLess_16 (by decide) (fun c_3 => ?_) (fun c_3 => ?_)
    · refine lv_iconst (v := 0) hx hb dX0_isLess_23 (by decide) ?_
      refine lv_goto (tgt := 38) hx hb dX0_isLess_24 (by decide) ?_
      exact ps_zret S hr hlk dX0_isLess_38 (by decide) (by first | (simp [nLess, eq_true c_1, eq_false c_3]; done) | (simp [nLess, c_1, c_3]; done) | contradiction | rfl)
    · refine lv_iconst (v := 1) hx hb dX0_isLess_19 (by decide) ?_
      refine lv_goto (tgt := 38) hx hb dX0_isLess_20 (by decide) ?_
      exact ps_zret S hr hlk dX0_isLess_38 (by decide) (by first | (simp [nLess, eq_true c_1, eq_true c_3]; done) | (simp [nLess, c_1, c_3]; done) | contradiction | rfl)
theorem qX0_lesser : yX0_lesser.cls ≠ "java/lang/invoke/MethodHandle" ∧ yX0_lesser.cls ≠ "java/lang/invoke/VarHandle" ∧ (parseMethodDescriptor yX0_lesser.desc).map (fun d => d.parameters.length) = some 3 := by decide +kernel
set_option maxHeartbeats 4000000 in
set_option maxRecDepth 100000 in
theorem c_X0_lesser (l : Launch) (t : Int32) (a : Int64) (b : Int64) : PS l yX0_lesser wsX0_lesser 2 45 [.int t, .long a, .long b] (.long (nLesser t a b)) := by
  refine PS.of (cc := cX0_lesser) (maxL := 5) (ret := some .long) (own := RX0) (by decide) rfl rfl (Nat.le_of_ble_eq_true rfl) ?_
  intro p e s m below meth c ls S hr hlk hl
  have hx := S.1
  have hb := S.2.1
  have hl : lv_has ls 5 [(0, .int t), (1, .long a), (3, .long b)] := hl
  refine lv_iload_n hx hb dX0_lesser_0 rfl (lv_at hl 0 rfl) ?_
  refine lv_lload_n hx hb dX0_lesser_1 rfl (lv_at hl 2 rfl) ?_
  refine lv_lload_n hx hb dX0_lesser_2 rfl (lv_at hl 1 rfl) ?_
  refine ps_call (rest := []) S (c_X0_isLess l t b a) gX0_lesser_X0_isLess rfl qX0_isLess ⟨Nat.le_of_ble_eq_true rfl, Nat.le_of_ble_eq_true rfl⟩ ⟨Nat.le_of_ble_eq_true rfl, Nat.le_of_ble_eq_true rfl⟩ hl.1 rfl (Nat.le_of_ble_eq_true rfl) dX0_lesser_3 ?_
  refine zb_eq (P := nLess t b a) (tgt := 13) hx hb dX0_lesser_6 (by decide) (fun c_1 => ?_) (fun c_1 => ?_)
  · refine lv_lload_n hx hb dX0_lesser_13 rfl (lv_at hl 1 rfl) ?_
    exact ps_lret S hr hlk dX0_lesser_14 (by first | (simp [nLesser, eq_false c_1]; done) | (simp [nLesser, c_1]; done) | contradiction | rfl)
  · refine lv_lload_n hx hb dX0_lesser_9 rfl (lv_at hl 2 rfl) ?_
    refine lv_goto (tgt := 14) hx hb dX0_lesser_10 (by decide) ?_
    exact ps_lret S hr hlk dX0_lesser_14 (by first | (simp [nLesser, eq_true c_1]; done) | (simp [nLesser, c_1]; done) | contradiction | rfl)
theorem qX0_greater : yX0_greater.cls ≠ "java/lang/invoke/MethodHandle" ∧ yX0_greater.cls ≠ "java/lang/invoke/VarHandle" ∧ (parseMethodDescriptor yX0_greater.desc).map (fun d => d.parameters.length) = some 3 := by decide +kernel
set_option maxHeartbeats 4000000 in
set_option maxRecDepth 100000 in
theorem c_X0_greater (l : Launch) (t : Int32) (a : Int64) (b : Int64) : PS l yX0_greater wsX0_greater 2 45 [.int t, .long a, .long b] (.long (nGreater t a b)) := by
  refine PS.of (cc := cX0_greater) (maxL := 5) (ret := some .long) (own := RX0) (by decide) rfl rfl (Nat.le_of_ble_eq_true rfl) ?_
  intro p e s m below meth c ls S hr hlk hl
  have hx := S.1
  have hb := S.2.1
  have hl : lv_has ls 5 [(0, .int t), (1, .long a), (3, .long b)] := hl
  refine lv_iload_n hx hb dX0_greater_0 rfl (lv_at hl 0 rfl) ?_
  refine lv_lload_n hx hb dX0_greater_1 rfl (lv_at hl 1 rfl) ?_
  refine lv_lload_n hx hb dX0_greater_2 rfl (lv_at hl 2 rfl) ?_
  refine ps_call (rest := []) S (c_X0_isLess l t a b) gX0_greater_X0_isLess rfl qX0_isLess ⟨Nat.le_of_ble_eq_true rfl, Nat.le_of_ble_eq_true rfl⟩ ⟨Nat.le_of_ble_eq_true rfl, Nat.le_of_ble_eq_true rfl⟩ hl.1 rfl (Nat.le_of_ble_eq_true rfl) dX0_greater_3 ?_
  refine zb_eq (P := nLess t a b) (tgt := 13) hx hb dX0_greater_6 (by decide) (fun c_1 => ?_) (fun c_1 => ?_)
  · refine lv_lload_n hx hb dX0_greater_13 rfl (lv_at hl 1 rfl) ?_
    exact ps_lret S hr hlk dX0_greater_14 (by first | (simp [nGreater, eq_false c_1]; done) | (simp [nGreater, c_1]; done) | contradiction | rfl)
  · refine lv_lload_n hx hb dX0_greater_9 rfl (lv_at hl 2 rfl) ?_
    refine lv_goto (tgt := 14) hx hb dX0_greater_10 (by decide) ?_
    exact ps_lret S hr hlk dX0_greater_14 (by first | (simp [nGreater, eq_true c_1]; done) | (simp [nGreater, c_1]; done) | contradiction | rfl)
theorem qX0_isZero : yX0_isZero.cls ≠ "java/lang/invoke/MethodHandle" ∧ yX0_isZero.cls ≠ "java/lang/invoke/VarHandle" ∧ (parseMethodDescriptor yX0_isZero.desc).map (fun d => d.parameters.length) = some 2 := by decide +kernel
set_option maxHeartbeats 4000000 in
set_option maxRecDepth 100000 in
theorem c_X0_isZero (l : Launch) (t : Int32) (v : Int64) : PS l yX0_isZero wsX0_isZero 2 42 [.int t, .long v] (.int (if nZero t v then 1 else 0)) := by
  refine PS.of (cc := cX0_isZero) (maxL := 3) (ret := some .boolean) (own := RX0) (by decide) rfl rfl (Nat.le_of_ble_eq_true rfl) ?_
  intro p e s m below meth c ls S hr hlk hl
  have hx := S.1
  have hb := S.2.1
  have hl : lv_has ls 3 [(0, .int t), (1, .long v)] := hl
  refine lv_iload_n hx hb dX0_isZero_0 rfl (lv_at hl 0 rfl) ?_
  refine ps_call (rest := []) S (c_X0_isBroken l t) gX0_isZero_X0_isBroken rfl qX0_isBroken ⟨Nat.le_of_ble_eq_true rfl, Nat.le_of_ble_eq_true rfl⟩ ⟨Nat.le_of_ble_eq_true rfl, Nat.le_of_ble_eq_true rfl⟩ hl.1 rfl (Nat.le_of_ble_eq_true rfl) dX0_isZero_1 ?_
  refine zb_eq (P := nBroken t) (tgt := 25) hx hb dX0_isZero_4 (by decide) (fun c_1 => ?_) (fun c_1 => ?_)
  · refine lv_lload_n hx hb dX0_isZero_25 rfl (lv_at hl 1 rfl) ?_
    refine lv_lconst (v := 0) hx hb dX0_isZero_26 (by decide) ?_
    refine zl_ne (tgt := 35) hx hb dX0_isZero_27 dX0_isZero_28 (by decide) (fun c_2 => ?_) (fun c_2 => ?_)
    · refine lv_iconst (v := 0) hx hb dX0_isZero_35 (by decide) ?_
      exact ps_zret S hr hlk dX0_isZero_36 (by decide) (by first | (simp [nZero, eq_false c_1, eq_false c_2]; done) | (simp [nZero, c_1, c_2]; done) | contradiction | rfl)
    · refine lv_iconst (v := 1) hx hb dX0_isZero_31 (by decide) ?_
      refine lv_goto (tgt := 36) hx hb dX0_isZero_32 (by decide) ?_
      exact ps_zret S hr hlk dX0_isZero_36 (by decide) (by first | (simp [nZero, eq_false c_1, eq_true c_2]; done) | (simp [nZero, c_1, c_2]; done) | contradiction | rfl)
  · refine lv_iload_n hx hb dX0_isZero_7 rfl (lv_at hl 0 rfl) ?_
    refine lv_lload_n hx hb dX0_isZero_8 rfl (lv_at hl 1 rfl) ?_
    refine ps_call (rest := []) S (c_X0_magnitude l t v) gX0_isZero_X0_magnitude rfl qX0_magnitude ⟨Nat.le_of_ble_eq_true rfl, Nat.le_of_ble_eq_true rfl⟩ ⟨Nat.le_of_ble_eq_true rfl, Nat.le_of_ble_eq_true rfl⟩ hl.1 rfl (Nat.le_of_ble_eq_true rfl) dX0_isZero_9 ?_
    refine lv_lconst (v := 0) hx hb dX0_isZero_12 (by decide) ?_
    refine zl_ne (tgt := 21) hx hb dX0_isZero_13 dX0_isZero_14 (by decide) (fun c_3 => ?_) (fun c_3 => ?_)
    · refine lv_iconst (v := 0) hx hb dX0_isZero_21 (by decide) ?_
      refine lv_goto (tgt := 36) hx hb dX0_isZero_22 (by decide) ?_
      exact ps_zret S hr hlk dX0_isZero_36 (by decide) (by first | (simp [nZero, eq_true c_1, eq_false c_3]; done) | (simp [nZero, c_1, c_3]; done) | contradiction | rfl)
    · refine lv_iconst (v := 1) hx hb dX0_isZero_17 (by decide) ?_
      refine lv_goto (tgt := 36) hx hb dX0_isZero_18 (by decide) ?_
      exact ps_zret S hr hlk dX0_isZero_36 (by decide) (by first | (simp [nZero, eq_true c_1, eq_true c_3]; done) | (simp [nZero, c_1, c_3]; done) | contradiction | rfl)
theorem qX0_isBelowZero : yX0_isBelowZero.cls ≠ "java/lang/invoke/MethodHandle" ∧ yX0_isBelowZero.cls ≠ "java/lang/invoke/VarHandle" ∧ (parseMethodDescriptor yX0_isBelowZero.desc).map (fun d => d.parameters.length) = some 2 := by decide +kernel
set_option maxHeartbeats 4000000 in
set_option maxRecDepth 100000 in
theorem c_X0_isBelowZero (l : Launch) (t : Int32) (v : Int64) : PS l yX0_isBelowZero wsX0_isBelowZero 3 64 [.int t, .long v] (.int (if nBelow t v then 1 else 0)) := by
  refine PS.of (cc := cX0_isBelowZero) (maxL := 3) (ret := some .boolean) (own := RX0) (by decide) rfl rfl (Nat.le_of_ble_eq_true rfl) ?_
  intro p e s m below meth c ls S hr hlk hl
  have hx := S.1
  have hb := S.2.1
  have hl : lv_has ls 3 [(0, .int t), (1, .long v)] := hl
  refine lv_lload_n hx hb dX0_isBelowZero_0 rfl (lv_at hl 1 rfl) ?_
  refine lv_lconst (v := 0) hx hb dX0_isBelowZero_1 (by decide) ?_
  refine zl_ge (tgt := 18) hx hb dX0_isBelowZero_2 dX0_isBelowZero_3 (by decide) (fun c_1 => ?_) (fun c_1 => ?_)
  · refine lv_iconst (v := 0) hx hb dX0_isBelowZero_18 (by decide) ?_
    exact ps_zret S hr hlk dX0_isBelowZero_19 (by decide) (by first | (simp [nBelow, eq_false c_1]; done) | (simp [nBelow, c_1]; done) | contradiction | rfl)
  · refine lv_iload_n hx hb dX0_isBelowZero_6 rfl (lv_at hl 0 rfl) ?_
    refine lv_lload_n hx hb dX0_isBelowZero_7 rfl (lv_at hl 1 rfl) ?_
    refine ps_call (rest := []) S (c_X0_isZero l t v) gX0_isBelowZero_X0_isZero rfl qX0_isZero ⟨Nat.le_of_ble_eq_true rfl, Nat.le_of_ble_eq_true rfl⟩ ⟨Nat.le_of_ble_eq_true rfl, Nat.le_of_ble_eq_true rfl⟩ hl.1 rfl (Nat.le_of_ble_eq_true rfl) dX0_isBelowZero_8 ?_
    refine zb_ne (P := nZero t v) (tgt := 18) hx hb dX0_isBelowZero_11 (by decide) (fun c_2 => ?_) (fun c_2 => ?_)
    · refine lv_iconst (v := 0) hx hb dX0_isBelowZero_18 (by decide) ?_
      exact ps_zret S hr hlk dX0_isBelowZero_19 (by decide) (by first | (simp [nBelow, eq_true c_1, eq_true c_2]; done) | (simp [nBelow, c_1, c_2]; done) | contradiction | rfl)
    · refine lv_iconst (v := 1) hx hb dX0_isBelowZero_14 (by decide) ?_
      refine lv_goto (tgt := 19) hx hb dX0_isBelowZero_15 (by decide) ?_
      exact ps_zret S hr hlk dX0_isBelowZero_19 (by decide) (by first | (simp [nBelow, eq_true c_1, eq_false c_2]; done) | (simp [nBelow, c_1, c_2]; done) | contradiction | rfl)
theorem qX0_isAboveZero : yX0_isAboveZero.cls ≠ "java/lang/invoke/MethodHandle" ∧ yX0_isAboveZero.cls ≠ "java/lang/invoke/VarHandle" ∧ (parseMethodDescriptor yX0_isAboveZero.desc).map (fun d => d.parameters.length) = some 1 := by decide +kernel
set_option maxHeartbeats 4000000 in
set_option maxRecDepth 100000 in
theorem c_X0_isAboveZero (l : Launch) (v : Int64) : PS l yX0_isAboveZero wsX0_isAboveZero 0 0 [.long v] (.int (if nAbove v then 1 else 0)) := by
  refine PS.of (cc := cX0_isAboveZero) (maxL := 2) (ret := some .boolean) (own := RX0) (by decide) rfl rfl (Nat.le_of_ble_eq_true rfl) ?_
  intro p e s m below meth c ls S hr hlk hl
  have hx := S.1
  have hb := S.2.1
  have hl : lv_has ls 2 [(0, .long v)] := hl
  refine lv_lload_n hx hb dX0_isAboveZero_0 rfl (lv_at hl 0 rfl) ?_
  refine lv_lconst (v := 0) hx hb dX0_isAboveZero_1 (by decide) ?_
  refine zl_le (tgt := 10) hx hb dX0_isAboveZero_2 dX0_isAboveZero_3 (by decide) (fun c_1 => ?_) (fun c_1 => ?_)
  · refine lv_iconst (v := 0) hx hb dX0_isAboveZero_10 (by decide) ?_
    exact ps_zret S hr hlk dX0_isAboveZero_11 (by decide) (by first | (simp [nAbove, eq_false c_1]; done) | (simp [nAbove, c_1]; done) | contradiction | rfl)
  · refine lv_iconst (v := 1) hx hb dX0_isAboveZero_6 (by decide) ?_
    refine lv_goto (tgt := 11) hx hb dX0_isAboveZero_7 (by decide) ?_
    exact ps_zret S hr hlk dX0_isAboveZero_11 (by decide) (by first | (simp [nAbove, eq_true c_1]; done) | (simp [nAbove, c_1]; done) | contradiction | rfl)
theorem qX0_negated : yX0_negated.cls ≠ "java/lang/invoke/MethodHandle" ∧ yX0_negated.cls ≠ "java/lang/invoke/VarHandle" ∧ (parseMethodDescriptor yX0_negated.desc).map (fun d => d.parameters.length) = some 2 := by decide +kernel
set_option maxHeartbeats 4000000 in
set_option maxRecDepth 100000 in
theorem c_X0_negated (l : Launch) (t : Int32) (v : Int64) : PS l yX0_negated wsX0_negated 1 22 [.int t, .long v] (.long (nNeg t v)) := by
  refine PS.of (cc := cX0_negated) (maxL := 3) (ret := some .long) (own := RX0) (by decide) rfl rfl (Nat.le_of_ble_eq_true rfl) ?_
  intro p e s m below meth c ls S hr hlk hl
  have hx := S.1
  have hb := S.2.1
  have hl : lv_has ls 3 [(0, .int t), (1, .long v)] := hl
  refine lv_iload_n hx hb dX0_negated_0 rfl (lv_at hl 0 rfl) ?_
  refine ps_call (rest := []) S (c_X0_isBroken l t) gX0_negated_X0_isBroken rfl qX0_isBroken ⟨Nat.le_of_ble_eq_true rfl, Nat.le_of_ble_eq_true rfl⟩ ⟨Nat.le_of_ble_eq_true rfl, Nat.le_of_ble_eq_true rfl⟩ hl.1 rfl (Nat.le_of_ble_eq_true rfl) dX0_negated_1 ?_
  refine zb_eq (P := nBroken t) (tgt := 16) hx hb dX0_negated_4 (by decide) (fun c_1 => ?_) (fun c_1 => ?_)
  · refine lv_iload_n hx hb dX0_negated_16 rfl (lv_at hl 0 rfl) ?_
    refine lv_lload_n hx hb dX0_negated_17 rfl (lv_at hl 1 rfl) ?_
    refine lv_lneg hx hb dX0_negated_18 ?_
    refine ps_call (rest := []) S (c_X0_fitted l t (-v)) gX0_negated_X0_fitted rfl qX0_fitted ⟨Nat.le_of_ble_eq_true rfl, Nat.le_of_ble_eq_true rfl⟩ ⟨Nat.le_of_ble_eq_true rfl, Nat.le_of_ble_eq_true rfl⟩ hl.1 rfl (Nat.le_of_ble_eq_true rfl) dX0_negated_19 ?_
    exact ps_lret S hr hlk dX0_negated_22 (by first | (simp [nNeg, eq_false c_1]; done) | (simp [nNeg, c_1]; done) | contradiction | rfl)
  · refine lv_lload_n hx hb dX0_negated_7 rfl (lv_at hl 1 rfl) ?_
    refine lv_iload_n hx hb dX0_negated_8 rfl (lv_at hl 0 rfl) ?_
    refine ps_call (rest := [.long v]) S (c_X0_signMask l t) gX0_negated_X0_signMask rfl qX0_signMask ⟨Nat.le_of_ble_eq_true rfl, Nat.le_of_ble_eq_true rfl⟩ ⟨Nat.le_of_ble_eq_true rfl, Nat.le_of_ble_eq_true rfl⟩ hl.1 rfl (Nat.le_of_ble_eq_true rfl) dX0_negated_9 ?_
    refine lv_lxor hx hb dX0_negated_12 ?_
    refine lv_goto (tgt := 22) hx hb dX0_negated_13 (by decide) ?_
    exact ps_lret S hr hlk dX0_negated_22 (by first | (simp [nNeg, eq_true c_1]; done) | (simp [nNeg, c_1]; done) | contradiction | rfl)
theorem qX0_sizeOf : yX0_sizeOf.cls ≠ "java/lang/invoke/MethodHandle" ∧ yX0_sizeOf.cls ≠ "java/lang/invoke/VarHandle" ∧ (parseMethodDescriptor yX0_sizeOf.desc).map (fun d => d.parameters.length) = some 2 := by decide +kernel
set_option maxHeartbeats 4000000 in
set_option maxRecDepth 100000 in
theorem c_X0_sizeOf (l : Launch) (t : Int32) (v : Int64) : PS l yX0_sizeOf wsX0_sizeOf 2 44 [.int t, .long v] (.long (nSize t v)) := by
  refine PS.of (cc := cX0_sizeOf) (maxL := 3) (ret := some .long) (own := RX0) (by decide) rfl rfl (Nat.le_of_ble_eq_true rfl) ?_
  intro p e s m below meth c ls S hr hlk hl
  have hx := S.1
  have hb := S.2.1
  have hl : lv_has ls 3 [(0, .int t), (1, .long v)] := hl
  refine lv_lload_n hx hb dX0_sizeOf_0 rfl (lv_at hl 1 rfl) ?_
  refine lv_lconst (v := 0) hx hb dX0_sizeOf_1 (by decide) ?_
  refine zl_ge (tgt := 14) hx hb dX0_sizeOf_2 dX0_sizeOf_3 (by decide) (fun c_1 => ?_) (fun c_1 => ?_)
  · refine lv_lload_n hx hb dX0_sizeOf_14 rfl (lv_at hl 1 rfl) ?_
    exact ps_lret S hr hlk dX0_sizeOf_15 (by first | (simp [nSize, eq_false c_1]; done) | (simp [nSize, c_1]; done) | contradiction | rfl)
  · refine lv_iload_n hx hb dX0_sizeOf_6 rfl (lv_at hl 0 rfl) ?_
    refine lv_lload_n hx hb dX0_sizeOf_7 rfl (lv_at hl 1 rfl) ?_
    refine ps_call (rest := []) S (c_X0_negated l t v) gX0_sizeOf_X0_negated rfl qX0_negated ⟨Nat.le_of_ble_eq_true rfl, Nat.le_of_ble_eq_true rfl⟩ ⟨Nat.le_of_ble_eq_true rfl, Nat.le_of_ble_eq_true rfl⟩ hl.1 rfl (Nat.le_of_ble_eq_true rfl) dX0_sizeOf_8 ?_
    refine lv_goto (tgt := 15) hx hb dX0_sizeOf_11 (by decide) ?_
    exact ps_lret S hr hlk dX0_sizeOf_15 (by first | (simp [nSize, eq_true c_1]; done) | (simp [nSize, c_1]; done) | contradiction | rfl)
theorem qX0_withSign : yX0_withSign.cls ≠ "java/lang/invoke/MethodHandle" ∧ yX0_withSign.cls ≠ "java/lang/invoke/VarHandle" ∧ (parseMethodDescriptor yX0_withSign.desc).map (fun d => d.parameters.length) = some 3 := by decide +kernel
set_option maxHeartbeats 4000000 in
set_option maxRecDepth 100000 in
theorem c_X0_withSign (l : Launch) (t : Int32) (v : Int64) (w : Int64) : PS l yX0_withSign wsX0_withSign 2 42 [.int t, .long v, .long w] (.long (nWith t v w)) := by
  refine PS.of (cc := cX0_withSign) (maxL := 5) (ret := some .long) (own := RX0) (by decide) rfl rfl (Nat.le_of_ble_eq_true rfl) ?_
  intro p e s m below meth c ls S hr hlk hl
  have hx := S.1
  have hb := S.2.1
  have hl : lv_has ls 5 [(0, .int t), (1, .long v), (3, .long w)] := hl
  refine lv_iload_n hx hb dX0_withSign_0 rfl (lv_at hl 0 rfl) ?_
  refine lv_lload_n hx hb dX0_withSign_1 rfl (lv_at hl 1 rfl) ?_
  refine ps_call (rest := []) S (c_X0_magnitude l t v) gX0_withSign_X0_magnitude rfl qX0_magnitude ⟨Nat.le_of_ble_eq_true rfl, Nat.le_of_ble_eq_true rfl⟩ ⟨Nat.le_of_ble_eq_true rfl, Nat.le_of_ble_eq_true rfl⟩ hl.1 rfl (Nat.le_of_ble_eq_true rfl) dX0_withSign_2 ?_
  refine lv_lload_n hx hb dX0_withSign_5 rfl (lv_at hl 2 rfl) ?_
  refine lv_iload_n hx hb dX0_withSign_6 rfl (lv_at hl 0 rfl) ?_
  refine ps_call (rest := [.long w, .long (nMag t v)]) S (c_X0_signMask l t) gX0_withSign_X0_signMask rfl qX0_signMask ⟨Nat.le_of_ble_eq_true rfl, Nat.le_of_ble_eq_true rfl⟩ ⟨Nat.le_of_ble_eq_true rfl, Nat.le_of_ble_eq_true rfl⟩ hl.1 rfl (Nat.le_of_ble_eq_true rfl) dX0_withSign_7 ?_
  refine lv_land hx hb dX0_withSign_10 ?_
  refine lv_lor hx hb dX0_withSign_11 ?_
  exact ps_lret S hr hlk dX0_withSign_12 (by first | (simp [nWith]; done) | (simp [nWith]; done) | contradiction | rfl)
theorem qX0_signOf : yX0_signOf.cls ≠ "java/lang/invoke/MethodHandle" ∧ yX0_signOf.cls ≠ "java/lang/invoke/VarHandle" ∧ (parseMethodDescriptor yX0_signOf.desc).map (fun d => d.parameters.length) = some 2 := by decide +kernel
set_option maxHeartbeats 4000000 in
set_option maxRecDepth 100000 in
theorem c_X0_signOf (l : Launch) (t : Int32) (v : Int64) : PS l yX0_signOf wsX0_signOf 3 66 [.int t, .long v] (.long (nSign t v)) := by
  refine PS.of (cc := cX0_signOf) (maxL := 3) (ret := some .long) (own := RX0) (by decide) rfl rfl (Nat.le_of_ble_eq_true rfl) ?_
  intro p e s m below meth c ls S hr hlk hl
  have hx := S.1
  have hb := S.2.1
  have hl : lv_has ls 3 [(0, .int t), (1, .long v)] := hl
  refine lv_iload_n hx hb dX0_signOf_0 rfl (lv_at hl 0 rfl) ?_
  refine lv_lload_n hx hb dX0_signOf_1 rfl (lv_at hl 1 rfl) ?_
  refine ps_call (rest := []) S (c_X0_isZero l t v) gX0_signOf_X0_isZero rfl qX0_isZero ⟨Nat.le_of_ble_eq_true rfl, Nat.le_of_ble_eq_true rfl⟩ ⟨Nat.le_of_ble_eq_true rfl, Nat.le_of_ble_eq_true rfl⟩ hl.1 rfl (Nat.le_of_ble_eq_true rfl) dX0_signOf_2 ?_
  refine zb_eq (P := nZero t v) (tgt := 12) hx hb dX0_signOf_5 (by decide) (fun c_1 => ?_) (fun c_1 => ?_)
  · refine lv_iload_n hx hb dX0_signOf_12 rfl (lv_at hl 0 rfl) ?_
    refine lv_iload_n hx hb dX0_signOf_13 rfl (lv_at hl 0 rfl) ?_
    refine ps_call (rest := [.int t]) S (c_X0_one l t) gX0_signOf_X0_one rfl qX0_one ⟨Nat.le_of_ble_eq_true rfl, Nat.le_of_ble_eq_true rfl⟩ ⟨Nat.le_of_ble_eq_true rfl, Nat.le_of_ble_eq_true rfl⟩ hl.1 rfl (Nat.le_of_ble_eq_true rfl) dX0_signOf_14 ?_
    refine lv_lload_n hx hb dX0_signOf_17 rfl (lv_at hl 1 rfl) ?_
    refine ps_call (rest := []) S (c_X0_withSign l t (nOne t) v) gX0_signOf_X0_withSign rfl qX0_withSign ⟨Nat.le_of_ble_eq_true rfl, Nat.le_of_ble_eq_true rfl⟩ ⟨Nat.le_of_ble_eq_true rfl, Nat.le_of_ble_eq_true rfl⟩ hl.1 rfl (Nat.le_of_ble_eq_true rfl) dX0_signOf_18 ?_
    exact ps_lret S hr hlk dX0_signOf_21 (by first | (simp [nSign, eq_false c_1]; done) | (simp [nSign, c_1]; done) | contradiction | rfl)
  · refine lv_lload_n hx hb dX0_signOf_8 rfl (lv_at hl 1 rfl) ?_
    refine lv_goto (tgt := 21) hx hb dX0_signOf_9 (by decide) ?_
    exact ps_lret S hr hlk dX0_signOf_21 (by first | (simp [nSign, eq_true c_1]; done) | (simp [nSign, c_1]; done) | contradiction | rfl)
