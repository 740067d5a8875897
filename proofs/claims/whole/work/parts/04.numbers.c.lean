theorem qX1_isSlot : yX1_isSlot.cls ≠ "java/lang/invoke/MethodHandle" ∧ yX1_isSlot.cls ≠ "java/lang/invoke/VarHandle" ∧ (parseMethodDescriptor yX1_isSlot.desc).map (fun d => d.parameters.length) = some 1 := by decide +kernel
set_option maxHeartbeats 4000000 in
set_option maxRecDepth 100000 in
theorem c_X1_isSlot (l : Launch) (i : Int32) : PS l yX1_isSlot wsX1_isSlot 0 0 [.int i] (.int (if zSl i then 1 else 0)) := by
  refine PS.of (cc := cX1_isSlot) (maxL := 1) (ret := some .boolean) (own := RX1) (by decide) rfl rfl (Nat.le_of_ble_eq_true rfl) ?_
  intro p e s m below meth c ls S hr hlk hl
  have hx := S.1
  have hb := S.2.1
  have hl : lv_has ls 1 [(0, .int i)] := hl
  refine lv_iload_n hx hb dX1_isSlot_0 rfl (lv_at hl 0 rfl) ?_
  refine zi_lt (tgt := 14) hx hb dX1_isSlot_1 (by decide) (fun c_1 => ?_) (fun c_1 => ?_)
  · refine lv_iconst (v := 0) hx hb dX1_isSlot_14 (by decide) ?_
    exact ps_zret S hr hlk dX1_isSlot_15 (by decide) (by first | (simp [zSl, eq_true c_1]; done) | (simp [zSl, c_1]; done) | contradiction | rfl)
  · refine lv_iload_n hx hb dX1_isSlot_4 rfl (lv_at hl 0 rfl) ?_
    refine lv_bipush (v := 16) hx hb dX1_isSlot_5 (by decide) ?_
    refine zc_ge (tgt := 14) hx hb dX1_isSlot_7 (by decide) (fun c_2 => ?_) (fun c_2 => ?_)
    · refine lv_iconst (v := 0) hx hb dX1_isSlot_14 (by decide) ?_
      exact ps_zret S hr hlk dX1_isSlot_15 (by decide) (by first | (simp [zSl, eq_false c_1, eq_false c_2]; done) | (simp [zSl, c_1, c_2]; done) | contradiction | rfl)
    · refine lv_iconst (v := 1) hx hb dX1_isSlot_10 (by decide) ?_
      refine lv_goto (tgt := 15) hx hb dX1_isSlot_11 (by decide) ?_
      exact ps_zret S hr hlk dX1_isSlot_15 (by decide) (by first | (simp [zSl, eq_false c_1, eq_true c_2]; done) | (simp [zSl, c_1, c_2]; done) | contradiction | rfl)
theorem qX1_isStep : yX1_isStep.cls ≠ "java/lang/invoke/MethodHandle" ∧ yX1_isStep.cls ≠ "java/lang/invoke/VarHandle" ∧ (parseMethodDescriptor yX1_isStep.desc).map (fun d => d.parameters.length) = some 1 := by decide +kernel
set_option maxHeartbeats 4000000 in
set_option maxRecDepth 100000 in
theorem c_X1_isStep (l : Launch) (i : Int32) : PS l yX1_isStep wsX1_isStep 0 0 [.int i] (.int (if zSt i then 1 else 0)) := by
  refine PS.of (cc := cX1_isStep) (maxL := 1) (ret := some .boolean) (own := RX1) (by decide) rfl rfl (Nat.le_of_ble_eq_true rfl) ?_
  intro p e s m below meth c ls S hr hlk hl
  have hx := S.1
  have hb := S.2.1
  have hl : lv_has ls 1 [(0, .int i)] := hl
  refine lv_iload_n hx hb dX1_isStep_0 rfl (lv_at hl 0 rfl) ?_
  refine zi_lt (tgt := 14) hx hb dX1_isStep_1 (by decide) (fun c_1 => ?_) (fun c_1 => ?_)
  · refine lv_iconst (v := 0) hx hb dX1_isStep_14 (by decide) ?_
    exact ps_zret S hr hlk dX1_isStep_15 (by decide) (by first | (simp [zSt, eq_true c_1]; done) | (simp [zSt, c_1]; done) | contradiction | rfl)
  · refine lv_iload_n hx hb dX1_isStep_4 rfl (lv_at hl 0 rfl) ?_
    refine lv_bipush (v := 12) hx hb dX1_isStep_5 (by decide) ?_
    refine zc_ge (tgt := 14) hx hb dX1_isStep_7 (by decide) (fun c_2 => ?_) (fun c_2 => ?_)
    · refine lv_iconst (v := 0) hx hb dX1_isStep_14 (by decide) ?_
      exact ps_zret S hr hlk dX1_isStep_15 (by decide) (by first | (simp [zSt, eq_false c_1, eq_false c_2]; done) | (simp [zSt, c_1, c_2]; done) | contradiction | rfl)
    · refine lv_iconst (v := 1) hx hb dX1_isStep_10 (by decide) ?_
      refine lv_goto (tgt := 15) hx hb dX1_isStep_11 (by decide) ?_
      exact ps_zret S hr hlk dX1_isStep_15 (by decide) (by first | (simp [zSt, eq_false c_1, eq_true c_2]; done) | (simp [zSt, c_1, c_2]; done) | contradiction | rfl)
theorem qX1_isSort : yX1_isSort.cls ≠ "java/lang/invoke/MethodHandle" ∧ yX1_isSort.cls ≠ "java/lang/invoke/VarHandle" ∧ (parseMethodDescriptor yX1_isSort.desc).map (fun d => d.parameters.length) = some 1 := by decide +kernel
set_option maxHeartbeats 4000000 in
set_option maxRecDepth 100000 in
theorem c_X1_isSort (l : Launch) (i : Int32) : PS l yX1_isSort wsX1_isSort 0 0 [.int i] (.int (if zSort i then 1 else 0)) := by
  refine PS.of (cc := cX1_isSort) (maxL := 1) (ret := some .boolean) (own := RX1) (by decide) rfl rfl (Nat.le_of_ble_eq_true rfl) ?_
  intro p e s m below meth c ls S hr hlk hl
  have hx := S.1
  have hb := S.2.1
  have hl : lv_has ls 1 [(0, .int i)] := hl
  refine lv_iload_n hx hb dX1_isSort_0 rfl (lv_at hl 0 rfl) ?_
  refine zi_lt (tgt := 13) hx hb dX1_isSort_1 (by decide) (fun c_1 => ?_) (fun c_1 => ?_)
  · refine lv_iconst (v := 0) hx hb dX1_isSort_13 (by decide) ?_
    exact ps_zret S hr hlk dX1_isSort_14 (by decide) (by first | (simp [zSort, eq_true c_1]; done) | (simp [zSort, c_1]; done) | contradiction | rfl)
  · refine lv_iload_n hx hb dX1_isSort_4 rfl (lv_at hl 0 rfl) ?_
    refine lv_iconst (v := 3) hx hb dX1_isSort_5 (by decide) ?_
    refine zc_gt (tgt := 13) hx hb dX1_isSort_6 (by decide) (fun c_2 => ?_) (fun c_2 => ?_)
    · refine lv_iconst (v := 0) hx hb dX1_isSort_13 (by decide) ?_
      exact ps_zret S hr hlk dX1_isSort_14 (by decide) (by first | (simp [zSort, eq_false c_1, eq_true c_2]; done) | (simp [zSort, c_1, c_2]; done) | contradiction | rfl)
    · refine lv_iconst (v := 1) hx hb dX1_isSort_9 (by decide) ?_
      refine lv_goto (tgt := 14) hx hb dX1_isSort_10 (by decide) ?_
      exact ps_zret S hr hlk dX1_isSort_14 (by decide) (by first | (simp [zSort, eq_false c_1, eq_false c_2]; done) | (simp [zSort, c_1, c_2]; done) | contradiction | rfl)
theorem qX1_takesTwo : yX1_takesTwo.cls ≠ "java/lang/invoke/MethodHandle" ∧ yX1_takesTwo.cls ≠ "java/lang/invoke/VarHandle" ∧ (parseMethodDescriptor yX1_takesTwo.desc).map (fun d => d.parameters.length) = some 1 := by decide +kernel
set_option maxHeartbeats 4000000 in
set_option maxRecDepth 100000 in
theorem c_X1_takesTwo (l : Launch) (i : Int32) : PS l yX1_takesTwo wsX1_takesTwo 0 0 [.int i] (.int (if zTwo i then 1 else 0)) := by
  refine PS.of (cc := cX1_takesTwo) (maxL := 1) (ret := some .boolean) (own := RX1) (by decide) rfl rfl (Nat.le_of_ble_eq_true rfl) ?_
  intro p e s m below meth c ls S hr hlk hl
  have hx := S.1
  have hb := S.2.1
  have hl : lv_has ls 1 [(0, .int i)] := hl
  refine lv_iload_n hx hb dX1_takesTwo_0 rfl (lv_at hl 0 rfl) ?_
  refine zi_eq (tgt := 14) hx hb dX1_takesTwo_1 (by decide) (fun c_1 => ?_) (fun c_1 => ?_)
  · refine lv_iconst (v := 1) hx hb dX1_takesTwo_14 (by decide) ?_
    refine lv_goto (tgt := 19) hx hb dX1_takesTwo_15 (by decide) ?_
    exact ps_zret S hr hlk dX1_takesTwo_19 (by decide) (by first | (simp [zTwo, eq_true c_1]; done) | (simp [zTwo, c_1]; done) | contradiction | rfl)
  · refine lv_iload_n hx hb dX1_takesTwo_4 rfl (lv_at hl 0 rfl) ?_
    refine lv_iconst (v := 1) hx hb dX1_takesTwo_5 (by decide) ?_
    refine zc_eq (tgt := 14) hx hb dX1_takesTwo_6 (by decide) (fun c_2 => ?_) (fun c_2 => ?_)
    · refine lv_iconst (v := 1) hx hb dX1_takesTwo_14 (by decide) ?_
      refine lv_goto (tgt := 19) hx hb dX1_takesTwo_15 (by decide) ?_
      exact ps_zret S hr hlk dX1_takesTwo_19 (by decide) (by first | (simp [zTwo, eq_false c_1, eq_true c_2]; done) | (simp [zTwo, c_1, c_2]; done) | contradiction | rfl)
    · refine lv_iload_n hx hb dX1_takesTwo_9 rfl (lv_at hl 0 rfl) ?_
      refine lv_iconst (v := 5) hx hb dX1_takesTwo_10 (by decide) ?_
      refine zc_ne (tgt := 18) hx hb dX1_takesTwo_11 (by decide) (fun c_3 => ?_) (fun c_3 => ?_)
      · refine lv_iconst (v := 0) hx hb dX1_takesTwo_18 (by decide) ?_
        exact ps_zret S hr hlk dX1_takesTwo_19 (by decide) (by first | (simp [zTwo, eq_false c_1, eq_false c_2, eq_false c_3]; done) | (simp [zTwo, c_1, c_2, c_3]; done) | contradiction | rfl)
      · refine lv_iconst (v := 1) hx hb dX1_takesTwo_14 (by decide) ?_
        refine lv_goto (tgt := 19) hx hb dX1_takesTwo_15 (by decide) ?_
        exact ps_zret S hr hlk dX1_takesTwo_19 (by decide) (by first | (simp [zTwo, eq_false c_1, eq_false c_2, eq_true c_3]; done) | (simp [zTwo, c_1, c_2, c_3]; done) | contradiction | rfl)
theorem qX1_areSlots : yX1_areSlots.cls ≠ "java/lang/invoke/MethodHandle" ∧ yX1_areSlots.cls ≠ "java/lang/invoke/VarHandle" ∧ (parseMethodDescriptor yX1_areSlots.desc).map (fun d => d.parameters.length) = some 4 := by decide +kernel
set_option maxHeartbeats 4000000 in
set_option maxRecDepth 100000 in
theorem c_X1_areSlots (l : Launch) (w : Int32) (a : Int32) (b : Int32) (to : Int32) : PS l yX1_areSlots wsX1_areSlots 1 20 [.int w, .int a, .int b, .int to] (.int (if zSlots w a b to then 1 else 0)) := by
  refine PS.of (cc := cX1_areSlots) (maxL := 4) (ret := some .boolean) (own := RX1) (by decide) rfl rfl (Nat.le_of_ble_eq_true rfl) ?_
  intro p e s m below meth c ls S hr hlk hl
  have hx := S.1
  have hb := S.2.1
  have hl : lv_has ls 4 [(0, .int w), (1, .int a), (2, .int b), (3, .int to)] := hl
  refine lv_iload_n hx hb dX1_areSlots_0 rfl (lv_at hl 1 rfl) ?_
  refine ps_call (rest := []) S (c_X1_isSlot l a) gX1_areSlots_X1_isSlot rfl qX1_isSlot ⟨Nat.le_of_ble_eq_true rfl, Nat.le_of_ble_eq_true rfl⟩ ⟨Nat.le_of_ble_eq_true rfl, Nat.le_of_ble_eq_true rfl⟩ hl.1 rfl (Nat.le_of_ble_eq_true rfl) dX1_areSlots_1 ?_
  refine zb_eq (P := zSl a) (tgt := 32) hx hb dX1_areSlots_4 (by decide) (fun c_1 => ?_) (fun c_1 => ?_)
  · refine lv_iconst (v := 0) hx hb dX1_areSlots_32 (by decide) ?_
    exact ps_zret S hr hlk dX1_areSlots_33 (by decide) (by first | (simp [zSlots, eq_false c_1]; done) | (simp [zSlots, c_1]; done) | contradiction | rfl)
  · refine lv_iload_n hx hb dX1_areSlots_7 rfl (lv_at hl 3 rfl) ?_
    refine ps_call (rest := []) S (c_X1_isSlot l to) gX1_areSlots_X1_isSlot rfl qX1_isSlot ⟨Nat.le_of_ble_eq_true rfl, Nat.le_of_ble_eq_true rfl⟩ ⟨Nat.le_of_ble_eq_true rfl, Nat.le_of_ble_eq_true rfl⟩ hl.1 rfl (Nat.le_of_ble_eq_true rfl) dX1_areSlots_8 ?_
    refine zb_eq (P := zSl to) (tgt := 32) hx hb dX1_areSlots_11 (by decide) (fun c_2 => ?_) (fun c_2 => ?_)
    · refine lv_iconst (v := 0) hx hb dX1_areSlots_32 (by decide) ?_
      exact ps_zret S hr hlk dX1_areSlots_33 (by decide) (by first | (simp [zSlots, eq_true c_1, eq_false c_2]; done) | (simp [zSlots, c_1, c_2]; done) | contradiction | rfl)
    · refine lv_iload_n hx hb dX1_areSlots_14 rfl (lv_at hl 0 rfl) ?_
      refine ps_call (rest := []) S (c_X1_takesTwo l w) gX1_areSlots_X1_takesTwo rfl qX1_takesTwo ⟨Nat.le_of_ble_eq_true rfl, Nat.le_of_ble_eq_true rfl⟩ ⟨Nat.le_of_ble_eq_true rfl, Nat.le_of_ble_eq_true rfl⟩ hl.1 rfl (Nat.le_of_ble_eq_true rfl) dX1_areSlots_15 ?_
      refine zb_eq (P := zTwo w) (tgt := 28) hx hb dX1_areSlots_18 (by decide) (fun c_3 => ?_) (fun c_3 => ?_)
      · refine lv_iconst (v := 1) hx hb dX1_areSlots_28 (by decide) ?_
        refine lv_goto (tgt := 33) hx hb dX1_areSlots_29 (by decide) ?_
        exact ps_zret S hr hlk dX1_areSlots_33 (by decide) (by first | (simp [zSlots, eq_true c_1, eq_true c_2, eq_false c_3]; done) | (simp [zSlots, c_1, c_2, c_3]; done) | contradiction | rfl)
      · refine lv_iload_n hx hb dX1_areSlots_21 rfl (lv_at hl 2 rfl) ?_
        refine ps_call (rest := []) S (c_X1_isSlot l b) gX1_areSlots_X1_isSlot rfl qX1_isSlot ⟨Nat.le_of_ble_eq_true rfl, Nat.le_of_ble_eq_true rfl⟩ ⟨Nat.le_of_ble_eq_true rfl, Nat.le_of_ble_eq_true rfl⟩ hl.1 rfl (Nat.le_of_ble_eq_true rfl) dX1_areSlots_22 ?_
        refine zb_eq (P := zSl b) (tgt := 32) hx hb dX1_areSlots_25 (by decide) (fun c_4 => ?_) (fun c_4 => ?_)
        · refine lv_iconst (v := 0) hx hb dX1_areSlots_32 (by decide) ?_
          exact ps_zret S hr hlk dX1_areSlots_33 (by decide) (by first | (simp [zSlots, eq_true c_1, eq_true c_2, eq_true c_3, eq_false c_4]; done) | (simp [zSlots, c_1, c_2, c_3, c_4]; done) | contradiction | rfl)
        · refine lv_iconst (v := 1) hx hb dX1_areSlots_28 (by decide) ?_
          refine lv_goto (tgt := 33) hx hb dX1_areSlots_29 (by decide) ?_
          exact ps_zret S hr hlk dX1_areSlots_33 (by decide) (by first | (simp [zSlots, eq_true c_1, eq_true c_2, eq_true c_3, eq_true c_4]; done) | (simp [zSlots, c_1, c_2, c_3, c_4]; done) | contradiction | rfl)
theorem qX2_isSlot : yX2_isSlot.cls ≠ "java/lang/invoke/MethodHandle" ∧ yX2_isSlot.cls ≠ "java/lang/invoke/VarHandle" ∧ (parseMethodDescriptor yX2_isSlot.desc).map (fun d => d.parameters.length) = some 1 := by decide +kernel
set_option maxHeartbeats 4000000 in
set_option maxRecDepth 100000 in
theorem c_X2_isSlot (l : Launch) (i : Int32) : PS l yX2_isSlot wsX2_isSlot 0 0 [.int i] (.int (if zSl i then 1 else 0)) := by
  refine PS.of (cc := cX2_isSlot) (maxL := 1) (ret := some .boolean) (own := RX2) (by decide) rfl rfl (Nat.le_of_ble_eq_true rfl) ?_
  intro p e s m below meth c ls S hr hlk hl
  have hx := S.1
  have hb := S.2.1
  have hl : lv_has ls 1 [(0, .int i)] := hl
  refine lv_iload_n hx hb dX2_isSlot_0 rfl (lv_at hl 0 rfl) ?_
  refine zi_lt (tgt := 14) hx hb dX2_isSlot_1 (by decide) (fun c_1 => ?_) (fun c_1 => ?_)
  · refine lv_iconst (v := 0) hx hb dX2_isSlot_14 (by decide) ?_
    exact ps_zret S hr hlk dX2_isSlot_15 (by decide) (by first | (simp [zSl, eq_true c_1]; done) | (simp [zSl, c_1]; done) | contradiction | rfl)
  · refine lv_iload_n hx hb dX2_isSlot_4 rfl (lv_at hl 0 rfl) ?_
    refine lv_bipush (v := 16) hx hb dX2_isSlot_5 (by decide) ?_
    refine zc_ge (tgt := 14) hx hb dX2_isSlot_7 (by decide) (fun c_2 => ?_) (fun c_2 => ?_)
    · refine lv_iconst (v := 0) hx hb dX2_isSlot_14 (by decide) ?_
      exact ps_zret S hr hlk dX2_isSlot_15 (by decide) (by first | (simp [zSl, eq_false c_1, eq_false c_2]; done) | (simp [zSl, c_1, c_2]; done) | contradiction | rfl)
    · refine lv_iconst (v := 1) hx hb dX2_isSlot_10 (by decide) ?_
      refine lv_goto (tgt := 15) hx hb dX2_isSlot_11 (by decide) ?_
      exact ps_zret S hr hlk dX2_isSlot_15 (by decide) (by first | (simp [zSl, eq_false c_1, eq_true c_2]; done) | (simp [zSl, c_1, c_2]; done) | contradiction | rfl)
theorem qX2_isBroken : yX2_isBroken.cls ≠ "java/lang/invoke/MethodHandle" ∧ yX2_isBroken.cls ≠ "java/lang/invoke/VarHandle" ∧ (parseMethodDescriptor yX2_isBroken.desc).map (fun d => d.parameters.length) = some 1 := by decide +kernel
set_option maxHeartbeats 4000000 in
set_option maxRecDepth 100000 in
theorem c_X2_isBroken (l : Launch) (t : Int32) : PS l yX2_isBroken wsX2_isBroken 0 0 [.int t] (.int (if kBroken t then 1 else 0)) := by
  refine PS.of (cc := cX2_isBroken) (maxL := 1) (ret := some .boolean) (own := RX2) (by decide) rfl rfl (Nat.le_of_ble_eq_true rfl) ?_
  intro p e s m below meth c ls S hr hlk hl
  have hx := S.1
  have hb := S.2.1
  have hl : lv_has ls 1 [(0, .int t)] := hl
  refine lv_iload_n hx hb dX2_isBroken_0 rfl (lv_at hl 0 rfl) ?_
  refine lv_iconst (v := 2) hx hb dX2_isBroken_1 (by decide) ?_
  refine zc_lt (tgt := 9) hx hb dX2_isBroken_2 (by decide) (fun c_1 => ?_) (fun c_1 => ?_)
  · refine lv_iconst (v := 0) hx hb dX2_isBroken_9 (by decide) ?_
    exact ps_zret S hr hlk dX2_isBroken_10 (by decide) (by first | (simp [kBroken, eq_true c_1]; done) | (simp [kBroken, c_1]; done) | contradiction | rfl)
  · refine lv_iconst (v := 1) hx hb dX2_isBroken_5 (by decide) ?_
    refine lv_goto (tgt := 10) hx hb dX2_isBroken_6 (by decide) ?_
    exact ps_zret S hr hlk dX2_isBroken_10 (by decide) (by first | (simp [kBroken, eq_false c_1]; done) | (simp [kBroken, c_1]; done) | contradiction | rfl)
theorem qX2_taken : yX2_taken.cls ≠ "java/lang/invoke/MethodHandle" ∧ yX2_taken.cls ≠ "java/lang/invoke/VarHandle" ∧ (parseMethodDescriptor yX2_taken.desc).map (fun d => d.parameters.length) = some 2 := by decide +kernel
set_option maxHeartbeats 4000000 in
set_option maxRecDepth 100000 in
theorem c_X2_taken (l : Launch) (t : Int32) (v : Int64) : PS l yX2_taken wsX2_taken 0 0 [.int t, .long v] (.long (nFit t v)) := by
  refine PS.of (cc := cX2_taken) (maxL := 3) (ret := some .long) (own := RX2) (by decide) rfl rfl (Nat.le_of_ble_eq_true rfl) ?_
  intro p e s m below meth c ls S hr hlk hl
  have hx := S.1
  have hb := S.2.1
  have hl : lv_has ls 3 [(0, .int t), (1, .long v)] := hl
  refine lv_iload_n hx hb dX2_taken_0 rfl (lv_at hl 0 rfl) ?_
  refine zi_eq (tgt := 9) hx hb dX2_taken_1 (by decide) (fun c_1 => ?_) (fun c_1 => ?_)
  · refine lv_lload_n hx hb dX2_taken_9 rfl (lv_at hl 1 rfl) ?_
    refine lv_l2i (v := Int64.toInt32 v) hx hb dX2_taken_10 rfl ?_
    refine lv_i2l (v := Int32.toInt64 (Int64.toInt32 v)) hx hb dX2_taken_11 rfl ?_
    refine lv_goto (tgt := 16) hx hb dX2_taken_12 (by decide) ?_
    exact ps_lret S hr hlk dX2_taken_16 (by first | (simp [nFit, eq_true c_1]; done) | (simp [nFit, c_1]; done) | contradiction | rfl)
  · refine lv_iload_n hx hb dX2_taken_4 rfl (lv_at hl 0 rfl) ?_
    refine lv_iconst (v := 2) hx hb dX2_taken_5 (by decide) ?_
    refine zc_ne (tgt := 15) hx hb dX2_taken_6 (by decide) (fun c_2 => ?_) (fun c_2 => ?_)
    · refine lv_lload_n hx hb dX2_taken_15 rfl (lv_at hl 1 rfl) ?_
      exact ps_lret S hr hlk dX2_taken_16 (by first | (simp [nFit, eq_false c_1, eq_false c_2]; done) | (simp [nFit, c_1, c_2]; done) | contradiction | rfl)
    · refine lv_lload_n hx hb dX2_taken_9 rfl (lv_at hl 1 rfl) ?_
      refine lv_l2i (v := Int64.toInt32 v) hx hb dX2_taken_10 rfl ?_
      refine lv_i2l (v := Int32.toInt64 (Int64.toInt32 v)) hx hb dX2_taken_11 rfl ?_
      refine lv_goto (tgt := 16) hx hb dX2_taken_12 (by decide) ?_
      exact ps_lret S hr hlk dX2_taken_16 (by first | (simp [nFit, eq_false c_1, eq_true c_2]; done) | (simp [nFit, c_1, c_2]; done) | contradiction | rfl)
theorem qX2_magnitude : yX2_magnitude.cls ≠ "java/lang/invoke/MethodHandle" ∧ yX2_magnitude.cls ≠ "java/lang/invoke/VarHandle" ∧ (parseMethodDescriptor yX2_magnitude.desc).map (fun d => d.parameters.length) = some 2 := by decide +kernel
set_option maxHeartbeats 4000000 in
set_option maxRecDepth 100000 in
theorem c_X2_magnitude (l : Launch) (t : Int32) (v : Int64) : PS l yX2_magnitude wsX2_magnitude 0 0 [.int t, .long v] (.long (kMag t v)) := by
  refine PS.of (cc := cX2_magnitude) (maxL := 3) (ret := some .long) (own := RX2) (by decide) rfl rfl (Nat.le_of_ble_eq_true rfl) ?_
  intro p e s m below meth c ls S hr hlk hl
  have hx := S.1
  have hb := S.2.1
  have hl : lv_has ls 3 [(0, .int t), (1, .long v)] := hl
  refine lv_iload_n hx hb dX2_magnitude_0 rfl (lv_at hl 0 rfl) ?_
  refine lv_iconst (v := 2) hx hb dX2_magnitude_1 (by decide) ?_
  refine zc_ne (tgt := 13) hx hb dX2_magnitude_2 (by decide) (fun c_1 => ?_) (fun c_1 => ?_)
  · refine lv_lload_n hx hb dX2_magnitude_13 rfl (lv_at hl 1 rfl) ?_
    refine lv_ldc2 hx hb S.2.2.2.1 (S.2.2.2.2 (.constantLong RX2 49 (9223372036854775807)) (by decide +kernel)) dX2_magnitude_14 ?_
    refine lv_land hx hb dX2_magnitude_17 ?_
    exact ps_lret S hr hlk dX2_magnitude_18 (by first | (simp [kMag, eq_false c_1]; done) | (simp [kMag, c_1]; done) | contradiction | rfl)
  · refine lv_lload_n hx hb dX2_magnitude_5 rfl (lv_at hl 1 rfl) ?_
    refine lv_ldc2 hx hb S.2.2.2.1 (S.2.2.2.2 (.constantLong RX2 47 (2147483647)) (by decide +kernel)) dX2_magnitude_6 ?_
    refine lv_land hx hb dX2_magnitude_9 ?_
    refine lv_goto (tgt := 18) hx hb dX2_magnitude_10 (by decide) ?_
    exact ps_lret S hr hlk dX2_magnitude_18 (by first | (simp [kMag, eq_true c_1]; done) | (simp [kMag, c_1]; done) | contradiction | rfl)
theorem qX2_endless : yX2_endless.cls ≠ "java/lang/invoke/MethodHandle" ∧ yX2_endless.cls ≠ "java/lang/invoke/VarHandle" ∧ (parseMethodDescriptor yX2_endless.desc).map (fun d => d.parameters.length) = some 1 := by decide +kernel
set_option maxHeartbeats 4000000 in
set_option maxRecDepth 100000 in
theorem c_X2_endless (l : Launch) (t : Int32) : PS l yX2_endless wsX2_endless 0 0 [.int t] (.long (kInf t)) := by
  refine PS.of (cc := cX2_endless) (maxL := 1) (ret := some .long) (own := RX2) (by decide) rfl rfl (Nat.le_of_ble_eq_true rfl) ?_
  intro p e s m below meth c ls S hr hlk hl
  have hx := S.1
  have hb := S.2.1
  have hl : lv_has ls 1 [(0, .int t)] := hl
  refine lv_iload_n hx hb dX2_endless_0 rfl (lv_at hl 0 rfl) ?_
  refine lv_iconst (v := 2) hx hb dX2_endless_1 (by decide) ?_
  refine zc_ne (tgt := 11) hx hb dX2_endless_2 (by decide) (fun c_1 => ?_) (fun c_1 => ?_)
  · refine lv_ldc2 hx hb S.2.2.2.1 (S.2.2.2.2 (.constantLong RX2 53 (9218868437227405312)) (by decide +kernel)) dX2_endless_11 ?_
    exact ps_lret S hr hlk dX2_endless_14 (by first | (simp [kInf, eq_false c_1]; done) | (simp [kInf, c_1]; done) | contradiction | rfl)
  · refine lv_ldc2 hx hb S.2.2.2.1 (S.2.2.2.2 (.constantLong RX2 51 (2139095040)) (by decide +kernel)) dX2_endless_5 ?_
    refine lv_goto (tgt := 14) hx hb dX2_endless_8 (by decide) ?_
    exact ps_lret S hr hlk dX2_endless_14 (by first | (simp [kInf, eq_true c_1]; done) | (simp [kInf, c_1]; done) | contradiction | rfl)
theorem qX2_one : yX2_one.cls ≠ "java/lang/invoke/MethodHandle" ∧ yX2_one.cls ≠ "java/lang/invoke/VarHandle" ∧ (parseMethodDescriptor yX2_one.desc).map (fun d => d.parameters.length) = some 1 := by decide +kernel
set_option maxHeartbeats 4000000 in
set_option maxRecDepth 100000 in
theorem c_X2_one (l : Launch) (t : Int32) : PS l yX2_one wsX2_one 0 0 [.int t] (.long (kOne t)) := by
  refine PS.of (cc := cX2_one) (maxL := 1) (ret := some .long) (own := RX2) (by decide) rfl rfl (Nat.le_of_ble_eq_true rfl) ?_
  intro p e s m below meth c ls S hr hlk hl
  have hx := S.1
  have hb := S.2.1
  have hl : lv_has ls 1 [(0, .int t)] := hl
  refine lv_iload_n hx hb dX2_one_0 rfl (lv_at hl 0 rfl) ?_
  refine lv_iconst (v := 2) hx hb dX2_one_1 (by decide) ?_
  refine zc_ne (tgt := 11) hx hb dX2_one_2 (by decide) (fun c_1 => ?_) (fun c_1 => ?_)
  · refine lv_ldc2 hx hb S.2.2.2.1 (S.2.2.2.2 (.constantLong RX2 57 (4607182418800017408)) (by decide +kernel)) dX2_one_11 ?_
    exact ps_lret S hr hlk dX2_one_14 (by first | (simp [kOne, eq_false c_1]; done) | (simp [kOne, c_1]; done) | contradiction | rfl)
  · refine lv_ldc2 hx hb S.2.2.2.1 (S.2.2.2.2 (.constantLong RX2 55 (1065353216)) (by decide +kernel)) dX2_one_5 ?_
    refine lv_goto (tgt := 14) hx hb dX2_one_8 (by decide) ?_
    exact ps_lret S hr hlk dX2_one_14 (by first | (simp [kOne, eq_true c_1]; done) | (simp [kOne, c_1]; done) | contradiction | rfl)
theorem qX2_signed : yX2_signed.cls ≠ "java/lang/invoke/MethodHandle" ∧ yX2_signed.cls ≠ "java/lang/invoke/VarHandle" ∧ (parseMethodDescriptor yX2_signed.desc).map (fun d => d.parameters.length) = some 3 := by decide +kernel
set_option maxHeartbeats 4000000 in
set_option maxRecDepth 100000 in
theorem c_X2_signed (l : Launch) (t : Int32) (z : Int64) (b : Int32) : PS l yX2_signed wsX2_signed 0 0 [.int t, .long z, .int b] (.long (kSgn t z b)) := by
  refine PS.of (cc := cX2_signed) (maxL := 4) (ret := some .long) (own := RX2) (by decide) rfl rfl (Nat.le_of_ble_eq_true rfl) ?_
  intro p e s m below meth c ls S hr hlk hl
  have hx := S.1
  have hb := S.2.1
  have hl : lv_has ls 4 [(0, .int t), (1, .long z), (3, .int b)] := hl
  refine lv_iload_n hx hb dX2_signed_0 rfl (lv_at hl 2 rfl) ?_
  refine zi_ne (tgt := 6) hx hb dX2_signed_1 (by decide) (fun c_1 => ?_) (fun c_1 => ?_)
  · refine lv_iload_n hx hb dX2_signed_6 rfl (lv_at hl 0 rfl) ?_
    refine lv_iconst (v := 2) hx hb dX2_signed_7 (by decide) ?_
    refine zc_ne (tgt := 21) hx hb dX2_signed_8 (by decide) (fun c_2 => ?_) (fun c_2 => ?_)
    · refine lv_lload_n hx hb dX2_signed_21 rfl (lv_at hl 1 rfl) ?_
      refine lv_ldc2 hx hb S.2.2.2.1 (S.2.2.2.2 (.constantLong RX2 61 (-9223372036854775808)) (by decide +kernel)) dX2_signed_22 ?_
      refine lv_lor hx hb dX2_signed_25 ?_
      exact ps_lret S hr hlk dX2_signed_26 (by first | (simp [kSgn, eq_false c_1, eq_false c_2]; done) | (simp [kSgn, c_1, c_2]; done) | contradiction | rfl)
    · refine lv_lload_n hx hb dX2_signed_11 rfl (lv_at hl 1 rfl) ?_
      refine lv_ldc2 hx hb S.2.2.2.1 (S.2.2.2.2 (.constantLong RX2 59 (2147483648)) (by decide +kernel)) dX2_signed_12 ?_
      refine lv_lor hx hb dX2_signed_15 ?_
      refine lv_l2i (v := Int64.toInt32 (z ||| 2147483648)) hx hb dX2_signed_16 rfl ?_
      refine lv_i2l (v := Int32.toInt64 (Int64.toInt32 (z ||| 2147483648))) hx hb dX2_signed_17 rfl ?_
      refine lv_goto (tgt := 26) hx hb dX2_signed_18 (by decide) ?_
      exact ps_lret S hr hlk dX2_signed_26 (by first | (simp [kSgn, eq_false c_1, eq_true c_2]; done) | (simp [kSgn, c_1, c_2]; done) | contradiction | rfl)
  · refine lv_lload_n hx hb dX2_signed_4 rfl (lv_at hl 1 rfl) ?_
    exact ps_lret S hr hlk dX2_signed_5 (by first | (simp [kSgn, eq_true c_1]; done) | (simp [kSgn, c_1]; done) | contradiction | rfl)
theorem qX2_isNumber : yX2_isNumber.cls ≠ "java/lang/invoke/MethodHandle" ∧ yX2_isNumber.cls ≠ "java/lang/invoke/VarHandle" ∧ (parseMethodDescriptor yX2_isNumber.desc).map (fun d => d.parameters.length) = some 2 := by decide +kernel
set_option maxHeartbeats 4000000 in
set_option maxRecDepth 100000 in
theorem c_X2_isNumber (l : Launch) (t : Int32) (v : Int64) : PS l yX2_isNumber wsX2_isNumber 1 22 [.int t, .long v] (.int (if kNum t v then 1 else 0)) := by
  refine PS.of (cc := cX2_isNumber) (maxL := 3) (ret := some .boolean) (own := RX2) (by decide) rfl rfl (Nat.le_of_ble_eq_true rfl) ?_
  intro p e s m below meth c ls S hr hlk hl
  have hx := S.1
  have hb := S.2.1
  have hl : lv_has ls 3 [(0, .int t), (1, .long v)] := hl
  refine lv_iload_n hx hb dX2_isNumber_0 rfl (lv_at hl 0 rfl) ?_
  refine ps_call (rest := []) S (c_X2_isBroken l t) gX2_isNumber_X2_isBroken rfl qX2_isBroken ⟨Nat.le_of_ble_eq_true rfl, Nat.le_of_ble_eq_true rfl⟩ ⟨Nat.le_of_ble_eq_true rfl, Nat.le_of_ble_eq_true rfl⟩ hl.1 rfl (Nat.le_of_ble_eq_true rfl) dX2_isNumber_1 ?_
  refine zb_eq (P := kBroken t) (tgt := 20) hx hb dX2_isNumber_4 (by decide) (fun c_1 => ?_) (fun c_1 => ?_)
  · refine lv_iconst (v := 1) hx hb dX2_isNumber_20 (by decide) ?_
    refine lv_goto (tgt := 25) hx hb dX2_isNumber_21 (by decide) ?_
    exact ps_zret S hr hlk dX2_isNumber_25 (by decide) (by first | (simp [kNum, eq_false c_1]; done) | (simp [kNum, c_1]; done) | contradiction | rfl)
  · refine lv_iload_n hx hb dX2_isNumber_7 rfl (lv_at hl 0 rfl) ?_
    refine lv_lload_n hx hb dX2_isNumber_8 rfl (lv_at hl 1 rfl) ?_
    refine ps_call (rest := []) S (c_X2_magnitude l t v) gX2_isNumber_X2_magnitude rfl qX2_magnitude ⟨Nat.le_of_ble_eq_true rfl, Nat.le_of_ble_eq_true rfl⟩ ⟨Nat.le_of_ble_eq_true rfl, Nat.le_of_ble_eq_true rfl⟩ hl.1 rfl (Nat.le_of_ble_eq_true rfl) dX2_isNumber_9 ?_
    refine lv_iload_n hx hb dX2_isNumber_12 rfl (lv_at hl 0 rfl) ?_
    refine ps_call (rest := [.long (kMag t v)]) S (c_X2_endless l t) gX2_isNumber_X2_endless rfl qX2_endless ⟨Nat.le_of_ble_eq_true rfl, Nat.le_of_ble_eq_true rfl⟩ ⟨Nat.le_of_ble_eq_true rfl, Nat.le_of_ble_eq_true rfl⟩ hl.1 rfl (Nat.le_of_ble_eq_true rfl) dX2_isNumber_13 ?_
    refine zl_gt (tgt := 24) hx hb dX2_isNumber_16 dX2_isNumber_17 (by decide) (fun c_2 => ?_) (fun c_2 => ?_)
    · refine lv_iconst (v := 0) hx hb dX2_isNumber_24 (by decide) ?_
      exact ps_zret S hr hlk dX2_isNumber_25 (by decide) (by first | (simp [kNum, eq_true c_1, eq_true c_2]; done) | (simp [kNum, c_1, c_2]; done) | contradiction | rfl)
    · refine lv_iconst (v := 1) hx hb dX2_isNumber_20 (by decide) ?_
      refine lv_goto (tgt := 25) hx hb dX2_isNumber_21 (by decide) ?_
      exact ps_zret S hr hlk dX2_isNumber_25 (by decide) (by first | (simp [kNum, eq_true c_1, eq_false c_2]; done) | (simp [kNum, c_1, c_2]; done) | contradiction | rfl)
theorem qX2_rank : yX2_rank.cls ≠ "java/lang/invoke/MethodHandle" ∧ yX2_rank.cls ≠ "java/lang/invoke/VarHandle" ∧ (parseMethodDescriptor yX2_rank.desc).map (fun d => d.parameters.length) = some 2 := by decide +kernel
set_option maxHeartbeats 4000000 in
set_option maxRecDepth 100000 in
theorem c_X2_rank (l : Launch) (t : Int32) (v : Int64) : PS l yX2_rank wsX2_rank 1 20 [.int t, .long v] (.long (kRank t v)) := by
  refine PS.of (cc := cX2_rank) (maxL := 3) (ret := some .long) (own := RX2) (by decide) rfl rfl (Nat.le_of_ble_eq_true rfl) ?_
  intro p e s m below meth c ls S hr hlk hl
  have hx := S.1
  have hb := S.2.1
  have hl : lv_has ls 3 [(0, .int t), (1, .long v)] := hl
  refine lv_iload_n hx hb dX2_rank_0 rfl (lv_at hl 0 rfl) ?_
  refine ps_call (rest := []) S (c_X2_isBroken l t) gX2_rank_X2_isBroken rfl qX2_isBroken ⟨Nat.le_of_ble_eq_true rfl, Nat.le_of_ble_eq_true rfl⟩ ⟨Nat.le_of_ble_eq_true rfl, Nat.le_of_ble_eq_true rfl⟩ hl.1 rfl (Nat.le_of_ble_eq_true rfl) dX2_rank_1 ?_
  refine zb_eq (P := kBroken t) (tgt := 13) hx hb dX2_rank_4 (by decide) (fun c_1 => ?_) (fun c_1 => ?_)
  · refine lv_lload_n hx hb dX2_rank_13 rfl (lv_at hl 1 rfl) ?_
    exact ps_lret S hr hlk dX2_rank_14 (by first | (simp [kRank, eq_false c_1]; done) | (simp [kRank, c_1]; done) | contradiction | rfl)
  · refine lv_lload_n hx hb dX2_rank_7 rfl (lv_at hl 1 rfl) ?_
    refine lv_lconst (v := 0) hx hb dX2_rank_8 (by decide) ?_
    refine zl_lt (tgt := 15) hx hb dX2_rank_9 dX2_rank_10 (by decide) (fun c_2 => ?_) (fun c_2 => ?_)
    · refine lv_iload_n hx hb dX2_rank_15 rfl (lv_at hl 0 rfl) ?_
      refine lv_iconst (v := 2) hx hb dX2_rank_16 (by decide) ?_
      refine zc_ne (tgt := 28) hx hb dX2_rank_17 (by decide) (fun c_3 => ?_) (fun c_3 => ?_)
      · refine lv_lload_n hx hb dX2_rank_28 rfl (lv_at hl 1 rfl) ?_
        refine lv_ldc2 hx hb S.2.2.2.1 (S.2.2.2.2 (.constantLong RX2 49 (9223372036854775807)) (by decide +kernel)) dX2_rank_29 ?_
        refine lv_lxor hx hb dX2_rank_32 ?_
        exact ps_lret S hr hlk dX2_rank_33 (by first | (simp [kRank, eq_true c_1, eq_true c_2, eq_false c_3]; done) | (simp [kRank, c_1, c_2, c_3]; done) | contradiction | rfl)
      · refine lv_lload_n hx hb dX2_rank_20 rfl (lv_at hl 1 rfl) ?_
        refine lv_ldc2 hx hb S.2.2.2.1 (S.2.2.2.2 (.constantLong RX2 47 (2147483647)) (by decide +kernel)) dX2_rank_21 ?_
        refine lv_lxor hx hb dX2_rank_24 ?_
        refine lv_goto (tgt := 33) hx hb dX2_rank_25 (by decide) ?_
        exact ps_lret S hr hlk dX2_rank_33 (by first | (simp [kRank, eq_true c_1, eq_true c_2, eq_true c_3]; done) | (simp [kRank, c_1, c_2, c_3]; done) | contradiction | rfl)
    · refine lv_lload_n hx hb dX2_rank_13 rfl (lv_at hl 1 rfl) ?_
      exact ps_lret S hr hlk dX2_rank_14 (by first | (simp [kRank, eq_true c_1, eq_false c_2]; done) | (simp [kRank, c_1, c_2]; done) | contradiction | rfl)
theorem qX2_isAbove : yX2_isAbove.cls ≠ "java/lang/invoke/MethodHandle" ∧ yX2_isAbove.cls ≠ "java/lang/invoke/VarHandle" ∧ (parseMethodDescriptor yX2_isAbove.desc).map (fun d => d.parameters.length) = some 3 := by decide +kernel
set_option maxHeartbeats 4000000 in
set_option maxRecDepth 100000 in
theorem c_X2_isAbove (l : Launch) (t : Int32) (a : Int64) (b : Int64) : PS l yX2_isAbove wsX2_isAbove 2 42 [.int t, .long a, .long b] (.int (if kAbove t a b then 1 else 0)) := by
  refine PS.of (cc := cX2_isAbove) (maxL := 5) (ret := some .boolean) (own := RX2) (by decide) rfl rfl (Nat.le_of_ble_eq_true rfl) ?_
  intro p e s m below meth c ls S hr hlk hl
  have hx := S.1
  have hb := S.2.1
  have hl : lv_has ls 5 [(0, .int t), (1, .long a), (3, .long b)] := hl
  refine lv_iload_n hx hb dX2_isAbove_0 rfl (lv_at hl 0 rfl) ?_
  refine lv_lload_n hx hb dX2_isAbove_1 rfl (lv_at hl 1 rfl) ?_
  refine ps_call (rest := []) S (c_X2_rank l t a) gX2_isAbove_X2_rank rfl qX2_rank ⟨Nat.le_of_ble_eq_true rfl, Nat.le_of_ble_eq_true rfl⟩ ⟨Nat.le_of_ble_eq_true rfl, Nat.le_of_ble_eq_true rfl⟩ hl.1 rfl (Nat.le_of_ble_eq_true rfl) dX2_isAbove_2 ?_
  refine lv_iload_n hx hb dX2_isAbove_5 rfl (lv_at hl 0 rfl) ?_
  refine lv_lload_n hx hb dX2_isAbove_6 rfl (lv_at hl 2 rfl) ?_
  refine ps_call (rest := [.long (kRank t a)]) S (c_X2_rank l t b) gX2_isAbove_X2_rank rfl qX2_rank ⟨Nat.le_of_ble_eq_true rfl, Nat.le_of_ble_eq_true rfl⟩ ⟨Nat.le_of_ble_eq_true rfl, Nat.le_of_ble_eq_true rfl⟩ hl.1 rfl (Nat.le_of_ble_eq_true rfl) dX2_isAbove_7 ?_
  refine zl_le (tgt := 18) hx hb dX2_isAbove_10 dX2_isAbove_11 (by decide) (fun c_1 => ?_) (fun c_1 => ?_)
  · refine lv_iconst (v := 0) hx hb dX2_isAbove_18 (by decide) ?_
    exact ps_zret S hr hlk dX2_isAbove_19 (by decide) (by first | (simp [kAbove, eq_false c_1]; done) | (simp [kAbove, c_1]; done) | contradiction | rfl)
  · refine lv_iconst (v := 1) hx hb dX2_isAbove_14 (by decide) ?_
    refine lv_goto (tgt := 19) hx hb dX2_isAbove_15 (by decide) ?_
    exact ps_zret S hr hlk dX2_isAbove_19 (by decide) (by first | (simp [kAbove, eq_true c_1]; done) | (simp [kAbove, c_1]; done) | contradiction | rfl)
theorem qX2_greater : yX2_greater.cls ≠ "java/lang/invoke/MethodHandle" ∧ yX2_greater.cls ≠ "java/lang/invoke/VarHandle" ∧ (parseMethodDescriptor yX2_greater.desc).map (fun d => d.parameters.length) = some 3 := by decide +kernel
set_option maxHeartbeats 4000000 in
set_option maxRecDepth 100000 in
theorem c_X2_greater (l : Launch) (t : Int32) (a : Int64) (b : Int64) : PS l yX2_greater wsX2_greater 3 66 [.int t, .long a, .long b] (.long (kGreater t a b)) := by
  refine PS.of (cc := cX2_greater) (maxL := 5) (ret := some .long) (own := RX2) (by decide) rfl rfl (Nat.le_of_ble_eq_true rfl) ?_
  intro p e s m below meth c ls S hr hlk hl
  have hx := S.1
  have hb := S.2.1
  have hl : lv_has ls 5 [(0, .int t), (1, .long a), (3, .long b)] := hl
  refine lv_iload_n hx hb dX2_greater_0 rfl (lv_at hl 0 rfl) ?_
  refine lv_lload_n hx hb dX2_greater_1 rfl (lv_at hl 1 rfl) ?_
  refine lv_lload_n hx hb dX2_greater_2 rfl (lv_at hl 2 rfl) ?_
  refine ps_call (rest := []) S (c_X2_isAbove l t a b) gX2_greater_X2_isAbove rfl qX2_isAbove ⟨Nat.le_of_ble_eq_true rfl, Nat.le_of_ble_eq_true rfl⟩ ⟨Nat.le_of_ble_eq_true rfl, Nat.le_of_ble_eq_true rfl⟩ hl.1 rfl (Nat.le_of_ble_eq_true rfl) dX2_greater_3 ?_
  refine zb_eq (P := kAbove t a b) (tgt := 13) hx hb dX2_greater_6 (by decide) (fun c_1 => ?_) (fun c_1 => ?_)
  · refine lv_lload_n hx hb dX2_greater_13 rfl (lv_at hl 2 rfl) ?_
    exact ps_lret S hr hlk dX2_greater_14 (by first | (simp [kGreater, eq_false c_1]; done) | (simp [kGreater, c_1]; done) | contradiction | rfl)
  · refine lv_lload_n hx hb dX2_greater_9 rfl (lv_at hl 1 rfl) ?_
    refine lv_goto (tgt := 14) hx hb dX2_greater_10 (by decide) ?_
    exact ps_lret S hr hlk dX2_greater_14 (by first | (simp [kGreater, eq_true c_1]; done) | (simp [kGreater, c_1]; done) | contradiction | rfl)
theorem qX2_lesser : yX2_lesser.cls ≠ "java/lang/invoke/MethodHandle" ∧ yX2_lesser.cls ≠ "java/lang/invoke/VarHandle" ∧ (parseMethodDescriptor yX2_lesser.desc).map (fun d => d.parameters.length) = some 3 := by decide +kernel
set_option maxHeartbeats 4000000 in
set_option maxRecDepth 100000 in
theorem c_X2_lesser (l : Launch) (t : Int32) (a : Int64) (b : Int64) : PS l yX2_lesser wsX2_lesser 3 66 [.int t, .long a, .long b] (.long (kLesser t a b)) := by
  refine PS.of (cc := cX2_lesser) (maxL := 5) (ret := some .long) (own := RX2) (by decide) rfl rfl (Nat.le_of_ble_eq_true rfl) ?_
  intro p e s m below meth c ls S hr hlk hl
  have hx := S.1
  have hb := S.2.1
  have hl : lv_has ls 5 [(0, .int t), (1, .long a), (3, .long b)] := hl
  refine lv_iload_n hx hb dX2_lesser_0 rfl (lv_at hl 0 rfl) ?_
  refine lv_lload_n hx hb dX2_lesser_1 rfl (lv_at hl 1 rfl) ?_
  refine lv_lload_n hx hb dX2_lesser_2 rfl (lv_at hl 2 rfl) ?_
  refine ps_call (rest := []) S (c_X2_isAbove l t a b) gX2_lesser_X2_isAbove rfl qX2_isAbove ⟨Nat.le_of_ble_eq_true rfl, Nat.le_of_ble_eq_true rfl⟩ ⟨Nat.le_of_ble_eq_true rfl, Nat.le_of_ble_eq_true rfl⟩ hl.1 rfl (Nat.le_of_ble_eq_true rfl) dX2_lesser_3 ?_
  refine zb_eq (P := kAbove t a b) (tgt := 13) hx hb dX2_lesser_6 (by decide) (fun c_1 => ?_) (fun c_1 => ?_)
  · refine lv_lload_n hx hb dX2_lesser_13 rfl (lv_at hl 1 rfl) ?_
    exact ps_lret S hr hlk dX2_lesser_14 (by first | (simp [kLesser, eq_false c_1]; done) | (simp [kLesser, c_1]; done) | contradiction | rfl)
  · refine lv_lload_n hx hb dX2_lesser_9 rfl (lv_at hl 2 rfl) ?_
    refine lv_goto (tgt := 14) hx hb dX2_lesser_10 (by decide) ?_
    exact ps_lret S hr hlk dX2_lesser_14 (by first | (simp [kLesser, eq_true c_1]; done) | (simp [kLesser, c_1]; done) | contradiction | rfl)
theorem qX2_sizeOf : yX2_sizeOf.cls ≠ "java/lang/invoke/MethodHandle" ∧ yX2_sizeOf.cls ≠ "java/lang/invoke/VarHandle" ∧ (parseMethodDescriptor yX2_sizeOf.desc).map (fun d => d.parameters.length) = some 2 := by decide +kernel
set_option maxHeartbeats 4000000 in
set_option maxRecDepth 100000 in
theorem c_X2_sizeOf (l : Launch) (t : Int32) (v : Int64) : PS l yX2_sizeOf wsX2_sizeOf 1 22 [.int t, .long v] (.long (kSize t v)) := by
  refine PS.of (cc := cX2_sizeOf) (maxL := 3) (ret := some .long) (own := RX2) (by decide) rfl rfl (Nat.le_of_ble_eq_true rfl) ?_
  intro p e s m below meth c ls S hr hlk hl
  have hx := S.1
  have hb := S.2.1
  have hl : lv_has ls 3 [(0, .int t), (1, .long v)] := hl
  refine lv_iload_n hx hb dX2_sizeOf_0 rfl (lv_at hl 0 rfl) ?_
  refine ps_call (rest := []) S (c_X2_isBroken l t) gX2_sizeOf_X2_isBroken rfl qX2_isBroken ⟨Nat.le_of_ble_eq_true rfl, Nat.le_of_ble_eq_true rfl⟩ ⟨Nat.le_of_ble_eq_true rfl, Nat.le_of_ble_eq_true rfl⟩ hl.1 rfl (Nat.le_of_ble_eq_true rfl) dX2_sizeOf_1 ?_
  refine zb_eq (P := kBroken t) (tgt := 13) hx hb dX2_sizeOf_4 (by decide) (fun c_1 => ?_) (fun c_1 => ?_)
  · refine lv_lload_n hx hb dX2_sizeOf_13 rfl (lv_at hl 1 rfl) ?_
    refine lv_lconst (v := 0) hx hb dX2_sizeOf_14 (by decide) ?_
    refine zl_ge (tgt := 28) hx hb dX2_sizeOf_15 dX2_sizeOf_16 (by decide) (fun c_2 => ?_) (fun c_2 => ?_)
    · refine lv_lload_n hx hb dX2_sizeOf_28 rfl (lv_at hl 1 rfl) ?_
      exact ps_lret S hr hlk dX2_sizeOf_29 (by first | (simp [kSize, eq_false c_1, eq_false c_2]; done) | (simp [kSize, c_1, c_2]; done) | contradiction | rfl)
    · refine lv_iload_n hx hb dX2_sizeOf_19 rfl (lv_at hl 0 rfl) ?_
      refine lv_lload_n hx hb dX2_sizeOf_20 rfl (lv_at hl 1 rfl) ?_
      refine lv_lneg hx hb dX2_sizeOf_21 ?_
      refine ps_call (rest := []) S (c_X2_taken l t (-v)) gX2_sizeOf_X2_taken rfl qX2_taken ⟨Nat.le_of_ble_eq_true rfl, Nat.le_of_ble_eq_true rfl⟩ ⟨Nat.le_of_ble_eq_true rfl, Nat.le_of_ble_eq_true rfl⟩ hl.1 rfl (Nat.le_of_ble_eq_true rfl) dX2_sizeOf_22 ?_
      refine lv_goto (tgt := 29) hx hb dX2_sizeOf_25 (by decide) ?_
      exact ps_lret S hr hlk dX2_sizeOf_29 (by first | (simp [kSize, eq_false c_1, eq_true c_2]; done) | (simp [kSize, c_1, c_2]; done) | contradiction | rfl)
  · refine lv_iload_n hx hb dX2_sizeOf_7 rfl (lv_at hl 0 rfl) ?_
    refine lv_lload_n hx hb dX2_sizeOf_8 rfl (lv_at hl 1 rfl) ?_
    refine ps_call (rest := []) S (c_X2_magnitude l t v) gX2_sizeOf_X2_magnitude rfl qX2_magnitude ⟨Nat.le_of_ble_eq_true rfl, Nat.le_of_ble_eq_true rfl⟩ ⟨Nat.le_of_ble_eq_true rfl, Nat.le_of_ble_eq_true rfl⟩ hl.1 rfl (Nat.le_of_ble_eq_true rfl) dX2_sizeOf_9 ?_
    exact ps_lret S hr hlk dX2_sizeOf_12 (by first | (simp [kSize, eq_true c_1]; done) | (simp [kSize, c_1]; done) | contradiction | rfl)
theorem qX2_turned : yX2_turned.cls ≠ "java/lang/invoke/MethodHandle" ∧ yX2_turned.cls ≠ "java/lang/invoke/VarHandle" ∧ (parseMethodDescriptor yX2_turned.desc).map (fun d => d.parameters.length) = some 2 := by decide +kernel
set_option maxHeartbeats 4000000 in
set_option maxRecDepth 100000 in
theorem c_X2_turned (l : Launch) (t : Int32) (v : Int64) : PS l yX2_turned wsX2_turned 1 23 [.int t, .long v] (.long (kTurned t v)) := by
  refine PS.of (cc := cX2_turned) (maxL := 3) (ret := some .long) (own := RX2) (by decide) rfl rfl (Nat.le_of_ble_eq_true rfl) ?_
  intro p e s m below meth c ls S hr hlk hl
  have hx := S.1
  have hb := S.2.1
  have hl : lv_has ls 3 [(0, .int t), (1, .long v)] := hl
  refine lv_iload_n hx hb dX2_turned_0 rfl (lv_at hl 0 rfl) ?_
  refine ps_call (rest := []) S (c_X2_isBroken l t) gX2_turned_X2_isBroken rfl qX2_isBroken ⟨Nat.le_of_ble_eq_true rfl, Nat.le_of_ble_eq_true rfl⟩ ⟨Nat.le_of_ble_eq_true rfl, Nat.le_of_ble_eq_true rfl⟩ hl.1 rfl (Nat.le_of_ble_eq_true rfl) dX2_turned_1 ?_
  refine zb_eq (P := kBroken t) (tgt := 30) hx hb dX2_turned_4 (by decide) (fun c_1 => ?_) (fun c_1 => ?_)
  · refine lv_iload_n hx hb dX2_turned_30 rfl (lv_at hl 0 rfl) ?_
    refine lv_lload_n hx hb dX2_turned_31 rfl (lv_at hl 1 rfl) ?_
    refine lv_lneg hx hb dX2_turned_32 ?_
    refine ps_call (rest := []) S (c_X2_taken l t (-v)) gX2_turned_X2_taken rfl qX2_taken ⟨Nat.le_of_ble_eq_true rfl, Nat.le_of_ble_eq_true rfl⟩ ⟨Nat.le_of_ble_eq_true rfl, Nat.le_of_ble_eq_true rfl⟩ hl.1 rfl (Nat.le_of_ble_eq_true rfl) dX2_turned_33 ?_
    exact ps_lret S hr hlk dX2_turned_36 (by first | (simp [kTurned, eq_false c_1]; done) | (simp [kTurned, c_1]; done) | contradiction | rfl)
  · refine lv_iload_n hx hb dX2_turned_7 rfl (lv_at hl 0 rfl) ?_
    refine lv_iload_n hx hb dX2_turned_8 rfl (lv_at hl 0 rfl) ?_
    refine lv_lload_n hx hb dX2_turned_9 rfl (lv_at hl 1 rfl) ?_
    refine ps_call (rest := [.int t]) S (c_X2_magnitude l t v) gX2_turned_X2_magnitude rfl qX2_magnitude ⟨Nat.le_of_ble_eq_true rfl, Nat.le_of_ble_eq_true rfl⟩ ⟨Nat.le_of_ble_eq_true rfl, Nat.le_of_ble_eq_true rfl⟩ hl.1 rfl (Nat.le_of_ble_eq_true rfl) dX2_turned_10 ?_
    refine lv_lload_n hx hb dX2_turned_13 rfl (lv_at hl 1 rfl) ?_
    refine lv_lconst (v := 0) hx hb dX2_turned_14 (by decide) ?_
    refine zl_lt (tgt := 23) hx hb dX2_turned_15 dX2_turned_16 (by decide) (fun c_2 => ?_) (fun c_2 => ?_)
    · refine lv_iconst (v := 0) hx hb dX2_turned_23 (by decide) ?_
      refine ps_call (rest := []) S (c_X2_signed l t (kMag t v) 0) gX2_turned_X2_signed rfl qX2_signed ⟨Nat.le_of_ble_eq_true rfl, Nat.le_of_ble_eq_true rfl⟩ ⟨Nat.le_of_ble_eq_true rfl, Nat.le_of_ble_eq_true rfl⟩ hl.1 rfl (Nat.le_of_ble_eq_true rfl) dX2_turned_24 ?_
      refine lv_goto (tgt := 36) hx hb dX2_turned_27 (by decide) ?_
      exact ps_lret S hr hlk dX2_turned_36 (by first | (simp [kTurned, eq_true c_1, eq_true c_2]; done) | (simp [kTurned, c_1, c_2]; done) | contradiction | rfl)
    · refine lv_iconst (v := 1) hx hb dX2_turned_19 (by decide) ?_
      refine lv_goto (tgt := 24) hx hb dX2_turned_20 (by decide) ?_
      refine ps_call (rest := []) S (c_X2_signed l t (kMag t v) 1) gX2_turned_X2_signed rfl qX2_signed ⟨Nat.le_of_ble_eq_true rfl, Nat.le_of_ble_eq_true rfl⟩ ⟨Nat.le_of_ble_eq_true rfl, Nat.le_of_ble_eq_true rfl⟩ hl.1 rfl (Nat.le_of_ble_eq_true rfl) dX2_turned_24 ?_
      refine lv_goto (tgt := 36) hx hb dX2_turned_27 (by decide) ?_
      exact ps_lret S hr hlk dX2_turned_36 (by first | (simp [kTurned, eq_true c_1, eq_false c_2]; done) | (simp [kTurned, c_1, c_2]; done) | contradiction | rfl)
theorem qX2_isZero : yX2_isZero.cls ≠ "java/lang/invoke/MethodHandle" ∧ yX2_isZero.cls ≠ "java/lang/invoke/VarHandle" ∧ (parseMethodDescriptor yX2_isZero.desc).map (fun d => d.parameters.length) = some 2 := by decide +kernel
set_option maxHeartbeats 4000000 in
set_option maxRecDepth 100000 in
theorem c_X2_isZero (l : Launch) (t : Int32) (v : Int64) : PS l yX2_isZero wsX2_isZero 1 22 [.int t, .long v] (.int (if kZero t v then 1 else 0)) := by
  refine PS.of (cc := cX2_isZero) (maxL := 3) (ret := some .boolean) (own := RX2) (by decide) rfl rfl (Nat.le_of_ble_eq_true rfl) ?_
  intro p e s m below meth c ls S hr hlk hl
  have hx := S.1
  have hb := S.2.1
  have hl : lv_has ls 3 [(0, .int t), (1, .long v)] := hl
  refine lv_iload_n hx hb dX2_isZero_0 rfl (lv_at hl 0 rfl) ?_
  refine ps_call (rest := []) S (c_X2_isBroken l t) gX2_isZero_X2_isBroken rfl qX2_isBroken ⟨Nat.le_of_ble_eq_true rfl, Nat.le_of_ble_eq_true rfl⟩ ⟨Nat.le_of_ble_eq_true rfl, Nat.le_of_ble_eq_true rfl⟩ hl.1 rfl (Nat.le_of_ble_eq_true rfl) dX2_isZero_1 ?_
  refine zb_eq (P := kBroken t) (tgt := 25) hx hb dX2_isZero_4 (by decide) (fun c_1 => ?_) (fun c_1 => ?_)
  · refine lv_lload_n hx hb dX2_isZero_25 rfl (lv_at hl 1 rfl) ?_
    refine lv_lconst (v := 0) hx hb dX2_isZero_26 (by decide) ?_
    refine zl_ne (tgt := 35) hx hb dX2_isZero_27 dX2_isZero_28 (by decide) (fun c_2 => ?_) (fun c_2 => ?_)
    · refine lv_iconst (v := 0) hx hb dX2_isZero_35 (by decide) ?_
      exact ps_zret S hr hlk dX2_isZero_36 (by decide) (by first | (simp [kZero, eq_false c_1, eq_false c_2]; done) | (simp [kZero, c_1, c_2]; done) | contradiction | rfl)
    · refine lv_iconst (v := 1) hx hb dX2_isZero_31 (by decide) ?_
      refine lv_goto (tgt := 36) hx hb dX2_isZero_32 (by decide) ?_
      exact ps_zret S hr hlk dX2_isZero_36 (by decide) (by first | (simp [kZero, eq_false c_1, eq_true c_2]; done) | (simp [kZero, c_1, c_2]; done) | contradiction | rfl)
  · refine lv_iload_n hx hb dX2_isZero_7 rfl (lv_at hl 0 rfl) ?_
    refine lv_lload_n hx hb dX2_isZero_8 rfl (lv_at hl 1 rfl) ?_
    refine ps_call (rest := []) S (c_X2_magnitude l t v) gX2_isZero_X2_magnitude rfl qX2_magnitude ⟨Nat.le_of_ble_eq_true rfl, Nat.le_of_ble_eq_true rfl⟩ ⟨Nat.le_of_ble_eq_true rfl, Nat.le_of_ble_eq_true rfl⟩ hl.1 rfl (Nat.le_of_ble_eq_true rfl) dX2_isZero_9 ?_
    refine lv_lconst (v := 0) hx hb dX2_isZero_12 (by decide) ?_
    refine zl_ne (tgt := 21) hx hb dX2_isZero_13 dX2_isZero_14 (by decide) (fun c_3 => ?_) (fun c_3 => ?_)
    · refine lv_iconst (v := 0) hx hb dX2_isZero_21 (by decide) ?_
      refine lv_goto (tgt := 36) hx hb dX2_isZero_22 (by decide) ?_
      exact ps_zret S hr hlk dX2_isZero_36 (by decide) (by first | (simp [kZero, eq_true c_1, eq_false c_3]; done) | (simp [kZero, c_1, c_3]; done) | contradiction | rfl)
    · refine lv_iconst (v := 1) hx hb dX2_isZero_17 (by decide) ?_
      refine lv_goto (tgt := 36) hx hb dX2_isZero_18 (by decide) ?_
      exact ps_zret S hr hlk dX2_isZero_36 (by decide) (by first | (simp [kZero, eq_true c_1, eq_true c_3]; done) | (simp [kZero, c_1, c_3]; done) | contradiction | rfl)
theorem qX2_signOf : yX2_signOf.cls ≠ "java/lang/invoke/MethodHandle" ∧ yX2_signOf.cls ≠ "java/lang/invoke/VarHandle" ∧ (parseMethodDescriptor yX2_signOf.desc).map (fun d => d.parameters.length) = some 2 := by decide +kernel
set_option maxHeartbeats 4000000 in
set_option maxRecDepth 100000 in
theorem c_X2_signOf (l : Launch) (t : Int32) (v : Int64) : PS l yX2_signOf wsX2_signOf 2 44 [.int t, .long v] (.long (kSignOf t v)) := by
  refine PS.of (cc := cX2_signOf) (maxL := 3) (ret := some .long) (own := RX2) (by decide) rfl rfl (Nat.le_of_ble_eq_true rfl) ?_
  intro p e s m below meth c ls S hr hlk hl
  have hx := S.1
  have hb := S.2.1
  have hl : lv_has ls 3 [(0, .int t), (1, .long v)] := hl
  refine lv_iload_n hx hb dX2_signOf_0 rfl (lv_at hl 0 rfl) ?_
  refine lv_lload_n hx hb dX2_signOf_1 rfl (lv_at hl 1 rfl) ?_
  refine ps_call (rest := []) S (c_X2_isZero l t v) gX2_signOf_X2_isZero rfl qX2_isZero ⟨Nat.le_of_ble_eq_true rfl, Nat.le_of_ble_eq_true rfl⟩ ⟨Nat.le_of_ble_eq_true rfl, Nat.le_of_ble_eq_true rfl⟩ hl.1 rfl (Nat.le_of_ble_eq_true rfl) dX2_signOf_2 ?_
  refine zb_eq (P := kZero t v) (tgt := 12) hx hb dX2_signOf_5 (by decide) (fun c_1 => ?_) (fun c_1 => ?_)
  · refine lv_iload_n hx hb dX2_signOf_12 rfl (lv_at hl 0 rfl) ?_
    refine lv_iload_n hx hb dX2_signOf_13 rfl (lv_at hl 0 rfl) ?_
    refine ps_call (rest := [.int t]) S (c_X2_one l t) gX2_signOf_X2_one rfl qX2_one ⟨Nat.le_of_ble_eq_true rfl, Nat.le_of_ble_eq_true rfl⟩ ⟨Nat.le_of_ble_eq_true rfl, Nat.le_of_ble_eq_true rfl⟩ hl.1 rfl (Nat.le_of_ble_eq_true rfl) dX2_signOf_14 ?_
    refine lv_lload_n hx hb dX2_signOf_17 rfl (lv_at hl 1 rfl) ?_
    refine lv_lconst (v := 0) hx hb dX2_signOf_18 (by decide) ?_
    refine zl_ge (tgt := 27) hx hb dX2_signOf_19 dX2_signOf_20 (by decide) (fun c_2 => ?_) (fun c_2 => ?_)
    · refine lv_iconst (v := 0) hx hb dX2_signOf_27 (by decide) ?_
      refine ps_call (rest := []) S (c_X2_signed l t (kOne t) 0) gX2_signOf_X2_signed rfl qX2_signed ⟨Nat.le_of_ble_eq_true rfl, Nat.le_of_ble_eq_true rfl⟩ ⟨Nat.le_of_ble_eq_true rfl, Nat.le_of_ble_eq_true rfl⟩ hl.1 rfl (Nat.le_of_ble_eq_true rfl) dX2_signOf_28 ?_
      exact ps_lret S hr hlk dX2_signOf_31 (by first | (simp [kSignOf, eq_false c_1, eq_false c_2]; done) | (simp [kSignOf, c_1, c_2]; done) | contradiction | rfl)
    · refine lv_iconst (v := 1) hx hb dX2_signOf_23 (by decide) ?_
      refine lv_goto (tgt := 28) hx hb dX2_signOf_24 (by decide) ?_
      refine ps_call (rest := []) S (c_X2_signed l t (kOne t) 1) gX2_signOf_X2_signed rfl qX2_signed ⟨Nat.le_of_ble_eq_true rfl, Nat.le_of_ble_eq_true rfl⟩ ⟨Nat.le_of_ble_eq_true rfl, Nat.le_of_ble_eq_true rfl⟩ hl.1 rfl (Nat.le_of_ble_eq_true rfl) dX2_signOf_28 ?_
      exact ps_lret S hr hlk dX2_signOf_31 (by first | (simp [kSignOf, eq_false c_1, eq_true c_2]; done) | (simp [kSignOf, c_1, c_2]; done) | contradiction | rfl)
  · refine lv_lload_n hx hb dX2_signOf_8 rfl (lv_at hl 1 rfl) ?_
    refine lv_goto (tgt := 31) hx hb dX2_signOf_9 (by decide) ?_
    exact ps_lret S hr hlk dX2_signOf_31 (by first | (simp [kSignOf, eq_true c_1]; done) | (simp [kSignOf, c_1]; done) | contradiction | rfl)
