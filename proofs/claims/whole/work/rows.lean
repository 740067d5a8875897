section
-- ===== PART A: goes FIRST, ahead of the names: the tables' words, and 'selects' of the private methods out of them =====
/-- a private method of a class that the tables say can be made, by its rows of tables_1 -/
def lw_okq (q : MethodName × Nat) : Prop := (q.1.cls ≠ "java/lang/invoke/MethodHandle" ∧ q.1.cls ≠ "java/lang/invoke/VarHandle") ∧ Cond.instantiable q.1.cls q.2 ∈ tables_1 ∧ Cond.privateMethod q.1 ∈ tables_1 ∧ Cond.instanceMethod q.1 ∈ tables_1
theorem lw_p0 : lw_okq (⟨"StretchDesk", "placed", "(IIJJ)I"⟩, 11) := ⟨⟨by decide +kernel, by decide +kernel⟩, List.mem_of_getElem? (i := 7) (by decide +kernel), List.mem_of_getElem? (i := 55) (by decide +kernel), List.mem_of_getElem? (i := 56) (by decide +kernel)⟩
theorem lw_p1 : lw_okq (⟨"StretchDesk", "put", "(IIJJ)I"⟩, 11) := ⟨⟨by decide +kernel, by decide +kernel⟩, List.mem_of_getElem? (i := 7) (by decide +kernel), List.mem_of_getElem? (i := 100) (by decide +kernel), List.mem_of_getElem? (i := 101) (by decide +kernel)⟩
theorem lw_p2 : lw_okq (⟨"StretchDesk", "noted", "(I)I"⟩, 11) := ⟨⟨by decide +kernel, by decide +kernel⟩, List.mem_of_getElem? (i := 7) (by decide +kernel), List.mem_of_getElem? (i := 104) (by decide +kernel), List.mem_of_getElem? (i := 105) (by decide +kernel)⟩
theorem lw_p3 : lw_okq (⟨"StretchDesk", "refusalToTake", "(I)I"⟩, 11) := ⟨⟨by decide +kernel, by decide +kernel⟩, List.mem_of_getElem? (i := 7) (by decide +kernel), List.mem_of_getElem? (i := 116) (by decide +kernel), List.mem_of_getElem? (i := 117) (by decide +kernel)⟩
theorem lw_p4 : lw_okq (⟨"StretchDesk", "performed", "(IIII)I"⟩, 11) := ⟨⟨by decide +kernel, by decide +kernel⟩, List.mem_of_getElem? (i := 7) (by decide +kernel), List.mem_of_getElem? (i := 132) (by decide +kernel), List.mem_of_getElem? (i := 133) (by decide +kernel)⟩
theorem lw_p5 : lw_okq (⟨"StretchDesk", "refusalToPerform", "(IIII)I"⟩, 11) := ⟨⟨by decide +kernel, by decide +kernel⟩, List.mem_of_getElem? (i := 7) (by decide +kernel), List.mem_of_getElem? (i := 136) (by decide +kernel), List.mem_of_getElem? (i := 137) (by decide +kernel)⟩
theorem lw_p6 : lw_okq (⟨"StretchDesk", "joined", "(III)I"⟩, 11) := ⟨⟨by decide +kernel, by decide +kernel⟩, List.mem_of_getElem? (i := 7) (by decide +kernel), List.mem_of_getElem? (i := 146) (by decide +kernel), List.mem_of_getElem? (i := 147) (by decide +kernel)⟩
theorem lw_p7 : lw_okq (⟨"StretchDesk", "cut", "(III)I"⟩, 11) := ⟨⟨by decide +kernel, by decide +kernel⟩, List.mem_of_getElem? (i := 7) (by decide +kernel), List.mem_of_getElem? (i := 157) (by decide +kernel), List.mem_of_getElem? (i := 158) (by decide +kernel)⟩
theorem lw_p8 : lw_okq (⟨"StretchDesk", "putIfAny", "(IIJJ)I"⟩, 11) := ⟨⟨by decide +kernel, by decide +kernel⟩, List.mem_of_getElem? (i := 7) (by decide +kernel), List.mem_of_getElem? (i := 161) (by decide +kernel), List.mem_of_getElem? (i := 162) (by decide +kernel)⟩
theorem lw_p9 : lw_okq (⟨"StretchDesk", "sized", "(II)I"⟩, 11) := ⟨⟨by decide +kernel, by decide +kernel⟩, List.mem_of_getElem? (i := 7) (by decide +kernel), List.mem_of_getElem? (i := 165) (by decide +kernel), List.mem_of_getElem? (i := 166) (by decide +kernel)⟩
theorem lw_p10 : lw_okq (⟨"StretchDesk", "putOrdered", "(IIJJ)I"⟩, 11) := ⟨⟨by decide +kernel, by decide +kernel⟩, List.mem_of_getElem? (i := 7) (by decide +kernel), List.mem_of_getElem? (i := 184) (by decide +kernel), List.mem_of_getElem? (i := 185) (by decide +kernel)⟩
theorem lw_p11 : lw_okq (⟨"StretchDesk", "rounded", "(III)I"⟩, 11) := ⟨⟨by decide +kernel, by decide +kernel⟩, List.mem_of_getElem? (i := 7) (by decide +kernel), List.mem_of_getElem? (i := 188) (by decide +kernel), List.mem_of_getElem? (i := 189) (by decide +kernel)⟩
theorem lw_p12 : lw_okq (⟨"StretchDesk", "signed", "(II)I"⟩, 11) := ⟨⟨by decide +kernel, by decide +kernel⟩, List.mem_of_getElem? (i := 7) (by decide +kernel), List.mem_of_getElem? (i := 214) (by decide +kernel), List.mem_of_getElem? (i := 215) (by decide +kernel)⟩
theorem lw_p13 : lw_okq (⟨"StretchDesk", "lent", "(III)I"⟩, 11) := ⟨⟨by decide +kernel, by decide +kernel⟩, List.mem_of_getElem? (i := 7) (by decide +kernel), List.mem_of_getElem? (i := 221) (by decide +kernel), List.mem_of_getElem? (i := 222) (by decide +kernel)⟩
theorem lw_p14 : lw_okq (⟨"StretchDesk", "turned", "(II)I"⟩, 11) := ⟨⟨by decide +kernel, by decide +kernel⟩, List.mem_of_getElem? (i := 7) (by decide +kernel), List.mem_of_getElem? (i := 226) (by decide +kernel), List.mem_of_getElem? (i := 227) (by decide +kernel)⟩
theorem lw_p15 : lw_okq (⟨"StretchDesk", "converted", "(III)I"⟩, 11) := ⟨⟨by decide +kernel, by decide +kernel⟩, List.mem_of_getElem? (i := 7) (by decide +kernel), List.mem_of_getElem? (i := 231) (by decide +kernel), List.mem_of_getElem? (i := 232) (by decide +kernel)⟩
def lw_privs_1 : List (MethodName × Nat) := [(⟨"StretchDesk", "placed", "(IIJJ)I"⟩, 11), (⟨"StretchDesk", "put", "(IIJJ)I"⟩, 11), (⟨"StretchDesk", "noted", "(I)I"⟩, 11), (⟨"StretchDesk", "refusalToTake", "(I)I"⟩, 11), (⟨"StretchDesk", "performed", "(IIII)I"⟩, 11), (⟨"StretchDesk", "refusalToPerform", "(IIII)I"⟩, 11), (⟨"StretchDesk", "joined", "(III)I"⟩, 11), (⟨"StretchDesk", "cut", "(III)I"⟩, 11), (⟨"StretchDesk", "putIfAny", "(IIJJ)I"⟩, 11), (⟨"StretchDesk", "sized", "(II)I"⟩, 11), (⟨"StretchDesk", "putOrdered", "(IIJJ)I"⟩, 11), (⟨"StretchDesk", "rounded", "(III)I"⟩, 11), (⟨"StretchDesk", "signed", "(II)I"⟩, 11), (⟨"StretchDesk", "lent", "(III)I"⟩, 11), (⟨"StretchDesk", "turned", "(II)I"⟩, 11), (⟨"StretchDesk", "converted", "(III)I"⟩, 11)]
theorem lw_r1 : ∀ q ∈ lw_privs_1, lw_okq q := List.forall_mem_cons.mpr ⟨lw_p0, List.forall_mem_cons.mpr ⟨lw_p1, List.forall_mem_cons.mpr ⟨lw_p2, List.forall_mem_cons.mpr ⟨lw_p3, List.forall_mem_cons.mpr ⟨lw_p4, List.forall_mem_cons.mpr ⟨lw_p5, List.forall_mem_cons.mpr ⟨lw_p6, List.forall_mem_cons.mpr ⟨lw_p7, List.forall_mem_cons.mpr ⟨lw_p8, List.forall_mem_cons.mpr ⟨lw_p9, List.forall_mem_cons.mpr ⟨lw_p10, List.forall_mem_cons.mpr ⟨lw_p11, List.forall_mem_cons.mpr ⟨lw_p12, List.forall_mem_cons.mpr ⟨lw_p13, List.forall_mem_cons.mpr ⟨lw_p14, List.forall_mem_cons.mpr ⟨lw_p15, fun _ h => absurd h List.not_mem_nil⟩⟩⟩⟩⟩⟩⟩⟩⟩⟩⟩⟩⟩⟩⟩⟩
theorem lw_p16 : lw_okq (⟨"StretchDesk", "refusalToCompare", "(IJ)I"⟩, 11) := ⟨⟨by decide +kernel, by decide +kernel⟩, List.mem_of_getElem? (i := 7) (by decide +kernel), List.mem_of_getElem? (i := 293) (by decide +kernel), List.mem_of_getElem? (i := 294) (by decide +kernel)⟩
theorem lw_p17 : lw_okq (⟨"StretchDeskModel", "refuses", "(I)I"⟩, 12) := ⟨⟨by decide +kernel, by decide +kernel⟩, List.mem_of_getElem? (i := 327) (by decide +kernel), List.mem_of_getElem? (i := 378) (by decide +kernel), List.mem_of_getElem? (i := 379) (by decide +kernel)⟩
theorem lw_p18 : lw_okq (⟨"StretchDeskModel", "comes", "(IIJJ)I"⟩, 12) := ⟨⟨by decide +kernel, by decide +kernel⟩, List.mem_of_getElem? (i := 327) (by decide +kernel), List.mem_of_getElem? (i := 407) (by decide +kernel), List.mem_of_getElem? (i := 408) (by decide +kernel)⟩
theorem lw_p19 : lw_okq (⟨"StretchDeskModel", "says", "(I)I"⟩, 12) := ⟨⟨by decide +kernel, by decide +kernel⟩, List.mem_of_getElem? (i := 327) (by decide +kernel), List.mem_of_getElem? (i := 411) (by decide +kernel), List.mem_of_getElem? (i := 412) (by decide +kernel)⟩
theorem lw_p20 : lw_okq (⟨"StretchDeskModel", "whyNot", "(III)I"⟩, 12) := ⟨⟨by decide +kernel, by decide +kernel⟩, List.mem_of_getElem? (i := 327) (by decide +kernel), List.mem_of_getElem? (i := 423) (by decide +kernel), List.mem_of_getElem? (i := 424) (by decide +kernel)⟩
theorem lw_p21 : lw_okq (⟨"StretchDeskModel", "end", "(IZ)J"⟩, 12) := ⟨⟨by decide +kernel, by decide +kernel⟩, List.mem_of_getElem? (i := 327) (by decide +kernel), List.mem_of_getElem? (i := 431) (by decide +kernel), List.mem_of_getElem? (i := 432) (by decide +kernel)⟩
theorem lw_p22 : lw_okq (⟨"StretchDeskModel", "emptied", "(I)I"⟩, 12) := ⟨⟨by decide +kernel, by decide +kernel⟩, List.mem_of_getElem? (i := 327) (by decide +kernel), List.mem_of_getElem? (i := 453) (by decide +kernel), List.mem_of_getElem? (i := 454) (by decide +kernel)⟩
theorem lw_p23 : lw_okq (⟨"StretchDeskModel", "ordered", "(IIJJ)I"⟩, 12) := ⟨⟨by decide +kernel, by decide +kernel⟩, List.mem_of_getElem? (i := 327) (by decide +kernel), List.mem_of_getElem? (i := 467) (by decide +kernel), List.mem_of_getElem? (i := 468) (by decide +kernel)⟩
theorem lw_p24 : lw_okq (⟨"StretchDeskModel", "does", "(I)I"⟩, 12) := ⟨⟨by decide +kernel, by decide +kernel⟩, List.mem_of_getElem? (i := 327) (by decide +kernel), List.mem_of_getElem? (i := 560) (by decide +kernel), List.mem_of_getElem? (i := 561) (by decide +kernel)⟩
def lw_privs_2 : List (MethodName × Nat) := [(⟨"StretchDesk", "refusalToCompare", "(IJ)I"⟩, 11), (⟨"StretchDeskModel", "refuses", "(I)I"⟩, 12), (⟨"StretchDeskModel", "comes", "(IIJJ)I"⟩, 12), (⟨"StretchDeskModel", "says", "(I)I"⟩, 12), (⟨"StretchDeskModel", "whyNot", "(III)I"⟩, 12), (⟨"StretchDeskModel", "end", "(IZ)J"⟩, 12), (⟨"StretchDeskModel", "emptied", "(I)I"⟩, 12), (⟨"StretchDeskModel", "ordered", "(IIJJ)I"⟩, 12), (⟨"StretchDeskModel", "does", "(I)I"⟩, 12)]
theorem lw_r2 : ∀ q ∈ lw_privs_2, lw_okq q := List.forall_mem_cons.mpr ⟨lw_p16, List.forall_mem_cons.mpr ⟨lw_p17, List.forall_mem_cons.mpr ⟨lw_p18, List.forall_mem_cons.mpr ⟨lw_p19, List.forall_mem_cons.mpr ⟨lw_p20, List.forall_mem_cons.mpr ⟨lw_p21, List.forall_mem_cons.mpr ⟨lw_p22, List.forall_mem_cons.mpr ⟨lw_p23, List.forall_mem_cons.mpr ⟨lw_p24, fun _ h => absurd h List.not_mem_nil⟩⟩⟩⟩⟩⟩⟩⟩⟩
def lw_privs : List (MethodName × Nat) := lw_privs_1 ++ (lw_privs_2)
def lw_tbl : List Cond := k2_sels lw_privs ++ tables_1
theorem lw_privs_ok : ∀ q ∈ lw_privs, lw_okq q := by
  show ∀ q ∈ lw_privs_1 ++ (lw_privs_2), lw_okq q
  exact List.forall_mem_append.mpr ⟨lw_r1, lw_r2⟩
/-- the streams that the claim lets the run draw from -/
abbrev lw_cs : List Choice := [Jvm.Choice.named "NaN.bits", Jvm.Choice.named "NaN.copy"]
theorem lw_bits : nanBits ∈ lw_cs := by first | decide | exact List.mem_cons_self | simp [lw_cs, nanBits]
end
section
/-! ===== BEGIN words of one list among another's, by their places ===== -/
theorem goodIn_r {big : List Cond} (ws : List Cond) (ps : List Nat) (hp : ws = ps.filterMap (fun i => big[i]?)) (h : ws.all goodWord = true) : GoodIn big ws := by
  intro w hw
  have h1 := List.all_eq_true.mp h w hw
  rw [hp] at hw
  obtain ⟨i, -, hi⟩ := List.mem_filterMap.mp hw
  have hm : w ∈ big := by first | exact List.mem_of_getElem? hi | exact List.getElem?_mem hi
  exact ⟨hm, good_of_word h1⟩
theorem goodIn_app {big a b : List Cond} (ha : GoodIn big a) (hb : GoodIn big b) : GoodIn big (a ++ b) := fun w h => (List.mem_append.mp h).elim (ha w) (hb w)
theorem goodIn_ca {big a b : List Cond} {c : Cond} (ha : GoodIn big (c :: a)) (hb : GoodIn big b) : GoodIn big (c :: (a ++ b)) := fun w h => (List.mem_cons.mp h).elim (fun e => ha w (List.mem_cons.mpr (Or.inl e))) (fun h => (List.mem_append.mp h).elim (fun h => ha w (List.mem_cons.mpr (Or.inr h))) (hb w))
theorem goodIn_sub {big ws : List Cond} (hm : ∀ w ∈ ws, w ∈ big) (h : ws.all goodWord = true) : GoodIn big ws := fun w hw => ⟨hm w hw, good_of_word (List.all_eq_true.mp h w hw)⟩
/-! ===== END ===== -/

/-! ===== BEGIN printed: names, fields, word lists, decode rows ===== -/
def RX0 : String := "StretchDesk$Numbers"
def TX0 : u_T := fun k => match k with
  | _ => ("", "", "", false)
def tyX0 : Nat → FieldType := fun k => match k with
  | _ => .int
abbrev wsX00 : List Cond := u_ws RX0 TX0 0
theorem nmX0 : ∀ a, a < 0 → ∀ b, b < 0 → a ≠ b → (TX0 a).2.1 ≠ (TX0 b).2.1 := by decide +kernel
theorem tyX0_ok : ∀ k, k < 0 → parseFieldDescriptor (TX0 k).2.2.1 = some (tyX0 k) := by decide +kernel
abbrev cX0_isBroken : ByteArray := prog_2_method_2_code
def yX0_isBroken : MethodName := ⟨RX0, "isBroken", "(I)Z"⟩
abbrev cX0_isNumber : ByteArray := prog_2_method_3_code
def yX0_isNumber : MethodName := ⟨RX0, "isNumber", "(IJ)Z"⟩
abbrev cX0_fitted : ByteArray := prog_2_method_4_code
def yX0_fitted : MethodName := ⟨RX0, "fitted", "(IJ)J"⟩
abbrev cX0_isLess : ByteArray := prog_2_method_5_code
def yX0_isLess : MethodName := ⟨RX0, "isLess", "(IJJ)Z"⟩
abbrev cX0_lesser : ByteArray := prog_2_method_6_code
def yX0_lesser : MethodName := ⟨RX0, "lesser", "(IJJ)J"⟩
abbrev cX0_greater : ByteArray := prog_2_method_7_code
def yX0_greater : MethodName := ⟨RX0, "greater", "(IJJ)J"⟩
abbrev cX0_isBelowZero : ByteArray := prog_2_method_8_code
def yX0_isBelowZero : MethodName := ⟨RX0, "isBelowZero", "(IJ)Z"⟩
abbrev cX0_isAboveZero : ByteArray := prog_2_method_9_code
def yX0_isAboveZero : MethodName := ⟨RX0, "isAboveZero", "(J)Z"⟩
abbrev cX0_sizeOf : ByteArray := prog_2_method_10_code
def yX0_sizeOf : MethodName := ⟨RX0, "sizeOf", "(IJ)J"⟩
abbrev cX0_negated : ByteArray := prog_2_method_11_code
def yX0_negated : MethodName := ⟨RX0, "negated", "(IJ)J"⟩
abbrev cX0_withSign : ByteArray := prog_2_method_12_code
def yX0_withSign : MethodName := ⟨RX0, "withSign", "(IJJ)J"⟩
abbrev cX0_signOf : ByteArray := prog_2_method_13_code
def yX0_signOf : MethodName := ⟨RX0, "signOf", "(IJ)J"⟩
abbrev cX0_whole : ByteArray := prog_2_method_14_code
def yX0_whole : MethodName := ⟨RX0, "whole", "(IJI)J"⟩
abbrev cX0_ofSort : ByteArray := prog_2_method_15_code
def yX0_ofSort : MethodName := ⟨RX0, "ofSort", "(IJI)J"⟩
abbrev cX0_brokenRank : ByteArray := prog_2_method_16_code
def yX0_brokenRank : MethodName := ⟨RX0, "brokenRank", "(J)J"⟩
abbrev cX0_isZero : ByteArray := prog_2_method_17_code
def yX0_isZero : MethodName := ⟨RX0, "isZero", "(IJ)Z"⟩
abbrev cX0_signMask : ByteArray := prog_2_method_18_code
def yX0_signMask : MethodName := ⟨RX0, "signMask", "(I)J"⟩
abbrev cX0_magnitude : ByteArray := prog_2_method_19_code
def yX0_magnitude : MethodName := ⟨RX0, "magnitude", "(IJ)J"⟩
abbrev cX0_fractionBits : ByteArray := prog_2_method_20_code
def yX0_fractionBits : MethodName := ⟨RX0, "fractionBits", "(I)I"⟩
abbrev cX0_bias : ByteArray := prog_2_method_21_code
def yX0_bias : MethodName := ⟨RX0, "bias", "(I)I"⟩
abbrev cX0_infinity : ByteArray := prog_2_method_22_code
def yX0_infinity : MethodName := ⟨RX0, "infinity", "(I)J"⟩
abbrev cX0_one : ByteArray := prog_2_method_23_code
def yX0_one : MethodName := ⟨RX0, "one", "(I)J"⟩
abbrev cX0_half : ByteArray := prog_2_method_24_code
def yX0_half : MethodName := ⟨RX0, "half", "(I)J"⟩
abbrev cX0_power : ByteArray := prog_2_method_25_code
def yX0_power : MethodName := ⟨RX0, "power", "(IJ)I"⟩
abbrev cX0_mantissa : ByteArray := prog_2_method_26_code
def yX0_mantissa : MethodName := ⟨RX0, "mantissa", "(IJ)J"⟩
abbrev cX0_wholeMagnitude : ByteArray := prog_2_method_27_code
def yX0_wholeMagnitude : MethodName := ⟨RX0, "wholeMagnitude", "(IJZZ)J"⟩
abbrev cX0_nearestShifted : ByteArray := prog_2_method_28_code
def yX0_nearestShifted : MethodName := ⟨RX0, "nearestShifted", "(JI)J"⟩
abbrev cX0_highestBit : ByteArray := prog_2_method_29_code
def yX0_highestBit : MethodName := ⟨RX0, "highestBit", "(J)I"⟩
abbrev cX0_wholeToBroken : ByteArray := prog_2_method_30_code
def yX0_wholeToBroken : MethodName := ⟨RX0, "wholeToBroken", "(JI)J"⟩
abbrev cX0_brokenToWhole : ByteArray := prog_2_method_31_code
def yX0_brokenToWhole : MethodName := ⟨RX0, "brokenToWhole", "(IJI)J"⟩
abbrev cX0_extreme : ByteArray := prog_2_method_32_code
def yX0_extreme : MethodName := ⟨RX0, "extreme", "(IZ)J"⟩
abbrev cX0_widened : ByteArray := prog_2_method_33_code
def yX0_widened : MethodName := ⟨RX0, "widened", "(J)J"⟩
abbrev cX0_narrowed : ByteArray := prog_2_method_34_code
def yX0_narrowed : MethodName := ⟨RX0, "narrowed", "(J)J"⟩
def RX1 : String := "StretchDesk"
def TX1 : u_T := fun k => match k with
  | 0 => ("StretchDesk", "sorts", "[I", true)
  | 1 => ("StretchDesk", "lows", "[J", true)
  | 2 => ("StretchDesk", "highs", "[J", true)
  | 3 => ("StretchDesk", "stepWhats", "[I", true)
  | 4 => ("StretchDesk", "stepAs", "[I", true)
  | 5 => ("StretchDesk", "stepBs", "[I", true)
  | 6 => ("StretchDesk", "stepTos", "[I", true)
  | 7 => ("StretchDesk", "latestRefusal", "I", false)
  | 8 => ("StretchDesk", "refusals", "I", false)
  | 9 => ("StretchDesk", "endsTold", "I", false)
  | _ => ("StretchDesk", "stepsDone", "I", false)
def tyX1 : Nat → FieldType := fun k => match k with
  | 0 => .array .int
  | 1 => .array .long
  | 2 => .array .long
  | 3 => .array .int
  | 4 => .array .int
  | 5 => .array .int
  | 6 => .array .int
  | 7 => .int
  | 8 => .int
  | 9 => .int
  | _ => .int
abbrev wsX10 : List Cond := u_ws RX1 TX1 11
theorem nmX1 : ∀ a, a < 11 → ∀ b, b < 11 → a ≠ b → (TX1 a).2.1 ≠ (TX1 b).2.1 := by decide +kernel
theorem tyX1_ok : ∀ k, k < 11 → parseFieldDescriptor (TX1 k).2.2.1 = some (tyX1 k) := by decide +kernel
abbrev cX1_init : ByteArray := prog_1_method_1_code
def yX1_init : MethodName := ⟨RX1, "<init>", "()V"⟩
abbrev cX1_set : ByteArray := prog_1_method_2_code
def yX1_set : MethodName := ⟨RX1, "set", "(IIJJ)I"⟩
abbrev cX1_clear : ByteArray := prog_1_method_3_code
def yX1_clear : MethodName := ⟨RX1, "clear", "(I)I"⟩
abbrev cX1_sort : ByteArray := prog_1_method_4_code
def yX1_sort : MethodName := ⟨RX1, "sort", "(I)I"⟩
abbrev cX1_low : ByteArray := prog_1_method_5_code
def yX1_low : MethodName := ⟨RX1, "low", "(I)J"⟩
abbrev cX1_high : ByteArray := prog_1_method_6_code
def yX1_high : MethodName := ⟨RX1, "high", "(I)J"⟩
abbrev cX1_hull : ByteArray := prog_1_method_7_code
def yX1_hull : MethodName := ⟨RX1, "hull", "(III)I"⟩
abbrev cX1_meet : ByteArray := prog_1_method_8_code
def yX1_meet : MethodName := ⟨RX1, "meet", "(III)I"⟩
abbrev cX1_size : ByteArray := prog_1_method_9_code
def yX1_size : MethodName := ⟨RX1, "size", "(II)I"⟩
abbrev cX1_round : ByteArray := prog_1_method_10_code
def yX1_round : MethodName := ⟨RX1, "round", "(III)I"⟩
abbrev cX1_sign : ByteArray := prog_1_method_11_code
def yX1_sign : MethodName := ⟨RX1, "sign", "(II)I"⟩
abbrev cX1_lend : ByteArray := prog_1_method_12_code
def yX1_lend : MethodName := ⟨RX1, "lend", "(III)I"⟩
abbrev cX1_turn : ByteArray := prog_1_method_13_code
def yX1_turn : MethodName := ⟨RX1, "turn", "(II)I"⟩
abbrev cX1_as : ByteArray := prog_1_method_14_code
def yX1_as : MethodName := ⟨RX1, "as", "(III)I"⟩
abbrev cX1_near : ByteArray := prog_1_method_15_code
def yX1_near : MethodName := ⟨RX1, "near", "(IJ)J"⟩
abbrev cX1_has : ByteArray := prog_1_method_16_code
def yX1_has : MethodName := ⟨RX1, "has", "(IJ)I"⟩
abbrev cX1_alike : ByteArray := prog_1_method_17_code
def yX1_alike : MethodName := ⟨RX1, "alike", "(II)I"⟩
abbrev cX1_step : ByteArray := prog_1_method_18_code
def yX1_step : MethodName := ⟨RX1, "step", "(IIIII)I"⟩
abbrev cX1_run : ByteArray := prog_1_method_19_code
def yX1_run : MethodName := ⟨RX1, "run", "(II)I"⟩
abbrev cX1_state : ByteArray := prog_1_method_20_code
def yX1_state : MethodName := ⟨RX1, "state", "()I"⟩
abbrev cX1_about : ByteArray := prog_1_method_21_code
def yX1_about : MethodName := ⟨RX1, "about", "(I)I"⟩
abbrev cX1_noted : ByteArray := prog_1_method_22_code
def yX1_noted : MethodName := ⟨RX1, "noted", "(I)I"⟩
abbrev cX1_present : ByteArray := prog_1_method_23_code
def yX1_present : MethodName := ⟨RX1, "present", "([I)I"⟩
abbrev cX1_isSlot : ByteArray := prog_1_method_24_code
def yX1_isSlot : MethodName := ⟨RX1, "isSlot", "(I)Z"⟩
abbrev cX1_isStep : ByteArray := prog_1_method_25_code
def yX1_isStep : MethodName := ⟨RX1, "isStep", "(I)Z"⟩
abbrev cX1_isSort : ByteArray := prog_1_method_26_code
def yX1_isSort : MethodName := ⟨RX1, "isSort", "(I)Z"⟩
abbrev cX1_takesTwo : ByteArray := prog_1_method_27_code
def yX1_takesTwo : MethodName := ⟨RX1, "takesTwo", "(I)Z"⟩
abbrev cX1_areSlots : ByteArray := prog_1_method_28_code
def yX1_areSlots : MethodName := ⟨RX1, "areSlots", "(IIII)Z"⟩
abbrev cX1_refusalToTake : ByteArray := prog_1_method_29_code
def yX1_refusalToTake : MethodName := ⟨RX1, "refusalToTake", "(I)I"⟩
abbrev cX1_refusalToCompare : ByteArray := prog_1_method_30_code
def yX1_refusalToCompare : MethodName := ⟨RX1, "refusalToCompare", "(IJ)I"⟩
abbrev cX1_placed : ByteArray := prog_1_method_31_code
def yX1_placed : MethodName := ⟨RX1, "placed", "(IIJJ)I"⟩
abbrev cX1_performed : ByteArray := prog_1_method_32_code
def yX1_performed : MethodName := ⟨RX1, "performed", "(IIII)I"⟩
abbrev cX1_refusalToPerform : ByteArray := prog_1_method_33_code
def yX1_refusalToPerform : MethodName := ⟨RX1, "refusalToPerform", "(IIII)I"⟩
abbrev cX1_joined : ByteArray := prog_1_method_34_code
def yX1_joined : MethodName := ⟨RX1, "joined", "(III)I"⟩
abbrev cX1_cut : ByteArray := prog_1_method_35_code
def yX1_cut : MethodName := ⟨RX1, "cut", "(III)I"⟩
abbrev cX1_sized : ByteArray := prog_1_method_36_code
def yX1_sized : MethodName := ⟨RX1, "sized", "(II)I"⟩
abbrev cX1_rounded : ByteArray := prog_1_method_37_code
def yX1_rounded : MethodName := ⟨RX1, "rounded", "(III)I"⟩
abbrev cX1_signed : ByteArray := prog_1_method_38_code
def yX1_signed : MethodName := ⟨RX1, "signed", "(II)I"⟩
abbrev cX1_lent : ByteArray := prog_1_method_39_code
def yX1_lent : MethodName := ⟨RX1, "lent", "(III)I"⟩
abbrev cX1_turned : ByteArray := prog_1_method_40_code
def yX1_turned : MethodName := ⟨RX1, "turned", "(II)I"⟩
abbrev cX1_converted : ByteArray := prog_1_method_41_code
def yX1_converted : MethodName := ⟨RX1, "converted", "(III)I"⟩
abbrev cX1_put : ByteArray := prog_1_method_42_code
def yX1_put : MethodName := ⟨RX1, "put", "(IIJJ)I"⟩
abbrev cX1_putOrdered : ByteArray := prog_1_method_43_code
def yX1_putOrdered : MethodName := ⟨RX1, "putOrdered", "(IIJJ)I"⟩
abbrev cX1_putIfAny : ByteArray := prog_1_method_44_code
def yX1_putIfAny : MethodName := ⟨RX1, "putIfAny", "(IIJJ)I"⟩
def RX2 : String := "StretchDeskModel"
def TX2 : u_T := fun k => match k with
  | 0 => ("StretchDeskModel", "sorts", "[I", true)
  | 1 => ("StretchDeskModel", "lows", "[J", true)
  | 2 => ("StretchDeskModel", "highs", "[J", true)
  | 3 => ("StretchDeskModel", "there", "[Z", true)
  | 4 => ("StretchDeskModel", "what", "[I", true)
  | 5 => ("StretchDeskModel", "first", "[I", true)
  | 6 => ("StretchDeskModel", "second", "[I", true)
  | 7 => ("StretchDeskModel", "goal", "[I", true)
  | 8 => ("StretchDeskModel", "state", "I", false)
  | 9 => ("StretchDeskModel", "refused", "I", false)
  | 10 => ("StretchDeskModel", "told", "I", false)
  | _ => ("StretchDeskModel", "done", "I", false)
def tyX2 : Nat → FieldType := fun k => match k with
  | 0 => .array .int
  | 1 => .array .long
  | 2 => .array .long
  | 3 => .array .boolean
  | 4 => .array .int
  | 5 => .array .int
  | 6 => .array .int
  | 7 => .array .int
  | 8 => .int
  | 9 => .int
  | 10 => .int
  | _ => .int
abbrev wsX20 : List Cond := u_ws RX2 TX2 12
theorem nmX2 : ∀ a, a < 12 → ∀ b, b < 12 → a ≠ b → (TX2 a).2.1 ≠ (TX2 b).2.1 := by decide +kernel
theorem tyX2_ok : ∀ k, k < 12 → parseFieldDescriptor (TX2 k).2.2.1 = some (tyX2 k) := by decide +kernel
abbrev cX2_init : ByteArray := prog_4_method_1_code
def yX2_init : MethodName := ⟨RX2, "<init>", "()V"⟩
abbrev cX2_refuses : ByteArray := prog_4_method_2_code
def yX2_refuses : MethodName := ⟨RX2, "refuses", "(I)I"⟩
abbrev cX2_says : ByteArray := prog_4_method_3_code
def yX2_says : MethodName := ⟨RX2, "says", "(I)I"⟩
abbrev cX2_isSlot : ByteArray := prog_4_method_4_code
def yX2_isSlot : MethodName := ⟨RX2, "isSlot", "(I)Z"⟩
abbrev cX2_whyNot : ByteArray := prog_4_method_5_code
def yX2_whyNot : MethodName := ⟨RX2, "whyNot", "(III)I"⟩
abbrev cX2_isBroken : ByteArray := prog_4_method_6_code
def yX2_isBroken : MethodName := ⟨RX2, "isBroken", "(I)Z"⟩
abbrev cX2_taken : ByteArray := prog_4_method_7_code
def yX2_taken : MethodName := ⟨RX2, "taken", "(IJ)J"⟩
abbrev cX2_magnitude : ByteArray := prog_4_method_8_code
def yX2_magnitude : MethodName := ⟨RX2, "magnitude", "(IJ)J"⟩
abbrev cX2_endless : ByteArray := prog_4_method_9_code
def yX2_endless : MethodName := ⟨RX2, "endless", "(I)J"⟩
abbrev cX2_one : ByteArray := prog_4_method_10_code
def yX2_one : MethodName := ⟨RX2, "one", "(I)J"⟩
abbrev cX2_signed : ByteArray := prog_4_method_11_code
def yX2_signed : MethodName := ⟨RX2, "signed", "(IJZ)J"⟩
abbrev cX2_isNumber : ByteArray := prog_4_method_12_code
def yX2_isNumber : MethodName := ⟨RX2, "isNumber", "(IJ)Z"⟩
abbrev cX2_rank : ByteArray := prog_4_method_13_code
def yX2_rank : MethodName := ⟨RX2, "rank", "(IJ)J"⟩
abbrev cX2_isAbove : ByteArray := prog_4_method_14_code
def yX2_isAbove : MethodName := ⟨RX2, "isAbove", "(IJJ)Z"⟩
abbrev cX2_greater : ByteArray := prog_4_method_15_code
def yX2_greater : MethodName := ⟨RX2, "greater", "(IJJ)J"⟩
abbrev cX2_lesser : ByteArray := prog_4_method_16_code
def yX2_lesser : MethodName := ⟨RX2, "lesser", "(IJJ)J"⟩
abbrev cX2_sizeOf : ByteArray := prog_4_method_17_code
def yX2_sizeOf : MethodName := ⟨RX2, "sizeOf", "(IJ)J"⟩
abbrev cX2_turned : ByteArray := prog_4_method_18_code
def yX2_turned : MethodName := ⟨RX2, "turned", "(IJ)J"⟩
abbrev cX2_isZero : ByteArray := prog_4_method_19_code
def yX2_isZero : MethodName := ⟨RX2, "isZero", "(IJ)Z"⟩
abbrev cX2_whole : ByteArray := prog_4_method_20_code
def yX2_whole : MethodName := ⟨RX2, "whole", "(IJI)J"⟩
abbrev cX2_made : ByteArray := prog_4_method_21_code
def yX2_made : MethodName := ⟨RX2, "made", "(IIJ)J"⟩
abbrev cX2_comes : ByteArray := prog_4_method_22_code
def yX2_comes : MethodName := ⟨RX2, "comes", "(IIJJ)I"⟩
abbrev cX2_ordered : ByteArray := prog_4_method_23_code
def yX2_ordered : MethodName := ⟨RX2, "ordered", "(IIJJ)I"⟩
abbrev cX2_emptied : ByteArray := prog_4_method_24_code
def yX2_emptied : MethodName := ⟨RX2, "emptied", "(I)I"⟩
abbrev cX2_set : ByteArray := prog_4_method_25_code
def yX2_set : MethodName := ⟨RX2, "set", "(IIJJ)I"⟩
abbrev cX2_clear : ByteArray := prog_4_method_26_code
def yX2_clear : MethodName := ⟨RX2, "clear", "(I)I"⟩
abbrev cX2_sort : ByteArray := prog_4_method_27_code
def yX2_sort : MethodName := ⟨RX2, "sort", "(I)I"⟩
abbrev cX2_end : ByteArray := prog_4_method_28_code
def yX2_end : MethodName := ⟨RX2, "end", "(IZ)J"⟩
abbrev cX2_low : ByteArray := prog_4_method_29_code
def yX2_low : MethodName := ⟨RX2, "low", "(I)J"⟩
abbrev cX2_high : ByteArray := prog_4_method_30_code
def yX2_high : MethodName := ⟨RX2, "high", "(I)J"⟩
abbrev cX2_hull : ByteArray := prog_4_method_31_code
def yX2_hull : MethodName := ⟨RX2, "hull", "(III)I"⟩
abbrev cX2_meet : ByteArray := prog_4_method_32_code
def yX2_meet : MethodName := ⟨RX2, "meet", "(III)I"⟩
abbrev cX2_size : ByteArray := prog_4_method_33_code
def yX2_size : MethodName := ⟨RX2, "size", "(II)I"⟩
abbrev cX2_round : ByteArray := prog_4_method_34_code
def yX2_round : MethodName := ⟨RX2, "round", "(III)I"⟩
abbrev cX2_signOf : ByteArray := prog_4_method_35_code
def yX2_signOf : MethodName := ⟨RX2, "signOf", "(IJ)J"⟩
abbrev cX2_sign : ByteArray := prog_4_method_36_code
def yX2_sign : MethodName := ⟨RX2, "sign", "(II)I"⟩
abbrev cX2_lend : ByteArray := prog_4_method_37_code
def yX2_lend : MethodName := ⟨RX2, "lend", "(III)I"⟩
abbrev cX2_turn : ByteArray := prog_4_method_38_code
def yX2_turn : MethodName := ⟨RX2, "turn", "(II)I"⟩
abbrev cX2_as : ByteArray := prog_4_method_39_code
def yX2_as : MethodName := ⟨RX2, "as", "(III)I"⟩
abbrev cX2_near : ByteArray := prog_4_method_40_code
def yX2_near : MethodName := ⟨RX2, "near", "(IJ)J"⟩
abbrev cX2_has : ByteArray := prog_4_method_41_code
def yX2_has : MethodName := ⟨RX2, "has", "(IJ)I"⟩
abbrev cX2_alike : ByteArray := prog_4_method_42_code
def yX2_alike : MethodName := ⟨RX2, "alike", "(II)I"⟩
abbrev cX2_step : ByteArray := prog_4_method_43_code
def yX2_step : MethodName := ⟨RX2, "step", "(IIIII)I"⟩
abbrev cX2_does : ByteArray := prog_4_method_44_code
def yX2_does : MethodName := ⟨RX2, "does", "(I)I"⟩
abbrev cX2_run : ByteArray := prog_4_method_45_code
def yX2_run : MethodName := ⟨RX2, "run", "(II)I"⟩
abbrev cX2_state : ByteArray := prog_4_method_46_code
def yX2_state : MethodName := ⟨RX2, "state", "()I"⟩
abbrev cX2_about : ByteArray := prog_4_method_47_code
def yX2_about : MethodName := ⟨RX2, "about", "(I)I"⟩
def RJxe99ae : String := "java/lang/Double"
def TJxe99ae : u_T := fun k => match k with
  | _ => ("", "", "", false)
def tyJxe99ae : Nat → FieldType := fun k => match k with
  | _ => .int
abbrev wsJxe99ae0 : List Cond := u_ws RJxe99ae TJxe99ae 0
theorem nmJxe99ae : ∀ a, a < 0 → ∀ b, b < 0 → a ≠ b → (TJxe99ae a).2.1 ≠ (TJxe99ae b).2.1 := by decide +kernel
theorem tyJxe99ae_ok : ∀ k, k < 0 → parseFieldDescriptor (TJxe99ae k).2.2.1 = some (tyJxe99ae k) := by decide +kernel
abbrev cJxe99ae_isNaN_b9ae7 : ByteArray := prog_5_method_6_code
def yJxe99ae_isNaN_b9ae7 : MethodName := ⟨RJxe99ae, "isNaN", "(D)Z"⟩
abbrev cJxe99ae_doubleToLongBits_ccdee : ByteArray := prog_5_method_23_code
def yJxe99ae_doubleToLongBits_ccdee : MethodName := ⟨RJxe99ae, "doubleToLongBits", "(D)J"⟩
def RJxf58ca : String := "java/lang/Float"
def TJxf58ca : u_T := fun k => match k with
  | _ => ("", "", "", false)
def tyJxf58ca : Nat → FieldType := fun k => match k with
  | _ => .int
abbrev wsJxf58ca0 : List Cond := u_ws RJxf58ca TJxf58ca 0
theorem nmJxf58ca : ∀ a, a < 0 → ∀ b, b < 0 → a ≠ b → (TJxf58ca a).2.1 ≠ (TJxf58ca b).2.1 := by decide +kernel
theorem tyJxf58ca_ok : ∀ k, k < 0 → parseFieldDescriptor (TJxf58ca k).2.2.1 = some (tyJxf58ca k) := by decide +kernel
abbrev cJxf58ca_isNaN_12338 : ByteArray := prog_6_method_6_code
def yJxf58ca_isNaN_12338 : MethodName := ⟨RJxf58ca, "isNaN", "(F)Z"⟩
abbrev cJxf58ca_floatToIntBits_5c35a : ByteArray := prog_6_method_24_code
def yJxf58ca_floatToIntBits_5c35a : MethodName := ⟨RJxf58ca, "floatToIntBits", "(F)I"⟩
def RL : String := "StretchDeskLaw"
abbrev cL_law : ByteArray := code
def yL_law : MethodName := ⟨RL, "law", "([I)Z"⟩
def wsX0_isBroken : List Cond := .code yX0_isBroken cX0_isBroken 1 (some .boolean) :: ([])
def wsX0_fitted : List Cond := .code yX0_fitted cX0_fitted 3 (some .long) :: ([])
def wsX0_signMask : List Cond := .code yX0_signMask cX0_signMask 1 (some .long) :: ([.constantLong RX0 71 (-2147483648), .constantLong RX0 73 (-9223372036854775808)])
def wsX0_magnitude : List Cond := .code yX0_magnitude cX0_magnitude 3 (some .long) :: ([.constantLong RX0 75 (-1), .methodLink RX0 41 yX0_signMask, .static yX0_signMask, .initialized RX0, .code yX0_signMask cX0_signMask 1 (some .long), .constantLong RX0 71 (-2147483648), .constantLong RX0 73 (-9223372036854775808)])
def wsX0_bias : List Cond := .code yX0_bias cX0_bias 1 (some .int) :: ([])
def wsX0_fractionBits : List Cond := .code yX0_fractionBits cX0_fractionBits 1 (some .int) :: ([])
def wsX0_infinity : List Cond := .code yX0_infinity cX0_infinity 1 (some .long) :: ([.methodLink RX0 77 yX0_bias, .static yX0_bias, .initialized RX0, .code yX0_bias cX0_bias 1 (some .int), .methodLink RX0 81 yX0_fractionBits, .static yX0_fractionBits, .code yX0_fractionBits cX0_fractionBits 1 (some .int)])
def wsX0_isNumber_r1 : List Cond := [Cond.methodLink RX0 9 yX0_isBroken, Cond.static yX0_isBroken, Cond.initialized RX0, Cond.code yX0_isBroken cX0_isBroken 1 (some .boolean), Cond.methodLink RX0 15 yX0_fitted, Cond.static yX0_fitted, Cond.code yX0_fitted cX0_fitted 3 (some .long), Cond.methodLink RX0 19 yX0_magnitude, Cond.static yX0_magnitude, Cond.code yX0_magnitude cX0_magnitude 3 (some .long), Cond.constantLong RX0 75 (-1), Cond.methodLink RX0 41 yX0_signMask, Cond.static yX0_signMask, Cond.code yX0_signMask cX0_signMask 1 (some .long), Cond.constantLong RX0 71 (-2147483648), Cond.constantLong RX0 73 (-9223372036854775808), Cond.methodLink RX0 22 yX0_infinity, Cond.static yX0_infinity, Cond.code yX0_infinity cX0_infinity 1 (some .long), Cond.methodLink RX0 77 yX0_bias, Cond.static yX0_bias, Cond.code yX0_bias cX0_bias 1 (some .int), Cond.methodLink RX0 81 yX0_fractionBits, Cond.static yX0_fractionBits]
def wsX0_isNumber_r2 : List Cond := [Cond.code yX0_fractionBits cX0_fractionBits 1 (some .int)]
def wsX0_isNumber : List Cond := .code yX0_isNumber cX0_isNumber 3 (some .boolean) :: ((wsX0_isNumber_r1 ++ wsX0_isNumber_r2))
def wsX0_brokenRank : List Cond := .code yX0_brokenRank cX0_brokenRank 2 (some .long) :: ([.constantLong RX0 69 (9223372036854775807)])
def wsX0_isLess : List Cond := .code yX0_isLess cX0_isLess 5 (some .boolean) :: ([.methodLink RX0 9 yX0_isBroken, .static yX0_isBroken, .initialized RX0, .code yX0_isBroken cX0_isBroken 1 (some .boolean), .methodLink RX0 26 yX0_brokenRank, .static yX0_brokenRank, .code yX0_brokenRank cX0_brokenRank 2 (some .long), .constantLong RX0 69 (9223372036854775807)])
def wsX0_lesser : List Cond := .code yX0_lesser cX0_lesser 5 (some .long) :: ([.methodLink RX0 30 yX0_isLess, .static yX0_isLess, .initialized RX0, .code yX0_isLess cX0_isLess 5 (some .boolean), .methodLink RX0 9 yX0_isBroken, .static yX0_isBroken, .code yX0_isBroken cX0_isBroken 1 (some .boolean), .methodLink RX0 26 yX0_brokenRank, .static yX0_brokenRank, .code yX0_brokenRank cX0_brokenRank 2 (some .long), .constantLong RX0 69 (9223372036854775807)])
def wsX0_greater : List Cond := .code yX0_greater cX0_greater 5 (some .long) :: ([.methodLink RX0 30 yX0_isLess, .static yX0_isLess, .initialized RX0, .code yX0_isLess cX0_isLess 5 (some .boolean), .methodLink RX0 9 yX0_isBroken, .static yX0_isBroken, .code yX0_isBroken cX0_isBroken 1 (some .boolean), .methodLink RX0 26 yX0_brokenRank, .static yX0_brokenRank, .code yX0_brokenRank cX0_brokenRank 2 (some .long), .constantLong RX0 69 (9223372036854775807)])
def wsX0_isZero : List Cond := .code yX0_isZero cX0_isZero 3 (some .boolean) :: ([.methodLink RX0 9 yX0_isBroken, .static yX0_isBroken, .initialized RX0, .code yX0_isBroken cX0_isBroken 1 (some .boolean), .methodLink RX0 19 yX0_magnitude, .static yX0_magnitude, .code yX0_magnitude cX0_magnitude 3 (some .long), .constantLong RX0 75 (-1), .methodLink RX0 41 yX0_signMask, .static yX0_signMask, .code yX0_signMask cX0_signMask 1 (some .long), .constantLong RX0 71 (-2147483648), .constantLong RX0 73 (-9223372036854775808)])
def wsX0_isBelowZero : List Cond := .code yX0_isBelowZero cX0_isBelowZero 3 (some .boolean) :: ([.methodLink RX0 34 yX0_isZero, .static yX0_isZero, .initialized RX0, .code yX0_isZero cX0_isZero 3 (some .boolean), .methodLink RX0 9 yX0_isBroken, .static yX0_isBroken, .code yX0_isBroken cX0_isBroken 1 (some .boolean), .methodLink RX0 19 yX0_magnitude, .static yX0_magnitude, .code yX0_magnitude cX0_magnitude 3 (some .long), .constantLong RX0 75 (-1), .methodLink RX0 41 yX0_signMask, .static yX0_signMask, .code yX0_signMask cX0_signMask 1 (some .long), .constantLong RX0 71 (-2147483648), .constantLong RX0 73 (-9223372036854775808)])
def wsX0_isAboveZero : List Cond := .code yX0_isAboveZero cX0_isAboveZero 2 (some .boolean) :: ([])
def wsX0_negated : List Cond := .code yX0_negated cX0_negated 3 (some .long) :: ([.methodLink RX0 9 yX0_isBroken, .static yX0_isBroken, .initialized RX0, .code yX0_isBroken cX0_isBroken 1 (some .boolean), .methodLink RX0 41 yX0_signMask, .static yX0_signMask, .code yX0_signMask cX0_signMask 1 (some .long), .constantLong RX0 71 (-2147483648), .constantLong RX0 73 (-9223372036854775808), .methodLink RX0 15 yX0_fitted, .static yX0_fitted, .code yX0_fitted cX0_fitted 3 (some .long)])
def wsX0_sizeOf : List Cond := .code yX0_sizeOf cX0_sizeOf 3 (some .long) :: ([.methodLink RX0 38 yX0_negated, .static yX0_negated, .initialized RX0, .code yX0_negated cX0_negated 3 (some .long), .methodLink RX0 9 yX0_isBroken, .static yX0_isBroken, .code yX0_isBroken cX0_isBroken 1 (some .boolean), .methodLink RX0 41 yX0_signMask, .static yX0_signMask, .code yX0_signMask cX0_signMask 1 (some .long), .constantLong RX0 71 (-2147483648), .constantLong RX0 73 (-9223372036854775808), .methodLink RX0 15 yX0_fitted, .static yX0_fitted, .code yX0_fitted cX0_fitted 3 (some .long)])
def wsX0_withSign : List Cond := .code yX0_withSign cX0_withSign 5 (some .long) :: ([.methodLink RX0 19 yX0_magnitude, .static yX0_magnitude, .initialized RX0, .code yX0_magnitude cX0_magnitude 3 (some .long), .constantLong RX0 75 (-1), .methodLink RX0 41 yX0_signMask, .static yX0_signMask, .code yX0_signMask cX0_signMask 1 (some .long), .constantLong RX0 71 (-2147483648), .constantLong RX0 73 (-9223372036854775808)])
def wsX0_one : List Cond := .code yX0_one cX0_one 1 (some .long) :: ([.methodLink RX0 77 yX0_bias, .static yX0_bias, .initialized RX0, .code yX0_bias cX0_bias 1 (some .int), .methodLink RX0 81 yX0_fractionBits, .static yX0_fractionBits, .code yX0_fractionBits cX0_fractionBits 1 (some .int)])
def wsX0_signOf_r1 : List Cond := [Cond.methodLink RX0 34 yX0_isZero, Cond.static yX0_isZero, Cond.initialized RX0, Cond.code yX0_isZero cX0_isZero 3 (some .boolean), Cond.methodLink RX0 9 yX0_isBroken, Cond.static yX0_isBroken, Cond.code yX0_isBroken cX0_isBroken 1 (some .boolean), Cond.methodLink RX0 19 yX0_magnitude, Cond.static yX0_magnitude, Cond.code yX0_magnitude cX0_magnitude 3 (some .long), Cond.constantLong RX0 75 (-1), Cond.methodLink RX0 41 yX0_signMask, Cond.static yX0_signMask, Cond.code yX0_signMask cX0_signMask 1 (some .long), Cond.constantLong RX0 71 (-2147483648), Cond.constantLong RX0 73 (-9223372036854775808), Cond.methodLink RX0 44 yX0_one, Cond.static yX0_one, Cond.code yX0_one cX0_one 1 (some .long), Cond.methodLink RX0 77 yX0_bias, Cond.static yX0_bias, Cond.code yX0_bias cX0_bias 1 (some .int), Cond.methodLink RX0 81 yX0_fractionBits, Cond.static yX0_fractionBits]
def wsX0_signOf_r2 : List Cond := [Cond.code yX0_fractionBits cX0_fractionBits 1 (some .int), Cond.methodLink RX0 47 yX0_withSign, Cond.static yX0_withSign, Cond.code yX0_withSign cX0_withSign 5 (some .long)]
def wsX0_signOf : List Cond := .code yX0_signOf cX0_signOf 3 (some .long) :: ((wsX0_signOf_r1 ++ wsX0_signOf_r2))
def wsX0_power : List Cond := .code yX0_power cX0_power 3 (some .int) :: ([.methodLink RX0 81 yX0_fractionBits, .static yX0_fractionBits, .initialized RX0, .code yX0_fractionBits cX0_fractionBits 1 (some .int), .methodLink RX0 77 yX0_bias, .static yX0_bias, .code yX0_bias cX0_bias 1 (some .int)])
def wsX0_half : List Cond := .code yX0_half cX0_half 1 (some .long) :: ([.methodLink RX0 77 yX0_bias, .static yX0_bias, .initialized RX0, .code yX0_bias cX0_bias 1 (some .int), .methodLink RX0 81 yX0_fractionBits, .static yX0_fractionBits, .code yX0_fractionBits cX0_fractionBits 1 (some .int)])
def wsX0_nearestShifted : List Cond := .code yX0_nearestShifted cX0_nearestShifted 10 (some .long) :: ([])
def wsX0_wholeMagnitude : List Cond := .code yX0_wholeMagnitude cX0_wholeMagnitude 12 (some .long) :: ([.methodLink RX0 84 yX0_power, .static yX0_power, .initialized RX0, .code yX0_power cX0_power 3 (some .int), .methodLink RX0 81 yX0_fractionBits, .static yX0_fractionBits, .code yX0_fractionBits cX0_fractionBits 1 (some .int), .methodLink RX0 77 yX0_bias, .static yX0_bias, .code yX0_bias cX0_bias 1 (some .int), .methodLink RX0 88 yX0_half, .static yX0_half, .code yX0_half cX0_half 1 (some .long), .methodLink RX0 44 yX0_one, .static yX0_one, .code yX0_one cX0_one 1 (some .long), .methodLink RX0 91 yX0_nearestShifted, .static yX0_nearestShifted, .code yX0_nearestShifted cX0_nearestShifted 10 (some .long)])
def wsX0_whole_r1 : List Cond := [Cond.methodLink RX0 19 yX0_magnitude, Cond.static yX0_magnitude, Cond.initialized RX0, Cond.code yX0_magnitude cX0_magnitude 3 (some .long), Cond.constantLong RX0 75 (-1), Cond.methodLink RX0 41 yX0_signMask, Cond.static yX0_signMask, Cond.code yX0_signMask cX0_signMask 1 (some .long), Cond.constantLong RX0 71 (-2147483648), Cond.constantLong RX0 73 (-9223372036854775808), Cond.methodLink RX0 51 yX0_wholeMagnitude, Cond.static yX0_wholeMagnitude, Cond.code yX0_wholeMagnitude cX0_wholeMagnitude 12 (some .long), Cond.methodLink RX0 84 yX0_power, Cond.static yX0_power, Cond.code yX0_power cX0_power 3 (some .int), Cond.methodLink RX0 81 yX0_fractionBits, Cond.static yX0_fractionBits, Cond.code yX0_fractionBits cX0_fractionBits 1 (some .int), Cond.methodLink RX0 77 yX0_bias, Cond.static yX0_bias, Cond.code yX0_bias cX0_bias 1 (some .int), Cond.methodLink RX0 88 yX0_half, Cond.static yX0_half]
def wsX0_whole_r2 : List Cond := [Cond.code yX0_half cX0_half 1 (some .long), Cond.methodLink RX0 44 yX0_one, Cond.static yX0_one, Cond.code yX0_one cX0_one 1 (some .long), Cond.methodLink RX0 91 yX0_nearestShifted, Cond.static yX0_nearestShifted, Cond.code yX0_nearestShifted cX0_nearestShifted 10 (some .long), Cond.methodLink RX0 47 yX0_withSign, Cond.static yX0_withSign, Cond.code yX0_withSign cX0_withSign 5 (some .long)]
def wsX0_whole : List Cond := .code yX0_whole cX0_whole 7 (some .long) :: ((wsX0_whole_r1 ++ wsX0_whole_r2))
def wsX0_extreme : List Cond := .code yX0_extreme cX0_extreme 2 (some .long) :: ([.constantLong RX0 71 (-2147483648), .constantLong RX0 105 (2147483647), .constantLong RX0 73 (-9223372036854775808), .constantLong RX0 69 (9223372036854775807)])
def wsX0_mantissa : List Cond := .code yX0_mantissa cX0_mantissa 5 (some .long) :: ([.methodLink RX0 81 yX0_fractionBits, .static yX0_fractionBits, .initialized RX0, .code yX0_fractionBits cX0_fractionBits 1 (some .int)])
def wsX0_brokenToWhole_r1 : List Cond := [Cond.methodLink RX0 19 yX0_magnitude, Cond.static yX0_magnitude, Cond.initialized RX0, Cond.code yX0_magnitude cX0_magnitude 3 (some .long), Cond.constantLong RX0 75 (-1), Cond.methodLink RX0 41 yX0_signMask, Cond.static yX0_signMask, Cond.code yX0_signMask cX0_signMask 1 (some .long), Cond.constantLong RX0 71 (-2147483648), Cond.constantLong RX0 73 (-9223372036854775808), Cond.methodLink RX0 84 yX0_power, Cond.static yX0_power, Cond.code yX0_power cX0_power 3 (some .int), Cond.methodLink RX0 81 yX0_fractionBits, Cond.static yX0_fractionBits, Cond.code yX0_fractionBits cX0_fractionBits 1 (some .int), Cond.methodLink RX0 77 yX0_bias, Cond.static yX0_bias, Cond.code yX0_bias cX0_bias 1 (some .int), Cond.methodLink RX0 98 yX0_extreme, Cond.static yX0_extreme, Cond.code yX0_extreme cX0_extreme 2 (some .long), Cond.constantLong RX0 105 (2147483647), Cond.constantLong RX0 69 (9223372036854775807)]
def wsX0_brokenToWhole_r2 : List Cond := [Cond.methodLink RX0 102 yX0_mantissa, Cond.static yX0_mantissa, Cond.code yX0_mantissa cX0_mantissa 5 (some .long)]
def wsX0_brokenToWhole : List Cond := .code yX0_brokenToWhole cX0_brokenToWhole 12 (some .long) :: ((wsX0_brokenToWhole_r1 ++ wsX0_brokenToWhole_r2))
def wsX0_highestBit : List Cond := .code yX0_highestBit cX0_highestBit 3 (some .int) :: ([])
def wsX0_wholeToBroken : List Cond := .code yX0_wholeToBroken cX0_wholeToBroken 11 (some .long) :: ([.methodLink RX0 94 yX0_highestBit, .static yX0_highestBit, .initialized RX0, .code yX0_highestBit cX0_highestBit 3 (some .int), .methodLink RX0 81 yX0_fractionBits, .static yX0_fractionBits, .code yX0_fractionBits cX0_fractionBits 1 (some .int), .methodLink RX0 91 yX0_nearestShifted, .static yX0_nearestShifted, .code yX0_nearestShifted cX0_nearestShifted 10 (some .long), .methodLink RX0 77 yX0_bias, .static yX0_bias, .code yX0_bias cX0_bias 1 (some .int), .methodLink RX0 41 yX0_signMask, .static yX0_signMask, .code yX0_signMask cX0_signMask 1 (some .long), .constantLong RX0 71 (-2147483648), .constantLong RX0 73 (-9223372036854775808)])
def wsX0_widened : List Cond := .code yX0_widened cX0_widened 5 (some .long) :: ([.constantLong RX0 107 (4035225266123964416), .methodLink RX0 22 yX0_infinity, .static yX0_infinity, .initialized RX0, .code yX0_infinity cX0_infinity 1 (some .long), .methodLink RX0 77 yX0_bias, .static yX0_bias, .code yX0_bias cX0_bias 1 (some .int), .methodLink RX0 81 yX0_fractionBits, .static yX0_fractionBits, .code yX0_fractionBits cX0_fractionBits 1 (some .int), .methodLink RX0 94 yX0_highestBit, .static yX0_highestBit, .code yX0_highestBit cX0_highestBit 3 (some .int)])
def wsX0_narrowed : List Cond := .code yX0_narrowed cX0_narrowed 5 (some .long) :: ([.constantLong RX0 107 (4035225266123964416), .methodLink RX0 84 yX0_power, .static yX0_power, .initialized RX0, .code yX0_power cX0_power 3 (some .int), .methodLink RX0 81 yX0_fractionBits, .static yX0_fractionBits, .code yX0_fractionBits cX0_fractionBits 1 (some .int), .methodLink RX0 77 yX0_bias, .static yX0_bias, .code yX0_bias cX0_bias 1 (some .int), .methodLink RX0 22 yX0_infinity, .static yX0_infinity, .code yX0_infinity cX0_infinity 1 (some .long), .methodLink RX0 91 yX0_nearestShifted, .static yX0_nearestShifted, .code yX0_nearestShifted cX0_nearestShifted 10 (some .long), .methodLink RX0 102 yX0_mantissa, .static yX0_mantissa, .code yX0_mantissa cX0_mantissa 5 (some .long)])
def wsX0_ofSort_r1 : List Cond := [Cond.methodLink RX0 9 yX0_isBroken, Cond.static yX0_isBroken, Cond.initialized RX0, Cond.code yX0_isBroken cX0_isBroken 1 (some .boolean), Cond.methodLink RX0 55 yX0_brokenToWhole, Cond.static yX0_brokenToWhole, Cond.code yX0_brokenToWhole cX0_brokenToWhole 12 (some .long), Cond.methodLink RX0 19 yX0_magnitude, Cond.static yX0_magnitude, Cond.code yX0_magnitude cX0_magnitude 3 (some .long), Cond.constantLong RX0 75 (-1), Cond.methodLink RX0 41 yX0_signMask, Cond.static yX0_signMask, Cond.code yX0_signMask cX0_signMask 1 (some .long), Cond.constantLong RX0 71 (-2147483648), Cond.constantLong RX0 73 (-9223372036854775808), Cond.methodLink RX0 84 yX0_power, Cond.static yX0_power, Cond.code yX0_power cX0_power 3 (some .int), Cond.methodLink RX0 81 yX0_fractionBits, Cond.static yX0_fractionBits, Cond.code yX0_fractionBits cX0_fractionBits 1 (some .int), Cond.methodLink RX0 77 yX0_bias, Cond.static yX0_bias]
def wsX0_ofSort_r2 : List Cond := [Cond.code yX0_bias cX0_bias 1 (some .int), Cond.methodLink RX0 98 yX0_extreme, Cond.static yX0_extreme, Cond.code yX0_extreme cX0_extreme 2 (some .long), Cond.constantLong RX0 105 (2147483647), Cond.constantLong RX0 69 (9223372036854775807), Cond.methodLink RX0 102 yX0_mantissa, Cond.static yX0_mantissa, Cond.code yX0_mantissa cX0_mantissa 5 (some .long), Cond.methodLink RX0 15 yX0_fitted, Cond.static yX0_fitted, Cond.code yX0_fitted cX0_fitted 3 (some .long), Cond.methodLink RX0 59 yX0_wholeToBroken, Cond.static yX0_wholeToBroken, Cond.code yX0_wholeToBroken cX0_wholeToBroken 11 (some .long), Cond.methodLink RX0 94 yX0_highestBit, Cond.static yX0_highestBit, Cond.code yX0_highestBit cX0_highestBit 3 (some .int), Cond.methodLink RX0 91 yX0_nearestShifted, Cond.static yX0_nearestShifted, Cond.code yX0_nearestShifted cX0_nearestShifted 10 (some .long), Cond.methodLink RX0 63 yX0_widened, Cond.static yX0_widened, Cond.code yX0_widened cX0_widened 5 (some .long)]
def wsX0_ofSort_r3 : List Cond := [Cond.constantLong RX0 107 (4035225266123964416), Cond.methodLink RX0 22 yX0_infinity, Cond.static yX0_infinity, Cond.code yX0_infinity cX0_infinity 1 (some .long), Cond.methodLink RX0 66 yX0_narrowed, Cond.static yX0_narrowed, Cond.code yX0_narrowed cX0_narrowed 5 (some .long)]
def wsX0_ofSort : List Cond := .code yX0_ofSort cX0_ofSort 8 (some .long) :: ((wsX0_ofSort_r1 ++ (wsX0_ofSort_r2 ++ wsX0_ofSort_r3)))
def wsX1_init : List Cond := .code yX1_init cX1_init 2 none :: ([.methodLink RX1 1 objectInit, .instanceMethod objectInit, .code objectInit ⟨#[0xb1]⟩ 1 none, .arrayClass .int, .fieldLink RX1 9 "StretchDesk" "sorts" "[I", .arrayClass .long, .fieldLink RX1 13 "StretchDesk" "lows" "[J", .fieldLink RX1 17 "StretchDesk" "highs" "[J", .fieldLink RX1 20 "StretchDesk" "stepWhats" "[I", .fieldLink RX1 23 "StretchDesk" "stepAs" "[I", .fieldLink RX1 26 "StretchDesk" "stepBs" "[I", .fieldLink RX1 29 "StretchDesk" "stepTos" "[I"] ++ wsX10)
def wsX1_isSlot : List Cond := .code yX1_isSlot cX1_isSlot 1 (some .boolean) :: ([])
def wsX1_isSort : List Cond := .code yX1_isSort cX1_isSort 1 (some .boolean) :: ([])
def wsX1_put : List Cond := .code yX1_put cX1_put 7 (some .int) :: ([.fieldLink RX1 9 "StretchDesk" "sorts" "[I", .fieldLink RX1 13 "StretchDesk" "lows" "[J", .fieldLink RX1 17 "StretchDesk" "highs" "[J"] ++ wsX10)
def wsX1_placed_r1 : List Cond := [Cond.methodLink RX1 40 yX1_isSlot, Cond.static yX1_isSlot, Cond.initialized RX1, Cond.code yX1_isSlot cX1_isSlot 1 (some .boolean), Cond.methodLink RX1 103 yX1_isSort, Cond.static yX1_isSort, Cond.code yX1_isSort cX1_isSort 1 (some .boolean), Cond.methodLink RX1 99 yX0_isNumber, Cond.static yX0_isNumber, Cond.initialized RX0, Cond.code yX0_isNumber cX0_isNumber 3 (some .boolean), Cond.methodLink RX0 9 yX0_isBroken, Cond.static yX0_isBroken, Cond.code yX0_isBroken cX0_isBroken 1 (some .boolean), Cond.methodLink RX0 15 yX0_fitted, Cond.static yX0_fitted, Cond.code yX0_fitted cX0_fitted 3 (some .long), Cond.methodLink RX0 19 yX0_magnitude, Cond.static yX0_magnitude, Cond.code yX0_magnitude cX0_magnitude 3 (some .long), Cond.constantLong RX0 75 (-1), Cond.methodLink RX0 41 yX0_signMask, Cond.static yX0_signMask, Cond.code yX0_signMask cX0_signMask 1 (some .long)]
def wsX1_placed_r2 : List Cond := [Cond.constantLong RX0 71 (-2147483648), Cond.constantLong RX0 73 (-9223372036854775808), Cond.methodLink RX0 22 yX0_infinity, Cond.static yX0_infinity, Cond.code yX0_infinity cX0_infinity 1 (some .long), Cond.methodLink RX0 77 yX0_bias, Cond.static yX0_bias, Cond.code yX0_bias cX0_bias 1 (some .int), Cond.methodLink RX0 81 yX0_fractionBits, Cond.static yX0_fractionBits, Cond.code yX0_fractionBits cX0_fractionBits 1 (some .int), Cond.methodLink RX1 59 yX0_fitted, Cond.methodLink RX1 72 yX0_isLess, Cond.static yX0_isLess, Cond.code yX0_isLess cX0_isLess 5 (some .boolean), Cond.methodLink RX0 26 yX0_brokenRank, Cond.static yX0_brokenRank, Cond.code yX0_brokenRank cX0_brokenRank 2 (some .long), Cond.constantLong RX0 69 (9223372036854775807), Cond.methodLink RX1 106 yX1_put, Cond.instanceMethod yX1_put, Cond.selects RX1 yX1_put yX1_put, Cond.code yX1_put cX1_put 7 (some .int), Cond.fieldLink RX1 9 "StretchDesk" "sorts" "[I"]
def wsX1_placed_r3 : List Cond := [Cond.fieldLink RX1 13 "StretchDesk" "lows" "[J", Cond.fieldLink RX1 17 "StretchDesk" "highs" "[J"]
def wsX1_placed : List Cond := .code yX1_placed cX1_placed 11 (some .int) :: ((wsX1_placed_r1 ++ (wsX1_placed_r2 ++ wsX1_placed_r3)) ++ wsX10)
def wsX1_noted : List Cond := .code yX1_noted cX1_noted 2 (some .int) :: ([.fieldLink RX1 83 "StretchDesk" "latestRefusal" "I", .fieldLink RX1 93 "StretchDesk" "refusals" "I"] ++ wsX10)
def wsX1_set_r1 : List Cond := [Cond.methodLink RX1 32 yX1_placed, Cond.instanceMethod yX1_placed, Cond.selects RX1 yX1_placed yX1_placed, Cond.initialized RX1, Cond.code yX1_placed cX1_placed 11 (some .int), Cond.methodLink RX1 40 yX1_isSlot, Cond.static yX1_isSlot, Cond.code yX1_isSlot cX1_isSlot 1 (some .boolean), Cond.methodLink RX1 103 yX1_isSort, Cond.static yX1_isSort, Cond.code yX1_isSort cX1_isSort 1 (some .boolean), Cond.methodLink RX1 99 yX0_isNumber, Cond.static yX0_isNumber, Cond.initialized RX0, Cond.code yX0_isNumber cX0_isNumber 3 (some .boolean), Cond.methodLink RX0 9 yX0_isBroken, Cond.static yX0_isBroken, Cond.code yX0_isBroken cX0_isBroken 1 (some .boolean), Cond.methodLink RX0 15 yX0_fitted, Cond.static yX0_fitted, Cond.code yX0_fitted cX0_fitted 3 (some .long), Cond.methodLink RX0 19 yX0_magnitude, Cond.static yX0_magnitude, Cond.code yX0_magnitude cX0_magnitude 3 (some .long)]
def wsX1_set_r2 : List Cond := [Cond.constantLong RX0 75 (-1), Cond.methodLink RX0 41 yX0_signMask, Cond.static yX0_signMask, Cond.code yX0_signMask cX0_signMask 1 (some .long), Cond.constantLong RX0 71 (-2147483648), Cond.constantLong RX0 73 (-9223372036854775808), Cond.methodLink RX0 22 yX0_infinity, Cond.static yX0_infinity, Cond.code yX0_infinity cX0_infinity 1 (some .long), Cond.methodLink RX0 77 yX0_bias, Cond.static yX0_bias, Cond.code yX0_bias cX0_bias 1 (some .int), Cond.methodLink RX0 81 yX0_fractionBits, Cond.static yX0_fractionBits, Cond.code yX0_fractionBits cX0_fractionBits 1 (some .int), Cond.methodLink RX1 59 yX0_fitted, Cond.methodLink RX1 72 yX0_isLess, Cond.static yX0_isLess, Cond.code yX0_isLess cX0_isLess 5 (some .boolean), Cond.methodLink RX0 26 yX0_brokenRank, Cond.static yX0_brokenRank, Cond.code yX0_brokenRank cX0_brokenRank 2 (some .long), Cond.constantLong RX0 69 (9223372036854775807), Cond.methodLink RX1 106 yX1_put]
def wsX1_set_r3 : List Cond := [Cond.instanceMethod yX1_put, Cond.selects RX1 yX1_put yX1_put, Cond.code yX1_put cX1_put 7 (some .int), Cond.fieldLink RX1 9 "StretchDesk" "sorts" "[I", Cond.fieldLink RX1 13 "StretchDesk" "lows" "[J", Cond.fieldLink RX1 17 "StretchDesk" "highs" "[J", Cond.methodLink RX1 36 yX1_noted, Cond.instanceMethod yX1_noted, Cond.selects RX1 yX1_noted yX1_noted, Cond.code yX1_noted cX1_noted 2 (some .int), Cond.fieldLink RX1 83 "StretchDesk" "latestRefusal" "I", Cond.fieldLink RX1 93 "StretchDesk" "refusals" "I"]
def wsX1_set : List Cond := .code yX1_set cX1_set 7 (some .int) :: ((wsX1_set_r1 ++ (wsX1_set_r2 ++ wsX1_set_r3)) ++ wsX10)
def wsX1_clear : List Cond := .code yX1_clear cX1_clear 3 (some .int) :: ([.fieldLink RX1 9 "StretchDesk" "sorts" "[I", .methodLink RX1 40 yX1_isSlot, .static yX1_isSlot, .initialized RX1, .code yX1_isSlot cX1_isSlot 1 (some .boolean), .methodLink RX1 36 yX1_noted, .instanceMethod yX1_noted, .selects RX1 yX1_noted yX1_noted, .code yX1_noted cX1_noted 2 (some .int), .fieldLink RX1 83 "StretchDesk" "latestRefusal" "I", .fieldLink RX1 93 "StretchDesk" "refusals" "I"] ++ wsX10)
def wsX1_refusalToTake : List Cond := .code yX1_refusalToTake cX1_refusalToTake 2 (some .int) :: ([.fieldLink RX1 9 "StretchDesk" "sorts" "[I", .methodLink RX1 40 yX1_isSlot, .static yX1_isSlot, .initialized RX1, .code yX1_isSlot cX1_isSlot 1 (some .boolean)] ++ wsX10)
def wsX1_sort : List Cond := .code yX1_sort cX1_sort 3 (some .int) :: ([.fieldLink RX1 9 "StretchDesk" "sorts" "[I", .methodLink RX1 44 yX1_refusalToTake, .instanceMethod yX1_refusalToTake, .selects RX1 yX1_refusalToTake yX1_refusalToTake, .initialized RX1, .code yX1_refusalToTake cX1_refusalToTake 2 (some .int), .methodLink RX1 40 yX1_isSlot, .static yX1_isSlot, .code yX1_isSlot cX1_isSlot 1 (some .boolean), .methodLink RX1 36 yX1_noted, .instanceMethod yX1_noted, .selects RX1 yX1_noted yX1_noted, .code yX1_noted cX1_noted 2 (some .int), .fieldLink RX1 83 "StretchDesk" "latestRefusal" "I", .fieldLink RX1 93 "StretchDesk" "refusals" "I"] ++ wsX10)
def wsX1_low : List Cond := .code yX1_low cX1_low 2 (some .long) :: ([.fieldLink RX1 47 "StretchDesk" "endsTold" "I", .fieldLink RX1 13 "StretchDesk" "lows" "[J", .methodLink RX1 44 yX1_refusalToTake, .instanceMethod yX1_refusalToTake, .selects RX1 yX1_refusalToTake yX1_refusalToTake, .initialized RX1, .code yX1_refusalToTake cX1_refusalToTake 2 (some .int), .fieldLink RX1 9 "StretchDesk" "sorts" "[I", .methodLink RX1 40 yX1_isSlot, .static yX1_isSlot, .code yX1_isSlot cX1_isSlot 1 (some .boolean), .methodLink RX1 36 yX1_noted, .instanceMethod yX1_noted, .selects RX1 yX1_noted yX1_noted, .code yX1_noted cX1_noted 2 (some .int), .fieldLink RX1 83 "StretchDesk" "latestRefusal" "I", .fieldLink RX1 93 "StretchDesk" "refusals" "I"] ++ wsX10)
def wsX1_high : List Cond := .code yX1_high cX1_high 2 (some .long) :: ([.fieldLink RX1 47 "StretchDesk" "endsTold" "I", .fieldLink RX1 17 "StretchDesk" "highs" "[J", .methodLink RX1 44 yX1_refusalToTake, .instanceMethod yX1_refusalToTake, .selects RX1 yX1_refusalToTake yX1_refusalToTake, .initialized RX1, .code yX1_refusalToTake cX1_refusalToTake 2 (some .int), .fieldLink RX1 9 "StretchDesk" "sorts" "[I", .methodLink RX1 40 yX1_isSlot, .static yX1_isSlot, .code yX1_isSlot cX1_isSlot 1 (some .boolean), .methodLink RX1 36 yX1_noted, .instanceMethod yX1_noted, .selects RX1 yX1_noted yX1_noted, .code yX1_noted cX1_noted 2 (some .int), .fieldLink RX1 83 "StretchDesk" "latestRefusal" "I", .fieldLink RX1 93 "StretchDesk" "refusals" "I"] ++ wsX10)
def wsX1_takesTwo : List Cond := .code yX1_takesTwo cX1_takesTwo 1 (some .boolean) :: ([])
def wsX1_areSlots : List Cond := .code yX1_areSlots cX1_areSlots 4 (some .boolean) :: ([.methodLink RX1 40 yX1_isSlot, .static yX1_isSlot, .initialized RX1, .code yX1_isSlot cX1_isSlot 1 (some .boolean), .methodLink RX1 96 yX1_takesTwo, .static yX1_takesTwo, .code yX1_takesTwo cX1_takesTwo 1 (some .boolean)])
def wsX1_refusalToPerform : List Cond := .code yX1_refusalToPerform cX1_refusalToPerform 5 (some .int) :: ([.fieldLink RX1 9 "StretchDesk" "sorts" "[I", .methodLink RX1 76 yX1_areSlots, .static yX1_areSlots, .initialized RX1, .code yX1_areSlots cX1_areSlots 4 (some .boolean), .methodLink RX1 40 yX1_isSlot, .static yX1_isSlot, .code yX1_isSlot cX1_isSlot 1 (some .boolean), .methodLink RX1 96 yX1_takesTwo, .static yX1_takesTwo, .code yX1_takesTwo cX1_takesTwo 1 (some .boolean)] ++ wsX10)
def wsX1_joined_r1 : List Cond := [Cond.fieldLink RX1 9 "StretchDesk" "sorts" "[I", Cond.fieldLink RX1 13 "StretchDesk" "lows" "[J", Cond.fieldLink RX1 17 "StretchDesk" "highs" "[J", Cond.methodLink RX1 69 yX0_lesser, Cond.static yX0_lesser, Cond.initialized RX0, Cond.code yX0_lesser cX0_lesser 5 (some .long), Cond.methodLink RX0 30 yX0_isLess, Cond.static yX0_isLess, Cond.code yX0_isLess cX0_isLess 5 (some .boolean), Cond.methodLink RX0 9 yX0_isBroken, Cond.static yX0_isBroken, Cond.code yX0_isBroken cX0_isBroken 1 (some .boolean), Cond.methodLink RX0 26 yX0_brokenRank, Cond.static yX0_brokenRank, Cond.code yX0_brokenRank cX0_brokenRank 2 (some .long), Cond.constantLong RX0 69 (9223372036854775807), Cond.methodLink RX1 65 yX0_greater, Cond.static yX0_greater, Cond.code yX0_greater cX0_greater 5 (some .long), Cond.methodLink RX1 106 yX1_put, Cond.instanceMethod yX1_put, Cond.selects RX1 yX1_put yX1_put, Cond.initialized RX1]
def wsX1_joined_r2 : List Cond := [Cond.code yX1_put cX1_put 7 (some .int)]
def wsX1_joined : List Cond := .code yX1_joined cX1_joined 9 (some .int) :: ((wsX1_joined_r1 ++ wsX1_joined_r2) ++ wsX10)
def wsX1_putIfAny : List Cond := .code yX1_putIfAny cX1_putIfAny 7 (some .int) :: ([.fieldLink RX1 9 "StretchDesk" "sorts" "[I", .methodLink RX1 72 yX0_isLess, .static yX0_isLess, .initialized RX0, .code yX0_isLess cX0_isLess 5 (some .boolean), .methodLink RX0 9 yX0_isBroken, .static yX0_isBroken, .code yX0_isBroken cX0_isBroken 1 (some .boolean), .methodLink RX0 26 yX0_brokenRank, .static yX0_brokenRank, .code yX0_brokenRank cX0_brokenRank 2 (some .long), .constantLong RX0 69 (9223372036854775807), .methodLink RX1 106 yX1_put, .instanceMethod yX1_put, .selects RX1 yX1_put yX1_put, .initialized RX1, .code yX1_put cX1_put 7 (some .int), .fieldLink RX1 13 "StretchDesk" "lows" "[J", .fieldLink RX1 17 "StretchDesk" "highs" "[J"] ++ wsX10)
def wsX1_cut_r1 : List Cond := [Cond.fieldLink RX1 9 "StretchDesk" "sorts" "[I", Cond.fieldLink RX1 13 "StretchDesk" "lows" "[J", Cond.fieldLink RX1 17 "StretchDesk" "highs" "[J", Cond.methodLink RX1 65 yX0_greater, Cond.static yX0_greater, Cond.initialized RX0, Cond.code yX0_greater cX0_greater 5 (some .long), Cond.methodLink RX0 30 yX0_isLess, Cond.static yX0_isLess, Cond.code yX0_isLess cX0_isLess 5 (some .boolean), Cond.methodLink RX0 9 yX0_isBroken, Cond.static yX0_isBroken, Cond.code yX0_isBroken cX0_isBroken 1 (some .boolean), Cond.methodLink RX0 26 yX0_brokenRank, Cond.static yX0_brokenRank, Cond.code yX0_brokenRank cX0_brokenRank 2 (some .long), Cond.constantLong RX0 69 (9223372036854775807), Cond.methodLink RX1 69 yX0_lesser, Cond.static yX0_lesser, Cond.code yX0_lesser cX0_lesser 5 (some .long), Cond.methodLink RX1 138 yX1_putIfAny, Cond.instanceMethod yX1_putIfAny, Cond.selects RX1 yX1_putIfAny yX1_putIfAny, Cond.initialized RX1]
def wsX1_cut_r2 : List Cond := [Cond.code yX1_putIfAny cX1_putIfAny 7 (some .int), Cond.methodLink RX1 72 yX0_isLess, Cond.methodLink RX1 106 yX1_put, Cond.instanceMethod yX1_put, Cond.selects RX1 yX1_put yX1_put, Cond.code yX1_put cX1_put 7 (some .int)]
def wsX1_cut : List Cond := .code yX1_cut cX1_cut 9 (some .int) :: ((wsX1_cut_r1 ++ wsX1_cut_r2) ++ wsX10)
def wsX1_putOrdered_r1 : List Cond := [Cond.methodLink RX1 69 yX0_lesser, Cond.static yX0_lesser, Cond.initialized RX0, Cond.code yX0_lesser cX0_lesser 5 (some .long), Cond.methodLink RX0 30 yX0_isLess, Cond.static yX0_isLess, Cond.code yX0_isLess cX0_isLess 5 (some .boolean), Cond.methodLink RX0 9 yX0_isBroken, Cond.static yX0_isBroken, Cond.code yX0_isBroken cX0_isBroken 1 (some .boolean), Cond.methodLink RX0 26 yX0_brokenRank, Cond.static yX0_brokenRank, Cond.code yX0_brokenRank cX0_brokenRank 2 (some .long), Cond.constantLong RX0 69 (9223372036854775807), Cond.methodLink RX1 65 yX0_greater, Cond.static yX0_greater, Cond.code yX0_greater cX0_greater 5 (some .long), Cond.methodLink RX1 106 yX1_put, Cond.instanceMethod yX1_put, Cond.selects RX1 yX1_put yX1_put, Cond.initialized RX1, Cond.code yX1_put cX1_put 7 (some .int), Cond.fieldLink RX1 9 "StretchDesk" "sorts" "[I", Cond.fieldLink RX1 13 "StretchDesk" "lows" "[J"]
def wsX1_putOrdered_r2 : List Cond := [Cond.fieldLink RX1 17 "StretchDesk" "highs" "[J"]
def wsX1_putOrdered : List Cond := .code yX1_putOrdered cX1_putOrdered 7 (some .int) :: ((wsX1_putOrdered_r1 ++ wsX1_putOrdered_r2) ++ wsX10)
def wsX1_sized_r1 : List Cond := [Cond.fieldLink RX1 9 "StretchDesk" "sorts" "[I", Cond.fieldLink RX1 13 "StretchDesk" "lows" "[J", Cond.fieldLink RX1 17 "StretchDesk" "highs" "[J", Cond.methodLink RX1 141 yX0_sizeOf, Cond.static yX0_sizeOf, Cond.initialized RX0, Cond.code yX0_sizeOf cX0_sizeOf 3 (some .long), Cond.methodLink RX0 38 yX0_negated, Cond.static yX0_negated, Cond.code yX0_negated cX0_negated 3 (some .long), Cond.methodLink RX0 9 yX0_isBroken, Cond.static yX0_isBroken, Cond.code yX0_isBroken cX0_isBroken 1 (some .boolean), Cond.methodLink RX0 41 yX0_signMask, Cond.static yX0_signMask, Cond.code yX0_signMask cX0_signMask 1 (some .long), Cond.constantLong RX0 71 (-2147483648), Cond.constantLong RX0 73 (-9223372036854775808), Cond.methodLink RX0 15 yX0_fitted, Cond.static yX0_fitted, Cond.code yX0_fitted cX0_fitted 3 (some .long), Cond.methodLink RX1 144 yX0_isBelowZero, Cond.static yX0_isBelowZero, Cond.code yX0_isBelowZero cX0_isBelowZero 3 (some .boolean)]
def wsX1_sized_r2 : List Cond := [Cond.methodLink RX0 34 yX0_isZero, Cond.static yX0_isZero, Cond.code yX0_isZero cX0_isZero 3 (some .boolean), Cond.methodLink RX0 19 yX0_magnitude, Cond.static yX0_magnitude, Cond.code yX0_magnitude cX0_magnitude 3 (some .long), Cond.constantLong RX0 75 (-1), Cond.methodLink RX1 147 yX0_isAboveZero, Cond.static yX0_isAboveZero, Cond.code yX0_isAboveZero cX0_isAboveZero 2 (some .boolean), Cond.methodLink RX1 65 yX0_greater, Cond.static yX0_greater, Cond.code yX0_greater cX0_greater 5 (some .long), Cond.methodLink RX0 30 yX0_isLess, Cond.static yX0_isLess, Cond.code yX0_isLess cX0_isLess 5 (some .boolean), Cond.methodLink RX0 26 yX0_brokenRank, Cond.static yX0_brokenRank, Cond.code yX0_brokenRank cX0_brokenRank 2 (some .long), Cond.constantLong RX0 69 (9223372036854775807), Cond.methodLink RX1 151 yX1_putOrdered, Cond.instanceMethod yX1_putOrdered, Cond.selects RX1 yX1_putOrdered yX1_putOrdered, Cond.initialized RX1]
def wsX1_sized_r3 : List Cond := [Cond.code yX1_putOrdered cX1_putOrdered 7 (some .int), Cond.methodLink RX1 69 yX0_lesser, Cond.static yX0_lesser, Cond.code yX0_lesser cX0_lesser 5 (some .long), Cond.methodLink RX1 106 yX1_put, Cond.instanceMethod yX1_put, Cond.selects RX1 yX1_put yX1_put, Cond.code yX1_put cX1_put 7 (some .int)]
def wsX1_sized : List Cond := .code yX1_sized cX1_sized 8 (some .int) :: ((wsX1_sized_r1 ++ (wsX1_sized_r2 ++ wsX1_sized_r3)) ++ wsX10)
def wsX1_rounded_r1 : List Cond := [Cond.fieldLink RX1 9 "StretchDesk" "sorts" "[I", Cond.fieldLink RX1 13 "StretchDesk" "lows" "[J", Cond.fieldLink RX1 17 "StretchDesk" "highs" "[J", Cond.methodLink RX1 154 yX0_isBroken, Cond.static yX0_isBroken, Cond.initialized RX0, Cond.code yX0_isBroken cX0_isBroken 1 (some .boolean), Cond.methodLink RX1 157 yX0_whole, Cond.static yX0_whole, Cond.code yX0_whole cX0_whole 7 (some .long), Cond.methodLink RX0 19 yX0_magnitude, Cond.static yX0_magnitude, Cond.code yX0_magnitude cX0_magnitude 3 (some .long), Cond.constantLong RX0 75 (-1), Cond.methodLink RX0 41 yX0_signMask, Cond.static yX0_signMask, Cond.code yX0_signMask cX0_signMask 1 (some .long), Cond.constantLong RX0 71 (-2147483648), Cond.constantLong RX0 73 (-9223372036854775808), Cond.methodLink RX0 51 yX0_wholeMagnitude, Cond.static yX0_wholeMagnitude, Cond.code yX0_wholeMagnitude cX0_wholeMagnitude 12 (some .long), Cond.methodLink RX0 84 yX0_power, Cond.static yX0_power]
def wsX1_rounded_r2 : List Cond := [Cond.code yX0_power cX0_power 3 (some .int), Cond.methodLink RX0 81 yX0_fractionBits, Cond.static yX0_fractionBits, Cond.code yX0_fractionBits cX0_fractionBits 1 (some .int), Cond.methodLink RX0 77 yX0_bias, Cond.static yX0_bias, Cond.code yX0_bias cX0_bias 1 (some .int), Cond.methodLink RX0 88 yX0_half, Cond.static yX0_half, Cond.code yX0_half cX0_half 1 (some .long), Cond.methodLink RX0 44 yX0_one, Cond.static yX0_one, Cond.code yX0_one cX0_one 1 (some .long), Cond.methodLink RX0 91 yX0_nearestShifted, Cond.static yX0_nearestShifted, Cond.code yX0_nearestShifted cX0_nearestShifted 10 (some .long), Cond.methodLink RX0 47 yX0_withSign, Cond.static yX0_withSign, Cond.code yX0_withSign cX0_withSign 5 (some .long), Cond.methodLink RX1 138 yX1_putIfAny, Cond.instanceMethod yX1_putIfAny, Cond.selects RX1 yX1_putIfAny yX1_putIfAny, Cond.initialized RX1, Cond.code yX1_putIfAny cX1_putIfAny 7 (some .int)]
def wsX1_rounded_r3 : List Cond := [Cond.methodLink RX1 72 yX0_isLess, Cond.static yX0_isLess, Cond.code yX0_isLess cX0_isLess 5 (some .boolean), Cond.methodLink RX0 9 yX0_isBroken, Cond.methodLink RX0 26 yX0_brokenRank, Cond.static yX0_brokenRank, Cond.code yX0_brokenRank cX0_brokenRank 2 (some .long), Cond.constantLong RX0 69 (9223372036854775807), Cond.methodLink RX1 106 yX1_put, Cond.instanceMethod yX1_put, Cond.selects RX1 yX1_put yX1_put, Cond.code yX1_put cX1_put 7 (some .int)]
def wsX1_rounded : List Cond := .code yX1_rounded cX1_rounded 7 (some .int) :: ((wsX1_rounded_r1 ++ (wsX1_rounded_r2 ++ wsX1_rounded_r3)) ++ wsX10)
def wsX1_signed_r1 : List Cond := [Cond.fieldLink RX1 9 "StretchDesk" "sorts" "[I", Cond.fieldLink RX1 13 "StretchDesk" "lows" "[J", Cond.fieldLink RX1 17 "StretchDesk" "highs" "[J", Cond.methodLink RX1 154 yX0_isBroken, Cond.static yX0_isBroken, Cond.initialized RX0, Cond.code yX0_isBroken cX0_isBroken 1 (some .boolean), Cond.methodLink RX1 161 yX0_signOf, Cond.static yX0_signOf, Cond.code yX0_signOf cX0_signOf 3 (some .long), Cond.methodLink RX0 34 yX0_isZero, Cond.static yX0_isZero, Cond.code yX0_isZero cX0_isZero 3 (some .boolean), Cond.methodLink RX0 9 yX0_isBroken, Cond.methodLink RX0 19 yX0_magnitude, Cond.static yX0_magnitude, Cond.code yX0_magnitude cX0_magnitude 3 (some .long), Cond.constantLong RX0 75 (-1), Cond.methodLink RX0 41 yX0_signMask, Cond.static yX0_signMask, Cond.code yX0_signMask cX0_signMask 1 (some .long), Cond.constantLong RX0 71 (-2147483648), Cond.constantLong RX0 73 (-9223372036854775808), Cond.methodLink RX0 44 yX0_one]
def wsX1_signed_r2 : List Cond := [Cond.static yX0_one, Cond.code yX0_one cX0_one 1 (some .long), Cond.methodLink RX0 77 yX0_bias, Cond.static yX0_bias, Cond.code yX0_bias cX0_bias 1 (some .int), Cond.methodLink RX0 81 yX0_fractionBits, Cond.static yX0_fractionBits, Cond.code yX0_fractionBits cX0_fractionBits 1 (some .int), Cond.methodLink RX0 47 yX0_withSign, Cond.static yX0_withSign, Cond.code yX0_withSign cX0_withSign 5 (some .long), Cond.methodLink RX1 106 yX1_put, Cond.instanceMethod yX1_put, Cond.selects RX1 yX1_put yX1_put, Cond.initialized RX1, Cond.code yX1_put cX1_put 7 (some .int)]
def wsX1_signed : List Cond := .code yX1_signed cX1_signed 4 (some .int) :: ((wsX1_signed_r1 ++ wsX1_signed_r2) ++ wsX10)
def wsX1_lent_r1 : List Cond := [Cond.fieldLink RX1 9 "StretchDesk" "sorts" "[I", Cond.fieldLink RX1 13 "StretchDesk" "lows" "[J", Cond.fieldLink RX1 17 "StretchDesk" "highs" "[J", Cond.methodLink RX1 154 yX0_isBroken, Cond.static yX0_isBroken, Cond.initialized RX0, Cond.code yX0_isBroken cX0_isBroken 1 (some .boolean), Cond.methodLink RX1 164 yX0_withSign, Cond.static yX0_withSign, Cond.code yX0_withSign cX0_withSign 5 (some .long), Cond.methodLink RX0 19 yX0_magnitude, Cond.static yX0_magnitude, Cond.code yX0_magnitude cX0_magnitude 3 (some .long), Cond.constantLong RX0 75 (-1), Cond.methodLink RX0 41 yX0_signMask, Cond.static yX0_signMask, Cond.code yX0_signMask cX0_signMask 1 (some .long), Cond.constantLong RX0 71 (-2147483648), Cond.constantLong RX0 73 (-9223372036854775808), Cond.methodLink RX1 151 yX1_putOrdered, Cond.instanceMethod yX1_putOrdered, Cond.selects RX1 yX1_putOrdered yX1_putOrdered, Cond.initialized RX1, Cond.code yX1_putOrdered cX1_putOrdered 7 (some .int)]
def wsX1_lent_r2 : List Cond := [Cond.methodLink RX1 69 yX0_lesser, Cond.static yX0_lesser, Cond.code yX0_lesser cX0_lesser 5 (some .long), Cond.methodLink RX0 30 yX0_isLess, Cond.static yX0_isLess, Cond.code yX0_isLess cX0_isLess 5 (some .boolean), Cond.methodLink RX0 9 yX0_isBroken, Cond.methodLink RX0 26 yX0_brokenRank, Cond.static yX0_brokenRank, Cond.code yX0_brokenRank cX0_brokenRank 2 (some .long), Cond.constantLong RX0 69 (9223372036854775807), Cond.methodLink RX1 65 yX0_greater, Cond.static yX0_greater, Cond.code yX0_greater cX0_greater 5 (some .long), Cond.methodLink RX1 106 yX1_put, Cond.instanceMethod yX1_put, Cond.selects RX1 yX1_put yX1_put, Cond.code yX1_put cX1_put 7 (some .int)]
def wsX1_lent : List Cond := .code yX1_lent cX1_lent 9 (some .int) :: ((wsX1_lent_r1 ++ wsX1_lent_r2) ++ wsX10)
def wsX1_turned_r1 : List Cond := [Cond.fieldLink RX1 9 "StretchDesk" "sorts" "[I", Cond.fieldLink RX1 13 "StretchDesk" "lows" "[J", Cond.fieldLink RX1 17 "StretchDesk" "highs" "[J", Cond.methodLink RX1 167 yX0_negated, Cond.static yX0_negated, Cond.initialized RX0, Cond.code yX0_negated cX0_negated 3 (some .long), Cond.methodLink RX0 9 yX0_isBroken, Cond.static yX0_isBroken, Cond.code yX0_isBroken cX0_isBroken 1 (some .boolean), Cond.methodLink RX0 41 yX0_signMask, Cond.static yX0_signMask, Cond.code yX0_signMask cX0_signMask 1 (some .long), Cond.constantLong RX0 71 (-2147483648), Cond.constantLong RX0 73 (-9223372036854775808), Cond.methodLink RX0 15 yX0_fitted, Cond.static yX0_fitted, Cond.code yX0_fitted cX0_fitted 3 (some .long), Cond.methodLink RX1 151 yX1_putOrdered, Cond.instanceMethod yX1_putOrdered, Cond.selects RX1 yX1_putOrdered yX1_putOrdered, Cond.initialized RX1, Cond.code yX1_putOrdered cX1_putOrdered 7 (some .int), Cond.methodLink RX1 69 yX0_lesser]
def wsX1_turned_r2 : List Cond := [Cond.static yX0_lesser, Cond.code yX0_lesser cX0_lesser 5 (some .long), Cond.methodLink RX0 30 yX0_isLess, Cond.static yX0_isLess, Cond.code yX0_isLess cX0_isLess 5 (some .boolean), Cond.methodLink RX0 26 yX0_brokenRank, Cond.static yX0_brokenRank, Cond.code yX0_brokenRank cX0_brokenRank 2 (some .long), Cond.constantLong RX0 69 (9223372036854775807), Cond.methodLink RX1 65 yX0_greater, Cond.static yX0_greater, Cond.code yX0_greater cX0_greater 5 (some .long), Cond.methodLink RX1 106 yX1_put, Cond.instanceMethod yX1_put, Cond.selects RX1 yX1_put yX1_put, Cond.code yX1_put cX1_put 7 (some .int)]
def wsX1_turned : List Cond := .code yX1_turned cX1_turned 4 (some .int) :: ((wsX1_turned_r1 ++ wsX1_turned_r2) ++ wsX10)
def wsX1_converted_r1 : List Cond := [Cond.fieldLink RX1 9 "StretchDesk" "sorts" "[I", Cond.fieldLink RX1 13 "StretchDesk" "lows" "[J", Cond.fieldLink RX1 17 "StretchDesk" "highs" "[J", Cond.methodLink RX1 103 yX1_isSort, Cond.static yX1_isSort, Cond.initialized RX1, Cond.code yX1_isSort cX1_isSort 1 (some .boolean), Cond.methodLink RX1 170 yX0_ofSort, Cond.static yX0_ofSort, Cond.initialized RX0, Cond.code yX0_ofSort cX0_ofSort 8 (some .long), Cond.methodLink RX0 9 yX0_isBroken, Cond.static yX0_isBroken, Cond.code yX0_isBroken cX0_isBroken 1 (some .boolean), Cond.methodLink RX0 55 yX0_brokenToWhole, Cond.static yX0_brokenToWhole, Cond.code yX0_brokenToWhole cX0_brokenToWhole 12 (some .long), Cond.methodLink RX0 19 yX0_magnitude, Cond.static yX0_magnitude, Cond.code yX0_magnitude cX0_magnitude 3 (some .long), Cond.constantLong RX0 75 (-1), Cond.methodLink RX0 41 yX0_signMask, Cond.static yX0_signMask, Cond.code yX0_signMask cX0_signMask 1 (some .long)]
def wsX1_converted_r2 : List Cond := [Cond.constantLong RX0 71 (-2147483648), Cond.constantLong RX0 73 (-9223372036854775808), Cond.methodLink RX0 84 yX0_power, Cond.static yX0_power, Cond.code yX0_power cX0_power 3 (some .int), Cond.methodLink RX0 81 yX0_fractionBits, Cond.static yX0_fractionBits, Cond.code yX0_fractionBits cX0_fractionBits 1 (some .int), Cond.methodLink RX0 77 yX0_bias, Cond.static yX0_bias, Cond.code yX0_bias cX0_bias 1 (some .int), Cond.methodLink RX0 98 yX0_extreme, Cond.static yX0_extreme, Cond.code yX0_extreme cX0_extreme 2 (some .long), Cond.constantLong RX0 105 (2147483647), Cond.constantLong RX0 69 (9223372036854775807), Cond.methodLink RX0 102 yX0_mantissa, Cond.static yX0_mantissa, Cond.code yX0_mantissa cX0_mantissa 5 (some .long), Cond.methodLink RX0 15 yX0_fitted, Cond.static yX0_fitted, Cond.code yX0_fitted cX0_fitted 3 (some .long), Cond.methodLink RX0 59 yX0_wholeToBroken, Cond.static yX0_wholeToBroken]
def wsX1_converted_r3 : List Cond := [Cond.code yX0_wholeToBroken cX0_wholeToBroken 11 (some .long), Cond.methodLink RX0 94 yX0_highestBit, Cond.static yX0_highestBit, Cond.code yX0_highestBit cX0_highestBit 3 (some .int), Cond.methodLink RX0 91 yX0_nearestShifted, Cond.static yX0_nearestShifted, Cond.code yX0_nearestShifted cX0_nearestShifted 10 (some .long), Cond.methodLink RX0 63 yX0_widened, Cond.static yX0_widened, Cond.code yX0_widened cX0_widened 5 (some .long), Cond.constantLong RX0 107 (4035225266123964416), Cond.methodLink RX0 22 yX0_infinity, Cond.static yX0_infinity, Cond.code yX0_infinity cX0_infinity 1 (some .long), Cond.methodLink RX0 66 yX0_narrowed, Cond.static yX0_narrowed, Cond.code yX0_narrowed cX0_narrowed 5 (some .long), Cond.methodLink RX1 151 yX1_putOrdered, Cond.instanceMethod yX1_putOrdered, Cond.selects RX1 yX1_putOrdered yX1_putOrdered, Cond.code yX1_putOrdered cX1_putOrdered 7 (some .int), Cond.methodLink RX1 69 yX0_lesser, Cond.static yX0_lesser, Cond.code yX0_lesser cX0_lesser 5 (some .long)]
def wsX1_converted_r4 : List Cond := [Cond.methodLink RX0 30 yX0_isLess, Cond.static yX0_isLess, Cond.code yX0_isLess cX0_isLess 5 (some .boolean), Cond.methodLink RX0 26 yX0_brokenRank, Cond.static yX0_brokenRank, Cond.code yX0_brokenRank cX0_brokenRank 2 (some .long), Cond.methodLink RX1 65 yX0_greater, Cond.static yX0_greater, Cond.code yX0_greater cX0_greater 5 (some .long), Cond.methodLink RX1 106 yX1_put, Cond.instanceMethod yX1_put, Cond.selects RX1 yX1_put yX1_put, Cond.code yX1_put cX1_put 7 (some .int)]
def wsX1_converted : List Cond := .code yX1_converted cX1_converted 8 (some .int) :: ((wsX1_converted_r1 ++ (wsX1_converted_r2 ++ (wsX1_converted_r3 ++ wsX1_converted_r4))) ++ wsX10)
def wsX1_performed_r1 : List Cond := [Cond.methodLink RX1 109 yX1_refusalToPerform, Cond.instanceMethod yX1_refusalToPerform, Cond.selects RX1 yX1_refusalToPerform yX1_refusalToPerform, Cond.initialized RX1, Cond.code yX1_refusalToPerform cX1_refusalToPerform 5 (some .int), Cond.fieldLink RX1 9 "StretchDesk" "sorts" "[I", Cond.methodLink RX1 76 yX1_areSlots, Cond.static yX1_areSlots, Cond.code yX1_areSlots cX1_areSlots 4 (some .boolean), Cond.methodLink RX1 40 yX1_isSlot, Cond.static yX1_isSlot, Cond.code yX1_isSlot cX1_isSlot 1 (some .boolean), Cond.methodLink RX1 96 yX1_takesTwo, Cond.static yX1_takesTwo, Cond.code yX1_takesTwo cX1_takesTwo 1 (some .boolean), Cond.methodLink RX1 112 yX1_joined, Cond.instanceMethod yX1_joined, Cond.selects RX1 yX1_joined yX1_joined, Cond.code yX1_joined cX1_joined 9 (some .int), Cond.fieldLink RX1 13 "StretchDesk" "lows" "[J", Cond.fieldLink RX1 17 "StretchDesk" "highs" "[J", Cond.methodLink RX1 69 yX0_lesser, Cond.static yX0_lesser, Cond.initialized RX0]
def wsX1_performed_r2 : List Cond := [Cond.code yX0_lesser cX0_lesser 5 (some .long), Cond.methodLink RX0 30 yX0_isLess, Cond.static yX0_isLess, Cond.code yX0_isLess cX0_isLess 5 (some .boolean), Cond.methodLink RX0 9 yX0_isBroken, Cond.static yX0_isBroken, Cond.code yX0_isBroken cX0_isBroken 1 (some .boolean), Cond.methodLink RX0 26 yX0_brokenRank, Cond.static yX0_brokenRank, Cond.code yX0_brokenRank cX0_brokenRank 2 (some .long), Cond.constantLong RX0 69 (9223372036854775807), Cond.methodLink RX1 65 yX0_greater, Cond.static yX0_greater, Cond.code yX0_greater cX0_greater 5 (some .long), Cond.methodLink RX1 106 yX1_put, Cond.instanceMethod yX1_put, Cond.selects RX1 yX1_put yX1_put, Cond.code yX1_put cX1_put 7 (some .int), Cond.methodLink RX1 116 yX1_cut, Cond.instanceMethod yX1_cut, Cond.selects RX1 yX1_cut yX1_cut, Cond.code yX1_cut cX1_cut 9 (some .int), Cond.methodLink RX1 138 yX1_putIfAny, Cond.instanceMethod yX1_putIfAny]
def wsX1_performed_r3 : List Cond := [Cond.selects RX1 yX1_putIfAny yX1_putIfAny, Cond.code yX1_putIfAny cX1_putIfAny 7 (some .int), Cond.methodLink RX1 72 yX0_isLess, Cond.methodLink RX1 119 yX1_sized, Cond.instanceMethod yX1_sized, Cond.selects RX1 yX1_sized yX1_sized, Cond.code yX1_sized cX1_sized 8 (some .int), Cond.methodLink RX1 141 yX0_sizeOf, Cond.static yX0_sizeOf, Cond.code yX0_sizeOf cX0_sizeOf 3 (some .long), Cond.methodLink RX0 38 yX0_negated, Cond.static yX0_negated, Cond.code yX0_negated cX0_negated 3 (some .long), Cond.methodLink RX0 41 yX0_signMask, Cond.static yX0_signMask, Cond.code yX0_signMask cX0_signMask 1 (some .long), Cond.constantLong RX0 71 (-2147483648), Cond.constantLong RX0 73 (-9223372036854775808), Cond.methodLink RX0 15 yX0_fitted, Cond.static yX0_fitted, Cond.code yX0_fitted cX0_fitted 3 (some .long), Cond.methodLink RX1 144 yX0_isBelowZero, Cond.static yX0_isBelowZero, Cond.code yX0_isBelowZero cX0_isBelowZero 3 (some .boolean)]
def wsX1_performed_r4 : List Cond := [Cond.methodLink RX0 34 yX0_isZero, Cond.static yX0_isZero, Cond.code yX0_isZero cX0_isZero 3 (some .boolean), Cond.methodLink RX0 19 yX0_magnitude, Cond.static yX0_magnitude, Cond.code yX0_magnitude cX0_magnitude 3 (some .long), Cond.constantLong RX0 75 (-1), Cond.methodLink RX1 147 yX0_isAboveZero, Cond.static yX0_isAboveZero, Cond.code yX0_isAboveZero cX0_isAboveZero 2 (some .boolean), Cond.methodLink RX1 151 yX1_putOrdered, Cond.instanceMethod yX1_putOrdered, Cond.selects RX1 yX1_putOrdered yX1_putOrdered, Cond.code yX1_putOrdered cX1_putOrdered 7 (some .int), Cond.methodLink RX1 123 yX1_rounded, Cond.instanceMethod yX1_rounded, Cond.selects RX1 yX1_rounded yX1_rounded, Cond.code yX1_rounded cX1_rounded 7 (some .int), Cond.methodLink RX1 154 yX0_isBroken, Cond.methodLink RX1 157 yX0_whole, Cond.static yX0_whole, Cond.code yX0_whole cX0_whole 7 (some .long), Cond.methodLink RX0 51 yX0_wholeMagnitude, Cond.static yX0_wholeMagnitude]
def wsX1_performed_r5 : List Cond := [Cond.code yX0_wholeMagnitude cX0_wholeMagnitude 12 (some .long), Cond.methodLink RX0 84 yX0_power, Cond.static yX0_power, Cond.code yX0_power cX0_power 3 (some .int), Cond.methodLink RX0 81 yX0_fractionBits, Cond.static yX0_fractionBits, Cond.code yX0_fractionBits cX0_fractionBits 1 (some .int), Cond.methodLink RX0 77 yX0_bias, Cond.static yX0_bias, Cond.code yX0_bias cX0_bias 1 (some .int), Cond.methodLink RX0 88 yX0_half, Cond.static yX0_half, Cond.code yX0_half cX0_half 1 (some .long), Cond.methodLink RX0 44 yX0_one, Cond.static yX0_one, Cond.code yX0_one cX0_one 1 (some .long), Cond.methodLink RX0 91 yX0_nearestShifted, Cond.static yX0_nearestShifted, Cond.code yX0_nearestShifted cX0_nearestShifted 10 (some .long), Cond.methodLink RX0 47 yX0_withSign, Cond.static yX0_withSign, Cond.code yX0_withSign cX0_withSign 5 (some .long), Cond.methodLink RX1 126 yX1_signed, Cond.instanceMethod yX1_signed]
def wsX1_performed_r6 : List Cond := [Cond.selects RX1 yX1_signed yX1_signed, Cond.code yX1_signed cX1_signed 4 (some .int), Cond.methodLink RX1 161 yX0_signOf, Cond.static yX0_signOf, Cond.code yX0_signOf cX0_signOf 3 (some .long), Cond.methodLink RX1 129 yX1_lent, Cond.instanceMethod yX1_lent, Cond.selects RX1 yX1_lent yX1_lent, Cond.code yX1_lent cX1_lent 9 (some .int), Cond.methodLink RX1 164 yX0_withSign, Cond.methodLink RX1 132 yX1_turned, Cond.instanceMethod yX1_turned, Cond.selects RX1 yX1_turned yX1_turned, Cond.code yX1_turned cX1_turned 4 (some .int), Cond.methodLink RX1 167 yX0_negated, Cond.methodLink RX1 135 yX1_converted, Cond.instanceMethod yX1_converted, Cond.selects RX1 yX1_converted yX1_converted, Cond.code yX1_converted cX1_converted 8 (some .int), Cond.methodLink RX1 103 yX1_isSort, Cond.static yX1_isSort, Cond.code yX1_isSort cX1_isSort 1 (some .boolean), Cond.methodLink RX1 170 yX0_ofSort, Cond.static yX0_ofSort]
def wsX1_performed_r7 : List Cond := [Cond.code yX0_ofSort cX0_ofSort 8 (some .long), Cond.methodLink RX0 55 yX0_brokenToWhole, Cond.static yX0_brokenToWhole, Cond.code yX0_brokenToWhole cX0_brokenToWhole 12 (some .long), Cond.methodLink RX0 98 yX0_extreme, Cond.static yX0_extreme, Cond.code yX0_extreme cX0_extreme 2 (some .long), Cond.constantLong RX0 105 (2147483647), Cond.methodLink RX0 102 yX0_mantissa, Cond.static yX0_mantissa, Cond.code yX0_mantissa cX0_mantissa 5 (some .long), Cond.methodLink RX0 59 yX0_wholeToBroken, Cond.static yX0_wholeToBroken, Cond.code yX0_wholeToBroken cX0_wholeToBroken 11 (some .long), Cond.methodLink RX0 94 yX0_highestBit, Cond.static yX0_highestBit, Cond.code yX0_highestBit cX0_highestBit 3 (some .int), Cond.methodLink RX0 63 yX0_widened, Cond.static yX0_widened, Cond.code yX0_widened cX0_widened 5 (some .long), Cond.constantLong RX0 107 (4035225266123964416), Cond.methodLink RX0 22 yX0_infinity, Cond.static yX0_infinity, Cond.code yX0_infinity cX0_infinity 1 (some .long)]
def wsX1_performed_r8 : List Cond := [Cond.methodLink RX0 66 yX0_narrowed, Cond.static yX0_narrowed, Cond.code yX0_narrowed cX0_narrowed 5 (some .long)]
def wsX1_performed : List Cond := .code yX1_performed cX1_performed 6 (some .int) :: ((wsX1_performed_r1 ++ (wsX1_performed_r2 ++ (wsX1_performed_r3 ++ (wsX1_performed_r4 ++ (wsX1_performed_r5 ++ (wsX1_performed_r6 ++ (wsX1_performed_r7 ++ wsX1_performed_r8))))))) ++ wsX10)
def wsX1_hull_r1 : List Cond := [Cond.methodLink RX1 51 yX1_performed, Cond.instanceMethod yX1_performed, Cond.selects RX1 yX1_performed yX1_performed, Cond.initialized RX1, Cond.code yX1_performed cX1_performed 6 (some .int), Cond.methodLink RX1 109 yX1_refusalToPerform, Cond.instanceMethod yX1_refusalToPerform, Cond.selects RX1 yX1_refusalToPerform yX1_refusalToPerform, Cond.code yX1_refusalToPerform cX1_refusalToPerform 5 (some .int), Cond.fieldLink RX1 9 "StretchDesk" "sorts" "[I", Cond.methodLink RX1 76 yX1_areSlots, Cond.static yX1_areSlots, Cond.code yX1_areSlots cX1_areSlots 4 (some .boolean), Cond.methodLink RX1 40 yX1_isSlot, Cond.static yX1_isSlot, Cond.code yX1_isSlot cX1_isSlot 1 (some .boolean), Cond.methodLink RX1 96 yX1_takesTwo, Cond.static yX1_takesTwo, Cond.code yX1_takesTwo cX1_takesTwo 1 (some .boolean), Cond.methodLink RX1 112 yX1_joined, Cond.instanceMethod yX1_joined, Cond.selects RX1 yX1_joined yX1_joined, Cond.code yX1_joined cX1_joined 9 (some .int), Cond.fieldLink RX1 13 "StretchDesk" "lows" "[J"]
def wsX1_hull_r2 : List Cond := [Cond.fieldLink RX1 17 "StretchDesk" "highs" "[J", Cond.methodLink RX1 69 yX0_lesser, Cond.static yX0_lesser, Cond.initialized RX0, Cond.code yX0_lesser cX0_lesser 5 (some .long), Cond.methodLink RX0 30 yX0_isLess, Cond.static yX0_isLess, Cond.code yX0_isLess cX0_isLess 5 (some .boolean), Cond.methodLink RX0 9 yX0_isBroken, Cond.static yX0_isBroken, Cond.code yX0_isBroken cX0_isBroken 1 (some .boolean), Cond.methodLink RX0 26 yX0_brokenRank, Cond.static yX0_brokenRank, Cond.code yX0_brokenRank cX0_brokenRank 2 (some .long), Cond.constantLong RX0 69 (9223372036854775807), Cond.methodLink RX1 65 yX0_greater, Cond.static yX0_greater, Cond.code yX0_greater cX0_greater 5 (some .long), Cond.methodLink RX1 106 yX1_put, Cond.instanceMethod yX1_put, Cond.selects RX1 yX1_put yX1_put, Cond.code yX1_put cX1_put 7 (some .int), Cond.methodLink RX1 116 yX1_cut, Cond.instanceMethod yX1_cut]
def wsX1_hull_r3 : List Cond := [Cond.selects RX1 yX1_cut yX1_cut, Cond.code yX1_cut cX1_cut 9 (some .int), Cond.methodLink RX1 138 yX1_putIfAny, Cond.instanceMethod yX1_putIfAny, Cond.selects RX1 yX1_putIfAny yX1_putIfAny, Cond.code yX1_putIfAny cX1_putIfAny 7 (some .int), Cond.methodLink RX1 72 yX0_isLess, Cond.methodLink RX1 119 yX1_sized, Cond.instanceMethod yX1_sized, Cond.selects RX1 yX1_sized yX1_sized, Cond.code yX1_sized cX1_sized 8 (some .int), Cond.methodLink RX1 141 yX0_sizeOf, Cond.static yX0_sizeOf, Cond.code yX0_sizeOf cX0_sizeOf 3 (some .long), Cond.methodLink RX0 38 yX0_negated, Cond.static yX0_negated, Cond.code yX0_negated cX0_negated 3 (some .long), Cond.methodLink RX0 41 yX0_signMask, Cond.static yX0_signMask, Cond.code yX0_signMask cX0_signMask 1 (some .long), Cond.constantLong RX0 71 (-2147483648), Cond.constantLong RX0 73 (-9223372036854775808), Cond.methodLink RX0 15 yX0_fitted, Cond.static yX0_fitted]
def wsX1_hull_r4 : List Cond := [Cond.code yX0_fitted cX0_fitted 3 (some .long), Cond.methodLink RX1 144 yX0_isBelowZero, Cond.static yX0_isBelowZero, Cond.code yX0_isBelowZero cX0_isBelowZero 3 (some .boolean), Cond.methodLink RX0 34 yX0_isZero, Cond.static yX0_isZero, Cond.code yX0_isZero cX0_isZero 3 (some .boolean), Cond.methodLink RX0 19 yX0_magnitude, Cond.static yX0_magnitude, Cond.code yX0_magnitude cX0_magnitude 3 (some .long), Cond.constantLong RX0 75 (-1), Cond.methodLink RX1 147 yX0_isAboveZero, Cond.static yX0_isAboveZero, Cond.code yX0_isAboveZero cX0_isAboveZero 2 (some .boolean), Cond.methodLink RX1 151 yX1_putOrdered, Cond.instanceMethod yX1_putOrdered, Cond.selects RX1 yX1_putOrdered yX1_putOrdered, Cond.code yX1_putOrdered cX1_putOrdered 7 (some .int), Cond.methodLink RX1 123 yX1_rounded, Cond.instanceMethod yX1_rounded, Cond.selects RX1 yX1_rounded yX1_rounded, Cond.code yX1_rounded cX1_rounded 7 (some .int), Cond.methodLink RX1 154 yX0_isBroken, Cond.methodLink RX1 157 yX0_whole]
def wsX1_hull_r5 : List Cond := [Cond.static yX0_whole, Cond.code yX0_whole cX0_whole 7 (some .long), Cond.methodLink RX0 51 yX0_wholeMagnitude, Cond.static yX0_wholeMagnitude, Cond.code yX0_wholeMagnitude cX0_wholeMagnitude 12 (some .long), Cond.methodLink RX0 84 yX0_power, Cond.static yX0_power, Cond.code yX0_power cX0_power 3 (some .int), Cond.methodLink RX0 81 yX0_fractionBits, Cond.static yX0_fractionBits, Cond.code yX0_fractionBits cX0_fractionBits 1 (some .int), Cond.methodLink RX0 77 yX0_bias, Cond.static yX0_bias, Cond.code yX0_bias cX0_bias 1 (some .int), Cond.methodLink RX0 88 yX0_half, Cond.static yX0_half, Cond.code yX0_half cX0_half 1 (some .long), Cond.methodLink RX0 44 yX0_one, Cond.static yX0_one, Cond.code yX0_one cX0_one 1 (some .long), Cond.methodLink RX0 91 yX0_nearestShifted, Cond.static yX0_nearestShifted, Cond.code yX0_nearestShifted cX0_nearestShifted 10 (some .long), Cond.methodLink RX0 47 yX0_withSign]
def wsX1_hull_r6 : List Cond := [Cond.static yX0_withSign, Cond.code yX0_withSign cX0_withSign 5 (some .long), Cond.methodLink RX1 126 yX1_signed, Cond.instanceMethod yX1_signed, Cond.selects RX1 yX1_signed yX1_signed, Cond.code yX1_signed cX1_signed 4 (some .int), Cond.methodLink RX1 161 yX0_signOf, Cond.static yX0_signOf, Cond.code yX0_signOf cX0_signOf 3 (some .long), Cond.methodLink RX1 129 yX1_lent, Cond.instanceMethod yX1_lent, Cond.selects RX1 yX1_lent yX1_lent, Cond.code yX1_lent cX1_lent 9 (some .int), Cond.methodLink RX1 164 yX0_withSign, Cond.methodLink RX1 132 yX1_turned, Cond.instanceMethod yX1_turned, Cond.selects RX1 yX1_turned yX1_turned, Cond.code yX1_turned cX1_turned 4 (some .int), Cond.methodLink RX1 167 yX0_negated, Cond.methodLink RX1 135 yX1_converted, Cond.instanceMethod yX1_converted, Cond.selects RX1 yX1_converted yX1_converted, Cond.code yX1_converted cX1_converted 8 (some .int), Cond.methodLink RX1 103 yX1_isSort]
def wsX1_hull_r7 : List Cond := [Cond.static yX1_isSort, Cond.code yX1_isSort cX1_isSort 1 (some .boolean), Cond.methodLink RX1 170 yX0_ofSort, Cond.static yX0_ofSort, Cond.code yX0_ofSort cX0_ofSort 8 (some .long), Cond.methodLink RX0 55 yX0_brokenToWhole, Cond.static yX0_brokenToWhole, Cond.code yX0_brokenToWhole cX0_brokenToWhole 12 (some .long), Cond.methodLink RX0 98 yX0_extreme, Cond.static yX0_extreme, Cond.code yX0_extreme cX0_extreme 2 (some .long), Cond.constantLong RX0 105 (2147483647), Cond.methodLink RX0 102 yX0_mantissa, Cond.static yX0_mantissa, Cond.code yX0_mantissa cX0_mantissa 5 (some .long), Cond.methodLink RX0 59 yX0_wholeToBroken, Cond.static yX0_wholeToBroken, Cond.code yX0_wholeToBroken cX0_wholeToBroken 11 (some .long), Cond.methodLink RX0 94 yX0_highestBit, Cond.static yX0_highestBit, Cond.code yX0_highestBit cX0_highestBit 3 (some .int), Cond.methodLink RX0 63 yX0_widened, Cond.static yX0_widened, Cond.code yX0_widened cX0_widened 5 (some .long)]
def wsX1_hull_r8 : List Cond := [Cond.constantLong RX0 107 (4035225266123964416), Cond.methodLink RX0 22 yX0_infinity, Cond.static yX0_infinity, Cond.code yX0_infinity cX0_infinity 1 (some .long), Cond.methodLink RX0 66 yX0_narrowed, Cond.static yX0_narrowed, Cond.code yX0_narrowed cX0_narrowed 5 (some .long), Cond.methodLink RX1 36 yX1_noted, Cond.instanceMethod yX1_noted, Cond.selects RX1 yX1_noted yX1_noted, Cond.code yX1_noted cX1_noted 2 (some .int), Cond.fieldLink RX1 83 "StretchDesk" "latestRefusal" "I", Cond.fieldLink RX1 93 "StretchDesk" "refusals" "I"]
def wsX1_hull : List Cond := .code yX1_hull cX1_hull 4 (some .int) :: ((wsX1_hull_r1 ++ (wsX1_hull_r2 ++ (wsX1_hull_r3 ++ (wsX1_hull_r4 ++ (wsX1_hull_r5 ++ (wsX1_hull_r6 ++ (wsX1_hull_r7 ++ wsX1_hull_r8))))))) ++ wsX10)
def wsX1_meet_r1 : List Cond := [Cond.methodLink RX1 51 yX1_performed, Cond.instanceMethod yX1_performed, Cond.selects RX1 yX1_performed yX1_performed, Cond.initialized RX1, Cond.code yX1_performed cX1_performed 6 (some .int), Cond.methodLink RX1 109 yX1_refusalToPerform, Cond.instanceMethod yX1_refusalToPerform, Cond.selects RX1 yX1_refusalToPerform yX1_refusalToPerform, Cond.code yX1_refusalToPerform cX1_refusalToPerform 5 (some .int), Cond.fieldLink RX1 9 "StretchDesk" "sorts" "[I", Cond.methodLink RX1 76 yX1_areSlots, Cond.static yX1_areSlots, Cond.code yX1_areSlots cX1_areSlots 4 (some .boolean), Cond.methodLink RX1 40 yX1_isSlot, Cond.static yX1_isSlot, Cond.code yX1_isSlot cX1_isSlot 1 (some .boolean), Cond.methodLink RX1 96 yX1_takesTwo, Cond.static yX1_takesTwo, Cond.code yX1_takesTwo cX1_takesTwo 1 (some .boolean), Cond.methodLink RX1 112 yX1_joined, Cond.instanceMethod yX1_joined, Cond.selects RX1 yX1_joined yX1_joined, Cond.code yX1_joined cX1_joined 9 (some .int), Cond.fieldLink RX1 13 "StretchDesk" "lows" "[J"]
def wsX1_meet_r2 : List Cond := [Cond.fieldLink RX1 17 "StretchDesk" "highs" "[J", Cond.methodLink RX1 69 yX0_lesser, Cond.static yX0_lesser, Cond.initialized RX0, Cond.code yX0_lesser cX0_lesser 5 (some .long), Cond.methodLink RX0 30 yX0_isLess, Cond.static yX0_isLess, Cond.code yX0_isLess cX0_isLess 5 (some .boolean), Cond.methodLink RX0 9 yX0_isBroken, Cond.static yX0_isBroken, Cond.code yX0_isBroken cX0_isBroken 1 (some .boolean), Cond.methodLink RX0 26 yX0_brokenRank, Cond.static yX0_brokenRank, Cond.code yX0_brokenRank cX0_brokenRank 2 (some .long), Cond.constantLong RX0 69 (9223372036854775807), Cond.methodLink RX1 65 yX0_greater, Cond.static yX0_greater, Cond.code yX0_greater cX0_greater 5 (some .long), Cond.methodLink RX1 106 yX1_put, Cond.instanceMethod yX1_put, Cond.selects RX1 yX1_put yX1_put, Cond.code yX1_put cX1_put 7 (some .int), Cond.methodLink RX1 116 yX1_cut, Cond.instanceMethod yX1_cut]
def wsX1_meet_r3 : List Cond := [Cond.selects RX1 yX1_cut yX1_cut, Cond.code yX1_cut cX1_cut 9 (some .int), Cond.methodLink RX1 138 yX1_putIfAny, Cond.instanceMethod yX1_putIfAny, Cond.selects RX1 yX1_putIfAny yX1_putIfAny, Cond.code yX1_putIfAny cX1_putIfAny 7 (some .int), Cond.methodLink RX1 72 yX0_isLess, Cond.methodLink RX1 119 yX1_sized, Cond.instanceMethod yX1_sized, Cond.selects RX1 yX1_sized yX1_sized, Cond.code yX1_sized cX1_sized 8 (some .int), Cond.methodLink RX1 141 yX0_sizeOf, Cond.static yX0_sizeOf, Cond.code yX0_sizeOf cX0_sizeOf 3 (some .long), Cond.methodLink RX0 38 yX0_negated, Cond.static yX0_negated, Cond.code yX0_negated cX0_negated 3 (some .long), Cond.methodLink RX0 41 yX0_signMask, Cond.static yX0_signMask, Cond.code yX0_signMask cX0_signMask 1 (some .long), Cond.constantLong RX0 71 (-2147483648), Cond.constantLong RX0 73 (-9223372036854775808), Cond.methodLink RX0 15 yX0_fitted, Cond.static yX0_fitted]
def wsX1_meet_r4 : List Cond := [Cond.code yX0_fitted cX0_fitted 3 (some .long), Cond.methodLink RX1 144 yX0_isBelowZero, Cond.static yX0_isBelowZero, Cond.code yX0_isBelowZero cX0_isBelowZero 3 (some .boolean), Cond.methodLink RX0 34 yX0_isZero, Cond.static yX0_isZero, Cond.code yX0_isZero cX0_isZero 3 (some .boolean), Cond.methodLink RX0 19 yX0_magnitude, Cond.static yX0_magnitude, Cond.code yX0_magnitude cX0_magnitude 3 (some .long), Cond.constantLong RX0 75 (-1), Cond.methodLink RX1 147 yX0_isAboveZero, Cond.static yX0_isAboveZero, Cond.code yX0_isAboveZero cX0_isAboveZero 2 (some .boolean), Cond.methodLink RX1 151 yX1_putOrdered, Cond.instanceMethod yX1_putOrdered, Cond.selects RX1 yX1_putOrdered yX1_putOrdered, Cond.code yX1_putOrdered cX1_putOrdered 7 (some .int), Cond.methodLink RX1 123 yX1_rounded, Cond.instanceMethod yX1_rounded, Cond.selects RX1 yX1_rounded yX1_rounded, Cond.code yX1_rounded cX1_rounded 7 (some .int), Cond.methodLink RX1 154 yX0_isBroken, Cond.methodLink RX1 157 yX0_whole]
def wsX1_meet_r5 : List Cond := [Cond.static yX0_whole, Cond.code yX0_whole cX0_whole 7 (some .long), Cond.methodLink RX0 51 yX0_wholeMagnitude, Cond.static yX0_wholeMagnitude, Cond.code yX0_wholeMagnitude cX0_wholeMagnitude 12 (some .long), Cond.methodLink RX0 84 yX0_power, Cond.static yX0_power, Cond.code yX0_power cX0_power 3 (some .int), Cond.methodLink RX0 81 yX0_fractionBits, Cond.static yX0_fractionBits, Cond.code yX0_fractionBits cX0_fractionBits 1 (some .int), Cond.methodLink RX0 77 yX0_bias, Cond.static yX0_bias, Cond.code yX0_bias cX0_bias 1 (some .int), Cond.methodLink RX0 88 yX0_half, Cond.static yX0_half, Cond.code yX0_half cX0_half 1 (some .long), Cond.methodLink RX0 44 yX0_one, Cond.static yX0_one, Cond.code yX0_one cX0_one 1 (some .long), Cond.methodLink RX0 91 yX0_nearestShifted, Cond.static yX0_nearestShifted, Cond.code yX0_nearestShifted cX0_nearestShifted 10 (some .long), Cond.methodLink RX0 47 yX0_withSign]
def wsX1_meet_r6 : List Cond := [Cond.static yX0_withSign, Cond.code yX0_withSign cX0_withSign 5 (some .long), Cond.methodLink RX1 126 yX1_signed, Cond.instanceMethod yX1_signed, Cond.selects RX1 yX1_signed yX1_signed, Cond.code yX1_signed cX1_signed 4 (some .int), Cond.methodLink RX1 161 yX0_signOf, Cond.static yX0_signOf, Cond.code yX0_signOf cX0_signOf 3 (some .long), Cond.methodLink RX1 129 yX1_lent, Cond.instanceMethod yX1_lent, Cond.selects RX1 yX1_lent yX1_lent, Cond.code yX1_lent cX1_lent 9 (some .int), Cond.methodLink RX1 164 yX0_withSign, Cond.methodLink RX1 132 yX1_turned, Cond.instanceMethod yX1_turned, Cond.selects RX1 yX1_turned yX1_turned, Cond.code yX1_turned cX1_turned 4 (some .int), Cond.methodLink RX1 167 yX0_negated, Cond.methodLink RX1 135 yX1_converted, Cond.instanceMethod yX1_converted, Cond.selects RX1 yX1_converted yX1_converted, Cond.code yX1_converted cX1_converted 8 (some .int), Cond.methodLink RX1 103 yX1_isSort]
def wsX1_meet_r7 : List Cond := [Cond.static yX1_isSort, Cond.code yX1_isSort cX1_isSort 1 (some .boolean), Cond.methodLink RX1 170 yX0_ofSort, Cond.static yX0_ofSort, Cond.code yX0_ofSort cX0_ofSort 8 (some .long), Cond.methodLink RX0 55 yX0_brokenToWhole, Cond.static yX0_brokenToWhole, Cond.code yX0_brokenToWhole cX0_brokenToWhole 12 (some .long), Cond.methodLink RX0 98 yX0_extreme, Cond.static yX0_extreme, Cond.code yX0_extreme cX0_extreme 2 (some .long), Cond.constantLong RX0 105 (2147483647), Cond.methodLink RX0 102 yX0_mantissa, Cond.static yX0_mantissa, Cond.code yX0_mantissa cX0_mantissa 5 (some .long), Cond.methodLink RX0 59 yX0_wholeToBroken, Cond.static yX0_wholeToBroken, Cond.code yX0_wholeToBroken cX0_wholeToBroken 11 (some .long), Cond.methodLink RX0 94 yX0_highestBit, Cond.static yX0_highestBit, Cond.code yX0_highestBit cX0_highestBit 3 (some .int), Cond.methodLink RX0 63 yX0_widened, Cond.static yX0_widened, Cond.code yX0_widened cX0_widened 5 (some .long)]
def wsX1_meet_r8 : List Cond := [Cond.constantLong RX0 107 (4035225266123964416), Cond.methodLink RX0 22 yX0_infinity, Cond.static yX0_infinity, Cond.code yX0_infinity cX0_infinity 1 (some .long), Cond.methodLink RX0 66 yX0_narrowed, Cond.static yX0_narrowed, Cond.code yX0_narrowed cX0_narrowed 5 (some .long), Cond.methodLink RX1 36 yX1_noted, Cond.instanceMethod yX1_noted, Cond.selects RX1 yX1_noted yX1_noted, Cond.code yX1_noted cX1_noted 2 (some .int), Cond.fieldLink RX1 83 "StretchDesk" "latestRefusal" "I", Cond.fieldLink RX1 93 "StretchDesk" "refusals" "I"]
def wsX1_meet : List Cond := .code yX1_meet cX1_meet 4 (some .int) :: ((wsX1_meet_r1 ++ (wsX1_meet_r2 ++ (wsX1_meet_r3 ++ (wsX1_meet_r4 ++ (wsX1_meet_r5 ++ (wsX1_meet_r6 ++ (wsX1_meet_r7 ++ wsX1_meet_r8))))))) ++ wsX10)
def wsX1_size_r1 : List Cond := [Cond.methodLink RX1 51 yX1_performed, Cond.instanceMethod yX1_performed, Cond.selects RX1 yX1_performed yX1_performed, Cond.initialized RX1, Cond.code yX1_performed cX1_performed 6 (some .int), Cond.methodLink RX1 109 yX1_refusalToPerform, Cond.instanceMethod yX1_refusalToPerform, Cond.selects RX1 yX1_refusalToPerform yX1_refusalToPerform, Cond.code yX1_refusalToPerform cX1_refusalToPerform 5 (some .int), Cond.fieldLink RX1 9 "StretchDesk" "sorts" "[I", Cond.methodLink RX1 76 yX1_areSlots, Cond.static yX1_areSlots, Cond.code yX1_areSlots cX1_areSlots 4 (some .boolean), Cond.methodLink RX1 40 yX1_isSlot, Cond.static yX1_isSlot, Cond.code yX1_isSlot cX1_isSlot 1 (some .boolean), Cond.methodLink RX1 96 yX1_takesTwo, Cond.static yX1_takesTwo, Cond.code yX1_takesTwo cX1_takesTwo 1 (some .boolean), Cond.methodLink RX1 112 yX1_joined, Cond.instanceMethod yX1_joined, Cond.selects RX1 yX1_joined yX1_joined, Cond.code yX1_joined cX1_joined 9 (some .int), Cond.fieldLink RX1 13 "StretchDesk" "lows" "[J"]
def wsX1_size_r2 : List Cond := [Cond.fieldLink RX1 17 "StretchDesk" "highs" "[J", Cond.methodLink RX1 69 yX0_lesser, Cond.static yX0_lesser, Cond.initialized RX0, Cond.code yX0_lesser cX0_lesser 5 (some .long), Cond.methodLink RX0 30 yX0_isLess, Cond.static yX0_isLess, Cond.code yX0_isLess cX0_isLess 5 (some .boolean), Cond.methodLink RX0 9 yX0_isBroken, Cond.static yX0_isBroken, Cond.code yX0_isBroken cX0_isBroken 1 (some .boolean), Cond.methodLink RX0 26 yX0_brokenRank, Cond.static yX0_brokenRank, Cond.code yX0_brokenRank cX0_brokenRank 2 (some .long), Cond.constantLong RX0 69 (9223372036854775807), Cond.methodLink RX1 65 yX0_greater, Cond.static yX0_greater, Cond.code yX0_greater cX0_greater 5 (some .long), Cond.methodLink RX1 106 yX1_put, Cond.instanceMethod yX1_put, Cond.selects RX1 yX1_put yX1_put, Cond.code yX1_put cX1_put 7 (some .int), Cond.methodLink RX1 116 yX1_cut, Cond.instanceMethod yX1_cut]
def wsX1_size_r3 : List Cond := [Cond.selects RX1 yX1_cut yX1_cut, Cond.code yX1_cut cX1_cut 9 (some .int), Cond.methodLink RX1 138 yX1_putIfAny, Cond.instanceMethod yX1_putIfAny, Cond.selects RX1 yX1_putIfAny yX1_putIfAny, Cond.code yX1_putIfAny cX1_putIfAny 7 (some .int), Cond.methodLink RX1 72 yX0_isLess, Cond.methodLink RX1 119 yX1_sized, Cond.instanceMethod yX1_sized, Cond.selects RX1 yX1_sized yX1_sized, Cond.code yX1_sized cX1_sized 8 (some .int), Cond.methodLink RX1 141 yX0_sizeOf, Cond.static yX0_sizeOf, Cond.code yX0_sizeOf cX0_sizeOf 3 (some .long), Cond.methodLink RX0 38 yX0_negated, Cond.static yX0_negated, Cond.code yX0_negated cX0_negated 3 (some .long), Cond.methodLink RX0 41 yX0_signMask, Cond.static yX0_signMask, Cond.code yX0_signMask cX0_signMask 1 (some .long), Cond.constantLong RX0 71 (-2147483648), Cond.constantLong RX0 73 (-9223372036854775808), Cond.methodLink RX0 15 yX0_fitted, Cond.static yX0_fitted]
def wsX1_size_r4 : List Cond := [Cond.code yX0_fitted cX0_fitted 3 (some .long), Cond.methodLink RX1 144 yX0_isBelowZero, Cond.static yX0_isBelowZero, Cond.code yX0_isBelowZero cX0_isBelowZero 3 (some .boolean), Cond.methodLink RX0 34 yX0_isZero, Cond.static yX0_isZero, Cond.code yX0_isZero cX0_isZero 3 (some .boolean), Cond.methodLink RX0 19 yX0_magnitude, Cond.static yX0_magnitude, Cond.code yX0_magnitude cX0_magnitude 3 (some .long), Cond.constantLong RX0 75 (-1), Cond.methodLink RX1 147 yX0_isAboveZero, Cond.static yX0_isAboveZero, Cond.code yX0_isAboveZero cX0_isAboveZero 2 (some .boolean), Cond.methodLink RX1 151 yX1_putOrdered, Cond.instanceMethod yX1_putOrdered, Cond.selects RX1 yX1_putOrdered yX1_putOrdered, Cond.code yX1_putOrdered cX1_putOrdered 7 (some .int), Cond.methodLink RX1 123 yX1_rounded, Cond.instanceMethod yX1_rounded, Cond.selects RX1 yX1_rounded yX1_rounded, Cond.code yX1_rounded cX1_rounded 7 (some .int), Cond.methodLink RX1 154 yX0_isBroken, Cond.methodLink RX1 157 yX0_whole]
def wsX1_size_r5 : List Cond := [Cond.static yX0_whole, Cond.code yX0_whole cX0_whole 7 (some .long), Cond.methodLink RX0 51 yX0_wholeMagnitude, Cond.static yX0_wholeMagnitude, Cond.code yX0_wholeMagnitude cX0_wholeMagnitude 12 (some .long), Cond.methodLink RX0 84 yX0_power, Cond.static yX0_power, Cond.code yX0_power cX0_power 3 (some .int), Cond.methodLink RX0 81 yX0_fractionBits, Cond.static yX0_fractionBits, Cond.code yX0_fractionBits cX0_fractionBits 1 (some .int), Cond.methodLink RX0 77 yX0_bias, Cond.static yX0_bias, Cond.code yX0_bias cX0_bias 1 (some .int), Cond.methodLink RX0 88 yX0_half, Cond.static yX0_half, Cond.code yX0_half cX0_half 1 (some .long), Cond.methodLink RX0 44 yX0_one, Cond.static yX0_one, Cond.code yX0_one cX0_one 1 (some .long), Cond.methodLink RX0 91 yX0_nearestShifted, Cond.static yX0_nearestShifted, Cond.code yX0_nearestShifted cX0_nearestShifted 10 (some .long), Cond.methodLink RX0 47 yX0_withSign]
def wsX1_size_r6 : List Cond := [Cond.static yX0_withSign, Cond.code yX0_withSign cX0_withSign 5 (some .long), Cond.methodLink RX1 126 yX1_signed, Cond.instanceMethod yX1_signed, Cond.selects RX1 yX1_signed yX1_signed, Cond.code yX1_signed cX1_signed 4 (some .int), Cond.methodLink RX1 161 yX0_signOf, Cond.static yX0_signOf, Cond.code yX0_signOf cX0_signOf 3 (some .long), Cond.methodLink RX1 129 yX1_lent, Cond.instanceMethod yX1_lent, Cond.selects RX1 yX1_lent yX1_lent, Cond.code yX1_lent cX1_lent 9 (some .int), Cond.methodLink RX1 164 yX0_withSign, Cond.methodLink RX1 132 yX1_turned, Cond.instanceMethod yX1_turned, Cond.selects RX1 yX1_turned yX1_turned, Cond.code yX1_turned cX1_turned 4 (some .int), Cond.methodLink RX1 167 yX0_negated, Cond.methodLink RX1 135 yX1_converted, Cond.instanceMethod yX1_converted, Cond.selects RX1 yX1_converted yX1_converted, Cond.code yX1_converted cX1_converted 8 (some .int), Cond.methodLink RX1 103 yX1_isSort]
def wsX1_size_r7 : List Cond := [Cond.static yX1_isSort, Cond.code yX1_isSort cX1_isSort 1 (some .boolean), Cond.methodLink RX1 170 yX0_ofSort, Cond.static yX0_ofSort, Cond.code yX0_ofSort cX0_ofSort 8 (some .long), Cond.methodLink RX0 55 yX0_brokenToWhole, Cond.static yX0_brokenToWhole, Cond.code yX0_brokenToWhole cX0_brokenToWhole 12 (some .long), Cond.methodLink RX0 98 yX0_extreme, Cond.static yX0_extreme, Cond.code yX0_extreme cX0_extreme 2 (some .long), Cond.constantLong RX0 105 (2147483647), Cond.methodLink RX0 102 yX0_mantissa, Cond.static yX0_mantissa, Cond.code yX0_mantissa cX0_mantissa 5 (some .long), Cond.methodLink RX0 59 yX0_wholeToBroken, Cond.static yX0_wholeToBroken, Cond.code yX0_wholeToBroken cX0_wholeToBroken 11 (some .long), Cond.methodLink RX0 94 yX0_highestBit, Cond.static yX0_highestBit, Cond.code yX0_highestBit cX0_highestBit 3 (some .int), Cond.methodLink RX0 63 yX0_widened, Cond.static yX0_widened, Cond.code yX0_widened cX0_widened 5 (some .long)]
def wsX1_size_r8 : List Cond := [Cond.constantLong RX0 107 (4035225266123964416), Cond.methodLink RX0 22 yX0_infinity, Cond.static yX0_infinity, Cond.code yX0_infinity cX0_infinity 1 (some .long), Cond.methodLink RX0 66 yX0_narrowed, Cond.static yX0_narrowed, Cond.code yX0_narrowed cX0_narrowed 5 (some .long), Cond.methodLink RX1 36 yX1_noted, Cond.instanceMethod yX1_noted, Cond.selects RX1 yX1_noted yX1_noted, Cond.code yX1_noted cX1_noted 2 (some .int), Cond.fieldLink RX1 83 "StretchDesk" "latestRefusal" "I", Cond.fieldLink RX1 93 "StretchDesk" "refusals" "I"]
def wsX1_size : List Cond := .code yX1_size cX1_size 3 (some .int) :: ((wsX1_size_r1 ++ (wsX1_size_r2 ++ (wsX1_size_r3 ++ (wsX1_size_r4 ++ (wsX1_size_r5 ++ (wsX1_size_r6 ++ (wsX1_size_r7 ++ wsX1_size_r8))))))) ++ wsX10)
def wsX1_round_r1 : List Cond := [Cond.methodLink RX1 51 yX1_performed, Cond.instanceMethod yX1_performed, Cond.selects RX1 yX1_performed yX1_performed, Cond.initialized RX1, Cond.code yX1_performed cX1_performed 6 (some .int), Cond.methodLink RX1 109 yX1_refusalToPerform, Cond.instanceMethod yX1_refusalToPerform, Cond.selects RX1 yX1_refusalToPerform yX1_refusalToPerform, Cond.code yX1_refusalToPerform cX1_refusalToPerform 5 (some .int), Cond.fieldLink RX1 9 "StretchDesk" "sorts" "[I", Cond.methodLink RX1 76 yX1_areSlots, Cond.static yX1_areSlots, Cond.code yX1_areSlots cX1_areSlots 4 (some .boolean), Cond.methodLink RX1 40 yX1_isSlot, Cond.static yX1_isSlot, Cond.code yX1_isSlot cX1_isSlot 1 (some .boolean), Cond.methodLink RX1 96 yX1_takesTwo, Cond.static yX1_takesTwo, Cond.code yX1_takesTwo cX1_takesTwo 1 (some .boolean), Cond.methodLink RX1 112 yX1_joined, Cond.instanceMethod yX1_joined, Cond.selects RX1 yX1_joined yX1_joined, Cond.code yX1_joined cX1_joined 9 (some .int), Cond.fieldLink RX1 13 "StretchDesk" "lows" "[J"]
def wsX1_round_r2 : List Cond := [Cond.fieldLink RX1 17 "StretchDesk" "highs" "[J", Cond.methodLink RX1 69 yX0_lesser, Cond.static yX0_lesser, Cond.initialized RX0, Cond.code yX0_lesser cX0_lesser 5 (some .long), Cond.methodLink RX0 30 yX0_isLess, Cond.static yX0_isLess, Cond.code yX0_isLess cX0_isLess 5 (some .boolean), Cond.methodLink RX0 9 yX0_isBroken, Cond.static yX0_isBroken, Cond.code yX0_isBroken cX0_isBroken 1 (some .boolean), Cond.methodLink RX0 26 yX0_brokenRank, Cond.static yX0_brokenRank, Cond.code yX0_brokenRank cX0_brokenRank 2 (some .long), Cond.constantLong RX0 69 (9223372036854775807), Cond.methodLink RX1 65 yX0_greater, Cond.static yX0_greater, Cond.code yX0_greater cX0_greater 5 (some .long), Cond.methodLink RX1 106 yX1_put, Cond.instanceMethod yX1_put, Cond.selects RX1 yX1_put yX1_put, Cond.code yX1_put cX1_put 7 (some .int), Cond.methodLink RX1 116 yX1_cut, Cond.instanceMethod yX1_cut]
def wsX1_round_r3 : List Cond := [Cond.selects RX1 yX1_cut yX1_cut, Cond.code yX1_cut cX1_cut 9 (some .int), Cond.methodLink RX1 138 yX1_putIfAny, Cond.instanceMethod yX1_putIfAny, Cond.selects RX1 yX1_putIfAny yX1_putIfAny, Cond.code yX1_putIfAny cX1_putIfAny 7 (some .int), Cond.methodLink RX1 72 yX0_isLess, Cond.methodLink RX1 119 yX1_sized, Cond.instanceMethod yX1_sized, Cond.selects RX1 yX1_sized yX1_sized, Cond.code yX1_sized cX1_sized 8 (some .int), Cond.methodLink RX1 141 yX0_sizeOf, Cond.static yX0_sizeOf, Cond.code yX0_sizeOf cX0_sizeOf 3 (some .long), Cond.methodLink RX0 38 yX0_negated, Cond.static yX0_negated, Cond.code yX0_negated cX0_negated 3 (some .long), Cond.methodLink RX0 41 yX0_signMask, Cond.static yX0_signMask, Cond.code yX0_signMask cX0_signMask 1 (some .long), Cond.constantLong RX0 71 (-2147483648), Cond.constantLong RX0 73 (-9223372036854775808), Cond.methodLink RX0 15 yX0_fitted, Cond.static yX0_fitted]
def wsX1_round_r4 : List Cond := [Cond.code yX0_fitted cX0_fitted 3 (some .long), Cond.methodLink RX1 144 yX0_isBelowZero, Cond.static yX0_isBelowZero, Cond.code yX0_isBelowZero cX0_isBelowZero 3 (some .boolean), Cond.methodLink RX0 34 yX0_isZero, Cond.static yX0_isZero, Cond.code yX0_isZero cX0_isZero 3 (some .boolean), Cond.methodLink RX0 19 yX0_magnitude, Cond.static yX0_magnitude, Cond.code yX0_magnitude cX0_magnitude 3 (some .long), Cond.constantLong RX0 75 (-1), Cond.methodLink RX1 147 yX0_isAboveZero, Cond.static yX0_isAboveZero, Cond.code yX0_isAboveZero cX0_isAboveZero 2 (some .boolean), Cond.methodLink RX1 151 yX1_putOrdered, Cond.instanceMethod yX1_putOrdered, Cond.selects RX1 yX1_putOrdered yX1_putOrdered, Cond.code yX1_putOrdered cX1_putOrdered 7 (some .int), Cond.methodLink RX1 123 yX1_rounded, Cond.instanceMethod yX1_rounded, Cond.selects RX1 yX1_rounded yX1_rounded, Cond.code yX1_rounded cX1_rounded 7 (some .int), Cond.methodLink RX1 154 yX0_isBroken, Cond.methodLink RX1 157 yX0_whole]
def wsX1_round_r5 : List Cond := [Cond.static yX0_whole, Cond.code yX0_whole cX0_whole 7 (some .long), Cond.methodLink RX0 51 yX0_wholeMagnitude, Cond.static yX0_wholeMagnitude, Cond.code yX0_wholeMagnitude cX0_wholeMagnitude 12 (some .long), Cond.methodLink RX0 84 yX0_power, Cond.static yX0_power, Cond.code yX0_power cX0_power 3 (some .int), Cond.methodLink RX0 81 yX0_fractionBits, Cond.static yX0_fractionBits, Cond.code yX0_fractionBits cX0_fractionBits 1 (some .int), Cond.methodLink RX0 77 yX0_bias, Cond.static yX0_bias, Cond.code yX0_bias cX0_bias 1 (some .int), Cond.methodLink RX0 88 yX0_half, Cond.static yX0_half, Cond.code yX0_half cX0_half 1 (some .long), Cond.methodLink RX0 44 yX0_one, Cond.static yX0_one, Cond.code yX0_one cX0_one 1 (some .long), Cond.methodLink RX0 91 yX0_nearestShifted, Cond.static yX0_nearestShifted, Cond.code yX0_nearestShifted cX0_nearestShifted 10 (some .long), Cond.methodLink RX0 47 yX0_withSign]
def wsX1_round_r6 : List Cond := [Cond.static yX0_withSign, Cond.code yX0_withSign cX0_withSign 5 (some .long), Cond.methodLink RX1 126 yX1_signed, Cond.instanceMethod yX1_signed, Cond.selects RX1 yX1_signed yX1_signed, Cond.code yX1_signed cX1_signed 4 (some .int), Cond.methodLink RX1 161 yX0_signOf, Cond.static yX0_signOf, Cond.code yX0_signOf cX0_signOf 3 (some .long), Cond.methodLink RX1 129 yX1_lent, Cond.instanceMethod yX1_lent, Cond.selects RX1 yX1_lent yX1_lent, Cond.code yX1_lent cX1_lent 9 (some .int), Cond.methodLink RX1 164 yX0_withSign, Cond.methodLink RX1 132 yX1_turned, Cond.instanceMethod yX1_turned, Cond.selects RX1 yX1_turned yX1_turned, Cond.code yX1_turned cX1_turned 4 (some .int), Cond.methodLink RX1 167 yX0_negated, Cond.methodLink RX1 135 yX1_converted, Cond.instanceMethod yX1_converted, Cond.selects RX1 yX1_converted yX1_converted, Cond.code yX1_converted cX1_converted 8 (some .int), Cond.methodLink RX1 103 yX1_isSort]
def wsX1_round_r7 : List Cond := [Cond.static yX1_isSort, Cond.code yX1_isSort cX1_isSort 1 (some .boolean), Cond.methodLink RX1 170 yX0_ofSort, Cond.static yX0_ofSort, Cond.code yX0_ofSort cX0_ofSort 8 (some .long), Cond.methodLink RX0 55 yX0_brokenToWhole, Cond.static yX0_brokenToWhole, Cond.code yX0_brokenToWhole cX0_brokenToWhole 12 (some .long), Cond.methodLink RX0 98 yX0_extreme, Cond.static yX0_extreme, Cond.code yX0_extreme cX0_extreme 2 (some .long), Cond.constantLong RX0 105 (2147483647), Cond.methodLink RX0 102 yX0_mantissa, Cond.static yX0_mantissa, Cond.code yX0_mantissa cX0_mantissa 5 (some .long), Cond.methodLink RX0 59 yX0_wholeToBroken, Cond.static yX0_wholeToBroken, Cond.code yX0_wholeToBroken cX0_wholeToBroken 11 (some .long), Cond.methodLink RX0 94 yX0_highestBit, Cond.static yX0_highestBit, Cond.code yX0_highestBit cX0_highestBit 3 (some .int), Cond.methodLink RX0 63 yX0_widened, Cond.static yX0_widened, Cond.code yX0_widened cX0_widened 5 (some .long)]
def wsX1_round_r8 : List Cond := [Cond.constantLong RX0 107 (4035225266123964416), Cond.methodLink RX0 22 yX0_infinity, Cond.static yX0_infinity, Cond.code yX0_infinity cX0_infinity 1 (some .long), Cond.methodLink RX0 66 yX0_narrowed, Cond.static yX0_narrowed, Cond.code yX0_narrowed cX0_narrowed 5 (some .long), Cond.methodLink RX1 36 yX1_noted, Cond.instanceMethod yX1_noted, Cond.selects RX1 yX1_noted yX1_noted, Cond.code yX1_noted cX1_noted 2 (some .int), Cond.fieldLink RX1 83 "StretchDesk" "latestRefusal" "I", Cond.fieldLink RX1 93 "StretchDesk" "refusals" "I"]
def wsX1_round : List Cond := .code yX1_round cX1_round 4 (some .int) :: ((wsX1_round_r1 ++ (wsX1_round_r2 ++ (wsX1_round_r3 ++ (wsX1_round_r4 ++ (wsX1_round_r5 ++ (wsX1_round_r6 ++ (wsX1_round_r7 ++ wsX1_round_r8))))))) ++ wsX10)
def wsX1_sign_r1 : List Cond := [Cond.methodLink RX1 51 yX1_performed, Cond.instanceMethod yX1_performed, Cond.selects RX1 yX1_performed yX1_performed, Cond.initialized RX1, Cond.code yX1_performed cX1_performed 6 (some .int), Cond.methodLink RX1 109 yX1_refusalToPerform, Cond.instanceMethod yX1_refusalToPerform, Cond.selects RX1 yX1_refusalToPerform yX1_refusalToPerform, Cond.code yX1_refusalToPerform cX1_refusalToPerform 5 (some .int), Cond.fieldLink RX1 9 "StretchDesk" "sorts" "[I", Cond.methodLink RX1 76 yX1_areSlots, Cond.static yX1_areSlots, Cond.code yX1_areSlots cX1_areSlots 4 (some .boolean), Cond.methodLink RX1 40 yX1_isSlot, Cond.static yX1_isSlot, Cond.code yX1_isSlot cX1_isSlot 1 (some .boolean), Cond.methodLink RX1 96 yX1_takesTwo, Cond.static yX1_takesTwo, Cond.code yX1_takesTwo cX1_takesTwo 1 (some .boolean), Cond.methodLink RX1 112 yX1_joined, Cond.instanceMethod yX1_joined, Cond.selects RX1 yX1_joined yX1_joined, Cond.code yX1_joined cX1_joined 9 (some .int), Cond.fieldLink RX1 13 "StretchDesk" "lows" "[J"]
def wsX1_sign_r2 : List Cond := [Cond.fieldLink RX1 17 "StretchDesk" "highs" "[J", Cond.methodLink RX1 69 yX0_lesser, Cond.static yX0_lesser, Cond.initialized RX0, Cond.code yX0_lesser cX0_lesser 5 (some .long), Cond.methodLink RX0 30 yX0_isLess, Cond.static yX0_isLess, Cond.code yX0_isLess cX0_isLess 5 (some .boolean), Cond.methodLink RX0 9 yX0_isBroken, Cond.static yX0_isBroken, Cond.code yX0_isBroken cX0_isBroken 1 (some .boolean), Cond.methodLink RX0 26 yX0_brokenRank, Cond.static yX0_brokenRank, Cond.code yX0_brokenRank cX0_brokenRank 2 (some .long), Cond.constantLong RX0 69 (9223372036854775807), Cond.methodLink RX1 65 yX0_greater, Cond.static yX0_greater, Cond.code yX0_greater cX0_greater 5 (some .long), Cond.methodLink RX1 106 yX1_put, Cond.instanceMethod yX1_put, Cond.selects RX1 yX1_put yX1_put, Cond.code yX1_put cX1_put 7 (some .int), Cond.methodLink RX1 116 yX1_cut, Cond.instanceMethod yX1_cut]
def wsX1_sign_r3 : List Cond := [Cond.selects RX1 yX1_cut yX1_cut, Cond.code yX1_cut cX1_cut 9 (some .int), Cond.methodLink RX1 138 yX1_putIfAny, Cond.instanceMethod yX1_putIfAny, Cond.selects RX1 yX1_putIfAny yX1_putIfAny, Cond.code yX1_putIfAny cX1_putIfAny 7 (some .int), Cond.methodLink RX1 72 yX0_isLess, Cond.methodLink RX1 119 yX1_sized, Cond.instanceMethod yX1_sized, Cond.selects RX1 yX1_sized yX1_sized, Cond.code yX1_sized cX1_sized 8 (some .int), Cond.methodLink RX1 141 yX0_sizeOf, Cond.static yX0_sizeOf, Cond.code yX0_sizeOf cX0_sizeOf 3 (some .long), Cond.methodLink RX0 38 yX0_negated, Cond.static yX0_negated, Cond.code yX0_negated cX0_negated 3 (some .long), Cond.methodLink RX0 41 yX0_signMask, Cond.static yX0_signMask, Cond.code yX0_signMask cX0_signMask 1 (some .long), Cond.constantLong RX0 71 (-2147483648), Cond.constantLong RX0 73 (-9223372036854775808), Cond.methodLink RX0 15 yX0_fitted, Cond.static yX0_fitted]
def wsX1_sign_r4 : List Cond := [Cond.code yX0_fitted cX0_fitted 3 (some .long), Cond.methodLink RX1 144 yX0_isBelowZero, Cond.static yX0_isBelowZero, Cond.code yX0_isBelowZero cX0_isBelowZero 3 (some .boolean), Cond.methodLink RX0 34 yX0_isZero, Cond.static yX0_isZero, Cond.code yX0_isZero cX0_isZero 3 (some .boolean), Cond.methodLink RX0 19 yX0_magnitude, Cond.static yX0_magnitude, Cond.code yX0_magnitude cX0_magnitude 3 (some .long), Cond.constantLong RX0 75 (-1), Cond.methodLink RX1 147 yX0_isAboveZero, Cond.static yX0_isAboveZero, Cond.code yX0_isAboveZero cX0_isAboveZero 2 (some .boolean), Cond.methodLink RX1 151 yX1_putOrdered, Cond.instanceMethod yX1_putOrdered, Cond.selects RX1 yX1_putOrdered yX1_putOrdered, Cond.code yX1_putOrdered cX1_putOrdered 7 (some .int), Cond.methodLink RX1 123 yX1_rounded, Cond.instanceMethod yX1_rounded, Cond.selects RX1 yX1_rounded yX1_rounded, Cond.code yX1_rounded cX1_rounded 7 (some .int), Cond.methodLink RX1 154 yX0_isBroken, Cond.methodLink RX1 157 yX0_whole]
def wsX1_sign_r5 : List Cond := [Cond.static yX0_whole, Cond.code yX0_whole cX0_whole 7 (some .long), Cond.methodLink RX0 51 yX0_wholeMagnitude, Cond.static yX0_wholeMagnitude, Cond.code yX0_wholeMagnitude cX0_wholeMagnitude 12 (some .long), Cond.methodLink RX0 84 yX0_power, Cond.static yX0_power, Cond.code yX0_power cX0_power 3 (some .int), Cond.methodLink RX0 81 yX0_fractionBits, Cond.static yX0_fractionBits, Cond.code yX0_fractionBits cX0_fractionBits 1 (some .int), Cond.methodLink RX0 77 yX0_bias, Cond.static yX0_bias, Cond.code yX0_bias cX0_bias 1 (some .int), Cond.methodLink RX0 88 yX0_half, Cond.static yX0_half, Cond.code yX0_half cX0_half 1 (some .long), Cond.methodLink RX0 44 yX0_one, Cond.static yX0_one, Cond.code yX0_one cX0_one 1 (some .long), Cond.methodLink RX0 91 yX0_nearestShifted, Cond.static yX0_nearestShifted, Cond.code yX0_nearestShifted cX0_nearestShifted 10 (some .long), Cond.methodLink RX0 47 yX0_withSign]
def wsX1_sign_r6 : List Cond := [Cond.static yX0_withSign, Cond.code yX0_withSign cX0_withSign 5 (some .long), Cond.methodLink RX1 126 yX1_signed, Cond.instanceMethod yX1_signed, Cond.selects RX1 yX1_signed yX1_signed, Cond.code yX1_signed cX1_signed 4 (some .int), Cond.methodLink RX1 161 yX0_signOf, Cond.static yX0_signOf, Cond.code yX0_signOf cX0_signOf 3 (some .long), Cond.methodLink RX1 129 yX1_lent, Cond.instanceMethod yX1_lent, Cond.selects RX1 yX1_lent yX1_lent, Cond.code yX1_lent cX1_lent 9 (some .int), Cond.methodLink RX1 164 yX0_withSign, Cond.methodLink RX1 132 yX1_turned, Cond.instanceMethod yX1_turned, Cond.selects RX1 yX1_turned yX1_turned, Cond.code yX1_turned cX1_turned 4 (some .int), Cond.methodLink RX1 167 yX0_negated, Cond.methodLink RX1 135 yX1_converted, Cond.instanceMethod yX1_converted, Cond.selects RX1 yX1_converted yX1_converted, Cond.code yX1_converted cX1_converted 8 (some .int), Cond.methodLink RX1 103 yX1_isSort]
def wsX1_sign_r7 : List Cond := [Cond.static yX1_isSort, Cond.code yX1_isSort cX1_isSort 1 (some .boolean), Cond.methodLink RX1 170 yX0_ofSort, Cond.static yX0_ofSort, Cond.code yX0_ofSort cX0_ofSort 8 (some .long), Cond.methodLink RX0 55 yX0_brokenToWhole, Cond.static yX0_brokenToWhole, Cond.code yX0_brokenToWhole cX0_brokenToWhole 12 (some .long), Cond.methodLink RX0 98 yX0_extreme, Cond.static yX0_extreme, Cond.code yX0_extreme cX0_extreme 2 (some .long), Cond.constantLong RX0 105 (2147483647), Cond.methodLink RX0 102 yX0_mantissa, Cond.static yX0_mantissa, Cond.code yX0_mantissa cX0_mantissa 5 (some .long), Cond.methodLink RX0 59 yX0_wholeToBroken, Cond.static yX0_wholeToBroken, Cond.code yX0_wholeToBroken cX0_wholeToBroken 11 (some .long), Cond.methodLink RX0 94 yX0_highestBit, Cond.static yX0_highestBit, Cond.code yX0_highestBit cX0_highestBit 3 (some .int), Cond.methodLink RX0 63 yX0_widened, Cond.static yX0_widened, Cond.code yX0_widened cX0_widened 5 (some .long)]
def wsX1_sign_r8 : List Cond := [Cond.constantLong RX0 107 (4035225266123964416), Cond.methodLink RX0 22 yX0_infinity, Cond.static yX0_infinity, Cond.code yX0_infinity cX0_infinity 1 (some .long), Cond.methodLink RX0 66 yX0_narrowed, Cond.static yX0_narrowed, Cond.code yX0_narrowed cX0_narrowed 5 (some .long), Cond.methodLink RX1 36 yX1_noted, Cond.instanceMethod yX1_noted, Cond.selects RX1 yX1_noted yX1_noted, Cond.code yX1_noted cX1_noted 2 (some .int), Cond.fieldLink RX1 83 "StretchDesk" "latestRefusal" "I", Cond.fieldLink RX1 93 "StretchDesk" "refusals" "I"]
def wsX1_sign : List Cond := .code yX1_sign cX1_sign 3 (some .int) :: ((wsX1_sign_r1 ++ (wsX1_sign_r2 ++ (wsX1_sign_r3 ++ (wsX1_sign_r4 ++ (wsX1_sign_r5 ++ (wsX1_sign_r6 ++ (wsX1_sign_r7 ++ wsX1_sign_r8))))))) ++ wsX10)
def wsX1_lend_r1 : List Cond := [Cond.methodLink RX1 51 yX1_performed, Cond.instanceMethod yX1_performed, Cond.selects RX1 yX1_performed yX1_performed, Cond.initialized RX1, Cond.code yX1_performed cX1_performed 6 (some .int), Cond.methodLink RX1 109 yX1_refusalToPerform, Cond.instanceMethod yX1_refusalToPerform, Cond.selects RX1 yX1_refusalToPerform yX1_refusalToPerform, Cond.code yX1_refusalToPerform cX1_refusalToPerform 5 (some .int), Cond.fieldLink RX1 9 "StretchDesk" "sorts" "[I", Cond.methodLink RX1 76 yX1_areSlots, Cond.static yX1_areSlots, Cond.code yX1_areSlots cX1_areSlots 4 (some .boolean), Cond.methodLink RX1 40 yX1_isSlot, Cond.static yX1_isSlot, Cond.code yX1_isSlot cX1_isSlot 1 (some .boolean), Cond.methodLink RX1 96 yX1_takesTwo, Cond.static yX1_takesTwo, Cond.code yX1_takesTwo cX1_takesTwo 1 (some .boolean), Cond.methodLink RX1 112 yX1_joined, Cond.instanceMethod yX1_joined, Cond.selects RX1 yX1_joined yX1_joined, Cond.code yX1_joined cX1_joined 9 (some .int), Cond.fieldLink RX1 13 "StretchDesk" "lows" "[J"]
def wsX1_lend_r2 : List Cond := [Cond.fieldLink RX1 17 "StretchDesk" "highs" "[J", Cond.methodLink RX1 69 yX0_lesser, Cond.static yX0_lesser, Cond.initialized RX0, Cond.code yX0_lesser cX0_lesser 5 (some .long), Cond.methodLink RX0 30 yX0_isLess, Cond.static yX0_isLess, Cond.code yX0_isLess cX0_isLess 5 (some .boolean), Cond.methodLink RX0 9 yX0_isBroken, Cond.static yX0_isBroken, Cond.code yX0_isBroken cX0_isBroken 1 (some .boolean), Cond.methodLink RX0 26 yX0_brokenRank, Cond.static yX0_brokenRank, Cond.code yX0_brokenRank cX0_brokenRank 2 (some .long), Cond.constantLong RX0 69 (9223372036854775807), Cond.methodLink RX1 65 yX0_greater, Cond.static yX0_greater, Cond.code yX0_greater cX0_greater 5 (some .long), Cond.methodLink RX1 106 yX1_put, Cond.instanceMethod yX1_put, Cond.selects RX1 yX1_put yX1_put, Cond.code yX1_put cX1_put 7 (some .int), Cond.methodLink RX1 116 yX1_cut, Cond.instanceMethod yX1_cut]
def wsX1_lend_r3 : List Cond := [Cond.selects RX1 yX1_cut yX1_cut, Cond.code yX1_cut cX1_cut 9 (some .int), Cond.methodLink RX1 138 yX1_putIfAny, Cond.instanceMethod yX1_putIfAny, Cond.selects RX1 yX1_putIfAny yX1_putIfAny, Cond.code yX1_putIfAny cX1_putIfAny 7 (some .int), Cond.methodLink RX1 72 yX0_isLess, Cond.methodLink RX1 119 yX1_sized, Cond.instanceMethod yX1_sized, Cond.selects RX1 yX1_sized yX1_sized, Cond.code yX1_sized cX1_sized 8 (some .int), Cond.methodLink RX1 141 yX0_sizeOf, Cond.static yX0_sizeOf, Cond.code yX0_sizeOf cX0_sizeOf 3 (some .long), Cond.methodLink RX0 38 yX0_negated, Cond.static yX0_negated, Cond.code yX0_negated cX0_negated 3 (some .long), Cond.methodLink RX0 41 yX0_signMask, Cond.static yX0_signMask, Cond.code yX0_signMask cX0_signMask 1 (some .long), Cond.constantLong RX0 71 (-2147483648), Cond.constantLong RX0 73 (-9223372036854775808), Cond.methodLink RX0 15 yX0_fitted, Cond.static yX0_fitted]
def wsX1_lend_r4 : List Cond := [Cond.code yX0_fitted cX0_fitted 3 (some .long), Cond.methodLink RX1 144 yX0_isBelowZero, Cond.static yX0_isBelowZero, Cond.code yX0_isBelowZero cX0_isBelowZero 3 (some .boolean), Cond.methodLink RX0 34 yX0_isZero, Cond.static yX0_isZero, Cond.code yX0_isZero cX0_isZero 3 (some .boolean), Cond.methodLink RX0 19 yX0_magnitude, Cond.static yX0_magnitude, Cond.code yX0_magnitude cX0_magnitude 3 (some .long), Cond.constantLong RX0 75 (-1), Cond.methodLink RX1 147 yX0_isAboveZero, Cond.static yX0_isAboveZero, Cond.code yX0_isAboveZero cX0_isAboveZero 2 (some .boolean), Cond.methodLink RX1 151 yX1_putOrdered, Cond.instanceMethod yX1_putOrdered, Cond.selects RX1 yX1_putOrdered yX1_putOrdered, Cond.code yX1_putOrdered cX1_putOrdered 7 (some .int), Cond.methodLink RX1 123 yX1_rounded, Cond.instanceMethod yX1_rounded, Cond.selects RX1 yX1_rounded yX1_rounded, Cond.code yX1_rounded cX1_rounded 7 (some .int), Cond.methodLink RX1 154 yX0_isBroken, Cond.methodLink RX1 157 yX0_whole]
def wsX1_lend_r5 : List Cond := [Cond.static yX0_whole, Cond.code yX0_whole cX0_whole 7 (some .long), Cond.methodLink RX0 51 yX0_wholeMagnitude, Cond.static yX0_wholeMagnitude, Cond.code yX0_wholeMagnitude cX0_wholeMagnitude 12 (some .long), Cond.methodLink RX0 84 yX0_power, Cond.static yX0_power, Cond.code yX0_power cX0_power 3 (some .int), Cond.methodLink RX0 81 yX0_fractionBits, Cond.static yX0_fractionBits, Cond.code yX0_fractionBits cX0_fractionBits 1 (some .int), Cond.methodLink RX0 77 yX0_bias, Cond.static yX0_bias, Cond.code yX0_bias cX0_bias 1 (some .int), Cond.methodLink RX0 88 yX0_half, Cond.static yX0_half, Cond.code yX0_half cX0_half 1 (some .long), Cond.methodLink RX0 44 yX0_one, Cond.static yX0_one, Cond.code yX0_one cX0_one 1 (some .long), Cond.methodLink RX0 91 yX0_nearestShifted, Cond.static yX0_nearestShifted, Cond.code yX0_nearestShifted cX0_nearestShifted 10 (some .long), Cond.methodLink RX0 47 yX0_withSign]
def wsX1_lend_r6 : List Cond := [Cond.static yX0_withSign, Cond.code yX0_withSign cX0_withSign 5 (some .long), Cond.methodLink RX1 126 yX1_signed, Cond.instanceMethod yX1_signed, Cond.selects RX1 yX1_signed yX1_signed, Cond.code yX1_signed cX1_signed 4 (some .int), Cond.methodLink RX1 161 yX0_signOf, Cond.static yX0_signOf, Cond.code yX0_signOf cX0_signOf 3 (some .long), Cond.methodLink RX1 129 yX1_lent, Cond.instanceMethod yX1_lent, Cond.selects RX1 yX1_lent yX1_lent, Cond.code yX1_lent cX1_lent 9 (some .int), Cond.methodLink RX1 164 yX0_withSign, Cond.methodLink RX1 132 yX1_turned, Cond.instanceMethod yX1_turned, Cond.selects RX1 yX1_turned yX1_turned, Cond.code yX1_turned cX1_turned 4 (some .int), Cond.methodLink RX1 167 yX0_negated, Cond.methodLink RX1 135 yX1_converted, Cond.instanceMethod yX1_converted, Cond.selects RX1 yX1_converted yX1_converted, Cond.code yX1_converted cX1_converted 8 (some .int), Cond.methodLink RX1 103 yX1_isSort]
def wsX1_lend_r7 : List Cond := [Cond.static yX1_isSort, Cond.code yX1_isSort cX1_isSort 1 (some .boolean), Cond.methodLink RX1 170 yX0_ofSort, Cond.static yX0_ofSort, Cond.code yX0_ofSort cX0_ofSort 8 (some .long), Cond.methodLink RX0 55 yX0_brokenToWhole, Cond.static yX0_brokenToWhole, Cond.code yX0_brokenToWhole cX0_brokenToWhole 12 (some .long), Cond.methodLink RX0 98 yX0_extreme, Cond.static yX0_extreme, Cond.code yX0_extreme cX0_extreme 2 (some .long), Cond.constantLong RX0 105 (2147483647), Cond.methodLink RX0 102 yX0_mantissa, Cond.static yX0_mantissa, Cond.code yX0_mantissa cX0_mantissa 5 (some .long), Cond.methodLink RX0 59 yX0_wholeToBroken, Cond.static yX0_wholeToBroken, Cond.code yX0_wholeToBroken cX0_wholeToBroken 11 (some .long), Cond.methodLink RX0 94 yX0_highestBit, Cond.static yX0_highestBit, Cond.code yX0_highestBit cX0_highestBit 3 (some .int), Cond.methodLink RX0 63 yX0_widened, Cond.static yX0_widened, Cond.code yX0_widened cX0_widened 5 (some .long)]
def wsX1_lend_r8 : List Cond := [Cond.constantLong RX0 107 (4035225266123964416), Cond.methodLink RX0 22 yX0_infinity, Cond.static yX0_infinity, Cond.code yX0_infinity cX0_infinity 1 (some .long), Cond.methodLink RX0 66 yX0_narrowed, Cond.static yX0_narrowed, Cond.code yX0_narrowed cX0_narrowed 5 (some .long), Cond.methodLink RX1 36 yX1_noted, Cond.instanceMethod yX1_noted, Cond.selects RX1 yX1_noted yX1_noted, Cond.code yX1_noted cX1_noted 2 (some .int), Cond.fieldLink RX1 83 "StretchDesk" "latestRefusal" "I", Cond.fieldLink RX1 93 "StretchDesk" "refusals" "I"]
def wsX1_lend : List Cond := .code yX1_lend cX1_lend 4 (some .int) :: ((wsX1_lend_r1 ++ (wsX1_lend_r2 ++ (wsX1_lend_r3 ++ (wsX1_lend_r4 ++ (wsX1_lend_r5 ++ (wsX1_lend_r6 ++ (wsX1_lend_r7 ++ wsX1_lend_r8))))))) ++ wsX10)
def wsX1_turn_r1 : List Cond := [Cond.methodLink RX1 51 yX1_performed, Cond.instanceMethod yX1_performed, Cond.selects RX1 yX1_performed yX1_performed, Cond.initialized RX1, Cond.code yX1_performed cX1_performed 6 (some .int), Cond.methodLink RX1 109 yX1_refusalToPerform, Cond.instanceMethod yX1_refusalToPerform, Cond.selects RX1 yX1_refusalToPerform yX1_refusalToPerform, Cond.code yX1_refusalToPerform cX1_refusalToPerform 5 (some .int), Cond.fieldLink RX1 9 "StretchDesk" "sorts" "[I", Cond.methodLink RX1 76 yX1_areSlots, Cond.static yX1_areSlots, Cond.code yX1_areSlots cX1_areSlots 4 (some .boolean), Cond.methodLink RX1 40 yX1_isSlot, Cond.static yX1_isSlot, Cond.code yX1_isSlot cX1_isSlot 1 (some .boolean), Cond.methodLink RX1 96 yX1_takesTwo, Cond.static yX1_takesTwo, Cond.code yX1_takesTwo cX1_takesTwo 1 (some .boolean), Cond.methodLink RX1 112 yX1_joined, Cond.instanceMethod yX1_joined, Cond.selects RX1 yX1_joined yX1_joined, Cond.code yX1_joined cX1_joined 9 (some .int), Cond.fieldLink RX1 13 "StretchDesk" "lows" "[J"]
def wsX1_turn_r2 : List Cond := [Cond.fieldLink RX1 17 "StretchDesk" "highs" "[J", Cond.methodLink RX1 69 yX0_lesser, Cond.static yX0_lesser, Cond.initialized RX0, Cond.code yX0_lesser cX0_lesser 5 (some .long), Cond.methodLink RX0 30 yX0_isLess, Cond.static yX0_isLess, Cond.code yX0_isLess cX0_isLess 5 (some .boolean), Cond.methodLink RX0 9 yX0_isBroken, Cond.static yX0_isBroken, Cond.code yX0_isBroken cX0_isBroken 1 (some .boolean), Cond.methodLink RX0 26 yX0_brokenRank, Cond.static yX0_brokenRank, Cond.code yX0_brokenRank cX0_brokenRank 2 (some .long), Cond.constantLong RX0 69 (9223372036854775807), Cond.methodLink RX1 65 yX0_greater, Cond.static yX0_greater, Cond.code yX0_greater cX0_greater 5 (some .long), Cond.methodLink RX1 106 yX1_put, Cond.instanceMethod yX1_put, Cond.selects RX1 yX1_put yX1_put, Cond.code yX1_put cX1_put 7 (some .int), Cond.methodLink RX1 116 yX1_cut, Cond.instanceMethod yX1_cut]
def wsX1_turn_r3 : List Cond := [Cond.selects RX1 yX1_cut yX1_cut, Cond.code yX1_cut cX1_cut 9 (some .int), Cond.methodLink RX1 138 yX1_putIfAny, Cond.instanceMethod yX1_putIfAny, Cond.selects RX1 yX1_putIfAny yX1_putIfAny, Cond.code yX1_putIfAny cX1_putIfAny 7 (some .int), Cond.methodLink RX1 72 yX0_isLess, Cond.methodLink RX1 119 yX1_sized, Cond.instanceMethod yX1_sized, Cond.selects RX1 yX1_sized yX1_sized, Cond.code yX1_sized cX1_sized 8 (some .int), Cond.methodLink RX1 141 yX0_sizeOf, Cond.static yX0_sizeOf, Cond.code yX0_sizeOf cX0_sizeOf 3 (some .long), Cond.methodLink RX0 38 yX0_negated, Cond.static yX0_negated, Cond.code yX0_negated cX0_negated 3 (some .long), Cond.methodLink RX0 41 yX0_signMask, Cond.static yX0_signMask, Cond.code yX0_signMask cX0_signMask 1 (some .long), Cond.constantLong RX0 71 (-2147483648), Cond.constantLong RX0 73 (-9223372036854775808), Cond.methodLink RX0 15 yX0_fitted, Cond.static yX0_fitted]
def wsX1_turn_r4 : List Cond := [Cond.code yX0_fitted cX0_fitted 3 (some .long), Cond.methodLink RX1 144 yX0_isBelowZero, Cond.static yX0_isBelowZero, Cond.code yX0_isBelowZero cX0_isBelowZero 3 (some .boolean), Cond.methodLink RX0 34 yX0_isZero, Cond.static yX0_isZero, Cond.code yX0_isZero cX0_isZero 3 (some .boolean), Cond.methodLink RX0 19 yX0_magnitude, Cond.static yX0_magnitude, Cond.code yX0_magnitude cX0_magnitude 3 (some .long), Cond.constantLong RX0 75 (-1), Cond.methodLink RX1 147 yX0_isAboveZero, Cond.static yX0_isAboveZero, Cond.code yX0_isAboveZero cX0_isAboveZero 2 (some .boolean), Cond.methodLink RX1 151 yX1_putOrdered, Cond.instanceMethod yX1_putOrdered, Cond.selects RX1 yX1_putOrdered yX1_putOrdered, Cond.code yX1_putOrdered cX1_putOrdered 7 (some .int), Cond.methodLink RX1 123 yX1_rounded, Cond.instanceMethod yX1_rounded, Cond.selects RX1 yX1_rounded yX1_rounded, Cond.code yX1_rounded cX1_rounded 7 (some .int), Cond.methodLink RX1 154 yX0_isBroken, Cond.methodLink RX1 157 yX0_whole]
def wsX1_turn_r5 : List Cond := [Cond.static yX0_whole, Cond.code yX0_whole cX0_whole 7 (some .long), Cond.methodLink RX0 51 yX0_wholeMagnitude, Cond.static yX0_wholeMagnitude, Cond.code yX0_wholeMagnitude cX0_wholeMagnitude 12 (some .long), Cond.methodLink RX0 84 yX0_power, Cond.static yX0_power, Cond.code yX0_power cX0_power 3 (some .int), Cond.methodLink RX0 81 yX0_fractionBits, Cond.static yX0_fractionBits, Cond.code yX0_fractionBits cX0_fractionBits 1 (some .int), Cond.methodLink RX0 77 yX0_bias, Cond.static yX0_bias, Cond.code yX0_bias cX0_bias 1 (some .int), Cond.methodLink RX0 88 yX0_half, Cond.static yX0_half, Cond.code yX0_half cX0_half 1 (some .long), Cond.methodLink RX0 44 yX0_one, Cond.static yX0_one, Cond.code yX0_one cX0_one 1 (some .long), Cond.methodLink RX0 91 yX0_nearestShifted, Cond.static yX0_nearestShifted, Cond.code yX0_nearestShifted cX0_nearestShifted 10 (some .long), Cond.methodLink RX0 47 yX0_withSign]
def wsX1_turn_r6 : List Cond := [Cond.static yX0_withSign, Cond.code yX0_withSign cX0_withSign 5 (some .long), Cond.methodLink RX1 126 yX1_signed, Cond.instanceMethod yX1_signed, Cond.selects RX1 yX1_signed yX1_signed, Cond.code yX1_signed cX1_signed 4 (some .int), Cond.methodLink RX1 161 yX0_signOf, Cond.static yX0_signOf, Cond.code yX0_signOf cX0_signOf 3 (some .long), Cond.methodLink RX1 129 yX1_lent, Cond.instanceMethod yX1_lent, Cond.selects RX1 yX1_lent yX1_lent, Cond.code yX1_lent cX1_lent 9 (some .int), Cond.methodLink RX1 164 yX0_withSign, Cond.methodLink RX1 132 yX1_turned, Cond.instanceMethod yX1_turned, Cond.selects RX1 yX1_turned yX1_turned, Cond.code yX1_turned cX1_turned 4 (some .int), Cond.methodLink RX1 167 yX0_negated, Cond.methodLink RX1 135 yX1_converted, Cond.instanceMethod yX1_converted, Cond.selects RX1 yX1_converted yX1_converted, Cond.code yX1_converted cX1_converted 8 (some .int), Cond.methodLink RX1 103 yX1_isSort]
def wsX1_turn_r7 : List Cond := [Cond.static yX1_isSort, Cond.code yX1_isSort cX1_isSort 1 (some .boolean), Cond.methodLink RX1 170 yX0_ofSort, Cond.static yX0_ofSort, Cond.code yX0_ofSort cX0_ofSort 8 (some .long), Cond.methodLink RX0 55 yX0_brokenToWhole, Cond.static yX0_brokenToWhole, Cond.code yX0_brokenToWhole cX0_brokenToWhole 12 (some .long), Cond.methodLink RX0 98 yX0_extreme, Cond.static yX0_extreme, Cond.code yX0_extreme cX0_extreme 2 (some .long), Cond.constantLong RX0 105 (2147483647), Cond.methodLink RX0 102 yX0_mantissa, Cond.static yX0_mantissa, Cond.code yX0_mantissa cX0_mantissa 5 (some .long), Cond.methodLink RX0 59 yX0_wholeToBroken, Cond.static yX0_wholeToBroken, Cond.code yX0_wholeToBroken cX0_wholeToBroken 11 (some .long), Cond.methodLink RX0 94 yX0_highestBit, Cond.static yX0_highestBit, Cond.code yX0_highestBit cX0_highestBit 3 (some .int), Cond.methodLink RX0 63 yX0_widened, Cond.static yX0_widened, Cond.code yX0_widened cX0_widened 5 (some .long)]
def wsX1_turn_r8 : List Cond := [Cond.constantLong RX0 107 (4035225266123964416), Cond.methodLink RX0 22 yX0_infinity, Cond.static yX0_infinity, Cond.code yX0_infinity cX0_infinity 1 (some .long), Cond.methodLink RX0 66 yX0_narrowed, Cond.static yX0_narrowed, Cond.code yX0_narrowed cX0_narrowed 5 (some .long), Cond.methodLink RX1 36 yX1_noted, Cond.instanceMethod yX1_noted, Cond.selects RX1 yX1_noted yX1_noted, Cond.code yX1_noted cX1_noted 2 (some .int), Cond.fieldLink RX1 83 "StretchDesk" "latestRefusal" "I", Cond.fieldLink RX1 93 "StretchDesk" "refusals" "I"]
def wsX1_turn : List Cond := .code yX1_turn cX1_turn 3 (some .int) :: ((wsX1_turn_r1 ++ (wsX1_turn_r2 ++ (wsX1_turn_r3 ++ (wsX1_turn_r4 ++ (wsX1_turn_r5 ++ (wsX1_turn_r6 ++ (wsX1_turn_r7 ++ wsX1_turn_r8))))))) ++ wsX10)
def wsX1_as_r1 : List Cond := [Cond.methodLink RX1 51 yX1_performed, Cond.instanceMethod yX1_performed, Cond.selects RX1 yX1_performed yX1_performed, Cond.initialized RX1, Cond.code yX1_performed cX1_performed 6 (some .int), Cond.methodLink RX1 109 yX1_refusalToPerform, Cond.instanceMethod yX1_refusalToPerform, Cond.selects RX1 yX1_refusalToPerform yX1_refusalToPerform, Cond.code yX1_refusalToPerform cX1_refusalToPerform 5 (some .int), Cond.fieldLink RX1 9 "StretchDesk" "sorts" "[I", Cond.methodLink RX1 76 yX1_areSlots, Cond.static yX1_areSlots, Cond.code yX1_areSlots cX1_areSlots 4 (some .boolean), Cond.methodLink RX1 40 yX1_isSlot, Cond.static yX1_isSlot, Cond.code yX1_isSlot cX1_isSlot 1 (some .boolean), Cond.methodLink RX1 96 yX1_takesTwo, Cond.static yX1_takesTwo, Cond.code yX1_takesTwo cX1_takesTwo 1 (some .boolean), Cond.methodLink RX1 112 yX1_joined, Cond.instanceMethod yX1_joined, Cond.selects RX1 yX1_joined yX1_joined, Cond.code yX1_joined cX1_joined 9 (some .int), Cond.fieldLink RX1 13 "StretchDesk" "lows" "[J"]
def wsX1_as_r2 : List Cond := [Cond.fieldLink RX1 17 "StretchDesk" "highs" "[J", Cond.methodLink RX1 69 yX0_lesser, Cond.static yX0_lesser, Cond.initialized RX0, Cond.code yX0_lesser cX0_lesser 5 (some .long), Cond.methodLink RX0 30 yX0_isLess, Cond.static yX0_isLess, Cond.code yX0_isLess cX0_isLess 5 (some .boolean), Cond.methodLink RX0 9 yX0_isBroken, Cond.static yX0_isBroken, Cond.code yX0_isBroken cX0_isBroken 1 (some .boolean), Cond.methodLink RX0 26 yX0_brokenRank, Cond.static yX0_brokenRank, Cond.code yX0_brokenRank cX0_brokenRank 2 (some .long), Cond.constantLong RX0 69 (9223372036854775807), Cond.methodLink RX1 65 yX0_greater, Cond.static yX0_greater, Cond.code yX0_greater cX0_greater 5 (some .long), Cond.methodLink RX1 106 yX1_put, Cond.instanceMethod yX1_put, Cond.selects RX1 yX1_put yX1_put, Cond.code yX1_put cX1_put 7 (some .int), Cond.methodLink RX1 116 yX1_cut, Cond.instanceMethod yX1_cut]
def wsX1_as_r3 : List Cond := [Cond.selects RX1 yX1_cut yX1_cut, Cond.code yX1_cut cX1_cut 9 (some .int), Cond.methodLink RX1 138 yX1_putIfAny, Cond.instanceMethod yX1_putIfAny, Cond.selects RX1 yX1_putIfAny yX1_putIfAny, Cond.code yX1_putIfAny cX1_putIfAny 7 (some .int), Cond.methodLink RX1 72 yX0_isLess, Cond.methodLink RX1 119 yX1_sized, Cond.instanceMethod yX1_sized, Cond.selects RX1 yX1_sized yX1_sized, Cond.code yX1_sized cX1_sized 8 (some .int), Cond.methodLink RX1 141 yX0_sizeOf, Cond.static yX0_sizeOf, Cond.code yX0_sizeOf cX0_sizeOf 3 (some .long), Cond.methodLink RX0 38 yX0_negated, Cond.static yX0_negated, Cond.code yX0_negated cX0_negated 3 (some .long), Cond.methodLink RX0 41 yX0_signMask, Cond.static yX0_signMask, Cond.code yX0_signMask cX0_signMask 1 (some .long), Cond.constantLong RX0 71 (-2147483648), Cond.constantLong RX0 73 (-9223372036854775808), Cond.methodLink RX0 15 yX0_fitted, Cond.static yX0_fitted]
def wsX1_as_r4 : List Cond := [Cond.code yX0_fitted cX0_fitted 3 (some .long), Cond.methodLink RX1 144 yX0_isBelowZero, Cond.static yX0_isBelowZero, Cond.code yX0_isBelowZero cX0_isBelowZero 3 (some .boolean), Cond.methodLink RX0 34 yX0_isZero, Cond.static yX0_isZero, Cond.code yX0_isZero cX0_isZero 3 (some .boolean), Cond.methodLink RX0 19 yX0_magnitude, Cond.static yX0_magnitude, Cond.code yX0_magnitude cX0_magnitude 3 (some .long), Cond.constantLong RX0 75 (-1), Cond.methodLink RX1 147 yX0_isAboveZero, Cond.static yX0_isAboveZero, Cond.code yX0_isAboveZero cX0_isAboveZero 2 (some .boolean), Cond.methodLink RX1 151 yX1_putOrdered, Cond.instanceMethod yX1_putOrdered, Cond.selects RX1 yX1_putOrdered yX1_putOrdered, Cond.code yX1_putOrdered cX1_putOrdered 7 (some .int), Cond.methodLink RX1 123 yX1_rounded, Cond.instanceMethod yX1_rounded, Cond.selects RX1 yX1_rounded yX1_rounded, Cond.code yX1_rounded cX1_rounded 7 (some .int), Cond.methodLink RX1 154 yX0_isBroken, Cond.methodLink RX1 157 yX0_whole]
def wsX1_as_r5 : List Cond := [Cond.static yX0_whole, Cond.code yX0_whole cX0_whole 7 (some .long), Cond.methodLink RX0 51 yX0_wholeMagnitude, Cond.static yX0_wholeMagnitude, Cond.code yX0_wholeMagnitude cX0_wholeMagnitude 12 (some .long), Cond.methodLink RX0 84 yX0_power, Cond.static yX0_power, Cond.code yX0_power cX0_power 3 (some .int), Cond.methodLink RX0 81 yX0_fractionBits, Cond.static yX0_fractionBits, Cond.code yX0_fractionBits cX0_fractionBits 1 (some .int), Cond.methodLink RX0 77 yX0_bias, Cond.static yX0_bias, Cond.code yX0_bias cX0_bias 1 (some .int), Cond.methodLink RX0 88 yX0_half, Cond.static yX0_half, Cond.code yX0_half cX0_half 1 (some .long), Cond.methodLink RX0 44 yX0_one, Cond.static yX0_one, Cond.code yX0_one cX0_one 1 (some .long), Cond.methodLink RX0 91 yX0_nearestShifted, Cond.static yX0_nearestShifted, Cond.code yX0_nearestShifted cX0_nearestShifted 10 (some .long), Cond.methodLink RX0 47 yX0_withSign]
def wsX1_as_r6 : List Cond := [Cond.static yX0_withSign, Cond.code yX0_withSign cX0_withSign 5 (some .long), Cond.methodLink RX1 126 yX1_signed, Cond.instanceMethod yX1_signed, Cond.selects RX1 yX1_signed yX1_signed, Cond.code yX1_signed cX1_signed 4 (some .int), Cond.methodLink RX1 161 yX0_signOf, Cond.static yX0_signOf, Cond.code yX0_signOf cX0_signOf 3 (some .long), Cond.methodLink RX1 129 yX1_lent, Cond.instanceMethod yX1_lent, Cond.selects RX1 yX1_lent yX1_lent, Cond.code yX1_lent cX1_lent 9 (some .int), Cond.methodLink RX1 164 yX0_withSign, Cond.methodLink RX1 132 yX1_turned, Cond.instanceMethod yX1_turned, Cond.selects RX1 yX1_turned yX1_turned, Cond.code yX1_turned cX1_turned 4 (some .int), Cond.methodLink RX1 167 yX0_negated, Cond.methodLink RX1 135 yX1_converted, Cond.instanceMethod yX1_converted, Cond.selects RX1 yX1_converted yX1_converted, Cond.code yX1_converted cX1_converted 8 (some .int), Cond.methodLink RX1 103 yX1_isSort]
def wsX1_as_r7 : List Cond := [Cond.static yX1_isSort, Cond.code yX1_isSort cX1_isSort 1 (some .boolean), Cond.methodLink RX1 170 yX0_ofSort, Cond.static yX0_ofSort, Cond.code yX0_ofSort cX0_ofSort 8 (some .long), Cond.methodLink RX0 55 yX0_brokenToWhole, Cond.static yX0_brokenToWhole, Cond.code yX0_brokenToWhole cX0_brokenToWhole 12 (some .long), Cond.methodLink RX0 98 yX0_extreme, Cond.static yX0_extreme, Cond.code yX0_extreme cX0_extreme 2 (some .long), Cond.constantLong RX0 105 (2147483647), Cond.methodLink RX0 102 yX0_mantissa, Cond.static yX0_mantissa, Cond.code yX0_mantissa cX0_mantissa 5 (some .long), Cond.methodLink RX0 59 yX0_wholeToBroken, Cond.static yX0_wholeToBroken, Cond.code yX0_wholeToBroken cX0_wholeToBroken 11 (some .long), Cond.methodLink RX0 94 yX0_highestBit, Cond.static yX0_highestBit, Cond.code yX0_highestBit cX0_highestBit 3 (some .int), Cond.methodLink RX0 63 yX0_widened, Cond.static yX0_widened, Cond.code yX0_widened cX0_widened 5 (some .long)]
def wsX1_as_r8 : List Cond := [Cond.constantLong RX0 107 (4035225266123964416), Cond.methodLink RX0 22 yX0_infinity, Cond.static yX0_infinity, Cond.code yX0_infinity cX0_infinity 1 (some .long), Cond.methodLink RX0 66 yX0_narrowed, Cond.static yX0_narrowed, Cond.code yX0_narrowed cX0_narrowed 5 (some .long), Cond.methodLink RX1 36 yX1_noted, Cond.instanceMethod yX1_noted, Cond.selects RX1 yX1_noted yX1_noted, Cond.code yX1_noted cX1_noted 2 (some .int), Cond.fieldLink RX1 83 "StretchDesk" "latestRefusal" "I", Cond.fieldLink RX1 93 "StretchDesk" "refusals" "I"]
def wsX1_as : List Cond := .code yX1_as cX1_as 4 (some .int) :: ((wsX1_as_r1 ++ (wsX1_as_r2 ++ (wsX1_as_r3 ++ (wsX1_as_r4 ++ (wsX1_as_r5 ++ (wsX1_as_r6 ++ (wsX1_as_r7 ++ wsX1_as_r8))))))) ++ wsX10)
def wsX1_refusalToCompare_r1 : List Cond := [Cond.fieldLink RX1 9 "StretchDesk" "sorts" "[I", Cond.methodLink RX1 44 yX1_refusalToTake, Cond.instanceMethod yX1_refusalToTake, Cond.selects RX1 yX1_refusalToTake yX1_refusalToTake, Cond.initialized RX1, Cond.code yX1_refusalToTake cX1_refusalToTake 2 (some .int), Cond.methodLink RX1 40 yX1_isSlot, Cond.static yX1_isSlot, Cond.code yX1_isSlot cX1_isSlot 1 (some .boolean), Cond.methodLink RX1 99 yX0_isNumber, Cond.static yX0_isNumber, Cond.initialized RX0, Cond.code yX0_isNumber cX0_isNumber 3 (some .boolean), Cond.methodLink RX0 9 yX0_isBroken, Cond.static yX0_isBroken, Cond.code yX0_isBroken cX0_isBroken 1 (some .boolean), Cond.methodLink RX0 15 yX0_fitted, Cond.static yX0_fitted, Cond.code yX0_fitted cX0_fitted 3 (some .long), Cond.methodLink RX0 19 yX0_magnitude, Cond.static yX0_magnitude, Cond.code yX0_magnitude cX0_magnitude 3 (some .long), Cond.constantLong RX0 75 (-1), Cond.methodLink RX0 41 yX0_signMask]
def wsX1_refusalToCompare_r2 : List Cond := [Cond.static yX0_signMask, Cond.code yX0_signMask cX0_signMask 1 (some .long), Cond.constantLong RX0 71 (-2147483648), Cond.constantLong RX0 73 (-9223372036854775808), Cond.methodLink RX0 22 yX0_infinity, Cond.static yX0_infinity, Cond.code yX0_infinity cX0_infinity 1 (some .long), Cond.methodLink RX0 77 yX0_bias, Cond.static yX0_bias, Cond.code yX0_bias cX0_bias 1 (some .int), Cond.methodLink RX0 81 yX0_fractionBits, Cond.static yX0_fractionBits, Cond.code yX0_fractionBits cX0_fractionBits 1 (some .int)]
def wsX1_refusalToCompare : List Cond := .code yX1_refusalToCompare cX1_refusalToCompare 5 (some .int) :: ((wsX1_refusalToCompare_r1 ++ wsX1_refusalToCompare_r2) ++ wsX10)
def wsX1_near_r1 : List Cond := [Cond.fieldLink RX1 9 "StretchDesk" "sorts" "[I", Cond.fieldLink RX1 13 "StretchDesk" "lows" "[J", Cond.fieldLink RX1 17 "StretchDesk" "highs" "[J", Cond.methodLink RX1 55 yX1_refusalToCompare, Cond.instanceMethod yX1_refusalToCompare, Cond.selects RX1 yX1_refusalToCompare yX1_refusalToCompare, Cond.initialized RX1, Cond.code yX1_refusalToCompare cX1_refusalToCompare 5 (some .int), Cond.methodLink RX1 44 yX1_refusalToTake, Cond.instanceMethod yX1_refusalToTake, Cond.selects RX1 yX1_refusalToTake yX1_refusalToTake, Cond.code yX1_refusalToTake cX1_refusalToTake 2 (some .int), Cond.methodLink RX1 40 yX1_isSlot, Cond.static yX1_isSlot, Cond.code yX1_isSlot cX1_isSlot 1 (some .boolean), Cond.methodLink RX1 99 yX0_isNumber, Cond.static yX0_isNumber, Cond.initialized RX0, Cond.code yX0_isNumber cX0_isNumber 3 (some .boolean), Cond.methodLink RX0 9 yX0_isBroken, Cond.static yX0_isBroken, Cond.code yX0_isBroken cX0_isBroken 1 (some .boolean), Cond.methodLink RX0 15 yX0_fitted, Cond.static yX0_fitted]
def wsX1_near_r2 : List Cond := [Cond.code yX0_fitted cX0_fitted 3 (some .long), Cond.methodLink RX0 19 yX0_magnitude, Cond.static yX0_magnitude, Cond.code yX0_magnitude cX0_magnitude 3 (some .long), Cond.constantLong RX0 75 (-1), Cond.methodLink RX0 41 yX0_signMask, Cond.static yX0_signMask, Cond.code yX0_signMask cX0_signMask 1 (some .long), Cond.constantLong RX0 71 (-2147483648), Cond.constantLong RX0 73 (-9223372036854775808), Cond.methodLink RX0 22 yX0_infinity, Cond.static yX0_infinity, Cond.code yX0_infinity cX0_infinity 1 (some .long), Cond.methodLink RX0 77 yX0_bias, Cond.static yX0_bias, Cond.code yX0_bias cX0_bias 1 (some .int), Cond.methodLink RX0 81 yX0_fractionBits, Cond.static yX0_fractionBits, Cond.code yX0_fractionBits cX0_fractionBits 1 (some .int), Cond.methodLink RX1 36 yX1_noted, Cond.instanceMethod yX1_noted, Cond.selects RX1 yX1_noted yX1_noted, Cond.code yX1_noted cX1_noted 2 (some .int), Cond.fieldLink RX1 83 "StretchDesk" "latestRefusal" "I"]
def wsX1_near_r3 : List Cond := [Cond.fieldLink RX1 93 "StretchDesk" "refusals" "I", Cond.methodLink RX1 59 yX0_fitted, Cond.methodLink RX1 65 yX0_greater, Cond.static yX0_greater, Cond.code yX0_greater cX0_greater 5 (some .long), Cond.methodLink RX0 30 yX0_isLess, Cond.static yX0_isLess, Cond.code yX0_isLess cX0_isLess 5 (some .boolean), Cond.methodLink RX0 26 yX0_brokenRank, Cond.static yX0_brokenRank, Cond.code yX0_brokenRank cX0_brokenRank 2 (some .long), Cond.constantLong RX0 69 (9223372036854775807), Cond.methodLink RX1 69 yX0_lesser, Cond.static yX0_lesser, Cond.code yX0_lesser cX0_lesser 5 (some .long)]
def wsX1_near : List Cond := .code yX1_near cX1_near 7 (some .long) :: ((wsX1_near_r1 ++ (wsX1_near_r2 ++ wsX1_near_r3)) ++ wsX10)
def wsX1_has_r1 : List Cond := [Cond.fieldLink RX1 9 "StretchDesk" "sorts" "[I", Cond.fieldLink RX1 13 "StretchDesk" "lows" "[J", Cond.fieldLink RX1 17 "StretchDesk" "highs" "[J", Cond.methodLink RX1 55 yX1_refusalToCompare, Cond.instanceMethod yX1_refusalToCompare, Cond.selects RX1 yX1_refusalToCompare yX1_refusalToCompare, Cond.initialized RX1, Cond.code yX1_refusalToCompare cX1_refusalToCompare 5 (some .int), Cond.methodLink RX1 44 yX1_refusalToTake, Cond.instanceMethod yX1_refusalToTake, Cond.selects RX1 yX1_refusalToTake yX1_refusalToTake, Cond.code yX1_refusalToTake cX1_refusalToTake 2 (some .int), Cond.methodLink RX1 40 yX1_isSlot, Cond.static yX1_isSlot, Cond.code yX1_isSlot cX1_isSlot 1 (some .boolean), Cond.methodLink RX1 99 yX0_isNumber, Cond.static yX0_isNumber, Cond.initialized RX0, Cond.code yX0_isNumber cX0_isNumber 3 (some .boolean), Cond.methodLink RX0 9 yX0_isBroken, Cond.static yX0_isBroken, Cond.code yX0_isBroken cX0_isBroken 1 (some .boolean), Cond.methodLink RX0 15 yX0_fitted, Cond.static yX0_fitted]
def wsX1_has_r2 : List Cond := [Cond.code yX0_fitted cX0_fitted 3 (some .long), Cond.methodLink RX0 19 yX0_magnitude, Cond.static yX0_magnitude, Cond.code yX0_magnitude cX0_magnitude 3 (some .long), Cond.constantLong RX0 75 (-1), Cond.methodLink RX0 41 yX0_signMask, Cond.static yX0_signMask, Cond.code yX0_signMask cX0_signMask 1 (some .long), Cond.constantLong RX0 71 (-2147483648), Cond.constantLong RX0 73 (-9223372036854775808), Cond.methodLink RX0 22 yX0_infinity, Cond.static yX0_infinity, Cond.code yX0_infinity cX0_infinity 1 (some .long), Cond.methodLink RX0 77 yX0_bias, Cond.static yX0_bias, Cond.code yX0_bias cX0_bias 1 (some .int), Cond.methodLink RX0 81 yX0_fractionBits, Cond.static yX0_fractionBits, Cond.code yX0_fractionBits cX0_fractionBits 1 (some .int), Cond.methodLink RX1 36 yX1_noted, Cond.instanceMethod yX1_noted, Cond.selects RX1 yX1_noted yX1_noted, Cond.code yX1_noted cX1_noted 2 (some .int), Cond.fieldLink RX1 83 "StretchDesk" "latestRefusal" "I"]
def wsX1_has_r3 : List Cond := [Cond.fieldLink RX1 93 "StretchDesk" "refusals" "I", Cond.methodLink RX1 59 yX0_fitted, Cond.methodLink RX1 72 yX0_isLess, Cond.static yX0_isLess, Cond.code yX0_isLess cX0_isLess 5 (some .boolean), Cond.methodLink RX0 26 yX0_brokenRank, Cond.static yX0_brokenRank, Cond.code yX0_brokenRank cX0_brokenRank 2 (some .long), Cond.constantLong RX0 69 (9223372036854775807)]
def wsX1_has : List Cond := .code yX1_has cX1_has 9 (some .int) :: ((wsX1_has_r1 ++ (wsX1_has_r2 ++ wsX1_has_r3)) ++ wsX10)
def wsX1_alike : List Cond := .code yX1_alike cX1_alike 4 (some .int) :: ([.fieldLink RX1 9 "StretchDesk" "sorts" "[I", .fieldLink RX1 13 "StretchDesk" "lows" "[J", .fieldLink RX1 17 "StretchDesk" "highs" "[J", .methodLink RX1 40 yX1_isSlot, .static yX1_isSlot, .initialized RX1, .code yX1_isSlot cX1_isSlot 1 (some .boolean), .methodLink RX1 36 yX1_noted, .instanceMethod yX1_noted, .selects RX1 yX1_noted yX1_noted, .code yX1_noted cX1_noted 2 (some .int), .fieldLink RX1 83 "StretchDesk" "latestRefusal" "I", .fieldLink RX1 93 "StretchDesk" "refusals" "I"] ++ wsX10)
def wsX1_isStep : List Cond := .code yX1_isStep cX1_isStep 1 (some .boolean) :: ([])
def wsX1_step : List Cond := .code yX1_step cX1_step 6 (some .int) :: ([.fieldLink RX1 20 "StretchDesk" "stepWhats" "[I", .fieldLink RX1 23 "StretchDesk" "stepAs" "[I", .fieldLink RX1 26 "StretchDesk" "stepBs" "[I", .fieldLink RX1 29 "StretchDesk" "stepTos" "[I", .methodLink RX1 76 yX1_areSlots, .static yX1_areSlots, .initialized RX1, .code yX1_areSlots cX1_areSlots 4 (some .boolean), .methodLink RX1 40 yX1_isSlot, .static yX1_isSlot, .code yX1_isSlot cX1_isSlot 1 (some .boolean), .methodLink RX1 96 yX1_takesTwo, .static yX1_takesTwo, .code yX1_takesTwo cX1_takesTwo 1 (some .boolean), .methodLink RX1 36 yX1_noted, .instanceMethod yX1_noted, .selects RX1 yX1_noted yX1_noted, .code yX1_noted cX1_noted 2 (some .int), .fieldLink RX1 83 "StretchDesk" "latestRefusal" "I", .fieldLink RX1 93 "StretchDesk" "refusals" "I", .methodLink RX1 80 yX1_isStep, .static yX1_isStep, .code yX1_isStep cX1_isStep 1 (some .boolean)] ++ wsX10)
def wsX1_run_r1 : List Cond := [Cond.fieldLink RX1 83 "StretchDesk" "latestRefusal" "I", Cond.fieldLink RX1 20 "StretchDesk" "stepWhats" "[I", Cond.fieldLink RX1 23 "StretchDesk" "stepAs" "[I", Cond.fieldLink RX1 26 "StretchDesk" "stepBs" "[I", Cond.fieldLink RX1 29 "StretchDesk" "stepTos" "[I", Cond.fieldLink RX1 86 "StretchDesk" "stepsDone" "I", Cond.methodLink RX1 80 yX1_isStep, Cond.static yX1_isStep, Cond.initialized RX1, Cond.code yX1_isStep cX1_isStep 1 (some .boolean), Cond.methodLink RX1 36 yX1_noted, Cond.instanceMethod yX1_noted, Cond.selects RX1 yX1_noted yX1_noted, Cond.code yX1_noted cX1_noted 2 (some .int), Cond.fieldLink RX1 93 "StretchDesk" "refusals" "I", Cond.methodLink RX1 51 yX1_performed, Cond.instanceMethod yX1_performed, Cond.selects RX1 yX1_performed yX1_performed, Cond.code yX1_performed cX1_performed 6 (some .int), Cond.methodLink RX1 109 yX1_refusalToPerform, Cond.instanceMethod yX1_refusalToPerform, Cond.selects RX1 yX1_refusalToPerform yX1_refusalToPerform, Cond.code yX1_refusalToPerform cX1_refusalToPerform 5 (some .int), Cond.fieldLink RX1 9 "StretchDesk" "sorts" "[I"]
def wsX1_run_r2 : List Cond := [Cond.methodLink RX1 76 yX1_areSlots, Cond.static yX1_areSlots, Cond.code yX1_areSlots cX1_areSlots 4 (some .boolean), Cond.methodLink RX1 40 yX1_isSlot, Cond.static yX1_isSlot, Cond.code yX1_isSlot cX1_isSlot 1 (some .boolean), Cond.methodLink RX1 96 yX1_takesTwo, Cond.static yX1_takesTwo, Cond.code yX1_takesTwo cX1_takesTwo 1 (some .boolean), Cond.methodLink RX1 112 yX1_joined, Cond.instanceMethod yX1_joined, Cond.selects RX1 yX1_joined yX1_joined, Cond.code yX1_joined cX1_joined 9 (some .int), Cond.fieldLink RX1 13 "StretchDesk" "lows" "[J", Cond.fieldLink RX1 17 "StretchDesk" "highs" "[J", Cond.methodLink RX1 69 yX0_lesser, Cond.static yX0_lesser, Cond.initialized RX0, Cond.code yX0_lesser cX0_lesser 5 (some .long), Cond.methodLink RX0 30 yX0_isLess, Cond.static yX0_isLess, Cond.code yX0_isLess cX0_isLess 5 (some .boolean), Cond.methodLink RX0 9 yX0_isBroken, Cond.static yX0_isBroken]
def wsX1_run_r3 : List Cond := [Cond.code yX0_isBroken cX0_isBroken 1 (some .boolean), Cond.methodLink RX0 26 yX0_brokenRank, Cond.static yX0_brokenRank, Cond.code yX0_brokenRank cX0_brokenRank 2 (some .long), Cond.constantLong RX0 69 (9223372036854775807), Cond.methodLink RX1 65 yX0_greater, Cond.static yX0_greater, Cond.code yX0_greater cX0_greater 5 (some .long), Cond.methodLink RX1 106 yX1_put, Cond.instanceMethod yX1_put, Cond.selects RX1 yX1_put yX1_put, Cond.code yX1_put cX1_put 7 (some .int), Cond.methodLink RX1 116 yX1_cut, Cond.instanceMethod yX1_cut, Cond.selects RX1 yX1_cut yX1_cut, Cond.code yX1_cut cX1_cut 9 (some .int), Cond.methodLink RX1 138 yX1_putIfAny, Cond.instanceMethod yX1_putIfAny, Cond.selects RX1 yX1_putIfAny yX1_putIfAny, Cond.code yX1_putIfAny cX1_putIfAny 7 (some .int), Cond.methodLink RX1 72 yX0_isLess, Cond.methodLink RX1 119 yX1_sized, Cond.instanceMethod yX1_sized, Cond.selects RX1 yX1_sized yX1_sized]
def wsX1_run_r4 : List Cond := [Cond.code yX1_sized cX1_sized 8 (some .int), Cond.methodLink RX1 141 yX0_sizeOf, Cond.static yX0_sizeOf, Cond.code yX0_sizeOf cX0_sizeOf 3 (some .long), Cond.methodLink RX0 38 yX0_negated, Cond.static yX0_negated, Cond.code yX0_negated cX0_negated 3 (some .long), Cond.methodLink RX0 41 yX0_signMask, Cond.static yX0_signMask, Cond.code yX0_signMask cX0_signMask 1 (some .long), Cond.constantLong RX0 71 (-2147483648), Cond.constantLong RX0 73 (-9223372036854775808), Cond.methodLink RX0 15 yX0_fitted, Cond.static yX0_fitted, Cond.code yX0_fitted cX0_fitted 3 (some .long), Cond.methodLink RX1 144 yX0_isBelowZero, Cond.static yX0_isBelowZero, Cond.code yX0_isBelowZero cX0_isBelowZero 3 (some .boolean), Cond.methodLink RX0 34 yX0_isZero, Cond.static yX0_isZero, Cond.code yX0_isZero cX0_isZero 3 (some .boolean), Cond.methodLink RX0 19 yX0_magnitude, Cond.static yX0_magnitude, Cond.code yX0_magnitude cX0_magnitude 3 (some .long)]
def wsX1_run_r5 : List Cond := [Cond.constantLong RX0 75 (-1), Cond.methodLink RX1 147 yX0_isAboveZero, Cond.static yX0_isAboveZero, Cond.code yX0_isAboveZero cX0_isAboveZero 2 (some .boolean), Cond.methodLink RX1 151 yX1_putOrdered, Cond.instanceMethod yX1_putOrdered, Cond.selects RX1 yX1_putOrdered yX1_putOrdered, Cond.code yX1_putOrdered cX1_putOrdered 7 (some .int), Cond.methodLink RX1 123 yX1_rounded, Cond.instanceMethod yX1_rounded, Cond.selects RX1 yX1_rounded yX1_rounded, Cond.code yX1_rounded cX1_rounded 7 (some .int), Cond.methodLink RX1 154 yX0_isBroken, Cond.methodLink RX1 157 yX0_whole, Cond.static yX0_whole, Cond.code yX0_whole cX0_whole 7 (some .long), Cond.methodLink RX0 51 yX0_wholeMagnitude, Cond.static yX0_wholeMagnitude, Cond.code yX0_wholeMagnitude cX0_wholeMagnitude 12 (some .long), Cond.methodLink RX0 84 yX0_power, Cond.static yX0_power, Cond.code yX0_power cX0_power 3 (some .int), Cond.methodLink RX0 81 yX0_fractionBits, Cond.static yX0_fractionBits]
def wsX1_run_r6 : List Cond := [Cond.code yX0_fractionBits cX0_fractionBits 1 (some .int), Cond.methodLink RX0 77 yX0_bias, Cond.static yX0_bias, Cond.code yX0_bias cX0_bias 1 (some .int), Cond.methodLink RX0 88 yX0_half, Cond.static yX0_half, Cond.code yX0_half cX0_half 1 (some .long), Cond.methodLink RX0 44 yX0_one, Cond.static yX0_one, Cond.code yX0_one cX0_one 1 (some .long), Cond.methodLink RX0 91 yX0_nearestShifted, Cond.static yX0_nearestShifted, Cond.code yX0_nearestShifted cX0_nearestShifted 10 (some .long), Cond.methodLink RX0 47 yX0_withSign, Cond.static yX0_withSign, Cond.code yX0_withSign cX0_withSign 5 (some .long), Cond.methodLink RX1 126 yX1_signed, Cond.instanceMethod yX1_signed, Cond.selects RX1 yX1_signed yX1_signed, Cond.code yX1_signed cX1_signed 4 (some .int), Cond.methodLink RX1 161 yX0_signOf, Cond.static yX0_signOf, Cond.code yX0_signOf cX0_signOf 3 (some .long), Cond.methodLink RX1 129 yX1_lent]
def wsX1_run_r7 : List Cond := [Cond.instanceMethod yX1_lent, Cond.selects RX1 yX1_lent yX1_lent, Cond.code yX1_lent cX1_lent 9 (some .int), Cond.methodLink RX1 164 yX0_withSign, Cond.methodLink RX1 132 yX1_turned, Cond.instanceMethod yX1_turned, Cond.selects RX1 yX1_turned yX1_turned, Cond.code yX1_turned cX1_turned 4 (some .int), Cond.methodLink RX1 167 yX0_negated, Cond.methodLink RX1 135 yX1_converted, Cond.instanceMethod yX1_converted, Cond.selects RX1 yX1_converted yX1_converted, Cond.code yX1_converted cX1_converted 8 (some .int), Cond.methodLink RX1 103 yX1_isSort, Cond.static yX1_isSort, Cond.code yX1_isSort cX1_isSort 1 (some .boolean), Cond.methodLink RX1 170 yX0_ofSort, Cond.static yX0_ofSort, Cond.code yX0_ofSort cX0_ofSort 8 (some .long), Cond.methodLink RX0 55 yX0_brokenToWhole, Cond.static yX0_brokenToWhole, Cond.code yX0_brokenToWhole cX0_brokenToWhole 12 (some .long), Cond.methodLink RX0 98 yX0_extreme, Cond.static yX0_extreme]
def wsX1_run_r8 : List Cond := [Cond.code yX0_extreme cX0_extreme 2 (some .long), Cond.constantLong RX0 105 (2147483647), Cond.methodLink RX0 102 yX0_mantissa, Cond.static yX0_mantissa, Cond.code yX0_mantissa cX0_mantissa 5 (some .long), Cond.methodLink RX0 59 yX0_wholeToBroken, Cond.static yX0_wholeToBroken, Cond.code yX0_wholeToBroken cX0_wholeToBroken 11 (some .long), Cond.methodLink RX0 94 yX0_highestBit, Cond.static yX0_highestBit, Cond.code yX0_highestBit cX0_highestBit 3 (some .int), Cond.methodLink RX0 63 yX0_widened, Cond.static yX0_widened, Cond.code yX0_widened cX0_widened 5 (some .long), Cond.constantLong RX0 107 (4035225266123964416), Cond.methodLink RX0 22 yX0_infinity, Cond.static yX0_infinity, Cond.code yX0_infinity cX0_infinity 1 (some .long), Cond.methodLink RX0 66 yX0_narrowed, Cond.static yX0_narrowed, Cond.code yX0_narrowed cX0_narrowed 5 (some .long)]
def wsX1_run : List Cond := .code yX1_run cX1_run 5 (some .int) :: ((wsX1_run_r1 ++ (wsX1_run_r2 ++ (wsX1_run_r3 ++ (wsX1_run_r4 ++ (wsX1_run_r5 ++ (wsX1_run_r6 ++ (wsX1_run_r7 ++ wsX1_run_r8))))))) ++ wsX10)
def wsX1_state : List Cond := .code yX1_state cX1_state 1 (some .int) :: ([.fieldLink RX1 83 "StretchDesk" "latestRefusal" "I"] ++ wsX10)
def wsX1_present : List Cond := .code yX1_present cX1_present 3 (some .int) :: ([])
def wsX1_about : List Cond := .code yX1_about cX1_about 2 (some .int) :: ([.fieldLink RX1 9 "StretchDesk" "sorts" "[I", .fieldLink RX1 20 "StretchDesk" "stepWhats" "[I", .fieldLink RX1 93 "StretchDesk" "refusals" "I", .fieldLink RX1 47 "StretchDesk" "endsTold" "I", .fieldLink RX1 86 "StretchDesk" "stepsDone" "I", .methodLink RX1 89 yX1_present, .static yX1_present, .initialized RX1, .code yX1_present cX1_present 3 (some .int)] ++ wsX10)
def wsX2_init : List Cond := .code yX2_init cX2_init 1 none :: ([.methodLink RX2 1 objectInit, .instanceMethod objectInit, .code objectInit ⟨#[0xb1]⟩ 1 none, .arrayClass .int, .fieldLink RX2 7 "StretchDeskModel" "sorts" "[I", .arrayClass .long, .fieldLink RX2 13 "StretchDeskModel" "lows" "[J", .fieldLink RX2 17 "StretchDeskModel" "highs" "[J", .arrayClass .boolean, .fieldLink RX2 20 "StretchDeskModel" "there" "[Z", .fieldLink RX2 24 "StretchDeskModel" "what" "[I", .fieldLink RX2 27 "StretchDeskModel" "first" "[I", .fieldLink RX2 30 "StretchDeskModel" "second" "[I", .fieldLink RX2 33 "StretchDeskModel" "goal" "[I"] ++ wsX20)
def wsX2_refuses : List Cond := .code yX2_refuses cX2_refuses 2 (some .int) :: ([.fieldLink RX2 36 "StretchDeskModel" "state" "I", .fieldLink RX2 40 "StretchDeskModel" "refused" "I"] ++ wsX20)
def wsX2_says : List Cond := .code yX2_says cX2_says 2 (some .int) :: ([.fieldLink RX2 36 "StretchDeskModel" "state" "I"] ++ wsX20)
def wsX2_isSlot : List Cond := .code yX2_isSlot cX2_isSlot 1 (some .boolean) :: ([])
def wsX2_whyNot : List Cond := .code yX2_whyNot cX2_whyNot 4 (some .int) :: ([.fieldLink RX2 7 "StretchDeskModel" "sorts" "[I", .methodLink RX2 43 yX2_isSlot, .static yX2_isSlot, .initialized RX2, .code yX2_isSlot cX2_isSlot 1 (some .boolean)] ++ wsX20)
def wsX2_isBroken : List Cond := .code yX2_isBroken cX2_isBroken 1 (some .boolean) :: ([])
def wsX2_taken : List Cond := .code yX2_taken cX2_taken 3 (some .long) :: ([])
def wsX2_magnitude : List Cond := .code yX2_magnitude cX2_magnitude 3 (some .long) :: ([.constantLong RX2 47 (2147483647), .constantLong RX2 49 (9223372036854775807)])
def wsX2_endless : List Cond := .code yX2_endless cX2_endless 1 (some .long) :: ([.constantLong RX2 51 (2139095040), .constantLong RX2 53 (9218868437227405312)])
def wsX2_one : List Cond := .code yX2_one cX2_one 1 (some .long) :: ([.constantLong RX2 55 (1065353216), .constantLong RX2 57 (4607182418800017408)])
def wsX2_signed : List Cond := .code yX2_signed cX2_signed 4 (some .long) :: ([.constantLong RX2 59 (2147483648), .constantLong RX2 61 (-9223372036854775808)])
def wsX2_isNumber : List Cond := .code yX2_isNumber cX2_isNumber 3 (some .boolean) :: ([.methodLink RX2 63 yX2_isBroken, .static yX2_isBroken, .initialized RX2, .code yX2_isBroken cX2_isBroken 1 (some .boolean), .methodLink RX2 66 yX2_magnitude, .static yX2_magnitude, .code yX2_magnitude cX2_magnitude 3 (some .long), .constantLong RX2 47 (2147483647), .constantLong RX2 49 (9223372036854775807), .methodLink RX2 70 yX2_endless, .static yX2_endless, .code yX2_endless cX2_endless 1 (some .long), .constantLong RX2 51 (2139095040), .constantLong RX2 53 (9218868437227405312)])
def wsX2_rank : List Cond := .code yX2_rank cX2_rank 3 (some .long) :: ([.constantLong RX2 47 (2147483647), .constantLong RX2 49 (9223372036854775807), .methodLink RX2 63 yX2_isBroken, .static yX2_isBroken, .initialized RX2, .code yX2_isBroken cX2_isBroken 1 (some .boolean)])
def wsX2_isAbove : List Cond := .code yX2_isAbove cX2_isAbove 5 (some .boolean) :: ([.methodLink RX2 74 yX2_rank, .static yX2_rank, .initialized RX2, .code yX2_rank cX2_rank 3 (some .long), .constantLong RX2 47 (2147483647), .constantLong RX2 49 (9223372036854775807), .methodLink RX2 63 yX2_isBroken, .static yX2_isBroken, .code yX2_isBroken cX2_isBroken 1 (some .boolean)])
def wsX2_greater : List Cond := .code yX2_greater cX2_greater 5 (some .long) :: ([.methodLink RX2 77 yX2_isAbove, .static yX2_isAbove, .initialized RX2, .code yX2_isAbove cX2_isAbove 5 (some .boolean), .methodLink RX2 74 yX2_rank, .static yX2_rank, .code yX2_rank cX2_rank 3 (some .long), .constantLong RX2 47 (2147483647), .constantLong RX2 49 (9223372036854775807), .methodLink RX2 63 yX2_isBroken, .static yX2_isBroken, .code yX2_isBroken cX2_isBroken 1 (some .boolean)])
def wsX2_lesser : List Cond := .code yX2_lesser cX2_lesser 5 (some .long) :: ([.methodLink RX2 77 yX2_isAbove, .static yX2_isAbove, .initialized RX2, .code yX2_isAbove cX2_isAbove 5 (some .boolean), .methodLink RX2 74 yX2_rank, .static yX2_rank, .code yX2_rank cX2_rank 3 (some .long), .constantLong RX2 47 (2147483647), .constantLong RX2 49 (9223372036854775807), .methodLink RX2 63 yX2_isBroken, .static yX2_isBroken, .code yX2_isBroken cX2_isBroken 1 (some .boolean)])
def wsX2_sizeOf : List Cond := .code yX2_sizeOf cX2_sizeOf 3 (some .long) :: ([.methodLink RX2 63 yX2_isBroken, .static yX2_isBroken, .initialized RX2, .code yX2_isBroken cX2_isBroken 1 (some .boolean), .methodLink RX2 66 yX2_magnitude, .static yX2_magnitude, .code yX2_magnitude cX2_magnitude 3 (some .long), .constantLong RX2 47 (2147483647), .constantLong RX2 49 (9223372036854775807), .methodLink RX2 81 yX2_taken, .static yX2_taken, .code yX2_taken cX2_taken 3 (some .long)])
def wsX2_turned : List Cond := .code yX2_turned cX2_turned 3 (some .long) :: ([.methodLink RX2 63 yX2_isBroken, .static yX2_isBroken, .initialized RX2, .code yX2_isBroken cX2_isBroken 1 (some .boolean), .methodLink RX2 66 yX2_magnitude, .static yX2_magnitude, .code yX2_magnitude cX2_magnitude 3 (some .long), .constantLong RX2 47 (2147483647), .constantLong RX2 49 (9223372036854775807), .methodLink RX2 84 yX2_signed, .static yX2_signed, .code yX2_signed cX2_signed 4 (some .long), .constantLong RX2 59 (2147483648), .constantLong RX2 61 (-9223372036854775808), .methodLink RX2 81 yX2_taken, .static yX2_taken, .code yX2_taken cX2_taken 3 (some .long)])
def wsX2_isZero : List Cond := .code yX2_isZero cX2_isZero 3 (some .boolean) :: ([.methodLink RX2 63 yX2_isBroken, .static yX2_isBroken, .initialized RX2, .code yX2_isBroken cX2_isBroken 1 (some .boolean), .methodLink RX2 66 yX2_magnitude, .static yX2_magnitude, .code yX2_magnitude cX2_magnitude 3 (some .long), .constantLong RX2 47 (2147483647), .constantLong RX2 49 (9223372036854775807)])
def wsX2_whole : List Cond := .code yX2_whole cX2_whole 17 (some .long) :: ([.constantLong RX2 91 (2), .methodLink RX2 66 yX2_magnitude, .static yX2_magnitude, .initialized RX2, .code yX2_magnitude cX2_magnitude 3 (some .long), .constantLong RX2 47 (2147483647), .constantLong RX2 49 (9223372036854775807), .methodLink RX2 88 yX2_one, .static yX2_one, .code yX2_one cX2_one 1 (some .long), .constantLong RX2 55 (1065353216), .constantLong RX2 57 (4607182418800017408), .methodLink RX2 84 yX2_signed, .static yX2_signed, .code yX2_signed cX2_signed 4 (some .long), .constantLong RX2 59 (2147483648), .constantLong RX2 61 (-9223372036854775808)])
def wsJxf58ca_isNaN_12338 : List Cond := .code yJxf58ca_isNaN_12338 cJxf58ca_isNaN_12338 1 (some .boolean) :: ([])
def wsJxf58ca_floatToIntBits_5c35a : List Cond := .code yJxf58ca_floatToIntBits_5c35a cJxf58ca_floatToIntBits_5c35a 1 (some .int) :: ([.methodLink RJxf58ca 74 ⟨"java/lang/Float", "floatToRawIntBits", "(F)I"⟩, .native ⟨"java/lang/Float", "floatToRawIntBits", "(F)I"⟩, .static ⟨"java/lang/Float", "floatToRawIntBits", "(F)I"⟩, .initialized "java/lang/Float", .constant RJxf58ca 77 (2143289344), .methodLink RJxf58ca 59 yJxf58ca_isNaN_12338, .static yJxf58ca_isNaN_12338, .initialized RJxf58ca, .code yJxf58ca_isNaN_12338 cJxf58ca_isNaN_12338 1 (some .boolean)])
def wsJxe99ae_isNaN_b9ae7 : List Cond := .code yJxe99ae_isNaN_b9ae7 cJxe99ae_isNaN_b9ae7 2 (some .boolean) :: ([])
def wsJxe99ae_doubleToLongBits_ccdee : List Cond := .code yJxe99ae_doubleToLongBits_ccdee cJxe99ae_doubleToLongBits_ccdee 2 (some .long) :: ([.methodLink RJxe99ae 134 ⟨"java/lang/Double", "doubleToRawLongBits", "(D)J"⟩, .native ⟨"java/lang/Double", "doubleToRawLongBits", "(D)J"⟩, .static ⟨"java/lang/Double", "doubleToRawLongBits", "(D)J"⟩, .initialized "java/lang/Double", .constantLong RJxe99ae 137 (9221120237041090560), .methodLink RJxe99ae 122 yJxe99ae_isNaN_b9ae7, .static yJxe99ae_isNaN_b9ae7, .initialized RJxe99ae, .code yJxe99ae_isNaN_b9ae7 cJxe99ae_isNaN_b9ae7 2 (some .boolean)])
def wsX2_made_r1 : List Cond := [Cond.methodLink RX2 105 ⟨"java/lang/Float", "intBitsToFloat", "(I)F"⟩, Cond.native ⟨"java/lang/Float", "intBitsToFloat", "(I)F"⟩, Cond.static ⟨"java/lang/Float", "intBitsToFloat", "(I)F"⟩, Cond.initialized "java/lang/Float", Cond.methodLink RX2 109 ⟨"java/lang/Double", "longBitsToDouble", "(J)D"⟩, Cond.native ⟨"java/lang/Double", "longBitsToDouble", "(J)D"⟩, Cond.static ⟨"java/lang/Double", "longBitsToDouble", "(J)D"⟩, Cond.initialized "java/lang/Double", Cond.methodLink RX2 63 yX2_isBroken, Cond.static yX2_isBroken, Cond.initialized RX2, Cond.code yX2_isBroken cX2_isBroken 1 (some .boolean), Cond.methodLink RX2 81 yX2_taken, Cond.static yX2_taken, Cond.code yX2_taken cX2_taken 3 (some .long), Cond.methodLink RX2 93 yJxf58ca_floatToIntBits_5c35a, Cond.static yJxf58ca_floatToIntBits_5c35a, Cond.initialized RJxf58ca, Cond.code yJxf58ca_floatToIntBits_5c35a cJxf58ca_floatToIntBits_5c35a 1 (some .int), Cond.methodLink RJxf58ca 74 ⟨"java/lang/Float", "floatToRawIntBits", "(F)I"⟩, Cond.native ⟨"java/lang/Float", "floatToRawIntBits", "(F)I"⟩, Cond.static ⟨"java/lang/Float", "floatToRawIntBits", "(F)I"⟩, Cond.constant RJxf58ca 77 (2143289344), Cond.methodLink RJxf58ca 59 yJxf58ca_isNaN_12338]
def wsX2_made_r2 : List Cond := [Cond.static yJxf58ca_isNaN_12338, Cond.code yJxf58ca_isNaN_12338 cJxf58ca_isNaN_12338 1 (some .boolean), Cond.methodLink RX2 99 yJxe99ae_doubleToLongBits_ccdee, Cond.static yJxe99ae_doubleToLongBits_ccdee, Cond.initialized RJxe99ae, Cond.code yJxe99ae_doubleToLongBits_ccdee cJxe99ae_doubleToLongBits_ccdee 2 (some .long), Cond.methodLink RJxe99ae 134 ⟨"java/lang/Double", "doubleToRawLongBits", "(D)J"⟩, Cond.native ⟨"java/lang/Double", "doubleToRawLongBits", "(D)J"⟩, Cond.static ⟨"java/lang/Double", "doubleToRawLongBits", "(D)J"⟩, Cond.constantLong RJxe99ae 137 (9221120237041090560), Cond.methodLink RJxe99ae 122 yJxe99ae_isNaN_b9ae7, Cond.static yJxe99ae_isNaN_b9ae7, Cond.code yJxe99ae_isNaN_b9ae7 cJxe99ae_isNaN_b9ae7 2 (some .boolean)]
def wsX2_made : List Cond := .code yX2_made cX2_made 6 (some .long) :: ((wsX2_made_r1 ++ wsX2_made_r2))
def wsX2_comes : List Cond := .code yX2_comes cX2_comes 7 (some .int) :: ([.fieldLink RX2 7 "StretchDeskModel" "sorts" "[I", .fieldLink RX2 13 "StretchDeskModel" "lows" "[J", .fieldLink RX2 17 "StretchDeskModel" "highs" "[J", .methodLink RX2 113 yX2_says, .instanceMethod yX2_says, .selects RX2 yX2_says yX2_says, .initialized RX2, .code yX2_says cX2_says 2 (some .int), .fieldLink RX2 36 "StretchDeskModel" "state" "I"] ++ wsX20)
def wsX2_ordered_r1 : List Cond := [Cond.methodLink RX2 117 yX2_lesser, Cond.static yX2_lesser, Cond.initialized RX2, Cond.code yX2_lesser cX2_lesser 5 (some .long), Cond.methodLink RX2 77 yX2_isAbove, Cond.static yX2_isAbove, Cond.code yX2_isAbove cX2_isAbove 5 (some .boolean), Cond.methodLink RX2 74 yX2_rank, Cond.static yX2_rank, Cond.code yX2_rank cX2_rank 3 (some .long), Cond.constantLong RX2 47 (2147483647), Cond.constantLong RX2 49 (9223372036854775807), Cond.methodLink RX2 63 yX2_isBroken, Cond.static yX2_isBroken, Cond.code yX2_isBroken cX2_isBroken 1 (some .boolean), Cond.methodLink RX2 121 yX2_greater, Cond.static yX2_greater, Cond.code yX2_greater cX2_greater 5 (some .long), Cond.methodLink RX2 124 yX2_comes, Cond.instanceMethod yX2_comes, Cond.selects RX2 yX2_comes yX2_comes, Cond.code yX2_comes cX2_comes 7 (some .int), Cond.fieldLink RX2 7 "StretchDeskModel" "sorts" "[I", Cond.fieldLink RX2 13 "StretchDeskModel" "lows" "[J"]
def wsX2_ordered_r2 : List Cond := [Cond.fieldLink RX2 17 "StretchDeskModel" "highs" "[J", Cond.methodLink RX2 113 yX2_says, Cond.instanceMethod yX2_says, Cond.selects RX2 yX2_says yX2_says, Cond.code yX2_says cX2_says 2 (some .int), Cond.fieldLink RX2 36 "StretchDeskModel" "state" "I"]
def wsX2_ordered : List Cond := .code yX2_ordered cX2_ordered 7 (some .int) :: ((wsX2_ordered_r1 ++ wsX2_ordered_r2) ++ wsX20)
def wsX2_emptied : List Cond := .code yX2_emptied cX2_emptied 2 (some .int) :: ([.fieldLink RX2 7 "StretchDeskModel" "sorts" "[I", .methodLink RX2 113 yX2_says, .instanceMethod yX2_says, .selects RX2 yX2_says yX2_says, .initialized RX2, .code yX2_says cX2_says 2 (some .int), .fieldLink RX2 36 "StretchDeskModel" "state" "I"] ++ wsX20)
def wsX2_set_r1 : List Cond := [Cond.methodLink RX2 43 yX2_isSlot, Cond.static yX2_isSlot, Cond.initialized RX2, Cond.code yX2_isSlot cX2_isSlot 1 (some .boolean), Cond.methodLink RX2 128 yX2_refuses, Cond.instanceMethod yX2_refuses, Cond.selects RX2 yX2_refuses yX2_refuses, Cond.code yX2_refuses cX2_refuses 2 (some .int), Cond.fieldLink RX2 36 "StretchDeskModel" "state" "I", Cond.fieldLink RX2 40 "StretchDeskModel" "refused" "I", Cond.methodLink RX2 81 yX2_taken, Cond.static yX2_taken, Cond.code yX2_taken cX2_taken 3 (some .long), Cond.methodLink RX2 131 yX2_isNumber, Cond.static yX2_isNumber, Cond.code yX2_isNumber cX2_isNumber 3 (some .boolean), Cond.methodLink RX2 63 yX2_isBroken, Cond.static yX2_isBroken, Cond.code yX2_isBroken cX2_isBroken 1 (some .boolean), Cond.methodLink RX2 66 yX2_magnitude, Cond.static yX2_magnitude, Cond.code yX2_magnitude cX2_magnitude 3 (some .long), Cond.constantLong RX2 47 (2147483647), Cond.constantLong RX2 49 (9223372036854775807)]
def wsX2_set_r2 : List Cond := [Cond.methodLink RX2 70 yX2_endless, Cond.static yX2_endless, Cond.code yX2_endless cX2_endless 1 (some .long), Cond.constantLong RX2 51 (2139095040), Cond.constantLong RX2 53 (9218868437227405312), Cond.methodLink RX2 77 yX2_isAbove, Cond.static yX2_isAbove, Cond.code yX2_isAbove cX2_isAbove 5 (some .boolean), Cond.methodLink RX2 74 yX2_rank, Cond.static yX2_rank, Cond.code yX2_rank cX2_rank 3 (some .long), Cond.methodLink RX2 124 yX2_comes, Cond.instanceMethod yX2_comes, Cond.selects RX2 yX2_comes yX2_comes, Cond.code yX2_comes cX2_comes 7 (some .int), Cond.fieldLink RX2 7 "StretchDeskModel" "sorts" "[I", Cond.fieldLink RX2 13 "StretchDeskModel" "lows" "[J", Cond.fieldLink RX2 17 "StretchDeskModel" "highs" "[J", Cond.methodLink RX2 113 yX2_says, Cond.instanceMethod yX2_says, Cond.selects RX2 yX2_says yX2_says, Cond.code yX2_says cX2_says 2 (some .int)]
def wsX2_set : List Cond := .code yX2_set cX2_set 11 (some .int) :: ((wsX2_set_r1 ++ wsX2_set_r2) ++ wsX20)
def wsX2_clear : List Cond := .code yX2_clear cX2_clear 3 (some .int) :: ([.fieldLink RX2 7 "StretchDeskModel" "sorts" "[I", .methodLink RX2 43 yX2_isSlot, .static yX2_isSlot, .initialized RX2, .code yX2_isSlot cX2_isSlot 1 (some .boolean), .methodLink RX2 128 yX2_refuses, .instanceMethod yX2_refuses, .selects RX2 yX2_refuses yX2_refuses, .code yX2_refuses cX2_refuses 2 (some .int), .fieldLink RX2 36 "StretchDeskModel" "state" "I", .fieldLink RX2 40 "StretchDeskModel" "refused" "I", .methodLink RX2 113 yX2_says, .instanceMethod yX2_says, .selects RX2 yX2_says yX2_says, .code yX2_says cX2_says 2 (some .int)] ++ wsX20)
def wsX2_sort : List Cond := .code yX2_sort cX2_sort 3 (some .int) :: ([.fieldLink RX2 7 "StretchDeskModel" "sorts" "[I", .methodLink RX2 135 yX2_whyNot, .instanceMethod yX2_whyNot, .selects RX2 yX2_whyNot yX2_whyNot, .initialized RX2, .code yX2_whyNot cX2_whyNot 4 (some .int), .methodLink RX2 43 yX2_isSlot, .static yX2_isSlot, .code yX2_isSlot cX2_isSlot 1 (some .boolean), .methodLink RX2 128 yX2_refuses, .instanceMethod yX2_refuses, .selects RX2 yX2_refuses yX2_refuses, .code yX2_refuses cX2_refuses 2 (some .int), .fieldLink RX2 36 "StretchDeskModel" "state" "I", .fieldLink RX2 40 "StretchDeskModel" "refused" "I", .methodLink RX2 113 yX2_says, .instanceMethod yX2_says, .selects RX2 yX2_says yX2_says, .code yX2_says cX2_says 2 (some .int)] ++ wsX20)
def wsX2_end : List Cond := .code yX2_end cX2_end 4 (some .long) :: ([.fieldLink RX2 36 "StretchDeskModel" "state" "I", .fieldLink RX2 139 "StretchDeskModel" "told" "I", .fieldLink RX2 17 "StretchDeskModel" "highs" "[J", .fieldLink RX2 13 "StretchDeskModel" "lows" "[J", .methodLink RX2 135 yX2_whyNot, .instanceMethod yX2_whyNot, .selects RX2 yX2_whyNot yX2_whyNot, .initialized RX2, .code yX2_whyNot cX2_whyNot 4 (some .int), .fieldLink RX2 7 "StretchDeskModel" "sorts" "[I", .methodLink RX2 43 yX2_isSlot, .static yX2_isSlot, .code yX2_isSlot cX2_isSlot 1 (some .boolean), .methodLink RX2 128 yX2_refuses, .instanceMethod yX2_refuses, .selects RX2 yX2_refuses yX2_refuses, .code yX2_refuses cX2_refuses 2 (some .int), .fieldLink RX2 40 "StretchDeskModel" "refused" "I"] ++ wsX20)
def wsX2_low : List Cond := .code yX2_low cX2_low 2 (some .long) :: ([.methodLink RX2 142 yX2_end, .instanceMethod yX2_end, .selects RX2 yX2_end yX2_end, .initialized RX2, .code yX2_end cX2_end 4 (some .long), .fieldLink RX2 36 "StretchDeskModel" "state" "I", .fieldLink RX2 139 "StretchDeskModel" "told" "I", .fieldLink RX2 17 "StretchDeskModel" "highs" "[J", .fieldLink RX2 13 "StretchDeskModel" "lows" "[J", .methodLink RX2 135 yX2_whyNot, .instanceMethod yX2_whyNot, .selects RX2 yX2_whyNot yX2_whyNot, .code yX2_whyNot cX2_whyNot 4 (some .int), .fieldLink RX2 7 "StretchDeskModel" "sorts" "[I", .methodLink RX2 43 yX2_isSlot, .static yX2_isSlot, .code yX2_isSlot cX2_isSlot 1 (some .boolean), .methodLink RX2 128 yX2_refuses, .instanceMethod yX2_refuses, .selects RX2 yX2_refuses yX2_refuses, .code yX2_refuses cX2_refuses 2 (some .int), .fieldLink RX2 40 "StretchDeskModel" "refused" "I"] ++ wsX20)
def wsX2_high : List Cond := .code yX2_high cX2_high 2 (some .long) :: ([.methodLink RX2 142 yX2_end, .instanceMethod yX2_end, .selects RX2 yX2_end yX2_end, .initialized RX2, .code yX2_end cX2_end 4 (some .long), .fieldLink RX2 36 "StretchDeskModel" "state" "I", .fieldLink RX2 139 "StretchDeskModel" "told" "I", .fieldLink RX2 17 "StretchDeskModel" "highs" "[J", .fieldLink RX2 13 "StretchDeskModel" "lows" "[J", .methodLink RX2 135 yX2_whyNot, .instanceMethod yX2_whyNot, .selects RX2 yX2_whyNot yX2_whyNot, .code yX2_whyNot cX2_whyNot 4 (some .int), .fieldLink RX2 7 "StretchDeskModel" "sorts" "[I", .methodLink RX2 43 yX2_isSlot, .static yX2_isSlot, .code yX2_isSlot cX2_isSlot 1 (some .boolean), .methodLink RX2 128 yX2_refuses, .instanceMethod yX2_refuses, .selects RX2 yX2_refuses yX2_refuses, .code yX2_refuses cX2_refuses 2 (some .int), .fieldLink RX2 40 "StretchDeskModel" "refused" "I"] ++ wsX20)
def wsX2_hull_r1 : List Cond := [Cond.fieldLink RX2 7 "StretchDeskModel" "sorts" "[I", Cond.fieldLink RX2 13 "StretchDeskModel" "lows" "[J", Cond.fieldLink RX2 17 "StretchDeskModel" "highs" "[J", Cond.methodLink RX2 135 yX2_whyNot, Cond.instanceMethod yX2_whyNot, Cond.selects RX2 yX2_whyNot yX2_whyNot, Cond.initialized RX2, Cond.code yX2_whyNot cX2_whyNot 4 (some .int), Cond.methodLink RX2 43 yX2_isSlot, Cond.static yX2_isSlot, Cond.code yX2_isSlot cX2_isSlot 1 (some .boolean), Cond.methodLink RX2 128 yX2_refuses, Cond.instanceMethod yX2_refuses, Cond.selects RX2 yX2_refuses yX2_refuses, Cond.code yX2_refuses cX2_refuses 2 (some .int), Cond.fieldLink RX2 36 "StretchDeskModel" "state" "I", Cond.fieldLink RX2 40 "StretchDeskModel" "refused" "I", Cond.methodLink RX2 117 yX2_lesser, Cond.static yX2_lesser, Cond.code yX2_lesser cX2_lesser 5 (some .long), Cond.methodLink RX2 77 yX2_isAbove, Cond.static yX2_isAbove, Cond.code yX2_isAbove cX2_isAbove 5 (some .boolean), Cond.methodLink RX2 74 yX2_rank]
def wsX2_hull_r2 : List Cond := [Cond.static yX2_rank, Cond.code yX2_rank cX2_rank 3 (some .long), Cond.constantLong RX2 47 (2147483647), Cond.constantLong RX2 49 (9223372036854775807), Cond.methodLink RX2 63 yX2_isBroken, Cond.static yX2_isBroken, Cond.code yX2_isBroken cX2_isBroken 1 (some .boolean), Cond.methodLink RX2 121 yX2_greater, Cond.static yX2_greater, Cond.code yX2_greater cX2_greater 5 (some .long), Cond.methodLink RX2 124 yX2_comes, Cond.instanceMethod yX2_comes, Cond.selects RX2 yX2_comes yX2_comes, Cond.code yX2_comes cX2_comes 7 (some .int), Cond.methodLink RX2 113 yX2_says, Cond.instanceMethod yX2_says, Cond.selects RX2 yX2_says yX2_says, Cond.code yX2_says cX2_says 2 (some .int)]
def wsX2_hull : List Cond := .code yX2_hull cX2_hull 6 (some .int) :: ((wsX2_hull_r1 ++ wsX2_hull_r2) ++ wsX20)
def wsX2_meet_r1 : List Cond := [Cond.fieldLink RX2 7 "StretchDeskModel" "sorts" "[I", Cond.fieldLink RX2 13 "StretchDeskModel" "lows" "[J", Cond.fieldLink RX2 17 "StretchDeskModel" "highs" "[J", Cond.methodLink RX2 135 yX2_whyNot, Cond.instanceMethod yX2_whyNot, Cond.selects RX2 yX2_whyNot yX2_whyNot, Cond.initialized RX2, Cond.code yX2_whyNot cX2_whyNot 4 (some .int), Cond.methodLink RX2 43 yX2_isSlot, Cond.static yX2_isSlot, Cond.code yX2_isSlot cX2_isSlot 1 (some .boolean), Cond.methodLink RX2 128 yX2_refuses, Cond.instanceMethod yX2_refuses, Cond.selects RX2 yX2_refuses yX2_refuses, Cond.code yX2_refuses cX2_refuses 2 (some .int), Cond.fieldLink RX2 36 "StretchDeskModel" "state" "I", Cond.fieldLink RX2 40 "StretchDeskModel" "refused" "I", Cond.methodLink RX2 121 yX2_greater, Cond.static yX2_greater, Cond.code yX2_greater cX2_greater 5 (some .long), Cond.methodLink RX2 77 yX2_isAbove, Cond.static yX2_isAbove, Cond.code yX2_isAbove cX2_isAbove 5 (some .boolean), Cond.methodLink RX2 74 yX2_rank]
def wsX2_meet_r2 : List Cond := [Cond.static yX2_rank, Cond.code yX2_rank cX2_rank 3 (some .long), Cond.constantLong RX2 47 (2147483647), Cond.constantLong RX2 49 (9223372036854775807), Cond.methodLink RX2 63 yX2_isBroken, Cond.static yX2_isBroken, Cond.code yX2_isBroken cX2_isBroken 1 (some .boolean), Cond.methodLink RX2 117 yX2_lesser, Cond.static yX2_lesser, Cond.code yX2_lesser cX2_lesser 5 (some .long), Cond.methodLink RX2 146 yX2_emptied, Cond.instanceMethod yX2_emptied, Cond.selects RX2 yX2_emptied yX2_emptied, Cond.code yX2_emptied cX2_emptied 2 (some .int), Cond.methodLink RX2 113 yX2_says, Cond.instanceMethod yX2_says, Cond.selects RX2 yX2_says yX2_says, Cond.code yX2_says cX2_says 2 (some .int), Cond.methodLink RX2 124 yX2_comes, Cond.instanceMethod yX2_comes, Cond.selects RX2 yX2_comes yX2_comes, Cond.code yX2_comes cX2_comes 7 (some .int)]
def wsX2_meet : List Cond := .code yX2_meet cX2_meet 10 (some .int) :: ((wsX2_meet_r1 ++ wsX2_meet_r2) ++ wsX20)
def wsX2_size_r1 : List Cond := [Cond.fieldLink RX2 7 "StretchDeskModel" "sorts" "[I", Cond.fieldLink RX2 13 "StretchDeskModel" "lows" "[J", Cond.fieldLink RX2 17 "StretchDeskModel" "highs" "[J", Cond.methodLink RX2 135 yX2_whyNot, Cond.instanceMethod yX2_whyNot, Cond.selects RX2 yX2_whyNot yX2_whyNot, Cond.initialized RX2, Cond.code yX2_whyNot cX2_whyNot 4 (some .int), Cond.methodLink RX2 43 yX2_isSlot, Cond.static yX2_isSlot, Cond.code yX2_isSlot cX2_isSlot 1 (some .boolean), Cond.methodLink RX2 128 yX2_refuses, Cond.instanceMethod yX2_refuses, Cond.selects RX2 yX2_refuses yX2_refuses, Cond.code yX2_refuses cX2_refuses 2 (some .int), Cond.fieldLink RX2 36 "StretchDeskModel" "state" "I", Cond.fieldLink RX2 40 "StretchDeskModel" "refused" "I", Cond.methodLink RX2 149 yX2_isZero, Cond.static yX2_isZero, Cond.code yX2_isZero cX2_isZero 3 (some .boolean), Cond.methodLink RX2 63 yX2_isBroken, Cond.static yX2_isBroken, Cond.code yX2_isBroken cX2_isBroken 1 (some .boolean), Cond.methodLink RX2 66 yX2_magnitude]
def wsX2_size_r2 : List Cond := [Cond.static yX2_magnitude, Cond.code yX2_magnitude cX2_magnitude 3 (some .long), Cond.constantLong RX2 47 (2147483647), Cond.constantLong RX2 49 (9223372036854775807), Cond.methodLink RX2 152 yX2_sizeOf, Cond.static yX2_sizeOf, Cond.code yX2_sizeOf cX2_sizeOf 3 (some .long), Cond.methodLink RX2 81 yX2_taken, Cond.static yX2_taken, Cond.code yX2_taken cX2_taken 3 (some .long), Cond.methodLink RX2 121 yX2_greater, Cond.static yX2_greater, Cond.code yX2_greater cX2_greater 5 (some .long), Cond.methodLink RX2 77 yX2_isAbove, Cond.static yX2_isAbove, Cond.code yX2_isAbove cX2_isAbove 5 (some .boolean), Cond.methodLink RX2 74 yX2_rank, Cond.static yX2_rank, Cond.code yX2_rank cX2_rank 3 (some .long), Cond.methodLink RX2 155 yX2_ordered, Cond.instanceMethod yX2_ordered, Cond.selects RX2 yX2_ordered yX2_ordered, Cond.code yX2_ordered cX2_ordered 7 (some .int), Cond.methodLink RX2 117 yX2_lesser]
def wsX2_size_r3 : List Cond := [Cond.static yX2_lesser, Cond.code yX2_lesser cX2_lesser 5 (some .long), Cond.methodLink RX2 124 yX2_comes, Cond.instanceMethod yX2_comes, Cond.selects RX2 yX2_comes yX2_comes, Cond.code yX2_comes cX2_comes 7 (some .int), Cond.methodLink RX2 113 yX2_says, Cond.instanceMethod yX2_says, Cond.selects RX2 yX2_says yX2_says, Cond.code yX2_says cX2_says 2 (some .int)]
def wsX2_size : List Cond := .code yX2_size cX2_size 11 (some .int) :: ((wsX2_size_r1 ++ (wsX2_size_r2 ++ wsX2_size_r3)) ++ wsX20)
def wsX2_round_r1 : List Cond := [Cond.fieldLink RX2 7 "StretchDeskModel" "sorts" "[I", Cond.fieldLink RX2 13 "StretchDeskModel" "lows" "[J", Cond.fieldLink RX2 17 "StretchDeskModel" "highs" "[J", Cond.methodLink RX2 135 yX2_whyNot, Cond.instanceMethod yX2_whyNot, Cond.selects RX2 yX2_whyNot yX2_whyNot, Cond.initialized RX2, Cond.code yX2_whyNot cX2_whyNot 4 (some .int), Cond.methodLink RX2 43 yX2_isSlot, Cond.static yX2_isSlot, Cond.code yX2_isSlot cX2_isSlot 1 (some .boolean), Cond.methodLink RX2 63 yX2_isBroken, Cond.static yX2_isBroken, Cond.code yX2_isBroken cX2_isBroken 1 (some .boolean), Cond.methodLink RX2 128 yX2_refuses, Cond.instanceMethod yX2_refuses, Cond.selects RX2 yX2_refuses yX2_refuses, Cond.code yX2_refuses cX2_refuses 2 (some .int), Cond.fieldLink RX2 36 "StretchDeskModel" "state" "I", Cond.fieldLink RX2 40 "StretchDeskModel" "refused" "I", Cond.methodLink RX2 158 yX2_whole, Cond.static yX2_whole, Cond.code yX2_whole cX2_whole 17 (some .long), Cond.constantLong RX2 91 (2)]
def wsX2_round_r2 : List Cond := [Cond.methodLink RX2 66 yX2_magnitude, Cond.static yX2_magnitude, Cond.code yX2_magnitude cX2_magnitude 3 (some .long), Cond.constantLong RX2 47 (2147483647), Cond.constantLong RX2 49 (9223372036854775807), Cond.methodLink RX2 88 yX2_one, Cond.static yX2_one, Cond.code yX2_one cX2_one 1 (some .long), Cond.constantLong RX2 55 (1065353216), Cond.constantLong RX2 57 (4607182418800017408), Cond.methodLink RX2 84 yX2_signed, Cond.static yX2_signed, Cond.code yX2_signed cX2_signed 4 (some .long), Cond.constantLong RX2 59 (2147483648), Cond.constantLong RX2 61 (-9223372036854775808), Cond.methodLink RX2 77 yX2_isAbove, Cond.static yX2_isAbove, Cond.code yX2_isAbove cX2_isAbove 5 (some .boolean), Cond.methodLink RX2 74 yX2_rank, Cond.static yX2_rank, Cond.code yX2_rank cX2_rank 3 (some .long), Cond.methodLink RX2 146 yX2_emptied, Cond.instanceMethod yX2_emptied, Cond.selects RX2 yX2_emptied yX2_emptied]
def wsX2_round_r3 : List Cond := [Cond.code yX2_emptied cX2_emptied 2 (some .int), Cond.methodLink RX2 113 yX2_says, Cond.instanceMethod yX2_says, Cond.selects RX2 yX2_says yX2_says, Cond.code yX2_says cX2_says 2 (some .int), Cond.methodLink RX2 124 yX2_comes, Cond.instanceMethod yX2_comes, Cond.selects RX2 yX2_comes yX2_comes, Cond.code yX2_comes cX2_comes 7 (some .int)]
def wsX2_round : List Cond := .code yX2_round cX2_round 10 (some .int) :: ((wsX2_round_r1 ++ (wsX2_round_r2 ++ wsX2_round_r3)) ++ wsX20)
def wsX2_signOf : List Cond := .code yX2_signOf cX2_signOf 3 (some .long) :: ([.methodLink RX2 149 yX2_isZero, .static yX2_isZero, .initialized RX2, .code yX2_isZero cX2_isZero 3 (some .boolean), .methodLink RX2 63 yX2_isBroken, .static yX2_isBroken, .code yX2_isBroken cX2_isBroken 1 (some .boolean), .methodLink RX2 66 yX2_magnitude, .static yX2_magnitude, .code yX2_magnitude cX2_magnitude 3 (some .long), .constantLong RX2 47 (2147483647), .constantLong RX2 49 (9223372036854775807), .methodLink RX2 88 yX2_one, .static yX2_one, .code yX2_one cX2_one 1 (some .long), .constantLong RX2 55 (1065353216), .constantLong RX2 57 (4607182418800017408), .methodLink RX2 84 yX2_signed, .static yX2_signed, .code yX2_signed cX2_signed 4 (some .long), .constantLong RX2 59 (2147483648), .constantLong RX2 61 (-9223372036854775808)])
def wsX2_sign_r1 : List Cond := [Cond.fieldLink RX2 7 "StretchDeskModel" "sorts" "[I", Cond.fieldLink RX2 13 "StretchDeskModel" "lows" "[J", Cond.fieldLink RX2 17 "StretchDeskModel" "highs" "[J", Cond.methodLink RX2 135 yX2_whyNot, Cond.instanceMethod yX2_whyNot, Cond.selects RX2 yX2_whyNot yX2_whyNot, Cond.initialized RX2, Cond.code yX2_whyNot cX2_whyNot 4 (some .int), Cond.methodLink RX2 43 yX2_isSlot, Cond.static yX2_isSlot, Cond.code yX2_isSlot cX2_isSlot 1 (some .boolean), Cond.methodLink RX2 63 yX2_isBroken, Cond.static yX2_isBroken, Cond.code yX2_isBroken cX2_isBroken 1 (some .boolean), Cond.methodLink RX2 128 yX2_refuses, Cond.instanceMethod yX2_refuses, Cond.selects RX2 yX2_refuses yX2_refuses, Cond.code yX2_refuses cX2_refuses 2 (some .int), Cond.fieldLink RX2 36 "StretchDeskModel" "state" "I", Cond.fieldLink RX2 40 "StretchDeskModel" "refused" "I", Cond.methodLink RX2 162 yX2_signOf, Cond.static yX2_signOf, Cond.code yX2_signOf cX2_signOf 3 (some .long), Cond.methodLink RX2 149 yX2_isZero]
def wsX2_sign_r2 : List Cond := [Cond.static yX2_isZero, Cond.code yX2_isZero cX2_isZero 3 (some .boolean), Cond.methodLink RX2 66 yX2_magnitude, Cond.static yX2_magnitude, Cond.code yX2_magnitude cX2_magnitude 3 (some .long), Cond.constantLong RX2 47 (2147483647), Cond.constantLong RX2 49 (9223372036854775807), Cond.methodLink RX2 88 yX2_one, Cond.static yX2_one, Cond.code yX2_one cX2_one 1 (some .long), Cond.constantLong RX2 55 (1065353216), Cond.constantLong RX2 57 (4607182418800017408), Cond.methodLink RX2 84 yX2_signed, Cond.static yX2_signed, Cond.code yX2_signed cX2_signed 4 (some .long), Cond.constantLong RX2 59 (2147483648), Cond.constantLong RX2 61 (-9223372036854775808), Cond.methodLink RX2 124 yX2_comes, Cond.instanceMethod yX2_comes, Cond.selects RX2 yX2_comes yX2_comes, Cond.code yX2_comes cX2_comes 7 (some .int), Cond.methodLink RX2 113 yX2_says, Cond.instanceMethod yX2_says, Cond.selects RX2 yX2_says yX2_says]
def wsX2_sign_r3 : List Cond := [Cond.code yX2_says cX2_says 2 (some .int)]
def wsX2_sign : List Cond := .code yX2_sign cX2_sign 4 (some .int) :: ((wsX2_sign_r1 ++ (wsX2_sign_r2 ++ wsX2_sign_r3)) ++ wsX20)
def wsX2_lend_r1 : List Cond := [Cond.fieldLink RX2 7 "StretchDeskModel" "sorts" "[I", Cond.fieldLink RX2 13 "StretchDeskModel" "lows" "[J", Cond.fieldLink RX2 17 "StretchDeskModel" "highs" "[J", Cond.methodLink RX2 135 yX2_whyNot, Cond.instanceMethod yX2_whyNot, Cond.selects RX2 yX2_whyNot yX2_whyNot, Cond.initialized RX2, Cond.code yX2_whyNot cX2_whyNot 4 (some .int), Cond.methodLink RX2 43 yX2_isSlot, Cond.static yX2_isSlot, Cond.code yX2_isSlot cX2_isSlot 1 (some .boolean), Cond.methodLink RX2 63 yX2_isBroken, Cond.static yX2_isBroken, Cond.code yX2_isBroken cX2_isBroken 1 (some .boolean), Cond.methodLink RX2 128 yX2_refuses, Cond.instanceMethod yX2_refuses, Cond.selects RX2 yX2_refuses yX2_refuses, Cond.code yX2_refuses cX2_refuses 2 (some .int), Cond.fieldLink RX2 36 "StretchDeskModel" "state" "I", Cond.fieldLink RX2 40 "StretchDeskModel" "refused" "I", Cond.methodLink RX2 66 yX2_magnitude, Cond.static yX2_magnitude, Cond.code yX2_magnitude cX2_magnitude 3 (some .long), Cond.constantLong RX2 47 (2147483647)]
def wsX2_lend_r2 : List Cond := [Cond.constantLong RX2 49 (9223372036854775807), Cond.methodLink RX2 84 yX2_signed, Cond.static yX2_signed, Cond.code yX2_signed cX2_signed 4 (some .long), Cond.constantLong RX2 59 (2147483648), Cond.constantLong RX2 61 (-9223372036854775808), Cond.methodLink RX2 155 yX2_ordered, Cond.instanceMethod yX2_ordered, Cond.selects RX2 yX2_ordered yX2_ordered, Cond.code yX2_ordered cX2_ordered 7 (some .int), Cond.methodLink RX2 117 yX2_lesser, Cond.static yX2_lesser, Cond.code yX2_lesser cX2_lesser 5 (some .long), Cond.methodLink RX2 77 yX2_isAbove, Cond.static yX2_isAbove, Cond.code yX2_isAbove cX2_isAbove 5 (some .boolean), Cond.methodLink RX2 74 yX2_rank, Cond.static yX2_rank, Cond.code yX2_rank cX2_rank 3 (some .long), Cond.methodLink RX2 121 yX2_greater, Cond.static yX2_greater, Cond.code yX2_greater cX2_greater 5 (some .long), Cond.methodLink RX2 124 yX2_comes, Cond.instanceMethod yX2_comes]
def wsX2_lend_r3 : List Cond := [Cond.selects RX2 yX2_comes yX2_comes, Cond.code yX2_comes cX2_comes 7 (some .int), Cond.methodLink RX2 113 yX2_says, Cond.instanceMethod yX2_says, Cond.selects RX2 yX2_says yX2_says, Cond.code yX2_says cX2_says 2 (some .int)]
def wsX2_lend : List Cond := .code yX2_lend cX2_lend 6 (some .int) :: ((wsX2_lend_r1 ++ (wsX2_lend_r2 ++ wsX2_lend_r3)) ++ wsX20)
def wsX2_turn_r1 : List Cond := [Cond.fieldLink RX2 7 "StretchDeskModel" "sorts" "[I", Cond.fieldLink RX2 13 "StretchDeskModel" "lows" "[J", Cond.fieldLink RX2 17 "StretchDeskModel" "highs" "[J", Cond.methodLink RX2 135 yX2_whyNot, Cond.instanceMethod yX2_whyNot, Cond.selects RX2 yX2_whyNot yX2_whyNot, Cond.initialized RX2, Cond.code yX2_whyNot cX2_whyNot 4 (some .int), Cond.methodLink RX2 43 yX2_isSlot, Cond.static yX2_isSlot, Cond.code yX2_isSlot cX2_isSlot 1 (some .boolean), Cond.methodLink RX2 128 yX2_refuses, Cond.instanceMethod yX2_refuses, Cond.selects RX2 yX2_refuses yX2_refuses, Cond.code yX2_refuses cX2_refuses 2 (some .int), Cond.fieldLink RX2 36 "StretchDeskModel" "state" "I", Cond.fieldLink RX2 40 "StretchDeskModel" "refused" "I", Cond.methodLink RX2 165 yX2_turned, Cond.static yX2_turned, Cond.code yX2_turned cX2_turned 3 (some .long), Cond.methodLink RX2 63 yX2_isBroken, Cond.static yX2_isBroken, Cond.code yX2_isBroken cX2_isBroken 1 (some .boolean), Cond.methodLink RX2 66 yX2_magnitude]
def wsX2_turn_r2 : List Cond := [Cond.static yX2_magnitude, Cond.code yX2_magnitude cX2_magnitude 3 (some .long), Cond.constantLong RX2 47 (2147483647), Cond.constantLong RX2 49 (9223372036854775807), Cond.methodLink RX2 84 yX2_signed, Cond.static yX2_signed, Cond.code yX2_signed cX2_signed 4 (some .long), Cond.constantLong RX2 59 (2147483648), Cond.constantLong RX2 61 (-9223372036854775808), Cond.methodLink RX2 81 yX2_taken, Cond.static yX2_taken, Cond.code yX2_taken cX2_taken 3 (some .long), Cond.methodLink RX2 155 yX2_ordered, Cond.instanceMethod yX2_ordered, Cond.selects RX2 yX2_ordered yX2_ordered, Cond.code yX2_ordered cX2_ordered 7 (some .int), Cond.methodLink RX2 117 yX2_lesser, Cond.static yX2_lesser, Cond.code yX2_lesser cX2_lesser 5 (some .long), Cond.methodLink RX2 77 yX2_isAbove, Cond.static yX2_isAbove, Cond.code yX2_isAbove cX2_isAbove 5 (some .boolean), Cond.methodLink RX2 74 yX2_rank, Cond.static yX2_rank]
def wsX2_turn_r3 : List Cond := [Cond.code yX2_rank cX2_rank 3 (some .long), Cond.methodLink RX2 121 yX2_greater, Cond.static yX2_greater, Cond.code yX2_greater cX2_greater 5 (some .long), Cond.methodLink RX2 124 yX2_comes, Cond.instanceMethod yX2_comes, Cond.selects RX2 yX2_comes yX2_comes, Cond.code yX2_comes cX2_comes 7 (some .int), Cond.methodLink RX2 113 yX2_says, Cond.instanceMethod yX2_says, Cond.selects RX2 yX2_says yX2_says, Cond.code yX2_says cX2_says 2 (some .int)]
def wsX2_turn : List Cond := .code yX2_turn cX2_turn 4 (some .int) :: ((wsX2_turn_r1 ++ (wsX2_turn_r2 ++ wsX2_turn_r3)) ++ wsX20)
def wsX2_as_r1 : List Cond := [Cond.fieldLink RX2 7 "StretchDeskModel" "sorts" "[I", Cond.fieldLink RX2 13 "StretchDeskModel" "lows" "[J", Cond.fieldLink RX2 17 "StretchDeskModel" "highs" "[J", Cond.methodLink RX2 135 yX2_whyNot, Cond.instanceMethod yX2_whyNot, Cond.selects RX2 yX2_whyNot yX2_whyNot, Cond.initialized RX2, Cond.code yX2_whyNot cX2_whyNot 4 (some .int), Cond.methodLink RX2 43 yX2_isSlot, Cond.static yX2_isSlot, Cond.code yX2_isSlot cX2_isSlot 1 (some .boolean), Cond.methodLink RX2 128 yX2_refuses, Cond.instanceMethod yX2_refuses, Cond.selects RX2 yX2_refuses yX2_refuses, Cond.code yX2_refuses cX2_refuses 2 (some .int), Cond.fieldLink RX2 36 "StretchDeskModel" "state" "I", Cond.fieldLink RX2 40 "StretchDeskModel" "refused" "I", Cond.methodLink RX2 168 yX2_made, Cond.static yX2_made, Cond.code yX2_made cX2_made 6 (some .long), Cond.methodLink RX2 105 ⟨"java/lang/Float", "intBitsToFloat", "(I)F"⟩, Cond.native ⟨"java/lang/Float", "intBitsToFloat", "(I)F"⟩, Cond.static ⟨"java/lang/Float", "intBitsToFloat", "(I)F"⟩, Cond.initialized "java/lang/Float"]
def wsX2_as_r2 : List Cond := [Cond.methodLink RX2 109 ⟨"java/lang/Double", "longBitsToDouble", "(J)D"⟩, Cond.native ⟨"java/lang/Double", "longBitsToDouble", "(J)D"⟩, Cond.static ⟨"java/lang/Double", "longBitsToDouble", "(J)D"⟩, Cond.initialized "java/lang/Double", Cond.methodLink RX2 63 yX2_isBroken, Cond.static yX2_isBroken, Cond.code yX2_isBroken cX2_isBroken 1 (some .boolean), Cond.methodLink RX2 81 yX2_taken, Cond.static yX2_taken, Cond.code yX2_taken cX2_taken 3 (some .long), Cond.methodLink RX2 93 yJxf58ca_floatToIntBits_5c35a, Cond.static yJxf58ca_floatToIntBits_5c35a, Cond.initialized RJxf58ca, Cond.code yJxf58ca_floatToIntBits_5c35a cJxf58ca_floatToIntBits_5c35a 1 (some .int), Cond.methodLink RJxf58ca 74 ⟨"java/lang/Float", "floatToRawIntBits", "(F)I"⟩, Cond.native ⟨"java/lang/Float", "floatToRawIntBits", "(F)I"⟩, Cond.static ⟨"java/lang/Float", "floatToRawIntBits", "(F)I"⟩, Cond.constant RJxf58ca 77 (2143289344), Cond.methodLink RJxf58ca 59 yJxf58ca_isNaN_12338, Cond.static yJxf58ca_isNaN_12338, Cond.code yJxf58ca_isNaN_12338 cJxf58ca_isNaN_12338 1 (some .boolean), Cond.methodLink RX2 99 yJxe99ae_doubleToLongBits_ccdee, Cond.static yJxe99ae_doubleToLongBits_ccdee, Cond.initialized RJxe99ae]
def wsX2_as_r3 : List Cond := [Cond.code yJxe99ae_doubleToLongBits_ccdee cJxe99ae_doubleToLongBits_ccdee 2 (some .long), Cond.methodLink RJxe99ae 134 ⟨"java/lang/Double", "doubleToRawLongBits", "(D)J"⟩, Cond.native ⟨"java/lang/Double", "doubleToRawLongBits", "(D)J"⟩, Cond.static ⟨"java/lang/Double", "doubleToRawLongBits", "(D)J"⟩, Cond.constantLong RJxe99ae 137 (9221120237041090560), Cond.methodLink RJxe99ae 122 yJxe99ae_isNaN_b9ae7, Cond.static yJxe99ae_isNaN_b9ae7, Cond.code yJxe99ae_isNaN_b9ae7 cJxe99ae_isNaN_b9ae7 2 (some .boolean), Cond.methodLink RX2 155 yX2_ordered, Cond.instanceMethod yX2_ordered, Cond.selects RX2 yX2_ordered yX2_ordered, Cond.code yX2_ordered cX2_ordered 7 (some .int), Cond.methodLink RX2 117 yX2_lesser, Cond.static yX2_lesser, Cond.code yX2_lesser cX2_lesser 5 (some .long), Cond.methodLink RX2 77 yX2_isAbove, Cond.static yX2_isAbove, Cond.code yX2_isAbove cX2_isAbove 5 (some .boolean), Cond.methodLink RX2 74 yX2_rank, Cond.static yX2_rank, Cond.code yX2_rank cX2_rank 3 (some .long), Cond.constantLong RX2 47 (2147483647), Cond.constantLong RX2 49 (9223372036854775807), Cond.methodLink RX2 121 yX2_greater]
def wsX2_as_r4 : List Cond := [Cond.static yX2_greater, Cond.code yX2_greater cX2_greater 5 (some .long), Cond.methodLink RX2 124 yX2_comes, Cond.instanceMethod yX2_comes, Cond.selects RX2 yX2_comes yX2_comes, Cond.code yX2_comes cX2_comes 7 (some .int), Cond.methodLink RX2 113 yX2_says, Cond.instanceMethod yX2_says, Cond.selects RX2 yX2_says yX2_says, Cond.code yX2_says cX2_says 2 (some .int)]
def wsX2_as : List Cond := .code yX2_as cX2_as 5 (some .int) :: ((wsX2_as_r1 ++ (wsX2_as_r2 ++ (wsX2_as_r3 ++ wsX2_as_r4))) ++ wsX20)
def wsX2_near_r1 : List Cond := [Cond.fieldLink RX2 7 "StretchDeskModel" "sorts" "[I", Cond.fieldLink RX2 36 "StretchDeskModel" "state" "I", Cond.fieldLink RX2 13 "StretchDeskModel" "lows" "[J", Cond.fieldLink RX2 17 "StretchDeskModel" "highs" "[J", Cond.methodLink RX2 135 yX2_whyNot, Cond.instanceMethod yX2_whyNot, Cond.selects RX2 yX2_whyNot yX2_whyNot, Cond.initialized RX2, Cond.code yX2_whyNot cX2_whyNot 4 (some .int), Cond.methodLink RX2 43 yX2_isSlot, Cond.static yX2_isSlot, Cond.code yX2_isSlot cX2_isSlot 1 (some .boolean), Cond.methodLink RX2 81 yX2_taken, Cond.static yX2_taken, Cond.code yX2_taken cX2_taken 3 (some .long), Cond.methodLink RX2 131 yX2_isNumber, Cond.static yX2_isNumber, Cond.code yX2_isNumber cX2_isNumber 3 (some .boolean), Cond.methodLink RX2 63 yX2_isBroken, Cond.static yX2_isBroken, Cond.code yX2_isBroken cX2_isBroken 1 (some .boolean), Cond.methodLink RX2 66 yX2_magnitude, Cond.static yX2_magnitude, Cond.code yX2_magnitude cX2_magnitude 3 (some .long)]
def wsX2_near_r2 : List Cond := [Cond.constantLong RX2 47 (2147483647), Cond.constantLong RX2 49 (9223372036854775807), Cond.methodLink RX2 70 yX2_endless, Cond.static yX2_endless, Cond.code yX2_endless cX2_endless 1 (some .long), Cond.constantLong RX2 51 (2139095040), Cond.constantLong RX2 53 (9218868437227405312), Cond.methodLink RX2 128 yX2_refuses, Cond.instanceMethod yX2_refuses, Cond.selects RX2 yX2_refuses yX2_refuses, Cond.code yX2_refuses cX2_refuses 2 (some .int), Cond.fieldLink RX2 40 "StretchDeskModel" "refused" "I", Cond.methodLink RX2 121 yX2_greater, Cond.static yX2_greater, Cond.code yX2_greater cX2_greater 5 (some .long), Cond.methodLink RX2 77 yX2_isAbove, Cond.static yX2_isAbove, Cond.code yX2_isAbove cX2_isAbove 5 (some .boolean), Cond.methodLink RX2 74 yX2_rank, Cond.static yX2_rank, Cond.code yX2_rank cX2_rank 3 (some .long), Cond.methodLink RX2 117 yX2_lesser, Cond.static yX2_lesser, Cond.code yX2_lesser cX2_lesser 5 (some .long)]
def wsX2_near : List Cond := .code yX2_near cX2_near 7 (some .long) :: ((wsX2_near_r1 ++ wsX2_near_r2) ++ wsX20)
def wsX2_has_r1 : List Cond := [Cond.fieldLink RX2 7 "StretchDeskModel" "sorts" "[I", Cond.fieldLink RX2 13 "StretchDeskModel" "lows" "[J", Cond.fieldLink RX2 17 "StretchDeskModel" "highs" "[J", Cond.methodLink RX2 135 yX2_whyNot, Cond.instanceMethod yX2_whyNot, Cond.selects RX2 yX2_whyNot yX2_whyNot, Cond.initialized RX2, Cond.code yX2_whyNot cX2_whyNot 4 (some .int), Cond.methodLink RX2 43 yX2_isSlot, Cond.static yX2_isSlot, Cond.code yX2_isSlot cX2_isSlot 1 (some .boolean), Cond.methodLink RX2 81 yX2_taken, Cond.static yX2_taken, Cond.code yX2_taken cX2_taken 3 (some .long), Cond.methodLink RX2 131 yX2_isNumber, Cond.static yX2_isNumber, Cond.code yX2_isNumber cX2_isNumber 3 (some .boolean), Cond.methodLink RX2 63 yX2_isBroken, Cond.static yX2_isBroken, Cond.code yX2_isBroken cX2_isBroken 1 (some .boolean), Cond.methodLink RX2 66 yX2_magnitude, Cond.static yX2_magnitude, Cond.code yX2_magnitude cX2_magnitude 3 (some .long), Cond.constantLong RX2 47 (2147483647)]
def wsX2_has_r2 : List Cond := [Cond.constantLong RX2 49 (9223372036854775807), Cond.methodLink RX2 70 yX2_endless, Cond.static yX2_endless, Cond.code yX2_endless cX2_endless 1 (some .long), Cond.constantLong RX2 51 (2139095040), Cond.constantLong RX2 53 (9218868437227405312), Cond.methodLink RX2 128 yX2_refuses, Cond.instanceMethod yX2_refuses, Cond.selects RX2 yX2_refuses yX2_refuses, Cond.code yX2_refuses cX2_refuses 2 (some .int), Cond.fieldLink RX2 36 "StretchDeskModel" "state" "I", Cond.fieldLink RX2 40 "StretchDeskModel" "refused" "I", Cond.methodLink RX2 77 yX2_isAbove, Cond.static yX2_isAbove, Cond.code yX2_isAbove cX2_isAbove 5 (some .boolean), Cond.methodLink RX2 74 yX2_rank, Cond.static yX2_rank, Cond.code yX2_rank cX2_rank 3 (some .long), Cond.methodLink RX2 113 yX2_says, Cond.instanceMethod yX2_says, Cond.selects RX2 yX2_says yX2_says, Cond.code yX2_says cX2_says 2 (some .int)]
def wsX2_has : List Cond := .code yX2_has cX2_has 7 (some .int) :: ((wsX2_has_r1 ++ wsX2_has_r2) ++ wsX20)
def wsX2_alike : List Cond := .code yX2_alike cX2_alike 4 (some .int) :: ([.fieldLink RX2 7 "StretchDeskModel" "sorts" "[I", .fieldLink RX2 13 "StretchDeskModel" "lows" "[J", .fieldLink RX2 17 "StretchDeskModel" "highs" "[J", .methodLink RX2 135 yX2_whyNot, .instanceMethod yX2_whyNot, .selects RX2 yX2_whyNot yX2_whyNot, .initialized RX2, .code yX2_whyNot cX2_whyNot 4 (some .int), .methodLink RX2 43 yX2_isSlot, .static yX2_isSlot, .code yX2_isSlot cX2_isSlot 1 (some .boolean), .methodLink RX2 128 yX2_refuses, .instanceMethod yX2_refuses, .selects RX2 yX2_refuses yX2_refuses, .code yX2_refuses cX2_refuses 2 (some .int), .fieldLink RX2 36 "StretchDeskModel" "state" "I", .fieldLink RX2 40 "StretchDeskModel" "refused" "I", .methodLink RX2 113 yX2_says, .instanceMethod yX2_says, .selects RX2 yX2_says yX2_says, .code yX2_says cX2_says 2 (some .int)] ++ wsX20)
def wsX2_step : List Cond := .code yX2_step cX2_step 7 (some .int) :: ([.fieldLink RX2 20 "StretchDeskModel" "there" "[Z", .fieldLink RX2 24 "StretchDeskModel" "what" "[I", .fieldLink RX2 27 "StretchDeskModel" "first" "[I", .fieldLink RX2 30 "StretchDeskModel" "second" "[I", .fieldLink RX2 33 "StretchDeskModel" "goal" "[I", .methodLink RX2 43 yX2_isSlot, .static yX2_isSlot, .initialized RX2, .code yX2_isSlot cX2_isSlot 1 (some .boolean), .methodLink RX2 128 yX2_refuses, .instanceMethod yX2_refuses, .selects RX2 yX2_refuses yX2_refuses, .code yX2_refuses cX2_refuses 2 (some .int), .fieldLink RX2 36 "StretchDeskModel" "state" "I", .fieldLink RX2 40 "StretchDeskModel" "refused" "I", .methodLink RX2 113 yX2_says, .instanceMethod yX2_says, .selects RX2 yX2_says yX2_says, .code yX2_says cX2_says 2 (some .int)] ++ wsX20)
def wsX2_does_r1 : List Cond := [Cond.fieldLink RX2 27 "StretchDeskModel" "first" "[I", Cond.fieldLink RX2 30 "StretchDeskModel" "second" "[I", Cond.fieldLink RX2 24 "StretchDeskModel" "what" "[I", Cond.fieldLink RX2 33 "StretchDeskModel" "goal" "[I", Cond.methodLink RX2 172 yX2_hull, Cond.instanceMethod yX2_hull, Cond.selects RX2 yX2_hull yX2_hull, Cond.initialized RX2, Cond.code yX2_hull cX2_hull 6 (some .int), Cond.fieldLink RX2 7 "StretchDeskModel" "sorts" "[I", Cond.fieldLink RX2 13 "StretchDeskModel" "lows" "[J", Cond.fieldLink RX2 17 "StretchDeskModel" "highs" "[J", Cond.methodLink RX2 135 yX2_whyNot, Cond.instanceMethod yX2_whyNot, Cond.selects RX2 yX2_whyNot yX2_whyNot, Cond.code yX2_whyNot cX2_whyNot 4 (some .int), Cond.methodLink RX2 43 yX2_isSlot, Cond.static yX2_isSlot, Cond.code yX2_isSlot cX2_isSlot 1 (some .boolean), Cond.methodLink RX2 128 yX2_refuses, Cond.instanceMethod yX2_refuses, Cond.selects RX2 yX2_refuses yX2_refuses, Cond.code yX2_refuses cX2_refuses 2 (some .int), Cond.fieldLink RX2 36 "StretchDeskModel" "state" "I"]
def wsX2_does_r2 : List Cond := [Cond.fieldLink RX2 40 "StretchDeskModel" "refused" "I", Cond.methodLink RX2 117 yX2_lesser, Cond.static yX2_lesser, Cond.code yX2_lesser cX2_lesser 5 (some .long), Cond.methodLink RX2 77 yX2_isAbove, Cond.static yX2_isAbove, Cond.code yX2_isAbove cX2_isAbove 5 (some .boolean), Cond.methodLink RX2 74 yX2_rank, Cond.static yX2_rank, Cond.code yX2_rank cX2_rank 3 (some .long), Cond.constantLong RX2 47 (2147483647), Cond.constantLong RX2 49 (9223372036854775807), Cond.methodLink RX2 63 yX2_isBroken, Cond.static yX2_isBroken, Cond.code yX2_isBroken cX2_isBroken 1 (some .boolean), Cond.methodLink RX2 121 yX2_greater, Cond.static yX2_greater, Cond.code yX2_greater cX2_greater 5 (some .long), Cond.methodLink RX2 124 yX2_comes, Cond.instanceMethod yX2_comes, Cond.selects RX2 yX2_comes yX2_comes, Cond.code yX2_comes cX2_comes 7 (some .int), Cond.methodLink RX2 113 yX2_says, Cond.instanceMethod yX2_says]
def wsX2_does_r3 : List Cond := [Cond.selects RX2 yX2_says yX2_says, Cond.code yX2_says cX2_says 2 (some .int), Cond.methodLink RX2 175 yX2_meet, Cond.instanceMethod yX2_meet, Cond.selects RX2 yX2_meet yX2_meet, Cond.code yX2_meet cX2_meet 10 (some .int), Cond.methodLink RX2 146 yX2_emptied, Cond.instanceMethod yX2_emptied, Cond.selects RX2 yX2_emptied yX2_emptied, Cond.code yX2_emptied cX2_emptied 2 (some .int), Cond.methodLink RX2 178 yX2_size, Cond.instanceMethod yX2_size, Cond.selects RX2 yX2_size yX2_size, Cond.code yX2_size cX2_size 11 (some .int), Cond.methodLink RX2 149 yX2_isZero, Cond.static yX2_isZero, Cond.code yX2_isZero cX2_isZero 3 (some .boolean), Cond.methodLink RX2 66 yX2_magnitude, Cond.static yX2_magnitude, Cond.code yX2_magnitude cX2_magnitude 3 (some .long), Cond.methodLink RX2 152 yX2_sizeOf, Cond.static yX2_sizeOf, Cond.code yX2_sizeOf cX2_sizeOf 3 (some .long), Cond.methodLink RX2 81 yX2_taken]
def wsX2_does_r4 : List Cond := [Cond.static yX2_taken, Cond.code yX2_taken cX2_taken 3 (some .long), Cond.methodLink RX2 155 yX2_ordered, Cond.instanceMethod yX2_ordered, Cond.selects RX2 yX2_ordered yX2_ordered, Cond.code yX2_ordered cX2_ordered 7 (some .int), Cond.methodLink RX2 182 yX2_round, Cond.instanceMethod yX2_round, Cond.selects RX2 yX2_round yX2_round, Cond.code yX2_round cX2_round 10 (some .int), Cond.methodLink RX2 158 yX2_whole, Cond.static yX2_whole, Cond.code yX2_whole cX2_whole 17 (some .long), Cond.constantLong RX2 91 (2), Cond.methodLink RX2 88 yX2_one, Cond.static yX2_one, Cond.code yX2_one cX2_one 1 (some .long), Cond.constantLong RX2 55 (1065353216), Cond.constantLong RX2 57 (4607182418800017408), Cond.methodLink RX2 84 yX2_signed, Cond.static yX2_signed, Cond.code yX2_signed cX2_signed 4 (some .long), Cond.constantLong RX2 59 (2147483648), Cond.constantLong RX2 61 (-9223372036854775808)]
def wsX2_does_r5 : List Cond := [Cond.methodLink RX2 185 yX2_sign, Cond.instanceMethod yX2_sign, Cond.selects RX2 yX2_sign yX2_sign, Cond.code yX2_sign cX2_sign 4 (some .int), Cond.methodLink RX2 162 yX2_signOf, Cond.static yX2_signOf, Cond.code yX2_signOf cX2_signOf 3 (some .long), Cond.methodLink RX2 188 yX2_lend, Cond.instanceMethod yX2_lend, Cond.selects RX2 yX2_lend yX2_lend, Cond.code yX2_lend cX2_lend 6 (some .int), Cond.methodLink RX2 191 yX2_turn, Cond.instanceMethod yX2_turn, Cond.selects RX2 yX2_turn yX2_turn, Cond.code yX2_turn cX2_turn 4 (some .int), Cond.methodLink RX2 165 yX2_turned, Cond.static yX2_turned, Cond.code yX2_turned cX2_turned 3 (some .long), Cond.methodLink RX2 194 yX2_as, Cond.instanceMethod yX2_as, Cond.selects RX2 yX2_as yX2_as, Cond.code yX2_as cX2_as 5 (some .int), Cond.methodLink RX2 168 yX2_made, Cond.static yX2_made]
def wsX2_does_r6 : List Cond := [Cond.code yX2_made cX2_made 6 (some .long), Cond.methodLink RX2 105 ⟨"java/lang/Float", "intBitsToFloat", "(I)F"⟩, Cond.native ⟨"java/lang/Float", "intBitsToFloat", "(I)F"⟩, Cond.static ⟨"java/lang/Float", "intBitsToFloat", "(I)F"⟩, Cond.initialized "java/lang/Float", Cond.methodLink RX2 109 ⟨"java/lang/Double", "longBitsToDouble", "(J)D"⟩, Cond.native ⟨"java/lang/Double", "longBitsToDouble", "(J)D"⟩, Cond.static ⟨"java/lang/Double", "longBitsToDouble", "(J)D"⟩, Cond.initialized "java/lang/Double", Cond.methodLink RX2 93 yJxf58ca_floatToIntBits_5c35a, Cond.static yJxf58ca_floatToIntBits_5c35a, Cond.initialized RJxf58ca, Cond.code yJxf58ca_floatToIntBits_5c35a cJxf58ca_floatToIntBits_5c35a 1 (some .int), Cond.methodLink RJxf58ca 74 ⟨"java/lang/Float", "floatToRawIntBits", "(F)I"⟩, Cond.native ⟨"java/lang/Float", "floatToRawIntBits", "(F)I"⟩, Cond.static ⟨"java/lang/Float", "floatToRawIntBits", "(F)I"⟩, Cond.constant RJxf58ca 77 (2143289344), Cond.methodLink RJxf58ca 59 yJxf58ca_isNaN_12338, Cond.static yJxf58ca_isNaN_12338, Cond.code yJxf58ca_isNaN_12338 cJxf58ca_isNaN_12338 1 (some .boolean), Cond.methodLink RX2 99 yJxe99ae_doubleToLongBits_ccdee, Cond.static yJxe99ae_doubleToLongBits_ccdee, Cond.initialized RJxe99ae, Cond.code yJxe99ae_doubleToLongBits_ccdee cJxe99ae_doubleToLongBits_ccdee 2 (some .long)]
def wsX2_does_r7 : List Cond := [Cond.methodLink RJxe99ae 134 ⟨"java/lang/Double", "doubleToRawLongBits", "(D)J"⟩, Cond.native ⟨"java/lang/Double", "doubleToRawLongBits", "(D)J"⟩, Cond.static ⟨"java/lang/Double", "doubleToRawLongBits", "(D)J"⟩, Cond.constantLong RJxe99ae 137 (9221120237041090560), Cond.methodLink RJxe99ae 122 yJxe99ae_isNaN_b9ae7, Cond.static yJxe99ae_isNaN_b9ae7, Cond.code yJxe99ae_isNaN_b9ae7 cJxe99ae_isNaN_b9ae7 2 (some .boolean)]
def wsX2_does : List Cond := .code yX2_does cX2_does 4 (some .int) :: ((wsX2_does_r1 ++ (wsX2_does_r2 ++ (wsX2_does_r3 ++ (wsX2_does_r4 ++ (wsX2_does_r5 ++ (wsX2_does_r6 ++ wsX2_does_r7)))))) ++ wsX20)
def wsX2_run_r1 : List Cond := [Cond.fieldLink RX2 36 "StretchDeskModel" "state" "I", Cond.fieldLink RX2 20 "StretchDeskModel" "there" "[Z", Cond.fieldLink RX2 200 "StretchDeskModel" "done" "I", Cond.methodLink RX2 128 yX2_refuses, Cond.instanceMethod yX2_refuses, Cond.selects RX2 yX2_refuses yX2_refuses, Cond.initialized RX2, Cond.code yX2_refuses cX2_refuses 2 (some .int), Cond.fieldLink RX2 40 "StretchDeskModel" "refused" "I", Cond.methodLink RX2 197 yX2_does, Cond.instanceMethod yX2_does, Cond.selects RX2 yX2_does yX2_does, Cond.code yX2_does cX2_does 4 (some .int), Cond.fieldLink RX2 27 "StretchDeskModel" "first" "[I", Cond.fieldLink RX2 30 "StretchDeskModel" "second" "[I", Cond.fieldLink RX2 24 "StretchDeskModel" "what" "[I", Cond.fieldLink RX2 33 "StretchDeskModel" "goal" "[I", Cond.methodLink RX2 172 yX2_hull, Cond.instanceMethod yX2_hull, Cond.selects RX2 yX2_hull yX2_hull, Cond.code yX2_hull cX2_hull 6 (some .int), Cond.fieldLink RX2 7 "StretchDeskModel" "sorts" "[I", Cond.fieldLink RX2 13 "StretchDeskModel" "lows" "[J", Cond.fieldLink RX2 17 "StretchDeskModel" "highs" "[J"]
def wsX2_run_r2 : List Cond := [Cond.methodLink RX2 135 yX2_whyNot, Cond.instanceMethod yX2_whyNot, Cond.selects RX2 yX2_whyNot yX2_whyNot, Cond.code yX2_whyNot cX2_whyNot 4 (some .int), Cond.methodLink RX2 43 yX2_isSlot, Cond.static yX2_isSlot, Cond.code yX2_isSlot cX2_isSlot 1 (some .boolean), Cond.methodLink RX2 117 yX2_lesser, Cond.static yX2_lesser, Cond.code yX2_lesser cX2_lesser 5 (some .long), Cond.methodLink RX2 77 yX2_isAbove, Cond.static yX2_isAbove, Cond.code yX2_isAbove cX2_isAbove 5 (some .boolean), Cond.methodLink RX2 74 yX2_rank, Cond.static yX2_rank, Cond.code yX2_rank cX2_rank 3 (some .long), Cond.constantLong RX2 47 (2147483647), Cond.constantLong RX2 49 (9223372036854775807), Cond.methodLink RX2 63 yX2_isBroken, Cond.static yX2_isBroken, Cond.code yX2_isBroken cX2_isBroken 1 (some .boolean), Cond.methodLink RX2 121 yX2_greater, Cond.static yX2_greater, Cond.code yX2_greater cX2_greater 5 (some .long)]
def wsX2_run_r3 : List Cond := [Cond.methodLink RX2 124 yX2_comes, Cond.instanceMethod yX2_comes, Cond.selects RX2 yX2_comes yX2_comes, Cond.code yX2_comes cX2_comes 7 (some .int), Cond.methodLink RX2 113 yX2_says, Cond.instanceMethod yX2_says, Cond.selects RX2 yX2_says yX2_says, Cond.code yX2_says cX2_says 2 (some .int), Cond.methodLink RX2 175 yX2_meet, Cond.instanceMethod yX2_meet, Cond.selects RX2 yX2_meet yX2_meet, Cond.code yX2_meet cX2_meet 10 (some .int), Cond.methodLink RX2 146 yX2_emptied, Cond.instanceMethod yX2_emptied, Cond.selects RX2 yX2_emptied yX2_emptied, Cond.code yX2_emptied cX2_emptied 2 (some .int), Cond.methodLink RX2 178 yX2_size, Cond.instanceMethod yX2_size, Cond.selects RX2 yX2_size yX2_size, Cond.code yX2_size cX2_size 11 (some .int), Cond.methodLink RX2 149 yX2_isZero, Cond.static yX2_isZero, Cond.code yX2_isZero cX2_isZero 3 (some .boolean), Cond.methodLink RX2 66 yX2_magnitude]
def wsX2_run_r4 : List Cond := [Cond.static yX2_magnitude, Cond.code yX2_magnitude cX2_magnitude 3 (some .long), Cond.methodLink RX2 152 yX2_sizeOf, Cond.static yX2_sizeOf, Cond.code yX2_sizeOf cX2_sizeOf 3 (some .long), Cond.methodLink RX2 81 yX2_taken, Cond.static yX2_taken, Cond.code yX2_taken cX2_taken 3 (some .long), Cond.methodLink RX2 155 yX2_ordered, Cond.instanceMethod yX2_ordered, Cond.selects RX2 yX2_ordered yX2_ordered, Cond.code yX2_ordered cX2_ordered 7 (some .int), Cond.methodLink RX2 182 yX2_round, Cond.instanceMethod yX2_round, Cond.selects RX2 yX2_round yX2_round, Cond.code yX2_round cX2_round 10 (some .int), Cond.methodLink RX2 158 yX2_whole, Cond.static yX2_whole, Cond.code yX2_whole cX2_whole 17 (some .long), Cond.constantLong RX2 91 (2), Cond.methodLink RX2 88 yX2_one, Cond.static yX2_one, Cond.code yX2_one cX2_one 1 (some .long), Cond.constantLong RX2 55 (1065353216)]
def wsX2_run_r5 : List Cond := [Cond.constantLong RX2 57 (4607182418800017408), Cond.methodLink RX2 84 yX2_signed, Cond.static yX2_signed, Cond.code yX2_signed cX2_signed 4 (some .long), Cond.constantLong RX2 59 (2147483648), Cond.constantLong RX2 61 (-9223372036854775808), Cond.methodLink RX2 185 yX2_sign, Cond.instanceMethod yX2_sign, Cond.selects RX2 yX2_sign yX2_sign, Cond.code yX2_sign cX2_sign 4 (some .int), Cond.methodLink RX2 162 yX2_signOf, Cond.static yX2_signOf, Cond.code yX2_signOf cX2_signOf 3 (some .long), Cond.methodLink RX2 188 yX2_lend, Cond.instanceMethod yX2_lend, Cond.selects RX2 yX2_lend yX2_lend, Cond.code yX2_lend cX2_lend 6 (some .int), Cond.methodLink RX2 191 yX2_turn, Cond.instanceMethod yX2_turn, Cond.selects RX2 yX2_turn yX2_turn, Cond.code yX2_turn cX2_turn 4 (some .int), Cond.methodLink RX2 165 yX2_turned, Cond.static yX2_turned, Cond.code yX2_turned cX2_turned 3 (some .long)]
def wsX2_run_r6 : List Cond := [Cond.methodLink RX2 194 yX2_as, Cond.instanceMethod yX2_as, Cond.selects RX2 yX2_as yX2_as, Cond.code yX2_as cX2_as 5 (some .int), Cond.methodLink RX2 168 yX2_made, Cond.static yX2_made, Cond.code yX2_made cX2_made 6 (some .long), Cond.methodLink RX2 105 ⟨"java/lang/Float", "intBitsToFloat", "(I)F"⟩, Cond.native ⟨"java/lang/Float", "intBitsToFloat", "(I)F"⟩, Cond.static ⟨"java/lang/Float", "intBitsToFloat", "(I)F"⟩, Cond.initialized "java/lang/Float", Cond.methodLink RX2 109 ⟨"java/lang/Double", "longBitsToDouble", "(J)D"⟩, Cond.native ⟨"java/lang/Double", "longBitsToDouble", "(J)D"⟩, Cond.static ⟨"java/lang/Double", "longBitsToDouble", "(J)D"⟩, Cond.initialized "java/lang/Double", Cond.methodLink RX2 93 yJxf58ca_floatToIntBits_5c35a, Cond.static yJxf58ca_floatToIntBits_5c35a, Cond.initialized RJxf58ca, Cond.code yJxf58ca_floatToIntBits_5c35a cJxf58ca_floatToIntBits_5c35a 1 (some .int), Cond.methodLink RJxf58ca 74 ⟨"java/lang/Float", "floatToRawIntBits", "(F)I"⟩, Cond.native ⟨"java/lang/Float", "floatToRawIntBits", "(F)I"⟩, Cond.static ⟨"java/lang/Float", "floatToRawIntBits", "(F)I"⟩, Cond.constant RJxf58ca 77 (2143289344), Cond.methodLink RJxf58ca 59 yJxf58ca_isNaN_12338]
def wsX2_run_r7 : List Cond := [Cond.static yJxf58ca_isNaN_12338, Cond.code yJxf58ca_isNaN_12338 cJxf58ca_isNaN_12338 1 (some .boolean), Cond.methodLink RX2 99 yJxe99ae_doubleToLongBits_ccdee, Cond.static yJxe99ae_doubleToLongBits_ccdee, Cond.initialized RJxe99ae, Cond.code yJxe99ae_doubleToLongBits_ccdee cJxe99ae_doubleToLongBits_ccdee 2 (some .long), Cond.methodLink RJxe99ae 134 ⟨"java/lang/Double", "doubleToRawLongBits", "(D)J"⟩, Cond.native ⟨"java/lang/Double", "doubleToRawLongBits", "(D)J"⟩, Cond.static ⟨"java/lang/Double", "doubleToRawLongBits", "(D)J"⟩, Cond.constantLong RJxe99ae 137 (9221120237041090560), Cond.methodLink RJxe99ae 122 yJxe99ae_isNaN_b9ae7, Cond.static yJxe99ae_isNaN_b9ae7, Cond.code yJxe99ae_isNaN_b9ae7 cJxe99ae_isNaN_b9ae7 2 (some .boolean)]
def wsX2_run : List Cond := .code yX2_run cX2_run 5 (some .int) :: ((wsX2_run_r1 ++ (wsX2_run_r2 ++ (wsX2_run_r3 ++ (wsX2_run_r4 ++ (wsX2_run_r5 ++ (wsX2_run_r6 ++ wsX2_run_r7)))))) ++ wsX20)
def wsX2_state : List Cond := .code yX2_state cX2_state 1 (some .int) :: ([.fieldLink RX2 36 "StretchDeskModel" "state" "I"] ++ wsX20)
def wsX2_about : List Cond := .code yX2_about cX2_about 4 (some .int) :: ([.fieldLink RX2 7 "StretchDeskModel" "sorts" "[I", .fieldLink RX2 20 "StretchDeskModel" "there" "[Z", .fieldLink RX2 40 "StretchDeskModel" "refused" "I", .fieldLink RX2 139 "StretchDeskModel" "told" "I", .fieldLink RX2 200 "StretchDeskModel" "done" "I"] ++ wsX20)
def wsL_law_r1 : List Cond := [Cond.classLink RL 7 RX1, Cond.instantiable RX1 11, Cond.initialized RX1, Cond.classLink RL 10 RX2, Cond.instantiable RX2 12, Cond.initialized RX2, Cond.constantLong RL 13 (4294967295), Cond.methodLink RL 9 yX1_init, Cond.instanceMethod yX1_init, Cond.code yX1_init cX1_init 2 none, Cond.methodLink RX1 1 objectInit, Cond.instanceMethod objectInit, Cond.code objectInit ⟨#[0xb1]⟩ 1 none, Cond.arrayClass .int, Cond.fieldLink RX1 9 "StretchDesk" "sorts" "[I", Cond.arrayClass .long, Cond.fieldLink RX1 13 "StretchDesk" "lows" "[J", Cond.fieldLink RX1 17 "StretchDesk" "highs" "[J", Cond.fieldLink RX1 20 "StretchDesk" "stepWhats" "[I", Cond.fieldLink RX1 23 "StretchDesk" "stepAs" "[I", Cond.fieldLink RX1 26 "StretchDesk" "stepBs" "[I", Cond.fieldLink RX1 29 "StretchDesk" "stepTos" "[I", Cond.methodLink RL 12 yX2_init, Cond.instanceMethod yX2_init]
def wsL_law_r2 : List Cond := [Cond.code yX2_init cX2_init 1 none, Cond.methodLink RX2 1 objectInit, Cond.fieldLink RX2 7 "StretchDeskModel" "sorts" "[I", Cond.fieldLink RX2 13 "StretchDeskModel" "lows" "[J", Cond.fieldLink RX2 17 "StretchDeskModel" "highs" "[J", Cond.arrayClass .boolean, Cond.fieldLink RX2 20 "StretchDeskModel" "there" "[Z", Cond.fieldLink RX2 24 "StretchDeskModel" "what" "[I", Cond.fieldLink RX2 27 "StretchDeskModel" "first" "[I", Cond.fieldLink RX2 30 "StretchDeskModel" "second" "[I", Cond.fieldLink RX2 33 "StretchDeskModel" "goal" "[I", Cond.methodLink RL 15 yX1_set, Cond.instanceMethod yX1_set, Cond.selects RX1 yX1_set yX1_set, Cond.code yX1_set cX1_set 7 (some .int), Cond.methodLink RX1 32 yX1_placed, Cond.instanceMethod yX1_placed, Cond.selects RX1 yX1_placed yX1_placed, Cond.code yX1_placed cX1_placed 11 (some .int), Cond.methodLink RX1 40 yX1_isSlot, Cond.static yX1_isSlot, Cond.code yX1_isSlot cX1_isSlot 1 (some .boolean), Cond.methodLink RX1 103 yX1_isSort, Cond.static yX1_isSort]
def wsL_law_r3 : List Cond := [Cond.code yX1_isSort cX1_isSort 1 (some .boolean), Cond.methodLink RX1 99 yX0_isNumber, Cond.static yX0_isNumber, Cond.initialized RX0, Cond.code yX0_isNumber cX0_isNumber 3 (some .boolean), Cond.methodLink RX0 9 yX0_isBroken, Cond.static yX0_isBroken, Cond.code yX0_isBroken cX0_isBroken 1 (some .boolean), Cond.methodLink RX0 15 yX0_fitted, Cond.static yX0_fitted, Cond.code yX0_fitted cX0_fitted 3 (some .long), Cond.methodLink RX0 19 yX0_magnitude, Cond.static yX0_magnitude, Cond.code yX0_magnitude cX0_magnitude 3 (some .long), Cond.constantLong RX0 75 (-1), Cond.methodLink RX0 41 yX0_signMask, Cond.static yX0_signMask, Cond.code yX0_signMask cX0_signMask 1 (some .long), Cond.constantLong RX0 71 (-2147483648), Cond.constantLong RX0 73 (-9223372036854775808), Cond.methodLink RX0 22 yX0_infinity, Cond.static yX0_infinity, Cond.code yX0_infinity cX0_infinity 1 (some .long), Cond.methodLink RX0 77 yX0_bias]
def wsL_law_r4 : List Cond := [Cond.static yX0_bias, Cond.code yX0_bias cX0_bias 1 (some .int), Cond.methodLink RX0 81 yX0_fractionBits, Cond.static yX0_fractionBits, Cond.code yX0_fractionBits cX0_fractionBits 1 (some .int), Cond.methodLink RX1 59 yX0_fitted, Cond.methodLink RX1 72 yX0_isLess, Cond.static yX0_isLess, Cond.code yX0_isLess cX0_isLess 5 (some .boolean), Cond.methodLink RX0 26 yX0_brokenRank, Cond.static yX0_brokenRank, Cond.code yX0_brokenRank cX0_brokenRank 2 (some .long), Cond.constantLong RX0 69 (9223372036854775807), Cond.methodLink RX1 106 yX1_put, Cond.instanceMethod yX1_put, Cond.selects RX1 yX1_put yX1_put, Cond.code yX1_put cX1_put 7 (some .int), Cond.methodLink RX1 36 yX1_noted, Cond.instanceMethod yX1_noted, Cond.selects RX1 yX1_noted yX1_noted, Cond.code yX1_noted cX1_noted 2 (some .int), Cond.fieldLink RX1 83 "StretchDesk" "latestRefusal" "I", Cond.fieldLink RX1 93 "StretchDesk" "refusals" "I", Cond.methodLink RL 19 yX2_set]
def wsL_law_r5 : List Cond := [Cond.instanceMethod yX2_set, Cond.selects RX2 yX2_set yX2_set, Cond.code yX2_set cX2_set 11 (some .int), Cond.methodLink RX2 43 yX2_isSlot, Cond.static yX2_isSlot, Cond.code yX2_isSlot cX2_isSlot 1 (some .boolean), Cond.methodLink RX2 128 yX2_refuses, Cond.instanceMethod yX2_refuses, Cond.selects RX2 yX2_refuses yX2_refuses, Cond.code yX2_refuses cX2_refuses 2 (some .int), Cond.fieldLink RX2 36 "StretchDeskModel" "state" "I", Cond.fieldLink RX2 40 "StretchDeskModel" "refused" "I", Cond.methodLink RX2 81 yX2_taken, Cond.static yX2_taken, Cond.code yX2_taken cX2_taken 3 (some .long), Cond.methodLink RX2 131 yX2_isNumber, Cond.static yX2_isNumber, Cond.code yX2_isNumber cX2_isNumber 3 (some .boolean), Cond.methodLink RX2 63 yX2_isBroken, Cond.static yX2_isBroken, Cond.code yX2_isBroken cX2_isBroken 1 (some .boolean), Cond.methodLink RX2 66 yX2_magnitude, Cond.static yX2_magnitude, Cond.code yX2_magnitude cX2_magnitude 3 (some .long)]
def wsL_law_r6 : List Cond := [Cond.constantLong RX2 47 (2147483647), Cond.constantLong RX2 49 (9223372036854775807), Cond.methodLink RX2 70 yX2_endless, Cond.static yX2_endless, Cond.code yX2_endless cX2_endless 1 (some .long), Cond.constantLong RX2 51 (2139095040), Cond.constantLong RX2 53 (9218868437227405312), Cond.methodLink RX2 77 yX2_isAbove, Cond.static yX2_isAbove, Cond.code yX2_isAbove cX2_isAbove 5 (some .boolean), Cond.methodLink RX2 74 yX2_rank, Cond.static yX2_rank, Cond.code yX2_rank cX2_rank 3 (some .long), Cond.methodLink RX2 124 yX2_comes, Cond.instanceMethod yX2_comes, Cond.selects RX2 yX2_comes yX2_comes, Cond.code yX2_comes cX2_comes 7 (some .int), Cond.methodLink RX2 113 yX2_says, Cond.instanceMethod yX2_says, Cond.selects RX2 yX2_says yX2_says, Cond.code yX2_says cX2_says 2 (some .int), Cond.methodLink RL 20 yX1_clear, Cond.instanceMethod yX1_clear, Cond.selects RX1 yX1_clear yX1_clear]
def wsL_law_r7 : List Cond := [Cond.code yX1_clear cX1_clear 3 (some .int), Cond.methodLink RL 24 yX2_clear, Cond.instanceMethod yX2_clear, Cond.selects RX2 yX2_clear yX2_clear, Cond.code yX2_clear cX2_clear 3 (some .int), Cond.methodLink RL 25 yX1_sort, Cond.instanceMethod yX1_sort, Cond.selects RX1 yX1_sort yX1_sort, Cond.code yX1_sort cX1_sort 3 (some .int), Cond.methodLink RX1 44 yX1_refusalToTake, Cond.instanceMethod yX1_refusalToTake, Cond.selects RX1 yX1_refusalToTake yX1_refusalToTake, Cond.code yX1_refusalToTake cX1_refusalToTake 2 (some .int), Cond.methodLink RL 28 yX2_sort, Cond.instanceMethod yX2_sort, Cond.selects RX2 yX2_sort yX2_sort, Cond.code yX2_sort cX2_sort 3 (some .int), Cond.methodLink RX2 135 yX2_whyNot, Cond.instanceMethod yX2_whyNot, Cond.selects RX2 yX2_whyNot yX2_whyNot, Cond.code yX2_whyNot cX2_whyNot 4 (some .int), Cond.methodLink RL 29 yX1_low, Cond.instanceMethod yX1_low, Cond.selects RX1 yX1_low yX1_low]
def wsL_law_r8 : List Cond := [Cond.code yX1_low cX1_low 2 (some .long), Cond.fieldLink RX1 47 "StretchDesk" "endsTold" "I", Cond.methodLink RL 33 yX2_low, Cond.instanceMethod yX2_low, Cond.selects RX2 yX2_low yX2_low, Cond.code yX2_low cX2_low 2 (some .long), Cond.methodLink RX2 142 yX2_end, Cond.instanceMethod yX2_end, Cond.selects RX2 yX2_end yX2_end, Cond.code yX2_end cX2_end 4 (some .long), Cond.fieldLink RX2 139 "StretchDeskModel" "told" "I", Cond.methodLink RL 34 yX1_high, Cond.instanceMethod yX1_high, Cond.selects RX1 yX1_high yX1_high, Cond.code yX1_high cX1_high 2 (some .long), Cond.methodLink RL 37 yX2_high, Cond.instanceMethod yX2_high, Cond.selects RX2 yX2_high yX2_high, Cond.code yX2_high cX2_high 2 (some .long), Cond.methodLink RL 38 yX1_hull, Cond.instanceMethod yX1_hull, Cond.selects RX1 yX1_hull yX1_hull, Cond.code yX1_hull cX1_hull 4 (some .int), Cond.methodLink RX1 51 yX1_performed]
def wsL_law_r9 : List Cond := [Cond.instanceMethod yX1_performed, Cond.selects RX1 yX1_performed yX1_performed, Cond.code yX1_performed cX1_performed 6 (some .int), Cond.methodLink RX1 109 yX1_refusalToPerform, Cond.instanceMethod yX1_refusalToPerform, Cond.selects RX1 yX1_refusalToPerform yX1_refusalToPerform, Cond.code yX1_refusalToPerform cX1_refusalToPerform 5 (some .int), Cond.methodLink RX1 76 yX1_areSlots, Cond.static yX1_areSlots, Cond.code yX1_areSlots cX1_areSlots 4 (some .boolean), Cond.methodLink RX1 96 yX1_takesTwo, Cond.static yX1_takesTwo, Cond.code yX1_takesTwo cX1_takesTwo 1 (some .boolean), Cond.methodLink RX1 112 yX1_joined, Cond.instanceMethod yX1_joined, Cond.selects RX1 yX1_joined yX1_joined, Cond.code yX1_joined cX1_joined 9 (some .int), Cond.methodLink RX1 69 yX0_lesser, Cond.static yX0_lesser, Cond.code yX0_lesser cX0_lesser 5 (some .long), Cond.methodLink RX0 30 yX0_isLess, Cond.methodLink RX1 65 yX0_greater, Cond.static yX0_greater, Cond.code yX0_greater cX0_greater 5 (some .long)]
def wsL_law_r10 : List Cond := [Cond.methodLink RX1 116 yX1_cut, Cond.instanceMethod yX1_cut, Cond.selects RX1 yX1_cut yX1_cut, Cond.code yX1_cut cX1_cut 9 (some .int), Cond.methodLink RX1 138 yX1_putIfAny, Cond.instanceMethod yX1_putIfAny, Cond.selects RX1 yX1_putIfAny yX1_putIfAny, Cond.code yX1_putIfAny cX1_putIfAny 7 (some .int), Cond.methodLink RX1 119 yX1_sized, Cond.instanceMethod yX1_sized, Cond.selects RX1 yX1_sized yX1_sized, Cond.code yX1_sized cX1_sized 8 (some .int), Cond.methodLink RX1 141 yX0_sizeOf, Cond.static yX0_sizeOf, Cond.code yX0_sizeOf cX0_sizeOf 3 (some .long), Cond.methodLink RX0 38 yX0_negated, Cond.static yX0_negated, Cond.code yX0_negated cX0_negated 3 (some .long), Cond.methodLink RX1 144 yX0_isBelowZero, Cond.static yX0_isBelowZero, Cond.code yX0_isBelowZero cX0_isBelowZero 3 (some .boolean), Cond.methodLink RX0 34 yX0_isZero, Cond.static yX0_isZero, Cond.code yX0_isZero cX0_isZero 3 (some .boolean)]
def wsL_law_r11 : List Cond := [Cond.methodLink RX1 147 yX0_isAboveZero, Cond.static yX0_isAboveZero, Cond.code yX0_isAboveZero cX0_isAboveZero 2 (some .boolean), Cond.methodLink RX1 151 yX1_putOrdered, Cond.instanceMethod yX1_putOrdered, Cond.selects RX1 yX1_putOrdered yX1_putOrdered, Cond.code yX1_putOrdered cX1_putOrdered 7 (some .int), Cond.methodLink RX1 123 yX1_rounded, Cond.instanceMethod yX1_rounded, Cond.selects RX1 yX1_rounded yX1_rounded, Cond.code yX1_rounded cX1_rounded 7 (some .int), Cond.methodLink RX1 154 yX0_isBroken, Cond.methodLink RX1 157 yX0_whole, Cond.static yX0_whole, Cond.code yX0_whole cX0_whole 7 (some .long), Cond.methodLink RX0 51 yX0_wholeMagnitude, Cond.static yX0_wholeMagnitude, Cond.code yX0_wholeMagnitude cX0_wholeMagnitude 12 (some .long), Cond.methodLink RX0 84 yX0_power, Cond.static yX0_power, Cond.code yX0_power cX0_power 3 (some .int), Cond.methodLink RX0 88 yX0_half, Cond.static yX0_half, Cond.code yX0_half cX0_half 1 (some .long)]
def wsL_law_r12 : List Cond := [Cond.methodLink RX0 44 yX0_one, Cond.static yX0_one, Cond.code yX0_one cX0_one 1 (some .long), Cond.methodLink RX0 91 yX0_nearestShifted, Cond.static yX0_nearestShifted, Cond.code yX0_nearestShifted cX0_nearestShifted 10 (some .long), Cond.methodLink RX0 47 yX0_withSign, Cond.static yX0_withSign, Cond.code yX0_withSign cX0_withSign 5 (some .long), Cond.methodLink RX1 126 yX1_signed, Cond.instanceMethod yX1_signed, Cond.selects RX1 yX1_signed yX1_signed, Cond.code yX1_signed cX1_signed 4 (some .int), Cond.methodLink RX1 161 yX0_signOf, Cond.static yX0_signOf, Cond.code yX0_signOf cX0_signOf 3 (some .long), Cond.methodLink RX1 129 yX1_lent, Cond.instanceMethod yX1_lent, Cond.selects RX1 yX1_lent yX1_lent, Cond.code yX1_lent cX1_lent 9 (some .int), Cond.methodLink RX1 164 yX0_withSign, Cond.methodLink RX1 132 yX1_turned, Cond.instanceMethod yX1_turned, Cond.selects RX1 yX1_turned yX1_turned]
def wsL_law_r13 : List Cond := [Cond.code yX1_turned cX1_turned 4 (some .int), Cond.methodLink RX1 167 yX0_negated, Cond.methodLink RX1 135 yX1_converted, Cond.instanceMethod yX1_converted, Cond.selects RX1 yX1_converted yX1_converted, Cond.code yX1_converted cX1_converted 8 (some .int), Cond.methodLink RX1 170 yX0_ofSort, Cond.static yX0_ofSort, Cond.code yX0_ofSort cX0_ofSort 8 (some .long), Cond.methodLink RX0 55 yX0_brokenToWhole, Cond.static yX0_brokenToWhole, Cond.code yX0_brokenToWhole cX0_brokenToWhole 12 (some .long), Cond.methodLink RX0 98 yX0_extreme, Cond.static yX0_extreme, Cond.code yX0_extreme cX0_extreme 2 (some .long), Cond.constantLong RX0 105 (2147483647), Cond.methodLink RX0 102 yX0_mantissa, Cond.static yX0_mantissa, Cond.code yX0_mantissa cX0_mantissa 5 (some .long), Cond.methodLink RX0 59 yX0_wholeToBroken, Cond.static yX0_wholeToBroken, Cond.code yX0_wholeToBroken cX0_wholeToBroken 11 (some .long), Cond.methodLink RX0 94 yX0_highestBit, Cond.static yX0_highestBit]
def wsL_law_r14 : List Cond := [Cond.code yX0_highestBit cX0_highestBit 3 (some .int), Cond.methodLink RX0 63 yX0_widened, Cond.static yX0_widened, Cond.code yX0_widened cX0_widened 5 (some .long), Cond.constantLong RX0 107 (4035225266123964416), Cond.methodLink RX0 66 yX0_narrowed, Cond.static yX0_narrowed, Cond.code yX0_narrowed cX0_narrowed 5 (some .long), Cond.methodLink RL 42 yX2_hull, Cond.instanceMethod yX2_hull, Cond.selects RX2 yX2_hull yX2_hull, Cond.code yX2_hull cX2_hull 6 (some .int), Cond.methodLink RX2 117 yX2_lesser, Cond.static yX2_lesser, Cond.code yX2_lesser cX2_lesser 5 (some .long), Cond.methodLink RX2 121 yX2_greater, Cond.static yX2_greater, Cond.code yX2_greater cX2_greater 5 (some .long), Cond.methodLink RL 43 yX1_meet, Cond.instanceMethod yX1_meet, Cond.selects RX1 yX1_meet yX1_meet, Cond.code yX1_meet cX1_meet 4 (some .int), Cond.methodLink RL 46 yX2_meet, Cond.instanceMethod yX2_meet]
def wsL_law_r15 : List Cond := [Cond.selects RX2 yX2_meet yX2_meet, Cond.code yX2_meet cX2_meet 10 (some .int), Cond.methodLink RX2 146 yX2_emptied, Cond.instanceMethod yX2_emptied, Cond.selects RX2 yX2_emptied yX2_emptied, Cond.code yX2_emptied cX2_emptied 2 (some .int), Cond.methodLink RL 47 yX1_size, Cond.instanceMethod yX1_size, Cond.selects RX1 yX1_size yX1_size, Cond.code yX1_size cX1_size 3 (some .int), Cond.methodLink RL 51 yX2_size, Cond.instanceMethod yX2_size, Cond.selects RX2 yX2_size yX2_size, Cond.code yX2_size cX2_size 11 (some .int), Cond.methodLink RX2 149 yX2_isZero, Cond.static yX2_isZero, Cond.code yX2_isZero cX2_isZero 3 (some .boolean), Cond.methodLink RX2 152 yX2_sizeOf, Cond.static yX2_sizeOf, Cond.code yX2_sizeOf cX2_sizeOf 3 (some .long), Cond.methodLink RX2 155 yX2_ordered, Cond.instanceMethod yX2_ordered, Cond.selects RX2 yX2_ordered yX2_ordered, Cond.code yX2_ordered cX2_ordered 7 (some .int)]
def wsL_law_r16 : List Cond := [Cond.methodLink RL 52 yX1_round, Cond.instanceMethod yX1_round, Cond.selects RX1 yX1_round yX1_round, Cond.code yX1_round cX1_round 4 (some .int), Cond.methodLink RL 55 yX2_round, Cond.instanceMethod yX2_round, Cond.selects RX2 yX2_round yX2_round, Cond.code yX2_round cX2_round 10 (some .int), Cond.methodLink RX2 158 yX2_whole, Cond.static yX2_whole, Cond.code yX2_whole cX2_whole 17 (some .long), Cond.constantLong RX2 91 (2), Cond.methodLink RX2 88 yX2_one, Cond.static yX2_one, Cond.code yX2_one cX2_one 1 (some .long), Cond.constantLong RX2 55 (1065353216), Cond.constantLong RX2 57 (4607182418800017408), Cond.methodLink RX2 84 yX2_signed, Cond.static yX2_signed, Cond.code yX2_signed cX2_signed 4 (some .long), Cond.constantLong RX2 59 (2147483648), Cond.constantLong RX2 61 (-9223372036854775808), Cond.methodLink RL 56 yX1_sign, Cond.instanceMethod yX1_sign]
def wsL_law_r17 : List Cond := [Cond.selects RX1 yX1_sign yX1_sign, Cond.code yX1_sign cX1_sign 3 (some .int), Cond.methodLink RL 59 yX2_sign, Cond.instanceMethod yX2_sign, Cond.selects RX2 yX2_sign yX2_sign, Cond.code yX2_sign cX2_sign 4 (some .int), Cond.methodLink RX2 162 yX2_signOf, Cond.static yX2_signOf, Cond.code yX2_signOf cX2_signOf 3 (some .long), Cond.methodLink RL 60 yX1_lend, Cond.instanceMethod yX1_lend, Cond.selects RX1 yX1_lend yX1_lend, Cond.code yX1_lend cX1_lend 4 (some .int), Cond.methodLink RL 63 yX2_lend, Cond.instanceMethod yX2_lend, Cond.selects RX2 yX2_lend yX2_lend, Cond.code yX2_lend cX2_lend 6 (some .int), Cond.methodLink RL 64 yX1_turn, Cond.instanceMethod yX1_turn, Cond.selects RX1 yX1_turn yX1_turn, Cond.code yX1_turn cX1_turn 3 (some .int), Cond.methodLink RL 67 yX2_turn, Cond.instanceMethod yX2_turn, Cond.selects RX2 yX2_turn yX2_turn]
def wsL_law_r18 : List Cond := [Cond.code yX2_turn cX2_turn 4 (some .int), Cond.methodLink RX2 165 yX2_turned, Cond.static yX2_turned, Cond.code yX2_turned cX2_turned 3 (some .long), Cond.methodLink RL 68 yX1_as, Cond.instanceMethod yX1_as, Cond.selects RX1 yX1_as yX1_as, Cond.code yX1_as cX1_as 4 (some .int), Cond.methodLink RL 71 yX2_as, Cond.instanceMethod yX2_as, Cond.selects RX2 yX2_as yX2_as, Cond.code yX2_as cX2_as 5 (some .int), Cond.methodLink RX2 168 yX2_made, Cond.static yX2_made, Cond.code yX2_made cX2_made 6 (some .long), Cond.methodLink RX2 105 ⟨"java/lang/Float", "intBitsToFloat", "(I)F"⟩, Cond.native ⟨"java/lang/Float", "intBitsToFloat", "(I)F"⟩, Cond.static ⟨"java/lang/Float", "intBitsToFloat", "(I)F"⟩, Cond.initialized "java/lang/Float", Cond.methodLink RX2 109 ⟨"java/lang/Double", "longBitsToDouble", "(J)D"⟩, Cond.native ⟨"java/lang/Double", "longBitsToDouble", "(J)D"⟩, Cond.static ⟨"java/lang/Double", "longBitsToDouble", "(J)D"⟩, Cond.initialized "java/lang/Double", Cond.methodLink RX2 93 yJxf58ca_floatToIntBits_5c35a]
def wsL_law_r19 : List Cond := [Cond.static yJxf58ca_floatToIntBits_5c35a, Cond.initialized RJxf58ca, Cond.code yJxf58ca_floatToIntBits_5c35a cJxf58ca_floatToIntBits_5c35a 1 (some .int), Cond.methodLink RJxf58ca 74 ⟨"java/lang/Float", "floatToRawIntBits", "(F)I"⟩, Cond.native ⟨"java/lang/Float", "floatToRawIntBits", "(F)I"⟩, Cond.static ⟨"java/lang/Float", "floatToRawIntBits", "(F)I"⟩, Cond.constant RJxf58ca 77 (2143289344), Cond.methodLink RJxf58ca 59 yJxf58ca_isNaN_12338, Cond.static yJxf58ca_isNaN_12338, Cond.code yJxf58ca_isNaN_12338 cJxf58ca_isNaN_12338 1 (some .boolean), Cond.methodLink RX2 99 yJxe99ae_doubleToLongBits_ccdee, Cond.static yJxe99ae_doubleToLongBits_ccdee, Cond.initialized RJxe99ae, Cond.code yJxe99ae_doubleToLongBits_ccdee cJxe99ae_doubleToLongBits_ccdee 2 (some .long), Cond.methodLink RJxe99ae 134 ⟨"java/lang/Double", "doubleToRawLongBits", "(D)J"⟩, Cond.native ⟨"java/lang/Double", "doubleToRawLongBits", "(D)J"⟩, Cond.static ⟨"java/lang/Double", "doubleToRawLongBits", "(D)J"⟩, Cond.constantLong RJxe99ae 137 (9221120237041090560), Cond.methodLink RJxe99ae 122 yJxe99ae_isNaN_b9ae7, Cond.static yJxe99ae_isNaN_b9ae7, Cond.code yJxe99ae_isNaN_b9ae7 cJxe99ae_isNaN_b9ae7 2 (some .boolean), Cond.methodLink RL 72 yX1_near, Cond.instanceMethod yX1_near, Cond.selects RX1 yX1_near yX1_near]
def wsL_law_r20 : List Cond := [Cond.code yX1_near cX1_near 7 (some .long), Cond.methodLink RX1 55 yX1_refusalToCompare, Cond.instanceMethod yX1_refusalToCompare, Cond.selects RX1 yX1_refusalToCompare yX1_refusalToCompare, Cond.code yX1_refusalToCompare cX1_refusalToCompare 5 (some .int), Cond.methodLink RL 76 yX2_near, Cond.instanceMethod yX2_near, Cond.selects RX2 yX2_near yX2_near, Cond.code yX2_near cX2_near 7 (some .long), Cond.methodLink RL 77 yX1_has, Cond.instanceMethod yX1_has, Cond.selects RX1 yX1_has yX1_has, Cond.code yX1_has cX1_has 9 (some .int), Cond.methodLink RL 81 yX2_has, Cond.instanceMethod yX2_has, Cond.selects RX2 yX2_has yX2_has, Cond.code yX2_has cX2_has 7 (some .int), Cond.methodLink RL 82 yX1_alike, Cond.instanceMethod yX1_alike, Cond.selects RX1 yX1_alike yX1_alike, Cond.code yX1_alike cX1_alike 4 (some .int), Cond.methodLink RL 85 yX2_alike, Cond.instanceMethod yX2_alike, Cond.selects RX2 yX2_alike yX2_alike]
def wsL_law_r21 : List Cond := [Cond.code yX2_alike cX2_alike 4 (some .int), Cond.methodLink RL 86 yX1_step, Cond.instanceMethod yX1_step, Cond.selects RX1 yX1_step yX1_step, Cond.code yX1_step cX1_step 6 (some .int), Cond.methodLink RX1 80 yX1_isStep, Cond.static yX1_isStep, Cond.code yX1_isStep cX1_isStep 1 (some .boolean), Cond.methodLink RL 90 yX2_step, Cond.instanceMethod yX2_step, Cond.selects RX2 yX2_step yX2_step, Cond.code yX2_step cX2_step 7 (some .int), Cond.methodLink RL 91 yX1_run, Cond.instanceMethod yX1_run, Cond.selects RX1 yX1_run yX1_run, Cond.code yX1_run cX1_run 5 (some .int), Cond.fieldLink RX1 86 "StretchDesk" "stepsDone" "I", Cond.methodLink RL 94 yX2_run, Cond.instanceMethod yX2_run, Cond.selects RX2 yX2_run yX2_run, Cond.code yX2_run cX2_run 5 (some .int), Cond.fieldLink RX2 200 "StretchDeskModel" "done" "I", Cond.methodLink RX2 197 yX2_does, Cond.instanceMethod yX2_does]
def wsL_law_r22 : List Cond := [Cond.selects RX2 yX2_does yX2_does, Cond.code yX2_does cX2_does 4 (some .int), Cond.methodLink RX2 172 yX2_hull, Cond.methodLink RX2 175 yX2_meet, Cond.methodLink RX2 178 yX2_size, Cond.methodLink RX2 182 yX2_round, Cond.methodLink RX2 185 yX2_sign, Cond.methodLink RX2 188 yX2_lend, Cond.methodLink RX2 191 yX2_turn, Cond.methodLink RX2 194 yX2_as, Cond.methodLink RL 95 yX1_state, Cond.instanceMethod yX1_state, Cond.selects RX1 yX1_state yX1_state, Cond.code yX1_state cX1_state 1 (some .int), Cond.methodLink RL 99 yX2_state, Cond.instanceMethod yX2_state, Cond.selects RX2 yX2_state yX2_state, Cond.code yX2_state cX2_state 1 (some .int), Cond.methodLink RL 100 yX1_about, Cond.instanceMethod yX1_about, Cond.selects RX1 yX1_about yX1_about, Cond.code yX1_about cX1_about 2 (some .int), Cond.methodLink RX1 89 yX1_present, Cond.static yX1_present]
def wsL_law_r23 : List Cond := [Cond.code yX1_present cX1_present 3 (some .int), Cond.methodLink RL 103 yX2_about, Cond.instanceMethod yX2_about, Cond.selects RX2 yX2_about yX2_about, Cond.code yX2_about cX2_about 4 (some .int)]
def wsL_law : List Cond := (wsL_law_r1 ++ (wsL_law_r2 ++ (wsL_law_r3 ++ (wsL_law_r4 ++ (wsL_law_r5 ++ (wsL_law_r6 ++ (wsL_law_r7 ++ (wsL_law_r8 ++ (wsL_law_r9 ++ (wsL_law_r10 ++ (wsL_law_r11 ++ (wsL_law_r12 ++ (wsL_law_r13 ++ (wsL_law_r14 ++ (wsL_law_r15 ++ (wsL_law_r16 ++ (wsL_law_r17 ++ (wsL_law_r18 ++ (wsL_law_r19 ++ (wsL_law_r20 ++ (wsL_law_r21 ++ (wsL_law_r22 ++ wsL_law_r23)))))))))))))))))))))) ++ wsX10 ++ wsX20 ++ ([] : List Cond)
theorem zmem_r {big : List Cond} (ws : List Cond) (ps : List Nat) (hp : ws = ps.filterMap (fun i => big[i]?)) : ∀ w ∈ ws, w ∈ big := by
  intro w hw
  rw [hp] at hw
  obtain ⟨i, -, hi⟩ := List.mem_filterMap.mp hw
  exact List.mem_of_getElem? hi
theorem zmem_app {big a b : List Cond} (ha : ∀ w ∈ a, w ∈ big) (hb : ∀ w ∈ b, w ∈ big) : ∀ w ∈ a ++ b, w ∈ big := fun w h => (List.mem_append.mp h).elim (ha w) (hb w)
set_option maxRecDepth 20000 in
theorem zl_wsL_law_r1 : ∀ w ∈ wsL_law_r1, w ∈ lw_tbl := zmem_r _ [31, 32, 26, 351, 352, 27, 604, 33, 34, 35, 36, 37, 38, 73, 39, 74, 40, 41, 42, 43, 44, 45, 353, 354] (by decide +kernel)
set_option maxRecDepth 20000 in
theorem zl_wsL_law_r2 : ∀ w ∈ wsL_law_r2, w ∈ lw_tbl := zmem_r _ [355, 356, 357, 358, 359, 394, 360, 361, 362, 363, 364, 75, 76, 77, 78, 79, 81, 0, 82, 83, 84, 85, 86, 87] (by decide +kernel)
set_option maxRecDepth 20000 in
theorem zl_wsL_law_r3 : ∀ w ∈ wsL_law_r3, w ∈ lw_tbl := zmem_r _ [88, 89, 90, 28, 91, 92, 93, 94, 95, 96, 97, 98, 99, 100, 106, 101, 102, 103, 104, 105, 107, 108, 109, 110] (by decide +kernel)
set_option maxRecDepth 20000 in
theorem zl_wsL_law_r4 : ∀ w ∈ wsL_law_r4, w ∈ lw_tbl := zmem_r _ [111, 112, 113, 114, 115, 116, 117, 118, 119, 120, 121, 122, 123, 124, 126, 1, 127, 128, 130, 2, 131, 46, 47, 395] (by decide +kernel)
set_option maxRecDepth 20000 in
theorem zl_wsL_law_r5 : ∀ w ∈ wsL_law_r5, w ∈ lw_tbl := zmem_r _ [396, 397, 398, 399, 400, 401, 402, 404, 17, 405, 365, 366, 406, 407, 408, 409, 410, 411, 412, 413, 414, 415, 416, 417] (by decide +kernel)
set_option maxRecDepth 20000 in
theorem zl_wsL_law_r6 : ∀ w ∈ wsL_law_r6, w ∈ lw_tbl := zmem_r _ [418, 419, 420, 421, 422, 423, 424, 425, 426, 427, 428, 429, 430, 431, 433, 18, 434, 435, 437, 19, 438, 132, 133, 134] (by decide +kernel)
set_option maxRecDepth 20000 in
theorem zl_wsL_law_r7 : ∀ w ∈ wsL_law_r7, w ∈ lw_tbl := zmem_r _ [135, 439, 440, 441, 442, 136, 137, 138, 139, 140, 142, 3, 143, 443, 444, 445, 446, 447, 449, 20, 450, 144, 145, 146] (by decide +kernel)
set_option maxRecDepth 20000 in
theorem zl_wsL_law_r8 : ∀ w ∈ wsL_law_r8, w ∈ lw_tbl := zmem_r _ [147, 48, 451, 452, 453, 454, 455, 457, 21, 458, 367, 148, 149, 150, 151, 459, 460, 461, 462, 152, 153, 154, 155, 156] (by decide +kernel)
set_option maxRecDepth 20000 in
theorem zl_wsL_law_r9 : ∀ w ∈ wsL_law_r9, w ∈ lw_tbl := zmem_r _ [158, 4, 159, 160, 162, 5, 163, 164, 165, 166, 167, 168, 169, 170, 172, 6, 173, 174, 175, 176, 177, 178, 179, 180] (by decide +kernel)
set_option maxRecDepth 20000 in
theorem zl_wsL_law_r10 : ∀ w ∈ wsL_law_r10, w ∈ lw_tbl := zmem_r _ [181, 183, 7, 184, 185, 187, 8, 188, 189, 191, 9, 192, 193, 194, 195, 196, 197, 198, 199, 200, 201, 202, 203, 204] (by decide +kernel)
set_option maxRecDepth 20000 in
theorem zl_wsL_law_r11 : ∀ w ∈ wsL_law_r11, w ∈ lw_tbl := zmem_r _ [205, 206, 207, 208, 210, 10, 211, 212, 214, 11, 215, 216, 217, 218, 219, 220, 221, 222, 223, 224, 225, 226, 227, 228] (by decide +kernel)
set_option maxRecDepth 20000 in
theorem zl_wsL_law_r12 : ∀ w ∈ wsL_law_r12, w ∈ lw_tbl := zmem_r _ [229, 230, 231, 232, 233, 234, 235, 236, 237, 238, 240, 12, 241, 242, 243, 244, 245, 247, 13, 248, 249, 250, 252, 14] (by decide +kernel)
set_option maxRecDepth 20000 in
theorem zl_wsL_law_r13 : ∀ w ∈ wsL_law_r13, w ∈ lw_tbl := zmem_r _ [253, 254, 255, 257, 15, 258, 259, 260, 261, 262, 263, 264, 265, 266, 267, 268, 269, 270, 271, 272, 273, 274, 275, 276] (by decide +kernel)
set_option maxRecDepth 20000 in
theorem zl_wsL_law_r14 : ∀ w ∈ wsL_law_r14, w ∈ lw_tbl := zmem_r _ [277, 278, 279, 280, 281, 282, 283, 284, 463, 464, 465, 466, 467, 468, 469, 470, 471, 472, 285, 286, 287, 288, 473, 474] (by decide +kernel)
set_option maxRecDepth 20000 in
theorem zl_wsL_law_r15 : ∀ w ∈ wsL_law_r15, w ∈ lw_tbl := zmem_r _ [475, 476, 477, 479, 22, 480, 289, 290, 291, 292, 481, 482, 483, 484, 485, 486, 487, 488, 489, 490, 491, 493, 23, 494] (by decide +kernel)
set_option maxRecDepth 20000 in
theorem zl_wsL_law_r16 : ∀ w ∈ wsL_law_r16, w ∈ lw_tbl := zmem_r _ [293, 294, 295, 296, 495, 496, 497, 498, 499, 500, 501, 512, 502, 503, 504, 505, 506, 507, 508, 509, 510, 511, 297, 298] (by decide +kernel)
set_option maxRecDepth 20000 in
theorem zl_wsL_law_r17 : ∀ w ∈ wsL_law_r17, w ∈ lw_tbl := zmem_r _ [299, 300, 513, 514, 515, 516, 517, 518, 519, 301, 302, 303, 304, 520, 521, 522, 523, 305, 306, 307, 308, 524, 525, 526] (by decide +kernel)
set_option maxRecDepth 20000 in
theorem zl_wsL_law_r18 : ∀ w ∈ wsL_law_r18, w ∈ lw_tbl := zmem_r _ [527, 528, 529, 530, 309, 310, 311, 312, 531, 532, 533, 534, 535, 536, 537, 558, 560, 559, 29, 561, 563, 562, 30, 538] (by decide +kernel)
set_option maxRecDepth 20000 in
theorem zl_wsL_law_r19 : ∀ w ∈ wsL_law_r19, w ∈ lw_tbl := zmem_r _ [539, 29, 540, 544, 546, 545, 547, 541, 542, 543, 548, 549, 30, 550, 554, 556, 555, 557, 551, 552, 553, 313, 314, 315] (by decide +kernel)
set_option maxRecDepth 20000 in
theorem zl_wsL_law_r20 : ∀ w ∈ wsL_law_r20, w ∈ lw_tbl := zmem_r _ [316, 317, 319, 16, 320, 564, 565, 566, 567, 321, 322, 323, 324, 568, 569, 570, 571, 325, 326, 327, 328, 572, 573, 574] (by decide +kernel)
set_option maxRecDepth 20000 in
theorem zl_wsL_law_r21 : ∀ w ∈ wsL_law_r21, w ∈ lw_tbl := zmem_r _ [575, 329, 330, 331, 332, 333, 334, 335, 576, 577, 578, 579, 336, 337, 338, 339, 49, 580, 581, 582, 583, 368, 584, 586] (by decide +kernel)
set_option maxRecDepth 20000 in
theorem zl_wsL_law_r22 : ∀ w ∈ wsL_law_r22, w ∈ lw_tbl := zmem_r _ [24, 587, 588, 589, 590, 591, 592, 593, 594, 595, 340, 341, 342, 343, 596, 597, 598, 599, 344, 345, 346, 347, 348, 349] (by decide +kernel)
set_option maxRecDepth 20000 in
theorem zl_wsL_law_r23 : ∀ w ∈ wsL_law_r23, w ∈ lw_tbl := zmem_r _ [350, 600, 601, 602, 603] (by decide +kernel)
set_option maxRecDepth 20000 in
theorem zl_X1 : ∀ w ∈ wsX10, w ∈ lw_tbl := by decide +kernel
set_option maxRecDepth 20000 in
theorem zl_X2 : ∀ w ∈ wsX20, w ∈ lw_tbl := by decide +kernel
theorem wsL_law_in : ∀ w ∈ wsL_law, w ∈ lw_tbl := zmem_app (zmem_app (zmem_app (zmem_app zl_wsL_law_r1 (zmem_app zl_wsL_law_r2 (zmem_app zl_wsL_law_r3 (zmem_app zl_wsL_law_r4 (zmem_app zl_wsL_law_r5 (zmem_app zl_wsL_law_r6 (zmem_app zl_wsL_law_r7 (zmem_app zl_wsL_law_r8 (zmem_app zl_wsL_law_r9 (zmem_app zl_wsL_law_r10 (zmem_app zl_wsL_law_r11 (zmem_app zl_wsL_law_r12 (zmem_app zl_wsL_law_r13 (zmem_app zl_wsL_law_r14 (zmem_app zl_wsL_law_r15 (zmem_app zl_wsL_law_r16 (zmem_app zl_wsL_law_r17 (zmem_app zl_wsL_law_r18 (zmem_app zl_wsL_law_r19 (zmem_app zl_wsL_law_r20 (zmem_app zl_wsL_law_r21 (zmem_app zl_wsL_law_r22 zl_wsL_law_r23)))))))))))))))))))))) zl_X1) zl_X2) (fun w h => absurd h List.not_mem_nil)
theorem inX0 : ∀ w ∈ wsX00, w ∈ lw_tbl := by decide +kernel
theorem inlX1 : ∀ w ∈ wsX10, w ∈ wsL_law := fun _ h => List.mem_append_left _ (List.mem_append_left _ (List.mem_append_right _ h))
theorem inX1 : ∀ w ∈ wsX10, w ∈ lw_tbl := fun w h => wsL_law_in w (inlX1 w h)
theorem inlX2 : ∀ w ∈ wsX20, w ∈ wsL_law := fun _ h => List.mem_append_left _ (List.mem_append_right _ h)
theorem inX2 : ∀ w ∈ wsX20, w ∈ lw_tbl := fun w h => wsL_law_in w (inlX2 w h)
theorem inJxe99ae : ∀ w ∈ wsJxe99ae0, w ∈ lw_tbl := by decide +kernel
theorem inJxf58ca : ∀ w ∈ wsJxf58ca0, w ∈ lw_tbl := by decide +kernel
end
section
theorem dX0_isBroken_0 : decode cX0_isBroken 0 = .ok (.iload_n 0, 1) := by decide +kernel
theorem dX0_isBroken_1 : decode cX0_isBroken 1 = .ok (.iconst 2, 1) := by decide +kernel
theorem dX0_isBroken_2 : decode cX0_isBroken 2 = .ok (.if_icmp .eq 8, 3) := by decide +kernel
theorem dX0_isBroken_5 : decode cX0_isBroken 5 = .ok (.iload_n 0, 1) := by decide +kernel
theorem dX0_isBroken_6 : decode cX0_isBroken 6 = .ok (.iconst 3, 1) := by decide +kernel
theorem dX0_isBroken_7 : decode cX0_isBroken 7 = .ok (.if_icmp .ne 7, 3) := by decide +kernel
theorem dX0_isBroken_10 : decode cX0_isBroken 10 = .ok (.iconst 1, 1) := by decide +kernel
theorem dX0_isBroken_11 : decode cX0_isBroken 11 = .ok (.goto 4, 3) := by decide +kernel
theorem dX0_isBroken_14 : decode cX0_isBroken 14 = .ok (.iconst 0, 1) := by decide +kernel
theorem dX0_isBroken_15 : decode cX0_isBroken 15 = .ok (.ireturn, 1) := by decide +kernel
set_option maxRecDepth 20000 in
theorem ggX0_isNumber_X0_isBroken : GoodIn wsX0_isNumber wsX0_isBroken := goodIn_r _ [4] (by decide +kernel) (by decide +kernel)
set_option maxRecDepth 20000 in
theorem gX0_isNumber_X0_isBroken : GoodIn wsX0_isNumber (va_wsS RX0 9 yX0_isBroken wsX0_isBroken) := goodIn_app (goodIn_of _ (by decide +kernel)) ggX0_isNumber_X0_isBroken
set_option maxRecDepth 20000 in
theorem ggX0_isNumber_X0_fitted : GoodIn wsX0_isNumber wsX0_fitted := goodIn_r _ [7] (by decide +kernel) (by decide +kernel)
set_option maxRecDepth 20000 in
theorem gX0_isNumber_X0_fitted : GoodIn wsX0_isNumber (va_wsS RX0 15 yX0_fitted wsX0_fitted) := goodIn_app (goodIn_of _ (by decide +kernel)) ggX0_isNumber_X0_fitted
set_option maxRecDepth 20000 in
theorem ggX0_isNumber_X0_magnitude : GoodIn wsX0_isNumber wsX0_magnitude := goodIn_r _ [10, 11, 12, 13, 3, 14, 15, 16] (by decide +kernel) (by decide +kernel)
set_option maxRecDepth 20000 in
theorem gX0_isNumber_X0_magnitude : GoodIn wsX0_isNumber (va_wsS RX0 19 yX0_magnitude wsX0_magnitude) := goodIn_app (goodIn_of _ (by decide +kernel)) ggX0_isNumber_X0_magnitude
set_option maxRecDepth 20000 in
theorem ggX0_isNumber_X0_infinity : GoodIn wsX0_isNumber wsX0_infinity := goodIn_r _ [19, 20, 21, 3, 22, 23, 24, 25] (by decide +kernel) (by decide +kernel)
set_option maxRecDepth 20000 in
theorem gX0_isNumber_X0_infinity : GoodIn wsX0_isNumber (va_wsS RX0 22 yX0_infinity wsX0_infinity) := goodIn_app (goodIn_of _ (by decide +kernel)) ggX0_isNumber_X0_infinity
theorem dX0_isNumber_0 : decode cX0_isNumber 0 = .ok (.iload_n 0, 1) := by decide +kernel
theorem dX0_isNumber_1 : decode cX0_isNumber 1 = .ok (.invokestatic 9, 3) := by decide +kernel
theorem dX0_isNumber_4 : decode cX0_isNumber 4 = .ok (.ifCond .eq 20, 3) := by decide +kernel
theorem dX0_isNumber_7 : decode cX0_isNumber 7 = .ok (.iload_n 0, 1) := by decide +kernel
theorem dX0_isNumber_8 : decode cX0_isNumber 8 = .ok (.iload_n 0, 1) := by decide +kernel
theorem dX0_isNumber_9 : decode cX0_isNumber 9 = .ok (.lload_n 1, 1) := by decide +kernel
theorem dX0_isNumber_10 : decode cX0_isNumber 10 = .ok (.invokestatic 15, 3) := by decide +kernel
theorem dX0_isNumber_13 : decode cX0_isNumber 13 = .ok (.invokestatic 19, 3) := by decide +kernel
theorem dX0_isNumber_16 : decode cX0_isNumber 16 = .ok (.iload_n 0, 1) := by decide +kernel
theorem dX0_isNumber_17 : decode cX0_isNumber 17 = .ok (.invokestatic 22, 3) := by decide +kernel
theorem dX0_isNumber_20 : decode cX0_isNumber 20 = .ok (.lcmp, 1) := by decide +kernel
theorem dX0_isNumber_21 : decode cX0_isNumber 21 = .ok (.ifCond .gt 7, 3) := by decide +kernel
theorem dX0_isNumber_24 : decode cX0_isNumber 24 = .ok (.iconst 1, 1) := by decide +kernel
theorem dX0_isNumber_25 : decode cX0_isNumber 25 = .ok (.goto 4, 3) := by decide +kernel
theorem dX0_isNumber_28 : decode cX0_isNumber 28 = .ok (.iconst 0, 1) := by decide +kernel
theorem dX0_isNumber_29 : decode cX0_isNumber 29 = .ok (.ireturn, 1) := by decide +kernel
theorem dX0_fitted_0 : decode cX0_fitted 0 = .ok (.iload_n 0, 1) := by decide +kernel
theorem dX0_fitted_1 : decode cX0_fitted 1 = .ok (.ifCond .eq 8, 3) := by decide +kernel
theorem dX0_fitted_4 : decode cX0_fitted 4 = .ok (.iload_n 0, 1) := by decide +kernel
theorem dX0_fitted_5 : decode cX0_fitted 5 = .ok (.iconst 2, 1) := by decide +kernel
theorem dX0_fitted_6 : decode cX0_fitted 6 = .ok (.if_icmp .ne 9, 3) := by decide +kernel
theorem dX0_fitted_9 : decode cX0_fitted 9 = .ok (.lload_n 1, 1) := by decide +kernel
theorem dX0_fitted_10 : decode cX0_fitted 10 = .ok (.l2i, 1) := by decide +kernel
theorem dX0_fitted_11 : decode cX0_fitted 11 = .ok (.i2l, 1) := by decide +kernel
theorem dX0_fitted_12 : decode cX0_fitted 12 = .ok (.goto 4, 3) := by decide +kernel
theorem dX0_fitted_15 : decode cX0_fitted 15 = .ok (.lload_n 1, 1) := by decide +kernel
theorem dX0_fitted_16 : decode cX0_fitted 16 = .ok (.lreturn, 1) := by decide +kernel
set_option maxRecDepth 20000 in
theorem ggX0_isLess_X0_isBroken : GoodIn wsX0_isLess wsX0_isBroken := goodIn_r _ [4] (by decide +kernel) (by decide +kernel)
set_option maxRecDepth 20000 in
theorem gX0_isLess_X0_isBroken : GoodIn wsX0_isLess (va_wsS RX0 9 yX0_isBroken wsX0_isBroken) := goodIn_app (goodIn_of _ (by decide +kernel)) ggX0_isLess_X0_isBroken
set_option maxRecDepth 20000 in
theorem ggX0_isLess_X0_brokenRank : GoodIn wsX0_isLess wsX0_brokenRank := goodIn_r _ [7, 8] (by decide +kernel) (by decide +kernel)
set_option maxRecDepth 20000 in
theorem gX0_isLess_X0_brokenRank : GoodIn wsX0_isLess (va_wsS RX0 26 yX0_brokenRank wsX0_brokenRank) := goodIn_app (goodIn_of _ (by decide +kernel)) ggX0_isLess_X0_brokenRank
theorem dX0_isLess_0 : decode cX0_isLess 0 = .ok (.iload_n 0, 1) := by decide +kernel
theorem dX0_isLess_1 : decode cX0_isLess 1 = .ok (.invokestatic 9, 3) := by decide +kernel
theorem dX0_isLess_4 : decode cX0_isLess 4 = .ok (.ifCond .eq 23, 3) := by decide +kernel
theorem dX0_isLess_7 : decode cX0_isLess 7 = .ok (.lload_n 1, 1) := by decide +kernel
theorem dX0_isLess_8 : decode cX0_isLess 8 = .ok (.invokestatic 26, 3) := by decide +kernel
theorem dX0_isLess_11 : decode cX0_isLess 11 = .ok (.lload_n 3, 1) := by decide +kernel
theorem dX0_isLess_12 : decode cX0_isLess 12 = .ok (.invokestatic 26, 3) := by decide +kernel
theorem dX0_isLess_15 : decode cX0_isLess 15 = .ok (.lcmp, 1) := by decide +kernel
theorem dX0_isLess_16 : decode cX0_isLess 16 = .ok (.ifCond .ge 7, 3) := by decide +kernel
theorem dX0_isLess_19 : decode cX0_isLess 19 = .ok (.iconst 1, 1) := by decide +kernel
theorem dX0_isLess_20 : decode cX0_isLess 20 = .ok (.goto 18, 3) := by decide +kernel
theorem dX0_isLess_23 : decode cX0_isLess 23 = .ok (.iconst 0, 1) := by decide +kernel
theorem dX0_isLess_24 : decode cX0_isLess 24 = .ok (.goto 14, 3) := by decide +kernel
theorem dX0_isLess_27 : decode cX0_isLess 27 = .ok (.lload_n 1, 1) := by decide +kernel
theorem dX0_isLess_28 : decode cX0_isLess 28 = .ok (.lload_n 3, 1) := by decide +kernel
theorem dX0_isLess_29 : decode cX0_isLess 29 = .ok (.lcmp, 1) := by decide +kernel
theorem dX0_isLess_30 : decode cX0_isLess 30 = .ok (.ifCond .ge 7, 3) := by decide +kernel
theorem dX0_isLess_33 : decode cX0_isLess 33 = .ok (.iconst 1, 1) := by decide +kernel
theorem dX0_isLess_34 : decode cX0_isLess 34 = .ok (.goto 4, 3) := by decide +kernel
theorem dX0_isLess_37 : decode cX0_isLess 37 = .ok (.iconst 0, 1) := by decide +kernel
theorem dX0_isLess_38 : decode cX0_isLess 38 = .ok (.ireturn, 1) := by decide +kernel
set_option maxRecDepth 20000 in
theorem ggX0_lesser_X0_isLess : GoodIn wsX0_lesser wsX0_isLess := goodIn_r _ [4, 5, 6, 3, 7, 8, 9, 10, 11] (by decide +kernel) (by decide +kernel)
set_option maxRecDepth 20000 in
theorem gX0_lesser_X0_isLess : GoodIn wsX0_lesser (va_wsS RX0 30 yX0_isLess wsX0_isLess) := goodIn_app (goodIn_of _ (by decide +kernel)) ggX0_lesser_X0_isLess
theorem dX0_lesser_0 : decode cX0_lesser 0 = .ok (.iload_n 0, 1) := by decide +kernel
theorem dX0_lesser_1 : decode cX0_lesser 1 = .ok (.lload_n 3, 1) := by decide +kernel
theorem dX0_lesser_2 : decode cX0_lesser 2 = .ok (.lload_n 1, 1) := by decide +kernel
theorem dX0_lesser_3 : decode cX0_lesser 3 = .ok (.invokestatic 30, 3) := by decide +kernel
theorem dX0_lesser_6 : decode cX0_lesser 6 = .ok (.ifCond .eq 7, 3) := by decide +kernel
theorem dX0_lesser_9 : decode cX0_lesser 9 = .ok (.lload_n 3, 1) := by decide +kernel
theorem dX0_lesser_10 : decode cX0_lesser 10 = .ok (.goto 4, 3) := by decide +kernel
theorem dX0_lesser_13 : decode cX0_lesser 13 = .ok (.lload_n 1, 1) := by decide +kernel
theorem dX0_lesser_14 : decode cX0_lesser 14 = .ok (.lreturn, 1) := by decide +kernel
set_option maxRecDepth 20000 in
theorem ggX0_greater_X0_isLess : GoodIn wsX0_greater wsX0_isLess := goodIn_r _ [4, 5, 6, 3, 7, 8, 9, 10, 11] (by decide +kernel) (by decide +kernel)
set_option maxRecDepth 20000 in
theorem gX0_greater_X0_isLess : GoodIn wsX0_greater (va_wsS RX0 30 yX0_isLess wsX0_isLess) := goodIn_app (goodIn_of _ (by decide +kernel)) ggX0_greater_X0_isLess
theorem dX0_greater_0 : decode cX0_greater 0 = .ok (.iload_n 0, 1) := by decide +kernel
theorem dX0_greater_1 : decode cX0_greater 1 = .ok (.lload_n 1, 1) := by decide +kernel
theorem dX0_greater_2 : decode cX0_greater 2 = .ok (.lload_n 3, 1) := by decide +kernel
theorem dX0_greater_3 : decode cX0_greater 3 = .ok (.invokestatic 30, 3) := by decide +kernel
theorem dX0_greater_6 : decode cX0_greater 6 = .ok (.ifCond .eq 7, 3) := by decide +kernel
theorem dX0_greater_9 : decode cX0_greater 9 = .ok (.lload_n 3, 1) := by decide +kernel
theorem dX0_greater_10 : decode cX0_greater 10 = .ok (.goto 4, 3) := by decide +kernel
theorem dX0_greater_13 : decode cX0_greater 13 = .ok (.lload_n 1, 1) := by decide +kernel
theorem dX0_greater_14 : decode cX0_greater 14 = .ok (.lreturn, 1) := by decide +kernel
set_option maxRecDepth 20000 in
theorem ggX0_isBelowZero_X0_isZero : GoodIn wsX0_isBelowZero wsX0_isZero := goodIn_r _ [4, 5, 6, 3, 7, 8, 9, 10, 11, 12, 13, 14, 15, 16] (by decide +kernel) (by decide +kernel)
set_option maxRecDepth 20000 in
theorem gX0_isBelowZero_X0_isZero : GoodIn wsX0_isBelowZero (va_wsS RX0 34 yX0_isZero wsX0_isZero) := goodIn_app (goodIn_of _ (by decide +kernel)) ggX0_isBelowZero_X0_isZero
theorem dX0_isBelowZero_0 : decode cX0_isBelowZero 0 = .ok (.lload_n 1, 1) := by decide +kernel
theorem dX0_isBelowZero_1 : decode cX0_isBelowZero 1 = .ok (.lconst 0, 1) := by decide +kernel
theorem dX0_isBelowZero_2 : decode cX0_isBelowZero 2 = .ok (.lcmp, 1) := by decide +kernel
theorem dX0_isBelowZero_3 : decode cX0_isBelowZero 3 = .ok (.ifCond .ge 15, 3) := by decide +kernel
theorem dX0_isBelowZero_6 : decode cX0_isBelowZero 6 = .ok (.iload_n 0, 1) := by decide +kernel
theorem dX0_isBelowZero_7 : decode cX0_isBelowZero 7 = .ok (.lload_n 1, 1) := by decide +kernel
theorem dX0_isBelowZero_8 : decode cX0_isBelowZero 8 = .ok (.invokestatic 34, 3) := by decide +kernel
theorem dX0_isBelowZero_11 : decode cX0_isBelowZero 11 = .ok (.ifCond .ne 7, 3) := by decide +kernel
theorem dX0_isBelowZero_14 : decode cX0_isBelowZero 14 = .ok (.iconst 1, 1) := by decide +kernel
theorem dX0_isBelowZero_15 : decode cX0_isBelowZero 15 = .ok (.goto 4, 3) := by decide +kernel
theorem dX0_isBelowZero_18 : decode cX0_isBelowZero 18 = .ok (.iconst 0, 1) := by decide +kernel
theorem dX0_isBelowZero_19 : decode cX0_isBelowZero 19 = .ok (.ireturn, 1) := by decide +kernel
theorem dX0_isAboveZero_0 : decode cX0_isAboveZero 0 = .ok (.lload_n 0, 1) := by decide +kernel
theorem dX0_isAboveZero_1 : decode cX0_isAboveZero 1 = .ok (.lconst 0, 1) := by decide +kernel
theorem dX0_isAboveZero_2 : decode cX0_isAboveZero 2 = .ok (.lcmp, 1) := by decide +kernel
theorem dX0_isAboveZero_3 : decode cX0_isAboveZero 3 = .ok (.ifCond .le 7, 3) := by decide +kernel
theorem dX0_isAboveZero_6 : decode cX0_isAboveZero 6 = .ok (.iconst 1, 1) := by decide +kernel
theorem dX0_isAboveZero_7 : decode cX0_isAboveZero 7 = .ok (.goto 4, 3) := by decide +kernel
theorem dX0_isAboveZero_10 : decode cX0_isAboveZero 10 = .ok (.iconst 0, 1) := by decide +kernel
theorem dX0_isAboveZero_11 : decode cX0_isAboveZero 11 = .ok (.ireturn, 1) := by decide +kernel
set_option maxRecDepth 20000 in
theorem ggX0_sizeOf_X0_negated : GoodIn wsX0_sizeOf wsX0_negated := goodIn_r _ [4, 5, 6, 3, 7, 8, 9, 10, 11, 12, 13, 14, 15] (by decide +kernel) (by decide +kernel)
set_option maxRecDepth 20000 in
theorem gX0_sizeOf_X0_negated : GoodIn wsX0_sizeOf (va_wsS RX0 38 yX0_negated wsX0_negated) := goodIn_app (goodIn_of _ (by decide +kernel)) ggX0_sizeOf_X0_negated
theorem dX0_sizeOf_0 : decode cX0_sizeOf 0 = .ok (.lload_n 1, 1) := by decide +kernel
theorem dX0_sizeOf_1 : decode cX0_sizeOf 1 = .ok (.lconst 0, 1) := by decide +kernel
theorem dX0_sizeOf_2 : decode cX0_sizeOf 2 = .ok (.lcmp, 1) := by decide +kernel
theorem dX0_sizeOf_3 : decode cX0_sizeOf 3 = .ok (.ifCond .ge 11, 3) := by decide +kernel
theorem dX0_sizeOf_6 : decode cX0_sizeOf 6 = .ok (.iload_n 0, 1) := by decide +kernel
theorem dX0_sizeOf_7 : decode cX0_sizeOf 7 = .ok (.lload_n 1, 1) := by decide +kernel
theorem dX0_sizeOf_8 : decode cX0_sizeOf 8 = .ok (.invokestatic 38, 3) := by decide +kernel
theorem dX0_sizeOf_11 : decode cX0_sizeOf 11 = .ok (.goto 4, 3) := by decide +kernel
theorem dX0_sizeOf_14 : decode cX0_sizeOf 14 = .ok (.lload_n 1, 1) := by decide +kernel
theorem dX0_sizeOf_15 : decode cX0_sizeOf 15 = .ok (.lreturn, 1) := by decide +kernel
set_option maxRecDepth 20000 in
theorem ggX0_negated_X0_isBroken : GoodIn wsX0_negated wsX0_isBroken := goodIn_r _ [4] (by decide +kernel) (by decide +kernel)
set_option maxRecDepth 20000 in
theorem gX0_negated_X0_isBroken : GoodIn wsX0_negated (va_wsS RX0 9 yX0_isBroken wsX0_isBroken) := goodIn_app (goodIn_of _ (by decide +kernel)) ggX0_negated_X0_isBroken
set_option maxRecDepth 20000 in
theorem ggX0_negated_X0_signMask : GoodIn wsX0_negated wsX0_signMask := goodIn_r _ [7, 8, 9] (by decide +kernel) (by decide +kernel)
set_option maxRecDepth 20000 in
theorem gX0_negated_X0_signMask : GoodIn wsX0_negated (va_wsS RX0 41 yX0_signMask wsX0_signMask) := goodIn_app (goodIn_of _ (by decide +kernel)) ggX0_negated_X0_signMask
set_option maxRecDepth 20000 in
theorem ggX0_negated_X0_fitted : GoodIn wsX0_negated wsX0_fitted := goodIn_r _ [12] (by decide +kernel) (by decide +kernel)
set_option maxRecDepth 20000 in
theorem gX0_negated_X0_fitted : GoodIn wsX0_negated (va_wsS RX0 15 yX0_fitted wsX0_fitted) := goodIn_app (goodIn_of _ (by decide +kernel)) ggX0_negated_X0_fitted
theorem dX0_negated_0 : decode cX0_negated 0 = .ok (.iload_n 0, 1) := by decide +kernel
theorem dX0_negated_1 : decode cX0_negated 1 = .ok (.invokestatic 9, 3) := by decide +kernel
theorem dX0_negated_4 : decode cX0_negated 4 = .ok (.ifCond .eq 12, 3) := by decide +kernel
theorem dX0_negated_7 : decode cX0_negated 7 = .ok (.lload_n 1, 1) := by decide +kernel
theorem dX0_negated_8 : decode cX0_negated 8 = .ok (.iload_n 0, 1) := by decide +kernel
theorem dX0_negated_9 : decode cX0_negated 9 = .ok (.invokestatic 41, 3) := by decide +kernel
theorem dX0_negated_12 : decode cX0_negated 12 = .ok (.lxor, 1) := by decide +kernel
theorem dX0_negated_13 : decode cX0_negated 13 = .ok (.goto 9, 3) := by decide +kernel
theorem dX0_negated_16 : decode cX0_negated 16 = .ok (.iload_n 0, 1) := by decide +kernel
theorem dX0_negated_17 : decode cX0_negated 17 = .ok (.lload_n 1, 1) := by decide +kernel
theorem dX0_negated_18 : decode cX0_negated 18 = .ok (.lneg, 1) := by decide +kernel
theorem dX0_negated_19 : decode cX0_negated 19 = .ok (.invokestatic 15, 3) := by decide +kernel
theorem dX0_negated_22 : decode cX0_negated 22 = .ok (.lreturn, 1) := by decide +kernel
set_option maxRecDepth 20000 in
theorem ggX0_withSign_X0_magnitude : GoodIn wsX0_withSign wsX0_magnitude := goodIn_r _ [4, 5, 6, 7, 3, 8, 9, 10] (by decide +kernel) (by decide +kernel)
set_option maxRecDepth 20000 in
theorem gX0_withSign_X0_magnitude : GoodIn wsX0_withSign (va_wsS RX0 19 yX0_magnitude wsX0_magnitude) := goodIn_app (goodIn_of _ (by decide +kernel)) ggX0_withSign_X0_magnitude
set_option maxRecDepth 20000 in
theorem ggX0_withSign_X0_signMask : GoodIn wsX0_withSign wsX0_signMask := goodIn_r _ [8, 9, 10] (by decide +kernel) (by decide +kernel)
set_option maxRecDepth 20000 in
theorem gX0_withSign_X0_signMask : GoodIn wsX0_withSign (va_wsS RX0 41 yX0_signMask wsX0_signMask) := goodIn_app (goodIn_of _ (by decide +kernel)) ggX0_withSign_X0_signMask
theorem dX0_withSign_0 : decode cX0_withSign 0 = .ok (.iload_n 0, 1) := by decide +kernel
theorem dX0_withSign_1 : decode cX0_withSign 1 = .ok (.lload_n 1, 1) := by decide +kernel
theorem dX0_withSign_2 : decode cX0_withSign 2 = .ok (.invokestatic 19, 3) := by decide +kernel
theorem dX0_withSign_5 : decode cX0_withSign 5 = .ok (.lload_n 3, 1) := by decide +kernel
theorem dX0_withSign_6 : decode cX0_withSign 6 = .ok (.iload_n 0, 1) := by decide +kernel
theorem dX0_withSign_7 : decode cX0_withSign 7 = .ok (.invokestatic 41, 3) := by decide +kernel
theorem dX0_withSign_10 : decode cX0_withSign 10 = .ok (.land, 1) := by decide +kernel
theorem dX0_withSign_11 : decode cX0_withSign 11 = .ok (.lor, 1) := by decide +kernel
theorem dX0_withSign_12 : decode cX0_withSign 12 = .ok (.lreturn, 1) := by decide +kernel
set_option maxRecDepth 20000 in
theorem ggX0_signOf_X0_isZero : GoodIn wsX0_signOf wsX0_isZero := goodIn_r _ [4, 5, 6, 3, 7, 8, 9, 10, 11, 12, 13, 14, 15, 16] (by decide +kernel) (by decide +kernel)
set_option maxRecDepth 20000 in
theorem gX0_signOf_X0_isZero : GoodIn wsX0_signOf (va_wsS RX0 34 yX0_isZero wsX0_isZero) := goodIn_app (goodIn_of _ (by decide +kernel)) ggX0_signOf_X0_isZero
set_option maxRecDepth 20000 in
theorem ggX0_signOf_X0_one : GoodIn wsX0_signOf wsX0_one := goodIn_r _ [19, 20, 21, 3, 22, 23, 24, 25] (by decide +kernel) (by decide +kernel)
set_option maxRecDepth 20000 in
theorem gX0_signOf_X0_one : GoodIn wsX0_signOf (va_wsS RX0 44 yX0_one wsX0_one) := goodIn_app (goodIn_of _ (by decide +kernel)) ggX0_signOf_X0_one
set_option maxRecDepth 20000 in
theorem ggX0_signOf_X0_withSign : GoodIn wsX0_signOf wsX0_withSign := goodIn_r _ [28, 8, 9, 3, 10, 11, 12, 13, 14, 15, 16] (by decide +kernel) (by decide +kernel)
set_option maxRecDepth 20000 in
theorem gX0_signOf_X0_withSign : GoodIn wsX0_signOf (va_wsS RX0 47 yX0_withSign wsX0_withSign) := goodIn_app (goodIn_of _ (by decide +kernel)) ggX0_signOf_X0_withSign
theorem dX0_signOf_0 : decode cX0_signOf 0 = .ok (.iload_n 0, 1) := by decide +kernel
theorem dX0_signOf_1 : decode cX0_signOf 1 = .ok (.lload_n 1, 1) := by decide +kernel
theorem dX0_signOf_2 : decode cX0_signOf 2 = .ok (.invokestatic 34, 3) := by decide +kernel
theorem dX0_signOf_5 : decode cX0_signOf 5 = .ok (.ifCond .eq 7, 3) := by decide +kernel
theorem dX0_signOf_8 : decode cX0_signOf 8 = .ok (.lload_n 1, 1) := by decide +kernel
theorem dX0_signOf_9 : decode cX0_signOf 9 = .ok (.goto 12, 3) := by decide +kernel
theorem dX0_signOf_12 : decode cX0_signOf 12 = .ok (.iload_n 0, 1) := by decide +kernel
theorem dX0_signOf_13 : decode cX0_signOf 13 = .ok (.iload_n 0, 1) := by decide +kernel
theorem dX0_signOf_14 : decode cX0_signOf 14 = .ok (.invokestatic 44, 3) := by decide +kernel
theorem dX0_signOf_17 : decode cX0_signOf 17 = .ok (.lload_n 1, 1) := by decide +kernel
theorem dX0_signOf_18 : decode cX0_signOf 18 = .ok (.invokestatic 47, 3) := by decide +kernel
theorem dX0_signOf_21 : decode cX0_signOf 21 = .ok (.lreturn, 1) := by decide +kernel
set_option maxRecDepth 20000 in
theorem ggX0_whole_X0_magnitude : GoodIn wsX0_whole wsX0_magnitude := goodIn_r _ [4, 5, 6, 7, 3, 8, 9, 10] (by decide +kernel) (by decide +kernel)
set_option maxRecDepth 20000 in
theorem gX0_whole_X0_magnitude : GoodIn wsX0_whole (va_wsS RX0 19 yX0_magnitude wsX0_magnitude) := goodIn_app (goodIn_of _ (by decide +kernel)) ggX0_whole_X0_magnitude
set_option maxRecDepth 20000 in
theorem ggX0_whole_X0_wholeMagnitude : GoodIn wsX0_whole wsX0_wholeMagnitude := goodIn_r _ [13, 14, 15, 3, 16, 17, 18, 19, 20, 21, 22, 23, 24, 25, 26, 27, 28, 29, 30, 31] (by decide +kernel) (by decide +kernel)
set_option maxRecDepth 20000 in
theorem gX0_whole_X0_wholeMagnitude : GoodIn wsX0_whole (va_wsS RX0 51 yX0_wholeMagnitude wsX0_wholeMagnitude) := goodIn_app (goodIn_of _ (by decide +kernel)) ggX0_whole_X0_wholeMagnitude
set_option maxRecDepth 20000 in
theorem ggX0_whole_X0_withSign : GoodIn wsX0_whole wsX0_withSign := goodIn_r _ [34, 1, 2, 3, 4, 5, 6, 7, 8, 9, 10] (by decide +kernel) (by decide +kernel)
set_option maxRecDepth 20000 in
theorem gX0_whole_X0_withSign : GoodIn wsX0_whole (va_wsS RX0 47 yX0_withSign wsX0_withSign) := goodIn_app (goodIn_of _ (by decide +kernel)) ggX0_whole_X0_withSign
theorem dX0_whole_0 : decode cX0_whole 0 = .ok (.lload_n 1, 1) := by decide +kernel
theorem dX0_whole_1 : decode cX0_whole 1 = .ok (.lconst 0, 1) := by decide +kernel
theorem dX0_whole_2 : decode cX0_whole 2 = .ok (.lcmp, 1) := by decide +kernel
theorem dX0_whole_3 : decode cX0_whole 3 = .ok (.ifCond .ge 15, 3) := by decide +kernel
theorem dX0_whole_6 : decode cX0_whole 6 = .ok (.iload_n 3, 1) := by decide +kernel
theorem dX0_whole_7 : decode cX0_whole 7 = .ok (.ifCond .ne 7, 3) := by decide +kernel
theorem dX0_whole_10 : decode cX0_whole 10 = .ok (.iconst 1, 1) := by decide +kernel
theorem dX0_whole_11 : decode cX0_whole 11 = .ok (.goto 17, 3) := by decide +kernel
theorem dX0_whole_14 : decode cX0_whole 14 = .ok (.iconst 0, 1) := by decide +kernel
theorem dX0_whole_15 : decode cX0_whole 15 = .ok (.goto 13, 3) := by decide +kernel
theorem dX0_whole_18 : decode cX0_whole 18 = .ok (.iload_n 3, 1) := by decide +kernel
theorem dX0_whole_19 : decode cX0_whole 19 = .ok (.iconst 1, 1) := by decide +kernel
theorem dX0_whole_20 : decode cX0_whole 20 = .ok (.if_icmp .ne 7, 3) := by decide +kernel
theorem dX0_whole_23 : decode cX0_whole 23 = .ok (.iconst 1, 1) := by decide +kernel
theorem dX0_whole_24 : decode cX0_whole 24 = .ok (.goto 4, 3) := by decide +kernel
theorem dX0_whole_27 : decode cX0_whole 27 = .ok (.iconst 0, 1) := by decide +kernel
theorem dX0_whole_28 : decode cX0_whole 28 = .ok (.istore 4, 2) := by decide +kernel
theorem dX0_whole_30 : decode cX0_whole 30 = .ok (.iload_n 0, 1) := by decide +kernel
theorem dX0_whole_31 : decode cX0_whole 31 = .ok (.iload_n 0, 1) := by decide +kernel
theorem dX0_whole_32 : decode cX0_whole 32 = .ok (.lload_n 1, 1) := by decide +kernel
theorem dX0_whole_33 : decode cX0_whole 33 = .ok (.invokestatic 19, 3) := by decide +kernel
theorem dX0_whole_36 : decode cX0_whole 36 = .ok (.iload_n 3, 1) := by decide +kernel
theorem dX0_whole_37 : decode cX0_whole 37 = .ok (.iconst 2, 1) := by decide +kernel
theorem dX0_whole_38 : decode cX0_whole 38 = .ok (.if_icmp .ne 7, 3) := by decide +kernel
theorem dX0_whole_41 : decode cX0_whole 41 = .ok (.iconst 1, 1) := by decide +kernel
theorem dX0_whole_42 : decode cX0_whole 42 = .ok (.goto 4, 3) := by decide +kernel
theorem dX0_whole_45 : decode cX0_whole 45 = .ok (.iconst 0, 1) := by decide +kernel
theorem dX0_whole_46 : decode cX0_whole 46 = .ok (.iload 4, 2) := by decide +kernel
theorem dX0_whole_48 : decode cX0_whole 48 = .ok (.invokestatic 51, 3) := by decide +kernel
theorem dX0_whole_51 : decode cX0_whole 51 = .ok (.lstore 5, 2) := by decide +kernel
theorem dX0_whole_53 : decode cX0_whole 53 = .ok (.iload_n 0, 1) := by decide +kernel
theorem dX0_whole_54 : decode cX0_whole 54 = .ok (.lload 5, 2) := by decide +kernel
theorem dX0_whole_56 : decode cX0_whole 56 = .ok (.lload_n 1, 1) := by decide +kernel
theorem dX0_whole_57 : decode cX0_whole 57 = .ok (.invokestatic 47, 3) := by decide +kernel
theorem dX0_whole_60 : decode cX0_whole 60 = .ok (.lreturn, 1) := by decide +kernel
set_option maxRecDepth 20000 in
theorem ggX0_ofSort_X0_isBroken : GoodIn wsX0_ofSort wsX0_isBroken := goodIn_r _ [4] (by decide +kernel) (by decide +kernel)
set_option maxRecDepth 20000 in
theorem gX0_ofSort_X0_isBroken : GoodIn wsX0_ofSort (va_wsS RX0 9 yX0_isBroken wsX0_isBroken) := goodIn_app (goodIn_of _ (by decide +kernel)) ggX0_ofSort_X0_isBroken
set_option maxRecDepth 20000 in
theorem ggX0_ofSort_X0_brokenToWhole : GoodIn wsX0_ofSort wsX0_brokenToWhole := goodIn_r _ [7, 8, 9, 3, 10, 11, 12, 13, 14, 15, 16, 17, 18, 19, 20, 21, 22, 23, 24, 25, 26, 27, 28, 29, 30, 31, 32, 33] (by decide +kernel) (by decide +kernel)
set_option maxRecDepth 20000 in
theorem gX0_ofSort_X0_brokenToWhole : GoodIn wsX0_ofSort (va_wsS RX0 55 yX0_brokenToWhole wsX0_brokenToWhole) := goodIn_app (goodIn_of _ (by decide +kernel)) ggX0_ofSort_X0_brokenToWhole
set_option maxRecDepth 20000 in
theorem ggX0_ofSort_X0_fitted : GoodIn wsX0_ofSort wsX0_fitted := goodIn_r _ [36] (by decide +kernel) (by decide +kernel)
set_option maxRecDepth 20000 in
theorem gX0_ofSort_X0_fitted : GoodIn wsX0_ofSort (va_wsS RX0 15 yX0_fitted wsX0_fitted) := goodIn_app (goodIn_of _ (by decide +kernel)) ggX0_ofSort_X0_fitted
set_option maxRecDepth 20000 in
theorem ggX0_ofSort_X0_wholeToBroken : GoodIn wsX0_ofSort wsX0_wholeToBroken := goodIn_r _ [39, 40, 41, 3, 42, 20, 21, 22, 43, 44, 45, 23, 24, 25, 12, 13, 14, 15, 16] (by decide +kernel) (by decide +kernel)
set_option maxRecDepth 20000 in
theorem gX0_ofSort_X0_wholeToBroken : GoodIn wsX0_ofSort (va_wsS RX0 59 yX0_wholeToBroken wsX0_wholeToBroken) := goodIn_app (goodIn_of _ (by decide +kernel)) ggX0_ofSort_X0_wholeToBroken
set_option maxRecDepth 20000 in
theorem ggX0_ofSort_X0_magnitude : GoodIn wsX0_ofSort wsX0_magnitude := goodIn_r _ [10, 11, 12, 13, 3, 14, 15, 16] (by decide +kernel) (by decide +kernel)
set_option maxRecDepth 20000 in
theorem gX0_ofSort_X0_magnitude : GoodIn wsX0_ofSort (va_wsS RX0 19 yX0_magnitude wsX0_magnitude) := goodIn_app (goodIn_of _ (by decide +kernel)) ggX0_ofSort_X0_magnitude
set_option maxRecDepth 20000 in
theorem ggX0_ofSort_X0_widened : GoodIn wsX0_ofSort wsX0_widened := goodIn_r _ [48, 49, 50, 51, 3, 52, 23, 24, 25, 20, 21, 22, 40, 41, 42] (by decide +kernel) (by decide +kernel)
set_option maxRecDepth 20000 in
theorem gX0_ofSort_X0_widened : GoodIn wsX0_ofSort (va_wsS RX0 63 yX0_widened wsX0_widened) := goodIn_app (goodIn_of _ (by decide +kernel)) ggX0_ofSort_X0_widened
set_option maxRecDepth 20000 in
theorem ggX0_ofSort_X0_narrowed : GoodIn wsX0_ofSort wsX0_narrowed := goodIn_r _ [55, 49, 17, 18, 3, 19, 20, 21, 22, 23, 24, 25, 50, 51, 52, 43, 44, 45, 31, 32, 33] (by decide +kernel) (by decide +kernel)
set_option maxRecDepth 20000 in
theorem gX0_ofSort_X0_narrowed : GoodIn wsX0_ofSort (va_wsS RX0 66 yX0_narrowed wsX0_narrowed) := goodIn_app (goodIn_of _ (by decide +kernel)) ggX0_ofSort_X0_narrowed
set_option maxRecDepth 20000 in
theorem ggX0_ofSort_X0_signMask : GoodIn wsX0_ofSort wsX0_signMask := goodIn_r _ [14, 15, 16] (by decide +kernel) (by decide +kernel)
set_option maxRecDepth 20000 in
theorem gX0_ofSort_X0_signMask : GoodIn wsX0_ofSort (va_wsS RX0 41 yX0_signMask wsX0_signMask) := goodIn_app (goodIn_of _ (by decide +kernel)) ggX0_ofSort_X0_signMask
theorem dX0_ofSort_0 : decode cX0_ofSort 0 = .ok (.iload_n 0, 1) := by decide +kernel
theorem dX0_ofSort_1 : decode cX0_ofSort 1 = .ok (.iload_n 3, 1) := by decide +kernel
theorem dX0_ofSort_2 : decode cX0_ofSort 2 = .ok (.if_icmp .ne 5, 3) := by decide +kernel
theorem dX0_ofSort_5 : decode cX0_ofSort 5 = .ok (.lload_n 1, 1) := by decide +kernel
theorem dX0_ofSort_6 : decode cX0_ofSort 6 = .ok (.lreturn, 1) := by decide +kernel
theorem dX0_ofSort_7 : decode cX0_ofSort 7 = .ok (.iload_n 3, 1) := by decide +kernel
theorem dX0_ofSort_8 : decode cX0_ofSort 8 = .ok (.invokestatic 9, 3) := by decide +kernel
theorem dX0_ofSort_11 : decode cX0_ofSort 11 = .ok (.ifCond .ne 25, 3) := by decide +kernel
theorem dX0_ofSort_14 : decode cX0_ofSort 14 = .ok (.iload_n 0, 1) := by decide +kernel
theorem dX0_ofSort_15 : decode cX0_ofSort 15 = .ok (.invokestatic 9, 3) := by decide +kernel
theorem dX0_ofSort_18 : decode cX0_ofSort 18 = .ok (.ifCond .eq 12, 3) := by decide +kernel
theorem dX0_ofSort_21 : decode cX0_ofSort 21 = .ok (.iload_n 0, 1) := by decide +kernel
theorem dX0_ofSort_22 : decode cX0_ofSort 22 = .ok (.lload_n 1, 1) := by decide +kernel
theorem dX0_ofSort_23 : decode cX0_ofSort 23 = .ok (.iload_n 3, 1) := by decide +kernel
theorem dX0_ofSort_24 : decode cX0_ofSort 24 = .ok (.invokestatic 55, 3) := by decide +kernel
theorem dX0_ofSort_27 : decode cX0_ofSort 27 = .ok (.goto 8, 3) := by decide +kernel
theorem dX0_ofSort_30 : decode cX0_ofSort 30 = .ok (.iload_n 3, 1) := by decide +kernel
theorem dX0_ofSort_31 : decode cX0_ofSort 31 = .ok (.lload_n 1, 1) := by decide +kernel
theorem dX0_ofSort_32 : decode cX0_ofSort 32 = .ok (.invokestatic 15, 3) := by decide +kernel
theorem dX0_ofSort_35 : decode cX0_ofSort 35 = .ok (.lreturn, 1) := by decide +kernel
theorem dX0_ofSort_36 : decode cX0_ofSort 36 = .ok (.iload_n 0, 1) := by decide +kernel
theorem dX0_ofSort_37 : decode cX0_ofSort 37 = .ok (.invokestatic 9, 3) := by decide +kernel
theorem dX0_ofSort_40 : decode cX0_ofSort 40 = .ok (.ifCond .ne 9, 3) := by decide +kernel
theorem dX0_ofSort_43 : decode cX0_ofSort 43 = .ok (.lload_n 1, 1) := by decide +kernel
theorem dX0_ofSort_44 : decode cX0_ofSort 44 = .ok (.iload_n 3, 1) := by decide +kernel
theorem dX0_ofSort_45 : decode cX0_ofSort 45 = .ok (.invokestatic 59, 3) := by decide +kernel
theorem dX0_ofSort_48 : decode cX0_ofSort 48 = .ok (.lreturn, 1) := by decide +kernel
theorem dX0_ofSort_49 : decode cX0_ofSort 49 = .ok (.iload_n 0, 1) := by decide +kernel
theorem dX0_ofSort_50 : decode cX0_ofSort 50 = .ok (.lload_n 1, 1) := by decide +kernel
theorem dX0_ofSort_51 : decode cX0_ofSort 51 = .ok (.invokestatic 19, 3) := by decide +kernel
theorem dX0_ofSort_54 : decode cX0_ofSort 54 = .ok (.lstore 4, 2) := by decide +kernel
theorem dX0_ofSort_56 : decode cX0_ofSort 56 = .ok (.iload_n 3, 1) := by decide +kernel
theorem dX0_ofSort_57 : decode cX0_ofSort 57 = .ok (.iconst 3, 1) := by decide +kernel
theorem dX0_ofSort_58 : decode cX0_ofSort 58 = .ok (.if_icmp .ne 11, 3) := by decide +kernel
theorem dX0_ofSort_61 : decode cX0_ofSort 61 = .ok (.lload 4, 2) := by decide +kernel
theorem dX0_ofSort_63 : decode cX0_ofSort 63 = .ok (.invokestatic 63, 3) := by decide +kernel
theorem dX0_ofSort_66 : decode cX0_ofSort 66 = .ok (.goto 8, 3) := by decide +kernel
theorem dX0_ofSort_69 : decode cX0_ofSort 69 = .ok (.lload 4, 2) := by decide +kernel
theorem dX0_ofSort_71 : decode cX0_ofSort 71 = .ok (.invokestatic 66, 3) := by decide +kernel
theorem dX0_ofSort_74 : decode cX0_ofSort 74 = .ok (.lstore 6, 2) := by decide +kernel
theorem dX0_ofSort_76 : decode cX0_ofSort 76 = .ok (.lload_n 1, 1) := by decide +kernel
theorem dX0_ofSort_77 : decode cX0_ofSort 77 = .ok (.lconst 0, 1) := by decide +kernel
theorem dX0_ofSort_78 : decode cX0_ofSort 78 = .ok (.lcmp, 1) := by decide +kernel
theorem dX0_ofSort_79 : decode cX0_ofSort 79 = .ok (.ifCond .ge 13, 3) := by decide +kernel
theorem dX0_ofSort_82 : decode cX0_ofSort 82 = .ok (.lload 6, 2) := by decide +kernel
theorem dX0_ofSort_84 : decode cX0_ofSort 84 = .ok (.iload_n 3, 1) := by decide +kernel
theorem dX0_ofSort_85 : decode cX0_ofSort 85 = .ok (.invokestatic 41, 3) := by decide +kernel
theorem dX0_ofSort_88 : decode cX0_ofSort 88 = .ok (.lor, 1) := by decide +kernel
theorem dX0_ofSort_89 : decode cX0_ofSort 89 = .ok (.goto 5, 3) := by decide +kernel
theorem dX0_ofSort_92 : decode cX0_ofSort 92 = .ok (.lload 6, 2) := by decide +kernel
theorem dX0_ofSort_94 : decode cX0_ofSort 94 = .ok (.lreturn, 1) := by decide +kernel
theorem dX0_brokenRank_0 : decode cX0_brokenRank 0 = .ok (.lload_n 0, 1) := by decide +kernel
theorem dX0_brokenRank_1 : decode cX0_brokenRank 1 = .ok (.lconst 0, 1) := by decide +kernel
theorem dX0_brokenRank_2 : decode cX0_brokenRank 2 = .ok (.lcmp, 1) := by decide +kernel
theorem dX0_brokenRank_3 : decode cX0_brokenRank 3 = .ok (.ifCond .ge 11, 3) := by decide +kernel
theorem dX0_brokenRank_6 : decode cX0_brokenRank 6 = .ok (.lload_n 0, 1) := by decide +kernel
theorem dX0_brokenRank_7 : decode cX0_brokenRank 7 = .ok (.ldc2_w 69, 3) := by decide +kernel
theorem dX0_brokenRank_10 : decode cX0_brokenRank 10 = .ok (.lxor, 1) := by decide +kernel
theorem dX0_brokenRank_11 : decode cX0_brokenRank 11 = .ok (.goto 4, 3) := by decide +kernel
theorem dX0_brokenRank_14 : decode cX0_brokenRank 14 = .ok (.lload_n 0, 1) := by decide +kernel
theorem dX0_brokenRank_15 : decode cX0_brokenRank 15 = .ok (.lreturn, 1) := by decide +kernel
set_option maxRecDepth 20000 in
theorem ggX0_isZero_X0_isBroken : GoodIn wsX0_isZero wsX0_isBroken := goodIn_r _ [4] (by decide +kernel) (by decide +kernel)
set_option maxRecDepth 20000 in
theorem gX0_isZero_X0_isBroken : GoodIn wsX0_isZero (va_wsS RX0 9 yX0_isBroken wsX0_isBroken) := goodIn_app (goodIn_of _ (by decide +kernel)) ggX0_isZero_X0_isBroken
set_option maxRecDepth 20000 in
theorem ggX0_isZero_X0_magnitude : GoodIn wsX0_isZero wsX0_magnitude := goodIn_r _ [7, 8, 9, 10, 3, 11, 12, 13] (by decide +kernel) (by decide +kernel)
set_option maxRecDepth 20000 in
theorem gX0_isZero_X0_magnitude : GoodIn wsX0_isZero (va_wsS RX0 19 yX0_magnitude wsX0_magnitude) := goodIn_app (goodIn_of _ (by decide +kernel)) ggX0_isZero_X0_magnitude
theorem dX0_isZero_0 : decode cX0_isZero 0 = .ok (.iload_n 0, 1) := by decide +kernel
theorem dX0_isZero_1 : decode cX0_isZero 1 = .ok (.invokestatic 9, 3) := by decide +kernel
theorem dX0_isZero_4 : decode cX0_isZero 4 = .ok (.ifCond .eq 21, 3) := by decide +kernel
theorem dX0_isZero_7 : decode cX0_isZero 7 = .ok (.iload_n 0, 1) := by decide +kernel
theorem dX0_isZero_8 : decode cX0_isZero 8 = .ok (.lload_n 1, 1) := by decide +kernel
theorem dX0_isZero_9 : decode cX0_isZero 9 = .ok (.invokestatic 19, 3) := by decide +kernel
theorem dX0_isZero_12 : decode cX0_isZero 12 = .ok (.lconst 0, 1) := by decide +kernel
theorem dX0_isZero_13 : decode cX0_isZero 13 = .ok (.lcmp, 1) := by decide +kernel
theorem dX0_isZero_14 : decode cX0_isZero 14 = .ok (.ifCond .ne 7, 3) := by decide +kernel
theorem dX0_isZero_17 : decode cX0_isZero 17 = .ok (.iconst 1, 1) := by decide +kernel
theorem dX0_isZero_18 : decode cX0_isZero 18 = .ok (.goto 18, 3) := by decide +kernel
theorem dX0_isZero_21 : decode cX0_isZero 21 = .ok (.iconst 0, 1) := by decide +kernel
theorem dX0_isZero_22 : decode cX0_isZero 22 = .ok (.goto 14, 3) := by decide +kernel
theorem dX0_isZero_25 : decode cX0_isZero 25 = .ok (.lload_n 1, 1) := by decide +kernel
theorem dX0_isZero_26 : decode cX0_isZero 26 = .ok (.lconst 0, 1) := by decide +kernel
theorem dX0_isZero_27 : decode cX0_isZero 27 = .ok (.lcmp, 1) := by decide +kernel
theorem dX0_isZero_28 : decode cX0_isZero 28 = .ok (.ifCond .ne 7, 3) := by decide +kernel
theorem dX0_isZero_31 : decode cX0_isZero 31 = .ok (.iconst 1, 1) := by decide +kernel
theorem dX0_isZero_32 : decode cX0_isZero 32 = .ok (.goto 4, 3) := by decide +kernel
theorem dX0_isZero_35 : decode cX0_isZero 35 = .ok (.iconst 0, 1) := by decide +kernel
theorem dX0_isZero_36 : decode cX0_isZero 36 = .ok (.ireturn, 1) := by decide +kernel
theorem dX0_signMask_0 : decode cX0_signMask 0 = .ok (.iload_n 0, 1) := by decide +kernel
theorem dX0_signMask_1 : decode cX0_signMask 1 = .ok (.iconst 2, 1) := by decide +kernel
theorem dX0_signMask_2 : decode cX0_signMask 2 = .ok (.if_icmp .ne 9, 3) := by decide +kernel
theorem dX0_signMask_5 : decode cX0_signMask 5 = .ok (.ldc2_w 71, 3) := by decide +kernel
theorem dX0_signMask_8 : decode cX0_signMask 8 = .ok (.goto 6, 3) := by decide +kernel
theorem dX0_signMask_11 : decode cX0_signMask 11 = .ok (.ldc2_w 73, 3) := by decide +kernel
theorem dX0_signMask_14 : decode cX0_signMask 14 = .ok (.lreturn, 1) := by decide +kernel
set_option maxRecDepth 20000 in
theorem ggX0_magnitude_X0_signMask : GoodIn wsX0_magnitude wsX0_signMask := goodIn_r _ [5, 6, 7] (by decide +kernel) (by decide +kernel)
set_option maxRecDepth 20000 in
theorem gX0_magnitude_X0_signMask : GoodIn wsX0_magnitude (va_wsS RX0 41 yX0_signMask wsX0_signMask) := goodIn_app (goodIn_of _ (by decide +kernel)) ggX0_magnitude_X0_signMask
theorem dX0_magnitude_0 : decode cX0_magnitude 0 = .ok (.lload_n 1, 1) := by decide +kernel
theorem dX0_magnitude_1 : decode cX0_magnitude 1 = .ok (.iload_n 0, 1) := by decide +kernel
theorem dX0_magnitude_2 : decode cX0_magnitude 2 = .ok (.invokestatic 41, 3) := by decide +kernel
theorem dX0_magnitude_5 : decode cX0_magnitude 5 = .ok (.ldc2_w 75, 3) := by decide +kernel
theorem dX0_magnitude_8 : decode cX0_magnitude 8 = .ok (.lxor, 1) := by decide +kernel
theorem dX0_magnitude_9 : decode cX0_magnitude 9 = .ok (.land, 1) := by decide +kernel
theorem dX0_magnitude_10 : decode cX0_magnitude 10 = .ok (.lreturn, 1) := by decide +kernel
theorem dX0_fractionBits_0 : decode cX0_fractionBits 0 = .ok (.iload_n 0, 1) := by decide +kernel
theorem dX0_fractionBits_1 : decode cX0_fractionBits 1 = .ok (.iconst 2, 1) := by decide +kernel
theorem dX0_fractionBits_2 : decode cX0_fractionBits 2 = .ok (.if_icmp .ne 8, 3) := by decide +kernel
theorem dX0_fractionBits_5 : decode cX0_fractionBits 5 = .ok (.bipush 23, 2) := by decide +kernel
theorem dX0_fractionBits_7 : decode cX0_fractionBits 7 = .ok (.goto 5, 3) := by decide +kernel
theorem dX0_fractionBits_10 : decode cX0_fractionBits 10 = .ok (.bipush 52, 2) := by decide +kernel
theorem dX0_fractionBits_12 : decode cX0_fractionBits 12 = .ok (.ireturn, 1) := by decide +kernel
theorem dX0_bias_0 : decode cX0_bias 0 = .ok (.iload_n 0, 1) := by decide +kernel
theorem dX0_bias_1 : decode cX0_bias 1 = .ok (.iconst 2, 1) := by decide +kernel
theorem dX0_bias_2 : decode cX0_bias 2 = .ok (.if_icmp .ne 8, 3) := by decide +kernel
theorem dX0_bias_5 : decode cX0_bias 5 = .ok (.bipush 127, 2) := by decide +kernel
theorem dX0_bias_7 : decode cX0_bias 7 = .ok (.goto 6, 3) := by decide +kernel
theorem dX0_bias_10 : decode cX0_bias 10 = .ok (.sipush 1023, 3) := by decide +kernel
theorem dX0_bias_13 : decode cX0_bias 13 = .ok (.ireturn, 1) := by decide +kernel
set_option maxRecDepth 20000 in
theorem ggX0_infinity_X0_bias : GoodIn wsX0_infinity wsX0_bias := goodIn_r _ [4] (by decide +kernel) (by decide +kernel)
set_option maxRecDepth 20000 in
theorem gX0_infinity_X0_bias : GoodIn wsX0_infinity (va_wsS RX0 77 yX0_bias wsX0_bias) := goodIn_app (goodIn_of _ (by decide +kernel)) ggX0_infinity_X0_bias
set_option maxRecDepth 20000 in
theorem ggX0_infinity_X0_fractionBits : GoodIn wsX0_infinity wsX0_fractionBits := goodIn_r _ [7] (by decide +kernel) (by decide +kernel)
set_option maxRecDepth 20000 in
theorem gX0_infinity_X0_fractionBits : GoodIn wsX0_infinity (va_wsS RX0 81 yX0_fractionBits wsX0_fractionBits) := goodIn_app (goodIn_of _ (by decide +kernel)) ggX0_infinity_X0_fractionBits
theorem dX0_infinity_0 : decode cX0_infinity 0 = .ok (.iconst 2, 1) := by decide +kernel
theorem dX0_infinity_1 : decode cX0_infinity 1 = .ok (.iload_n 0, 1) := by decide +kernel
theorem dX0_infinity_2 : decode cX0_infinity 2 = .ok (.invokestatic 77, 3) := by decide +kernel
theorem dX0_infinity_5 : decode cX0_infinity 5 = .ok (.imul, 1) := by decide +kernel
theorem dX0_infinity_6 : decode cX0_infinity 6 = .ok (.iconst 1, 1) := by decide +kernel
theorem dX0_infinity_7 : decode cX0_infinity 7 = .ok (.iadd, 1) := by decide +kernel
theorem dX0_infinity_8 : decode cX0_infinity 8 = .ok (.i2l, 1) := by decide +kernel
theorem dX0_infinity_9 : decode cX0_infinity 9 = .ok (.iload_n 0, 1) := by decide +kernel
theorem dX0_infinity_10 : decode cX0_infinity 10 = .ok (.invokestatic 81, 3) := by decide +kernel
theorem dX0_infinity_13 : decode cX0_infinity 13 = .ok (.lshl, 1) := by decide +kernel
theorem dX0_infinity_14 : decode cX0_infinity 14 = .ok (.lreturn, 1) := by decide +kernel
set_option maxRecDepth 20000 in
theorem ggX0_one_X0_bias : GoodIn wsX0_one wsX0_bias := goodIn_r _ [4] (by decide +kernel) (by decide +kernel)
set_option maxRecDepth 20000 in
theorem gX0_one_X0_bias : GoodIn wsX0_one (va_wsS RX0 77 yX0_bias wsX0_bias) := goodIn_app (goodIn_of _ (by decide +kernel)) ggX0_one_X0_bias
set_option maxRecDepth 20000 in
theorem ggX0_one_X0_fractionBits : GoodIn wsX0_one wsX0_fractionBits := goodIn_r _ [7] (by decide +kernel) (by decide +kernel)
set_option maxRecDepth 20000 in
theorem gX0_one_X0_fractionBits : GoodIn wsX0_one (va_wsS RX0 81 yX0_fractionBits wsX0_fractionBits) := goodIn_app (goodIn_of _ (by decide +kernel)) ggX0_one_X0_fractionBits
theorem dX0_one_0 : decode cX0_one 0 = .ok (.iload_n 0, 1) := by decide +kernel
theorem dX0_one_1 : decode cX0_one 1 = .ok (.invokestatic 77, 3) := by decide +kernel
theorem dX0_one_4 : decode cX0_one 4 = .ok (.i2l, 1) := by decide +kernel
theorem dX0_one_5 : decode cX0_one 5 = .ok (.iload_n 0, 1) := by decide +kernel
theorem dX0_one_6 : decode cX0_one 6 = .ok (.invokestatic 81, 3) := by decide +kernel
theorem dX0_one_9 : decode cX0_one 9 = .ok (.lshl, 1) := by decide +kernel
theorem dX0_one_10 : decode cX0_one 10 = .ok (.lreturn, 1) := by decide +kernel
set_option maxRecDepth 20000 in
theorem ggX0_half_X0_bias : GoodIn wsX0_half wsX0_bias := goodIn_r _ [4] (by decide +kernel) (by decide +kernel)
set_option maxRecDepth 20000 in
theorem gX0_half_X0_bias : GoodIn wsX0_half (va_wsS RX0 77 yX0_bias wsX0_bias) := goodIn_app (goodIn_of _ (by decide +kernel)) ggX0_half_X0_bias
set_option maxRecDepth 20000 in
theorem ggX0_half_X0_fractionBits : GoodIn wsX0_half wsX0_fractionBits := goodIn_r _ [7] (by decide +kernel) (by decide +kernel)
set_option maxRecDepth 20000 in
theorem gX0_half_X0_fractionBits : GoodIn wsX0_half (va_wsS RX0 81 yX0_fractionBits wsX0_fractionBits) := goodIn_app (goodIn_of _ (by decide +kernel)) ggX0_half_X0_fractionBits
theorem dX0_half_0 : decode cX0_half 0 = .ok (.iload_n 0, 1) := by decide +kernel
theorem dX0_half_1 : decode cX0_half 1 = .ok (.invokestatic 77, 3) := by decide +kernel
theorem dX0_half_4 : decode cX0_half 4 = .ok (.iconst 1, 1) := by decide +kernel
theorem dX0_half_5 : decode cX0_half 5 = .ok (.isub, 1) := by decide +kernel
theorem dX0_half_6 : decode cX0_half 6 = .ok (.i2l, 1) := by decide +kernel
theorem dX0_half_7 : decode cX0_half 7 = .ok (.iload_n 0, 1) := by decide +kernel
theorem dX0_half_8 : decode cX0_half 8 = .ok (.invokestatic 81, 3) := by decide +kernel
theorem dX0_half_11 : decode cX0_half 11 = .ok (.lshl, 1) := by decide +kernel
theorem dX0_half_12 : decode cX0_half 12 = .ok (.lreturn, 1) := by decide +kernel
set_option maxRecDepth 20000 in
theorem ggX0_power_X0_fractionBits : GoodIn wsX0_power wsX0_fractionBits := goodIn_r _ [4] (by decide +kernel) (by decide +kernel)
set_option maxRecDepth 20000 in
theorem gX0_power_X0_fractionBits : GoodIn wsX0_power (va_wsS RX0 81 yX0_fractionBits wsX0_fractionBits) := goodIn_app (goodIn_of _ (by decide +kernel)) ggX0_power_X0_fractionBits
set_option maxRecDepth 20000 in
theorem ggX0_power_X0_bias : GoodIn wsX0_power wsX0_bias := goodIn_r _ [7] (by decide +kernel) (by decide +kernel)
set_option maxRecDepth 20000 in
theorem gX0_power_X0_bias : GoodIn wsX0_power (va_wsS RX0 77 yX0_bias wsX0_bias) := goodIn_app (goodIn_of _ (by decide +kernel)) ggX0_power_X0_bias
theorem dX0_power_0 : decode cX0_power 0 = .ok (.lload_n 1, 1) := by decide +kernel
theorem dX0_power_1 : decode cX0_power 1 = .ok (.iload_n 0, 1) := by decide +kernel
theorem dX0_power_2 : decode cX0_power 2 = .ok (.invokestatic 81, 3) := by decide +kernel
theorem dX0_power_5 : decode cX0_power 5 = .ok (.lushr, 1) := by decide +kernel
theorem dX0_power_6 : decode cX0_power 6 = .ok (.l2i, 1) := by decide +kernel
theorem dX0_power_7 : decode cX0_power 7 = .ok (.iload_n 0, 1) := by decide +kernel
theorem dX0_power_8 : decode cX0_power 8 = .ok (.invokestatic 77, 3) := by decide +kernel
theorem dX0_power_11 : decode cX0_power 11 = .ok (.isub, 1) := by decide +kernel
theorem dX0_power_12 : decode cX0_power 12 = .ok (.ireturn, 1) := by decide +kernel
set_option maxRecDepth 20000 in
theorem ggX0_mantissa_X0_fractionBits : GoodIn wsX0_mantissa wsX0_fractionBits := goodIn_r _ [4] (by decide +kernel) (by decide +kernel)
set_option maxRecDepth 20000 in
theorem gX0_mantissa_X0_fractionBits : GoodIn wsX0_mantissa (va_wsS RX0 81 yX0_fractionBits wsX0_fractionBits) := goodIn_app (goodIn_of _ (by decide +kernel)) ggX0_mantissa_X0_fractionBits
theorem dX0_mantissa_0 : decode cX0_mantissa 0 = .ok (.lconst 1, 1) := by decide +kernel
theorem dX0_mantissa_1 : decode cX0_mantissa 1 = .ok (.iload_n 0, 1) := by decide +kernel
theorem dX0_mantissa_2 : decode cX0_mantissa 2 = .ok (.invokestatic 81, 3) := by decide +kernel
theorem dX0_mantissa_5 : decode cX0_mantissa 5 = .ok (.lshl, 1) := by decide +kernel
theorem dX0_mantissa_6 : decode cX0_mantissa 6 = .ok (.lstore_n 3, 1) := by decide +kernel
theorem dX0_mantissa_7 : decode cX0_mantissa 7 = .ok (.lload_n 1, 1) := by decide +kernel
theorem dX0_mantissa_8 : decode cX0_mantissa 8 = .ok (.lload_n 3, 1) := by decide +kernel
theorem dX0_mantissa_9 : decode cX0_mantissa 9 = .ok (.lconst 1, 1) := by decide +kernel
theorem dX0_mantissa_10 : decode cX0_mantissa 10 = .ok (.lsub, 1) := by decide +kernel
theorem dX0_mantissa_11 : decode cX0_mantissa 11 = .ok (.land, 1) := by decide +kernel
theorem dX0_mantissa_12 : decode cX0_mantissa 12 = .ok (.lload_n 3, 1) := by decide +kernel
theorem dX0_mantissa_13 : decode cX0_mantissa 13 = .ok (.lor, 1) := by decide +kernel
theorem dX0_mantissa_14 : decode cX0_mantissa 14 = .ok (.lreturn, 1) := by decide +kernel
set_option maxRecDepth 20000 in
theorem ggX0_wholeMagnitude_X0_power : GoodIn wsX0_wholeMagnitude wsX0_power := goodIn_r _ [4, 5, 6, 3, 7, 8, 9, 10] (by decide +kernel) (by decide +kernel)
set_option maxRecDepth 20000 in
theorem gX0_wholeMagnitude_X0_power : GoodIn wsX0_wholeMagnitude (va_wsS RX0 84 yX0_power wsX0_power) := goodIn_app (goodIn_of _ (by decide +kernel)) ggX0_wholeMagnitude_X0_power
set_option maxRecDepth 20000 in
theorem ggX0_wholeMagnitude_X0_fractionBits : GoodIn wsX0_wholeMagnitude wsX0_fractionBits := goodIn_r _ [7] (by decide +kernel) (by decide +kernel)
set_option maxRecDepth 20000 in
theorem gX0_wholeMagnitude_X0_fractionBits : GoodIn wsX0_wholeMagnitude (va_wsS RX0 81 yX0_fractionBits wsX0_fractionBits) := goodIn_app (goodIn_of _ (by decide +kernel)) ggX0_wholeMagnitude_X0_fractionBits
set_option maxRecDepth 20000 in
theorem ggX0_wholeMagnitude_X0_half : GoodIn wsX0_wholeMagnitude wsX0_half := goodIn_r _ [13, 8, 9, 3, 10, 5, 6, 7] (by decide +kernel) (by decide +kernel)
set_option maxRecDepth 20000 in
theorem gX0_wholeMagnitude_X0_half : GoodIn wsX0_wholeMagnitude (va_wsS RX0 88 yX0_half wsX0_half) := goodIn_app (goodIn_of _ (by decide +kernel)) ggX0_wholeMagnitude_X0_half
set_option maxRecDepth 20000 in
theorem ggX0_wholeMagnitude_X0_one : GoodIn wsX0_wholeMagnitude wsX0_one := goodIn_r _ [16, 8, 9, 3, 10, 5, 6, 7] (by decide +kernel) (by decide +kernel)
set_option maxRecDepth 20000 in
theorem gX0_wholeMagnitude_X0_one : GoodIn wsX0_wholeMagnitude (va_wsS RX0 44 yX0_one wsX0_one) := goodIn_app (goodIn_of _ (by decide +kernel)) ggX0_wholeMagnitude_X0_one
set_option maxRecDepth 20000 in
theorem ggX0_wholeMagnitude_X0_nearestShifted : GoodIn wsX0_wholeMagnitude wsX0_nearestShifted := goodIn_r _ [19] (by decide +kernel) (by decide +kernel)
set_option maxRecDepth 20000 in
theorem gX0_wholeMagnitude_X0_nearestShifted : GoodIn wsX0_wholeMagnitude (va_wsS RX0 91 yX0_nearestShifted wsX0_nearestShifted) := goodIn_app (goodIn_of _ (by decide +kernel)) ggX0_wholeMagnitude_X0_nearestShifted
theorem dX0_wholeMagnitude_0 : decode cX0_wholeMagnitude 0 = .ok (.iload_n 0, 1) := by decide +kernel
theorem dX0_wholeMagnitude_1 : decode cX0_wholeMagnitude 1 = .ok (.lload_n 1, 1) := by decide +kernel
theorem dX0_wholeMagnitude_2 : decode cX0_wholeMagnitude 2 = .ok (.invokestatic 84, 3) := by decide +kernel
theorem dX0_wholeMagnitude_5 : decode cX0_wholeMagnitude 5 = .ok (.istore 5, 2) := by decide +kernel
theorem dX0_wholeMagnitude_7 : decode cX0_wholeMagnitude 7 = .ok (.lload_n 1, 1) := by decide +kernel
theorem dX0_wholeMagnitude_8 : decode cX0_wholeMagnitude 8 = .ok (.lconst 0, 1) := by decide +kernel
theorem dX0_wholeMagnitude_9 : decode cX0_wholeMagnitude 9 = .ok (.lcmp, 1) := by decide +kernel
theorem dX0_wholeMagnitude_10 : decode cX0_wholeMagnitude 10 = .ok (.ifCond .eq 12, 3) := by decide +kernel
theorem dX0_wholeMagnitude_13 : decode cX0_wholeMagnitude 13 = .ok (.iload 5, 2) := by decide +kernel
theorem dX0_wholeMagnitude_15 : decode cX0_wholeMagnitude 15 = .ok (.iload_n 0, 1) := by decide +kernel
theorem dX0_wholeMagnitude_16 : decode cX0_wholeMagnitude 16 = .ok (.invokestatic 81, 3) := by decide +kernel
theorem dX0_wholeMagnitude_19 : decode cX0_wholeMagnitude 19 = .ok (.if_icmp .lt 5, 3) := by decide +kernel
theorem dX0_wholeMagnitude_22 : decode cX0_wholeMagnitude 22 = .ok (.lload_n 1, 1) := by decide +kernel
theorem dX0_wholeMagnitude_23 : decode cX0_wholeMagnitude 23 = .ok (.lreturn, 1) := by decide +kernel
theorem dX0_wholeMagnitude_24 : decode cX0_wholeMagnitude 24 = .ok (.iload 5, 2) := by decide +kernel
theorem dX0_wholeMagnitude_26 : decode cX0_wholeMagnitude 26 = .ok (.ifCond .ge 42, 3) := by decide +kernel
theorem dX0_wholeMagnitude_29 : decode cX0_wholeMagnitude 29 = .ok (.iload_n 3, 1) := by decide +kernel
theorem dX0_wholeMagnitude_30 : decode cX0_wholeMagnitude 30 = .ok (.ifCond .eq 20, 3) := by decide +kernel
theorem dX0_wholeMagnitude_33 : decode cX0_wholeMagnitude 33 = .ok (.lload_n 1, 1) := by decide +kernel
theorem dX0_wholeMagnitude_34 : decode cX0_wholeMagnitude 34 = .ok (.iload_n 0, 1) := by decide +kernel
theorem dX0_wholeMagnitude_35 : decode cX0_wholeMagnitude 35 = .ok (.invokestatic 88, 3) := by decide +kernel
theorem dX0_wholeMagnitude_38 : decode cX0_wholeMagnitude 38 = .ok (.lcmp, 1) := by decide +kernel
theorem dX0_wholeMagnitude_39 : decode cX0_wholeMagnitude 39 = .ok (.ifCond .le 7, 3) := by decide +kernel
theorem dX0_wholeMagnitude_42 : decode cX0_wholeMagnitude 42 = .ok (.iconst 1, 1) := by decide +kernel
theorem dX0_wholeMagnitude_43 : decode cX0_wholeMagnitude 43 = .ok (.goto 9, 3) := by decide +kernel
theorem dX0_wholeMagnitude_46 : decode cX0_wholeMagnitude 46 = .ok (.iconst 0, 1) := by decide +kernel
theorem dX0_wholeMagnitude_47 : decode cX0_wholeMagnitude 47 = .ok (.goto 5, 3) := by decide +kernel
theorem dX0_wholeMagnitude_50 : decode cX0_wholeMagnitude 50 = .ok (.iload 4, 2) := by decide +kernel
theorem dX0_wholeMagnitude_52 : decode cX0_wholeMagnitude 52 = .ok (.istore 6, 2) := by decide +kernel
theorem dX0_wholeMagnitude_54 : decode cX0_wholeMagnitude 54 = .ok (.iload 6, 2) := by decide +kernel
theorem dX0_wholeMagnitude_56 : decode cX0_wholeMagnitude 56 = .ok (.ifCond .eq 10, 3) := by decide +kernel
theorem dX0_wholeMagnitude_59 : decode cX0_wholeMagnitude 59 = .ok (.iload_n 0, 1) := by decide +kernel
theorem dX0_wholeMagnitude_60 : decode cX0_wholeMagnitude 60 = .ok (.invokestatic 44, 3) := by decide +kernel
theorem dX0_wholeMagnitude_63 : decode cX0_wholeMagnitude 63 = .ok (.goto 4, 3) := by decide +kernel
theorem dX0_wholeMagnitude_66 : decode cX0_wholeMagnitude 66 = .ok (.lconst 0, 1) := by decide +kernel
theorem dX0_wholeMagnitude_67 : decode cX0_wholeMagnitude 67 = .ok (.lreturn, 1) := by decide +kernel
theorem dX0_wholeMagnitude_68 : decode cX0_wholeMagnitude 68 = .ok (.iload_n 0, 1) := by decide +kernel
theorem dX0_wholeMagnitude_69 : decode cX0_wholeMagnitude 69 = .ok (.invokestatic 81, 3) := by decide +kernel
theorem dX0_wholeMagnitude_72 : decode cX0_wholeMagnitude 72 = .ok (.iload 5, 2) := by decide +kernel
theorem dX0_wholeMagnitude_74 : decode cX0_wholeMagnitude 74 = .ok (.isub, 1) := by decide +kernel
theorem dX0_wholeMagnitude_75 : decode cX0_wholeMagnitude 75 = .ok (.istore 6, 2) := by decide +kernel
theorem dX0_wholeMagnitude_77 : decode cX0_wholeMagnitude 77 = .ok (.iload_n 3, 1) := by decide +kernel
theorem dX0_wholeMagnitude_78 : decode cX0_wholeMagnitude 78 = .ok (.ifCond .eq 13, 3) := by decide +kernel
theorem dX0_wholeMagnitude_81 : decode cX0_wholeMagnitude 81 = .ok (.lload_n 1, 1) := by decide +kernel
theorem dX0_wholeMagnitude_82 : decode cX0_wholeMagnitude 82 = .ok (.iload 6, 2) := by decide +kernel
theorem dX0_wholeMagnitude_84 : decode cX0_wholeMagnitude 84 = .ok (.invokestatic 91, 3) := by decide +kernel
theorem dX0_wholeMagnitude_87 : decode cX0_wholeMagnitude 87 = .ok (.iload 6, 2) := by decide +kernel
theorem dX0_wholeMagnitude_89 : decode cX0_wholeMagnitude 89 = .ok (.lshl, 1) := by decide +kernel
theorem dX0_wholeMagnitude_90 : decode cX0_wholeMagnitude 90 = .ok (.lreturn, 1) := by decide +kernel
theorem dX0_wholeMagnitude_91 : decode cX0_wholeMagnitude 91 = .ok (.lconst 1, 1) := by decide +kernel
theorem dX0_wholeMagnitude_92 : decode cX0_wholeMagnitude 92 = .ok (.iload 6, 2) := by decide +kernel
theorem dX0_wholeMagnitude_94 : decode cX0_wholeMagnitude 94 = .ok (.lshl, 1) := by decide +kernel
theorem dX0_wholeMagnitude_95 : decode cX0_wholeMagnitude 95 = .ok (.lstore 7, 2) := by decide +kernel
theorem dX0_wholeMagnitude_97 : decode cX0_wholeMagnitude 97 = .ok (.lload_n 1, 1) := by decide +kernel
theorem dX0_wholeMagnitude_98 : decode cX0_wholeMagnitude 98 = .ok (.lload 7, 2) := by decide +kernel
theorem dX0_wholeMagnitude_100 : decode cX0_wholeMagnitude 100 = .ok (.lconst 1, 1) := by decide +kernel
theorem dX0_wholeMagnitude_101 : decode cX0_wholeMagnitude 101 = .ok (.lsub, 1) := by decide +kernel
theorem dX0_wholeMagnitude_102 : decode cX0_wholeMagnitude 102 = .ok (.land, 1) := by decide +kernel
theorem dX0_wholeMagnitude_103 : decode cX0_wholeMagnitude 103 = .ok (.lconst 0, 1) := by decide +kernel
theorem dX0_wholeMagnitude_104 : decode cX0_wholeMagnitude 104 = .ok (.lcmp, 1) := by decide +kernel
theorem dX0_wholeMagnitude_105 : decode cX0_wholeMagnitude 105 = .ok (.ifCond .eq 7, 3) := by decide +kernel
theorem dX0_wholeMagnitude_108 : decode cX0_wholeMagnitude 108 = .ok (.iconst 1, 1) := by decide +kernel
theorem dX0_wholeMagnitude_109 : decode cX0_wholeMagnitude 109 = .ok (.goto 4, 3) := by decide +kernel
theorem dX0_wholeMagnitude_112 : decode cX0_wholeMagnitude 112 = .ok (.iconst 0, 1) := by decide +kernel
theorem dX0_wholeMagnitude_113 : decode cX0_wholeMagnitude 113 = .ok (.istore 9, 2) := by decide +kernel
theorem dX0_wholeMagnitude_115 : decode cX0_wholeMagnitude 115 = .ok (.lload_n 1, 1) := by decide +kernel
theorem dX0_wholeMagnitude_116 : decode cX0_wholeMagnitude 116 = .ok (.lload 7, 2) := by decide +kernel
theorem dX0_wholeMagnitude_118 : decode cX0_wholeMagnitude 118 = .ok (.lneg, 1) := by decide +kernel
theorem dX0_wholeMagnitude_119 : decode cX0_wholeMagnitude 119 = .ok (.land, 1) := by decide +kernel
theorem dX0_wholeMagnitude_120 : decode cX0_wholeMagnitude 120 = .ok (.lstore 10, 2) := by decide +kernel
theorem dX0_wholeMagnitude_122 : decode cX0_wholeMagnitude 122 = .ok (.iload 9, 2) := by decide +kernel
theorem dX0_wholeMagnitude_124 : decode cX0_wholeMagnitude 124 = .ok (.ifCond .eq 16, 3) := by decide +kernel
theorem dX0_wholeMagnitude_127 : decode cX0_wholeMagnitude 127 = .ok (.iload 4, 2) := by decide +kernel
theorem dX0_wholeMagnitude_129 : decode cX0_wholeMagnitude 129 = .ok (.ifCond .eq 11, 3) := by decide +kernel
theorem dX0_wholeMagnitude_132 : decode cX0_wholeMagnitude 132 = .ok (.lload 10, 2) := by decide +kernel
theorem dX0_wholeMagnitude_134 : decode cX0_wholeMagnitude 134 = .ok (.lload 7, 2) := by decide +kernel
theorem dX0_wholeMagnitude_136 : decode cX0_wholeMagnitude 136 = .ok (.ladd, 1) := by decide +kernel
theorem dX0_wholeMagnitude_137 : decode cX0_wholeMagnitude 137 = .ok (.goto 5, 3) := by decide +kernel
theorem dX0_wholeMagnitude_140 : decode cX0_wholeMagnitude 140 = .ok (.lload 10, 2) := by decide +kernel
theorem dX0_wholeMagnitude_142 : decode cX0_wholeMagnitude 142 = .ok (.lreturn, 1) := by decide +kernel
theorem dX0_nearestShifted_0 : decode cX0_nearestShifted 0 = .ok (.lload_n 0, 1) := by decide +kernel
theorem dX0_nearestShifted_1 : decode cX0_nearestShifted 1 = .ok (.iload_n 2, 1) := by decide +kernel
theorem dX0_nearestShifted_2 : decode cX0_nearestShifted 2 = .ok (.lushr, 1) := by decide +kernel
theorem dX0_nearestShifted_3 : decode cX0_nearestShifted 3 = .ok (.lstore_n 3, 1) := by decide +kernel
theorem dX0_nearestShifted_4 : decode cX0_nearestShifted 4 = .ok (.lload_n 0, 1) := by decide +kernel
theorem dX0_nearestShifted_5 : decode cX0_nearestShifted 5 = .ok (.lconst 1, 1) := by decide +kernel
theorem dX0_nearestShifted_6 : decode cX0_nearestShifted 6 = .ok (.iload_n 2, 1) := by decide +kernel
theorem dX0_nearestShifted_7 : decode cX0_nearestShifted 7 = .ok (.lshl, 1) := by decide +kernel
theorem dX0_nearestShifted_8 : decode cX0_nearestShifted 8 = .ok (.lconst 1, 1) := by decide +kernel
theorem dX0_nearestShifted_9 : decode cX0_nearestShifted 9 = .ok (.lsub, 1) := by decide +kernel
theorem dX0_nearestShifted_10 : decode cX0_nearestShifted 10 = .ok (.land, 1) := by decide +kernel
theorem dX0_nearestShifted_11 : decode cX0_nearestShifted 11 = .ok (.lstore 5, 2) := by decide +kernel
theorem dX0_nearestShifted_13 : decode cX0_nearestShifted 13 = .ok (.lconst 1, 1) := by decide +kernel
theorem dX0_nearestShifted_14 : decode cX0_nearestShifted 14 = .ok (.iload_n 2, 1) := by decide +kernel
theorem dX0_nearestShifted_15 : decode cX0_nearestShifted 15 = .ok (.iconst 1, 1) := by decide +kernel
theorem dX0_nearestShifted_16 : decode cX0_nearestShifted 16 = .ok (.isub, 1) := by decide +kernel
theorem dX0_nearestShifted_17 : decode cX0_nearestShifted 17 = .ok (.lshl, 1) := by decide +kernel
theorem dX0_nearestShifted_18 : decode cX0_nearestShifted 18 = .ok (.lstore 7, 2) := by decide +kernel
theorem dX0_nearestShifted_20 : decode cX0_nearestShifted 20 = .ok (.lload 5, 2) := by decide +kernel
theorem dX0_nearestShifted_22 : decode cX0_nearestShifted 22 = .ok (.lload 7, 2) := by decide +kernel
theorem dX0_nearestShifted_24 : decode cX0_nearestShifted 24 = .ok (.lcmp, 1) := by decide +kernel
theorem dX0_nearestShifted_25 : decode cX0_nearestShifted 25 = .ok (.ifCond .gt 19, 3) := by decide +kernel
theorem dX0_nearestShifted_28 : decode cX0_nearestShifted 28 = .ok (.lload 5, 2) := by decide +kernel
theorem dX0_nearestShifted_30 : decode cX0_nearestShifted 30 = .ok (.lload 7, 2) := by decide +kernel
theorem dX0_nearestShifted_32 : decode cX0_nearestShifted 32 = .ok (.lcmp, 1) := by decide +kernel
theorem dX0_nearestShifted_33 : decode cX0_nearestShifted 33 = .ok (.ifCond .ne 15, 3) := by decide +kernel
theorem dX0_nearestShifted_36 : decode cX0_nearestShifted 36 = .ok (.lload_n 3, 1) := by decide +kernel
theorem dX0_nearestShifted_37 : decode cX0_nearestShifted 37 = .ok (.lconst 1, 1) := by decide +kernel
theorem dX0_nearestShifted_38 : decode cX0_nearestShifted 38 = .ok (.land, 1) := by decide +kernel
theorem dX0_nearestShifted_39 : decode cX0_nearestShifted 39 = .ok (.lconst 1, 1) := by decide +kernel
theorem dX0_nearestShifted_40 : decode cX0_nearestShifted 40 = .ok (.lcmp, 1) := by decide +kernel
theorem dX0_nearestShifted_41 : decode cX0_nearestShifted 41 = .ok (.ifCond .ne 7, 3) := by decide +kernel
theorem dX0_nearestShifted_44 : decode cX0_nearestShifted 44 = .ok (.iconst 1, 1) := by decide +kernel
theorem dX0_nearestShifted_45 : decode cX0_nearestShifted 45 = .ok (.goto 4, 3) := by decide +kernel
theorem dX0_nearestShifted_48 : decode cX0_nearestShifted 48 = .ok (.iconst 0, 1) := by decide +kernel
theorem dX0_nearestShifted_49 : decode cX0_nearestShifted 49 = .ok (.istore 9, 2) := by decide +kernel
theorem dX0_nearestShifted_51 : decode cX0_nearestShifted 51 = .ok (.iload 9, 2) := by decide +kernel
theorem dX0_nearestShifted_53 : decode cX0_nearestShifted 53 = .ok (.ifCond .eq 9, 3) := by decide +kernel
theorem dX0_nearestShifted_56 : decode cX0_nearestShifted 56 = .ok (.lload_n 3, 1) := by decide +kernel
theorem dX0_nearestShifted_57 : decode cX0_nearestShifted 57 = .ok (.lconst 1, 1) := by decide +kernel
theorem dX0_nearestShifted_58 : decode cX0_nearestShifted 58 = .ok (.ladd, 1) := by decide +kernel
theorem dX0_nearestShifted_59 : decode cX0_nearestShifted 59 = .ok (.goto 4, 3) := by decide +kernel
theorem dX0_nearestShifted_62 : decode cX0_nearestShifted 62 = .ok (.lload_n 3, 1) := by decide +kernel
theorem dX0_nearestShifted_63 : decode cX0_nearestShifted 63 = .ok (.lreturn, 1) := by decide +kernel
theorem dX0_highestBit_0 : decode cX0_highestBit 0 = .ok (.bipush 63, 2) := by decide +kernel
theorem dX0_highestBit_2 : decode cX0_highestBit 2 = .ok (.istore_n 2, 1) := by decide +kernel
theorem dX0_highestBit_3 : decode cX0_highestBit 3 = .ok (.iload_n 2, 1) := by decide +kernel
theorem dX0_highestBit_4 : decode cX0_highestBit 4 = .ok (.ifCond .le 19, 3) := by decide +kernel
theorem dX0_highestBit_7 : decode cX0_highestBit 7 = .ok (.lload_n 0, 1) := by decide +kernel
theorem dX0_highestBit_8 : decode cX0_highestBit 8 = .ok (.iload_n 2, 1) := by decide +kernel
theorem dX0_highestBit_9 : decode cX0_highestBit 9 = .ok (.lushr, 1) := by decide +kernel
theorem dX0_highestBit_10 : decode cX0_highestBit 10 = .ok (.lconst 0, 1) := by decide +kernel
theorem dX0_highestBit_11 : decode cX0_highestBit 11 = .ok (.lcmp, 1) := by decide +kernel
theorem dX0_highestBit_12 : decode cX0_highestBit 12 = .ok (.ifCond .eq 5, 3) := by decide +kernel
theorem dX0_highestBit_15 : decode cX0_highestBit 15 = .ok (.iload_n 2, 1) := by decide +kernel
theorem dX0_highestBit_16 : decode cX0_highestBit 16 = .ok (.ireturn, 1) := by decide +kernel
theorem dX0_highestBit_17 : decode cX0_highestBit 17 = .ok (.iinc 2 (-1), 3) := by decide +kernel
theorem dX0_highestBit_20 : decode cX0_highestBit 20 = .ok (.goto (-17), 3) := by decide +kernel
theorem dX0_highestBit_23 : decode cX0_highestBit 23 = .ok (.iconst 0, 1) := by decide +kernel
theorem dX0_highestBit_24 : decode cX0_highestBit 24 = .ok (.ireturn, 1) := by decide +kernel
set_option maxRecDepth 20000 in
theorem ggX0_wholeToBroken_X0_highestBit : GoodIn wsX0_wholeToBroken wsX0_highestBit := goodIn_r _ [4] (by decide +kernel) (by decide +kernel)
set_option maxRecDepth 20000 in
theorem gX0_wholeToBroken_X0_highestBit : GoodIn wsX0_wholeToBroken (va_wsS RX0 94 yX0_highestBit wsX0_highestBit) := goodIn_app (goodIn_of _ (by decide +kernel)) ggX0_wholeToBroken_X0_highestBit
set_option maxRecDepth 20000 in
theorem ggX0_wholeToBroken_X0_fractionBits : GoodIn wsX0_wholeToBroken wsX0_fractionBits := goodIn_r _ [7] (by decide +kernel) (by decide +kernel)
set_option maxRecDepth 20000 in
theorem gX0_wholeToBroken_X0_fractionBits : GoodIn wsX0_wholeToBroken (va_wsS RX0 81 yX0_fractionBits wsX0_fractionBits) := goodIn_app (goodIn_of _ (by decide +kernel)) ggX0_wholeToBroken_X0_fractionBits
set_option maxRecDepth 20000 in
theorem ggX0_wholeToBroken_X0_nearestShifted : GoodIn wsX0_wholeToBroken wsX0_nearestShifted := goodIn_r _ [10] (by decide +kernel) (by decide +kernel)
set_option maxRecDepth 20000 in
theorem gX0_wholeToBroken_X0_nearestShifted : GoodIn wsX0_wholeToBroken (va_wsS RX0 91 yX0_nearestShifted wsX0_nearestShifted) := goodIn_app (goodIn_of _ (by decide +kernel)) ggX0_wholeToBroken_X0_nearestShifted
set_option maxRecDepth 20000 in
theorem ggX0_wholeToBroken_X0_bias : GoodIn wsX0_wholeToBroken wsX0_bias := goodIn_r _ [13] (by decide +kernel) (by decide +kernel)
set_option maxRecDepth 20000 in
theorem gX0_wholeToBroken_X0_bias : GoodIn wsX0_wholeToBroken (va_wsS RX0 77 yX0_bias wsX0_bias) := goodIn_app (goodIn_of _ (by decide +kernel)) ggX0_wholeToBroken_X0_bias
set_option maxRecDepth 20000 in
theorem ggX0_wholeToBroken_X0_signMask : GoodIn wsX0_wholeToBroken wsX0_signMask := goodIn_r _ [16, 17, 18] (by decide +kernel) (by decide +kernel)
set_option maxRecDepth 20000 in
theorem gX0_wholeToBroken_X0_signMask : GoodIn wsX0_wholeToBroken (va_wsS RX0 41 yX0_signMask wsX0_signMask) := goodIn_app (goodIn_of _ (by decide +kernel)) ggX0_wholeToBroken_X0_signMask
theorem dX0_wholeToBroken_0 : decode cX0_wholeToBroken 0 = .ok (.lload_n 0, 1) := by decide +kernel
theorem dX0_wholeToBroken_1 : decode cX0_wholeToBroken 1 = .ok (.lconst 0, 1) := by decide +kernel
theorem dX0_wholeToBroken_2 : decode cX0_wholeToBroken 2 = .ok (.lcmp, 1) := by decide +kernel
theorem dX0_wholeToBroken_3 : decode cX0_wholeToBroken 3 = .ok (.ifCond .ne 5, 3) := by decide +kernel
theorem dX0_wholeToBroken_6 : decode cX0_wholeToBroken 6 = .ok (.lconst 0, 1) := by decide +kernel
theorem dX0_wholeToBroken_7 : decode cX0_wholeToBroken 7 = .ok (.lreturn, 1) := by decide +kernel
theorem dX0_wholeToBroken_8 : decode cX0_wholeToBroken 8 = .ok (.lload_n 0, 1) := by decide +kernel
theorem dX0_wholeToBroken_9 : decode cX0_wholeToBroken 9 = .ok (.lconst 0, 1) := by decide +kernel
theorem dX0_wholeToBroken_10 : decode cX0_wholeToBroken 10 = .ok (.lcmp, 1) := by decide +kernel
theorem dX0_wholeToBroken_11 : decode cX0_wholeToBroken 11 = .ok (.ifCond .ge 8, 3) := by decide +kernel
theorem dX0_wholeToBroken_14 : decode cX0_wholeToBroken 14 = .ok (.lload_n 0, 1) := by decide +kernel
theorem dX0_wholeToBroken_15 : decode cX0_wholeToBroken 15 = .ok (.lneg, 1) := by decide +kernel
theorem dX0_wholeToBroken_16 : decode cX0_wholeToBroken 16 = .ok (.goto 4, 3) := by decide +kernel
theorem dX0_wholeToBroken_19 : decode cX0_wholeToBroken 19 = .ok (.lload_n 0, 1) := by decide +kernel
theorem dX0_wholeToBroken_20 : decode cX0_wholeToBroken 20 = .ok (.lstore_n 3, 1) := by decide +kernel
theorem dX0_wholeToBroken_21 : decode cX0_wholeToBroken 21 = .ok (.lload_n 3, 1) := by decide +kernel
theorem dX0_wholeToBroken_22 : decode cX0_wholeToBroken 22 = .ok (.invokestatic 94, 3) := by decide +kernel
theorem dX0_wholeToBroken_25 : decode cX0_wholeToBroken 25 = .ok (.istore 5, 2) := by decide +kernel
theorem dX0_wholeToBroken_27 : decode cX0_wholeToBroken 27 = .ok (.iload_n 2, 1) := by decide +kernel
theorem dX0_wholeToBroken_28 : decode cX0_wholeToBroken 28 = .ok (.invokestatic 81, 3) := by decide +kernel
theorem dX0_wholeToBroken_31 : decode cX0_wholeToBroken 31 = .ok (.istore 6, 2) := by decide +kernel
theorem dX0_wholeToBroken_33 : decode cX0_wholeToBroken 33 = .ok (.iload 5, 2) := by decide +kernel
theorem dX0_wholeToBroken_35 : decode cX0_wholeToBroken 35 = .ok (.iload 6, 2) := by decide +kernel
theorem dX0_wholeToBroken_37 : decode cX0_wholeToBroken 37 = .ok (.if_icmp .gt 13, 3) := by decide +kernel
theorem dX0_wholeToBroken_40 : decode cX0_wholeToBroken 40 = .ok (.lload_n 3, 1) := by decide +kernel
theorem dX0_wholeToBroken_41 : decode cX0_wholeToBroken 41 = .ok (.iload 6, 2) := by decide +kernel
theorem dX0_wholeToBroken_43 : decode cX0_wholeToBroken 43 = .ok (.iload 5, 2) := by decide +kernel
theorem dX0_wholeToBroken_45 : decode cX0_wholeToBroken 45 = .ok (.isub, 1) := by decide +kernel
theorem dX0_wholeToBroken_46 : decode cX0_wholeToBroken 46 = .ok (.lshl, 1) := by decide +kernel
theorem dX0_wholeToBroken_47 : decode cX0_wholeToBroken 47 = .ok (.goto 12, 3) := by decide +kernel
theorem dX0_wholeToBroken_50 : decode cX0_wholeToBroken 50 = .ok (.lload_n 3, 1) := by decide +kernel
theorem dX0_wholeToBroken_51 : decode cX0_wholeToBroken 51 = .ok (.iload 5, 2) := by decide +kernel
theorem dX0_wholeToBroken_53 : decode cX0_wholeToBroken 53 = .ok (.iload 6, 2) := by decide +kernel
theorem dX0_wholeToBroken_55 : decode cX0_wholeToBroken 55 = .ok (.isub, 1) := by decide +kernel
theorem dX0_wholeToBroken_56 : decode cX0_wholeToBroken 56 = .ok (.invokestatic 91, 3) := by decide +kernel
theorem dX0_wholeToBroken_59 : decode cX0_wholeToBroken 59 = .ok (.lstore 7, 2) := by decide +kernel
theorem dX0_wholeToBroken_61 : decode cX0_wholeToBroken 61 = .ok (.iload 5, 2) := by decide +kernel
theorem dX0_wholeToBroken_63 : decode cX0_wholeToBroken 63 = .ok (.iload_n 2, 1) := by decide +kernel
theorem dX0_wholeToBroken_64 : decode cX0_wholeToBroken 64 = .ok (.invokestatic 77, 3) := by decide +kernel
theorem dX0_wholeToBroken_67 : decode cX0_wholeToBroken 67 = .ok (.iadd, 1) := by decide +kernel
theorem dX0_wholeToBroken_68 : decode cX0_wholeToBroken 68 = .ok (.iconst 1, 1) := by decide +kernel
theorem dX0_wholeToBroken_69 : decode cX0_wholeToBroken 69 = .ok (.isub, 1) := by decide +kernel
theorem dX0_wholeToBroken_70 : decode cX0_wholeToBroken 70 = .ok (.i2l, 1) := by decide +kernel
theorem dX0_wholeToBroken_71 : decode cX0_wholeToBroken 71 = .ok (.iload 6, 2) := by decide +kernel
theorem dX0_wholeToBroken_73 : decode cX0_wholeToBroken 73 = .ok (.lshl, 1) := by decide +kernel
theorem dX0_wholeToBroken_74 : decode cX0_wholeToBroken 74 = .ok (.lload 7, 2) := by decide +kernel
theorem dX0_wholeToBroken_76 : decode cX0_wholeToBroken 76 = .ok (.ladd, 1) := by decide +kernel
theorem dX0_wholeToBroken_77 : decode cX0_wholeToBroken 77 = .ok (.lstore 9, 2) := by decide +kernel
theorem dX0_wholeToBroken_79 : decode cX0_wholeToBroken 79 = .ok (.lload_n 0, 1) := by decide +kernel
theorem dX0_wholeToBroken_80 : decode cX0_wholeToBroken 80 = .ok (.lconst 0, 1) := by decide +kernel
theorem dX0_wholeToBroken_81 : decode cX0_wholeToBroken 81 = .ok (.lcmp, 1) := by decide +kernel
theorem dX0_wholeToBroken_82 : decode cX0_wholeToBroken 82 = .ok (.ifCond .ge 13, 3) := by decide +kernel
theorem dX0_wholeToBroken_85 : decode cX0_wholeToBroken 85 = .ok (.lload 9, 2) := by decide +kernel
theorem dX0_wholeToBroken_87 : decode cX0_wholeToBroken 87 = .ok (.iload_n 2, 1) := by decide +kernel
theorem dX0_wholeToBroken_88 : decode cX0_wholeToBroken 88 = .ok (.invokestatic 41, 3) := by decide +kernel
theorem dX0_wholeToBroken_91 : decode cX0_wholeToBroken 91 = .ok (.lor, 1) := by decide +kernel
theorem dX0_wholeToBroken_92 : decode cX0_wholeToBroken 92 = .ok (.goto 5, 3) := by decide +kernel
theorem dX0_wholeToBroken_95 : decode cX0_wholeToBroken 95 = .ok (.lload 9, 2) := by decide +kernel
theorem dX0_wholeToBroken_97 : decode cX0_wholeToBroken 97 = .ok (.lreturn, 1) := by decide +kernel
set_option maxRecDepth 20000 in
theorem ggX0_brokenToWhole_X0_magnitude : GoodIn wsX0_brokenToWhole wsX0_magnitude := goodIn_r _ [4, 5, 6, 7, 3, 8, 9, 10] (by decide +kernel) (by decide +kernel)
set_option maxRecDepth 20000 in
theorem gX0_brokenToWhole_X0_magnitude : GoodIn wsX0_brokenToWhole (va_wsS RX0 19 yX0_magnitude wsX0_magnitude) := goodIn_app (goodIn_of _ (by decide +kernel)) ggX0_brokenToWhole_X0_magnitude
set_option maxRecDepth 20000 in
theorem ggX0_brokenToWhole_X0_power : GoodIn wsX0_brokenToWhole wsX0_power := goodIn_r _ [13, 14, 15, 3, 16, 17, 18, 19] (by decide +kernel) (by decide +kernel)
set_option maxRecDepth 20000 in
theorem gX0_brokenToWhole_X0_power : GoodIn wsX0_brokenToWhole (va_wsS RX0 84 yX0_power wsX0_power) := goodIn_app (goodIn_of _ (by decide +kernel)) ggX0_brokenToWhole_X0_power
set_option maxRecDepth 20000 in
theorem ggX0_brokenToWhole_X0_extreme : GoodIn wsX0_brokenToWhole wsX0_extreme := goodIn_r _ [22, 9, 23, 10, 24] (by decide +kernel) (by decide +kernel)
set_option maxRecDepth 20000 in
theorem gX0_brokenToWhole_X0_extreme : GoodIn wsX0_brokenToWhole (va_wsS RX0 98 yX0_extreme wsX0_extreme) := goodIn_app (goodIn_of _ (by decide +kernel)) ggX0_brokenToWhole_X0_extreme
set_option maxRecDepth 20000 in
theorem ggX0_brokenToWhole_X0_fractionBits : GoodIn wsX0_brokenToWhole wsX0_fractionBits := goodIn_r _ [16] (by decide +kernel) (by decide +kernel)
set_option maxRecDepth 20000 in
theorem gX0_brokenToWhole_X0_fractionBits : GoodIn wsX0_brokenToWhole (va_wsS RX0 81 yX0_fractionBits wsX0_fractionBits) := goodIn_app (goodIn_of _ (by decide +kernel)) ggX0_brokenToWhole_X0_fractionBits
set_option maxRecDepth 20000 in
theorem ggX0_brokenToWhole_X0_mantissa : GoodIn wsX0_brokenToWhole wsX0_mantissa := goodIn_r _ [27, 14, 15, 3, 16] (by decide +kernel) (by decide +kernel)
set_option maxRecDepth 20000 in
theorem gX0_brokenToWhole_X0_mantissa : GoodIn wsX0_brokenToWhole (va_wsS RX0 102 yX0_mantissa wsX0_mantissa) := goodIn_app (goodIn_of _ (by decide +kernel)) ggX0_brokenToWhole_X0_mantissa
theorem dX0_brokenToWhole_0 : decode cX0_brokenToWhole 0 = .ok (.iload_n 0, 1) := by decide +kernel
theorem dX0_brokenToWhole_1 : decode cX0_brokenToWhole 1 = .ok (.lload_n 1, 1) := by decide +kernel
theorem dX0_brokenToWhole_2 : decode cX0_brokenToWhole 2 = .ok (.invokestatic 19, 3) := by decide +kernel
theorem dX0_brokenToWhole_5 : decode cX0_brokenToWhole 5 = .ok (.lstore 4, 2) := by decide +kernel
theorem dX0_brokenToWhole_7 : decode cX0_brokenToWhole 7 = .ok (.iload_n 0, 1) := by decide +kernel
theorem dX0_brokenToWhole_8 : decode cX0_brokenToWhole 8 = .ok (.lload 4, 2) := by decide +kernel
theorem dX0_brokenToWhole_10 : decode cX0_brokenToWhole 10 = .ok (.invokestatic 84, 3) := by decide +kernel
theorem dX0_brokenToWhole_13 : decode cX0_brokenToWhole 13 = .ok (.istore 6, 2) := by decide +kernel
theorem dX0_brokenToWhole_15 : decode cX0_brokenToWhole 15 = .ok (.iload 6, 2) := by decide +kernel
theorem dX0_brokenToWhole_17 : decode cX0_brokenToWhole 17 = .ok (.ifCond .ge 5, 3) := by decide +kernel
theorem dX0_brokenToWhole_20 : decode cX0_brokenToWhole 20 = .ok (.lconst 0, 1) := by decide +kernel
theorem dX0_brokenToWhole_21 : decode cX0_brokenToWhole 21 = .ok (.lreturn, 1) := by decide +kernel
theorem dX0_brokenToWhole_22 : decode cX0_brokenToWhole 22 = .ok (.iload 6, 2) := by decide +kernel
theorem dX0_brokenToWhole_24 : decode cX0_brokenToWhole 24 = .ok (.iload_n 3, 1) := by decide +kernel
theorem dX0_brokenToWhole_25 : decode cX0_brokenToWhole 25 = .ok (.ifCond .ne 8, 3) := by decide +kernel
theorem dX0_brokenToWhole_28 : decode cX0_brokenToWhole 28 = .ok (.bipush 31, 2) := by decide +kernel
theorem dX0_brokenToWhole_30 : decode cX0_brokenToWhole 30 = .ok (.goto 5, 3) := by decide +kernel
theorem dX0_brokenToWhole_33 : decode cX0_brokenToWhole 33 = .ok (.bipush 63, 2) := by decide +kernel
theorem dX0_brokenToWhole_35 : decode cX0_brokenToWhole 35 = .ok (.if_icmp .lt 19, 3) := by decide +kernel
theorem dX0_brokenToWhole_38 : decode cX0_brokenToWhole 38 = .ok (.iload_n 3, 1) := by decide +kernel
theorem dX0_brokenToWhole_39 : decode cX0_brokenToWhole 39 = .ok (.lload_n 1, 1) := by decide +kernel
theorem dX0_brokenToWhole_40 : decode cX0_brokenToWhole 40 = .ok (.lconst 0, 1) := by decide +kernel
theorem dX0_brokenToWhole_41 : decode cX0_brokenToWhole 41 = .ok (.lcmp, 1) := by decide +kernel
theorem dX0_brokenToWhole_42 : decode cX0_brokenToWhole 42 = .ok (.ifCond .ge 7, 3) := by decide +kernel
theorem dX0_brokenToWhole_45 : decode cX0_brokenToWhole 45 = .ok (.iconst 1, 1) := by decide +kernel
theorem dX0_brokenToWhole_46 : decode cX0_brokenToWhole 46 = .ok (.goto 4, 3) := by decide +kernel
theorem dX0_brokenToWhole_49 : decode cX0_brokenToWhole 49 = .ok (.iconst 0, 1) := by decide +kernel
theorem dX0_brokenToWhole_50 : decode cX0_brokenToWhole 50 = .ok (.invokestatic 98, 3) := by decide +kernel
theorem dX0_brokenToWhole_53 : decode cX0_brokenToWhole 53 = .ok (.lreturn, 1) := by decide +kernel
theorem dX0_brokenToWhole_54 : decode cX0_brokenToWhole 54 = .ok (.iload_n 0, 1) := by decide +kernel
theorem dX0_brokenToWhole_55 : decode cX0_brokenToWhole 55 = .ok (.invokestatic 81, 3) := by decide +kernel
theorem dX0_brokenToWhole_58 : decode cX0_brokenToWhole 58 = .ok (.iload 6, 2) := by decide +kernel
theorem dX0_brokenToWhole_60 : decode cX0_brokenToWhole 60 = .ok (.isub, 1) := by decide +kernel
theorem dX0_brokenToWhole_61 : decode cX0_brokenToWhole 61 = .ok (.istore 7, 2) := by decide +kernel
theorem dX0_brokenToWhole_63 : decode cX0_brokenToWhole 63 = .ok (.iload_n 0, 1) := by decide +kernel
theorem dX0_brokenToWhole_64 : decode cX0_brokenToWhole 64 = .ok (.lload 4, 2) := by decide +kernel
theorem dX0_brokenToWhole_66 : decode cX0_brokenToWhole 66 = .ok (.invokestatic 102, 3) := by decide +kernel
theorem dX0_brokenToWhole_69 : decode cX0_brokenToWhole 69 = .ok (.lstore 8, 2) := by decide +kernel
theorem dX0_brokenToWhole_71 : decode cX0_brokenToWhole 71 = .ok (.iload 7, 2) := by decide +kernel
theorem dX0_brokenToWhole_73 : decode cX0_brokenToWhole 73 = .ok (.ifCond .lt 11, 3) := by decide +kernel
theorem dX0_brokenToWhole_76 : decode cX0_brokenToWhole 76 = .ok (.lload 8, 2) := by decide +kernel
theorem dX0_brokenToWhole_78 : decode cX0_brokenToWhole 78 = .ok (.iload 7, 2) := by decide +kernel
theorem dX0_brokenToWhole_80 : decode cX0_brokenToWhole 80 = .ok (.lushr, 1) := by decide +kernel
theorem dX0_brokenToWhole_81 : decode cX0_brokenToWhole 81 = .ok (.goto 9, 3) := by decide +kernel
theorem dX0_brokenToWhole_84 : decode cX0_brokenToWhole 84 = .ok (.lload 8, 2) := by decide +kernel
theorem dX0_brokenToWhole_86 : decode cX0_brokenToWhole 86 = .ok (.iload 7, 2) := by decide +kernel
theorem dX0_brokenToWhole_88 : decode cX0_brokenToWhole 88 = .ok (.ineg, 1) := by decide +kernel
theorem dX0_brokenToWhole_89 : decode cX0_brokenToWhole 89 = .ok (.lshl, 1) := by decide +kernel
theorem dX0_brokenToWhole_90 : decode cX0_brokenToWhole 90 = .ok (.lstore 10, 2) := by decide +kernel
theorem dX0_brokenToWhole_92 : decode cX0_brokenToWhole 92 = .ok (.lload_n 1, 1) := by decide +kernel
theorem dX0_brokenToWhole_93 : decode cX0_brokenToWhole 93 = .ok (.lconst 0, 1) := by decide +kernel
theorem dX0_brokenToWhole_94 : decode cX0_brokenToWhole 94 = .ok (.lcmp, 1) := by decide +kernel
theorem dX0_brokenToWhole_95 : decode cX0_brokenToWhole 95 = .ok (.ifCond .ge 9, 3) := by decide +kernel
theorem dX0_brokenToWhole_98 : decode cX0_brokenToWhole 98 = .ok (.lload 10, 2) := by decide +kernel
theorem dX0_brokenToWhole_100 : decode cX0_brokenToWhole 100 = .ok (.lneg, 1) := by decide +kernel
theorem dX0_brokenToWhole_101 : decode cX0_brokenToWhole 101 = .ok (.goto 5, 3) := by decide +kernel
theorem dX0_brokenToWhole_104 : decode cX0_brokenToWhole 104 = .ok (.lload 10, 2) := by decide +kernel
theorem dX0_brokenToWhole_106 : decode cX0_brokenToWhole 106 = .ok (.lreturn, 1) := by decide +kernel
theorem dX0_extreme_0 : decode cX0_extreme 0 = .ok (.iload_n 0, 1) := by decide +kernel
theorem dX0_extreme_1 : decode cX0_extreme 1 = .ok (.ifCond .ne 17, 3) := by decide +kernel
theorem dX0_extreme_4 : decode cX0_extreme 4 = .ok (.iload_n 1, 1) := by decide +kernel
theorem dX0_extreme_5 : decode cX0_extreme 5 = .ok (.ifCond .eq 9, 3) := by decide +kernel
theorem dX0_extreme_8 : decode cX0_extreme 8 = .ok (.ldc2_w 71, 3) := by decide +kernel
theorem dX0_extreme_11 : decode cX0_extreme 11 = .ok (.goto 6, 3) := by decide +kernel
theorem dX0_extreme_14 : decode cX0_extreme 14 = .ok (.ldc2_w 105, 3) := by decide +kernel
theorem dX0_extreme_17 : decode cX0_extreme 17 = .ok (.lreturn, 1) := by decide +kernel
theorem dX0_extreme_18 : decode cX0_extreme 18 = .ok (.iload_n 1, 1) := by decide +kernel
theorem dX0_extreme_19 : decode cX0_extreme 19 = .ok (.ifCond .eq 9, 3) := by decide +kernel
theorem dX0_extreme_22 : decode cX0_extreme 22 = .ok (.ldc2_w 73, 3) := by decide +kernel
theorem dX0_extreme_25 : decode cX0_extreme 25 = .ok (.goto 6, 3) := by decide +kernel
theorem dX0_extreme_28 : decode cX0_extreme 28 = .ok (.ldc2_w 69, 3) := by decide +kernel
theorem dX0_extreme_31 : decode cX0_extreme 31 = .ok (.lreturn, 1) := by decide +kernel
set_option maxRecDepth 20000 in
theorem ggX0_widened_X0_infinity : GoodIn wsX0_widened wsX0_infinity := goodIn_r _ [5, 6, 7, 4, 8, 9, 10, 11] (by decide +kernel) (by decide +kernel)
set_option maxRecDepth 20000 in
theorem gX0_widened_X0_infinity : GoodIn wsX0_widened (va_wsS RX0 22 yX0_infinity wsX0_infinity) := goodIn_app (goodIn_of _ (by decide +kernel)) ggX0_widened_X0_infinity
set_option maxRecDepth 20000 in
theorem ggX0_widened_X0_highestBit : GoodIn wsX0_widened wsX0_highestBit := goodIn_r _ [14] (by decide +kernel) (by decide +kernel)
set_option maxRecDepth 20000 in
theorem gX0_widened_X0_highestBit : GoodIn wsX0_widened (va_wsS RX0 94 yX0_highestBit wsX0_highestBit) := goodIn_app (goodIn_of _ (by decide +kernel)) ggX0_widened_X0_highestBit
theorem dX0_widened_0 : decode cX0_widened 0 = .ok (.lload_n 0, 1) := by decide +kernel
theorem dX0_widened_1 : decode cX0_widened 1 = .ok (.lconst 0, 1) := by decide +kernel
theorem dX0_widened_2 : decode cX0_widened 2 = .ok (.lcmp, 1) := by decide +kernel
theorem dX0_widened_3 : decode cX0_widened 3 = .ok (.ifCond .ne 5, 3) := by decide +kernel
theorem dX0_widened_6 : decode cX0_widened 6 = .ok (.lconst 0, 1) := by decide +kernel
theorem dX0_widened_7 : decode cX0_widened 7 = .ok (.lreturn, 1) := by decide +kernel
theorem dX0_widened_8 : decode cX0_widened 8 = .ok (.lload_n 0, 1) := by decide +kernel
theorem dX0_widened_9 : decode cX0_widened 9 = .ok (.iconst 2, 1) := by decide +kernel
theorem dX0_widened_10 : decode cX0_widened 10 = .ok (.invokestatic 22, 3) := by decide +kernel
theorem dX0_widened_13 : decode cX0_widened 13 = .ok (.lcmp, 1) := by decide +kernel
theorem dX0_widened_14 : decode cX0_widened 14 = .ok (.ifCond .ne 8, 3) := by decide +kernel
theorem dX0_widened_17 : decode cX0_widened 17 = .ok (.iconst 3, 1) := by decide +kernel
theorem dX0_widened_18 : decode cX0_widened 18 = .ok (.invokestatic 22, 3) := by decide +kernel
theorem dX0_widened_21 : decode cX0_widened 21 = .ok (.lreturn, 1) := by decide +kernel
theorem dX0_widened_22 : decode cX0_widened 22 = .ok (.lload_n 0, 1) := by decide +kernel
theorem dX0_widened_23 : decode cX0_widened 23 = .ok (.bipush 23, 2) := by decide +kernel
theorem dX0_widened_25 : decode cX0_widened 25 = .ok (.lushr, 1) := by decide +kernel
theorem dX0_widened_26 : decode cX0_widened 26 = .ok (.lconst 0, 1) := by decide +kernel
theorem dX0_widened_27 : decode cX0_widened 27 = .ok (.lcmp, 1) := by decide +kernel
theorem dX0_widened_28 : decode cX0_widened 28 = .ok (.ifCond .eq 14, 3) := by decide +kernel
theorem dX0_widened_31 : decode cX0_widened 31 = .ok (.lload_n 0, 1) := by decide +kernel
theorem dX0_widened_32 : decode cX0_widened 32 = .ok (.bipush 29, 2) := by decide +kernel
theorem dX0_widened_34 : decode cX0_widened 34 = .ok (.lshl, 1) := by decide +kernel
theorem dX0_widened_35 : decode cX0_widened 35 = .ok (.lstore_n 2, 1) := by decide +kernel
theorem dX0_widened_36 : decode cX0_widened 36 = .ok (.lload_n 2, 1) := by decide +kernel
theorem dX0_widened_37 : decode cX0_widened 37 = .ok (.ldc2_w 107, 3) := by decide +kernel
theorem dX0_widened_40 : decode cX0_widened 40 = .ok (.ladd, 1) := by decide +kernel
theorem dX0_widened_41 : decode cX0_widened 41 = .ok (.lreturn, 1) := by decide +kernel
theorem dX0_widened_42 : decode cX0_widened 42 = .ok (.lload_n 0, 1) := by decide +kernel
theorem dX0_widened_43 : decode cX0_widened 43 = .ok (.invokestatic 94, 3) := by decide +kernel
theorem dX0_widened_46 : decode cX0_widened 46 = .ok (.istore_n 2, 1) := by decide +kernel
theorem dX0_widened_47 : decode cX0_widened 47 = .ok (.iload_n 2, 1) := by decide +kernel
theorem dX0_widened_48 : decode cX0_widened 48 = .ok (.sipush (-149), 3) := by decide +kernel
theorem dX0_widened_51 : decode cX0_widened 51 = .ok (.iadd, 1) := by decide +kernel
theorem dX0_widened_52 : decode cX0_widened 52 = .ok (.sipush 1023, 3) := by decide +kernel
theorem dX0_widened_55 : decode cX0_widened 55 = .ok (.iadd, 1) := by decide +kernel
theorem dX0_widened_56 : decode cX0_widened 56 = .ok (.iconst 1, 1) := by decide +kernel
theorem dX0_widened_57 : decode cX0_widened 57 = .ok (.isub, 1) := by decide +kernel
theorem dX0_widened_58 : decode cX0_widened 58 = .ok (.i2l, 1) := by decide +kernel
theorem dX0_widened_59 : decode cX0_widened 59 = .ok (.lstore_n 3, 1) := by decide +kernel
theorem dX0_widened_60 : decode cX0_widened 60 = .ok (.lload_n 3, 1) := by decide +kernel
theorem dX0_widened_61 : decode cX0_widened 61 = .ok (.bipush 52, 2) := by decide +kernel
theorem dX0_widened_63 : decode cX0_widened 63 = .ok (.lshl, 1) := by decide +kernel
theorem dX0_widened_64 : decode cX0_widened 64 = .ok (.lload_n 0, 1) := by decide +kernel
theorem dX0_widened_65 : decode cX0_widened 65 = .ok (.bipush 52, 2) := by decide +kernel
theorem dX0_widened_67 : decode cX0_widened 67 = .ok (.iload_n 2, 1) := by decide +kernel
theorem dX0_widened_68 : decode cX0_widened 68 = .ok (.isub, 1) := by decide +kernel
theorem dX0_widened_69 : decode cX0_widened 69 = .ok (.lshl, 1) := by decide +kernel
theorem dX0_widened_70 : decode cX0_widened 70 = .ok (.ladd, 1) := by decide +kernel
theorem dX0_widened_71 : decode cX0_widened 71 = .ok (.lreturn, 1) := by decide +kernel
set_option maxRecDepth 20000 in
theorem ggX0_narrowed_X0_power : GoodIn wsX0_narrowed wsX0_power := goodIn_r _ [5, 6, 7, 4, 8, 9, 10, 11] (by decide +kernel) (by decide +kernel)
set_option maxRecDepth 20000 in
theorem gX0_narrowed_X0_power : GoodIn wsX0_narrowed (va_wsS RX0 84 yX0_power wsX0_power) := goodIn_app (goodIn_of _ (by decide +kernel)) ggX0_narrowed_X0_power
set_option maxRecDepth 20000 in
theorem ggX0_narrowed_X0_infinity : GoodIn wsX0_narrowed wsX0_infinity := goodIn_r _ [14, 9, 10, 4, 11, 6, 7, 8] (by decide +kernel) (by decide +kernel)
set_option maxRecDepth 20000 in
theorem gX0_narrowed_X0_infinity : GoodIn wsX0_narrowed (va_wsS RX0 22 yX0_infinity wsX0_infinity) := goodIn_app (goodIn_of _ (by decide +kernel)) ggX0_narrowed_X0_infinity
set_option maxRecDepth 20000 in
theorem ggX0_narrowed_X0_nearestShifted : GoodIn wsX0_narrowed wsX0_nearestShifted := goodIn_r _ [17] (by decide +kernel) (by decide +kernel)
set_option maxRecDepth 20000 in
theorem gX0_narrowed_X0_nearestShifted : GoodIn wsX0_narrowed (va_wsS RX0 91 yX0_nearestShifted wsX0_nearestShifted) := goodIn_app (goodIn_of _ (by decide +kernel)) ggX0_narrowed_X0_nearestShifted
set_option maxRecDepth 20000 in
theorem ggX0_narrowed_X0_mantissa : GoodIn wsX0_narrowed wsX0_mantissa := goodIn_r _ [20, 6, 7, 4, 8] (by decide +kernel) (by decide +kernel)
set_option maxRecDepth 20000 in
theorem gX0_narrowed_X0_mantissa : GoodIn wsX0_narrowed (va_wsS RX0 102 yX0_mantissa wsX0_mantissa) := goodIn_app (goodIn_of _ (by decide +kernel)) ggX0_narrowed_X0_mantissa
theorem dX0_narrowed_0 : decode cX0_narrowed 0 = .ok (.iconst 3, 1) := by decide +kernel
end
section
theorem dX0_narrowed_1 : decode cX0_narrowed 1 = .ok (.lload_n 0, 1) := by decide +kernel
theorem dX0_narrowed_2 : decode cX0_narrowed 2 = .ok (.invokestatic 84, 3) := by decide +kernel
theorem dX0_narrowed_5 : decode cX0_narrowed 5 = .ok (.istore_n 2, 1) := by decide +kernel
theorem dX0_narrowed_6 : decode cX0_narrowed 6 = .ok (.iload_n 2, 1) := by decide +kernel
theorem dX0_narrowed_7 : decode cX0_narrowed 7 = .ok (.bipush 127, 2) := by decide +kernel
theorem dX0_narrowed_9 : decode cX0_narrowed 9 = .ok (.if_icmp .le 8, 3) := by decide +kernel
theorem dX0_narrowed_12 : decode cX0_narrowed 12 = .ok (.iconst 2, 1) := by decide +kernel
theorem dX0_narrowed_13 : decode cX0_narrowed 13 = .ok (.invokestatic 22, 3) := by decide +kernel
theorem dX0_narrowed_16 : decode cX0_narrowed 16 = .ok (.lreturn, 1) := by decide +kernel
theorem dX0_narrowed_17 : decode cX0_narrowed 17 = .ok (.iload_n 2, 1) := by decide +kernel
theorem dX0_narrowed_18 : decode cX0_narrowed 18 = .ok (.sipush (-150), 3) := by decide +kernel
theorem dX0_narrowed_21 : decode cX0_narrowed 21 = .ok (.if_icmp .ge 5, 3) := by decide +kernel
theorem dX0_narrowed_24 : decode cX0_narrowed 24 = .ok (.lconst 0, 1) := by decide +kernel
theorem dX0_narrowed_25 : decode cX0_narrowed 25 = .ok (.lreturn, 1) := by decide +kernel
theorem dX0_narrowed_26 : decode cX0_narrowed 26 = .ok (.iload_n 2, 1) := by decide +kernel
theorem dX0_narrowed_27 : decode cX0_narrowed 27 = .ok (.bipush (-127), 2) := by decide +kernel
theorem dX0_narrowed_29 : decode cX0_narrowed 29 = .ok (.if_icmp .le 16, 3) := by decide +kernel
theorem dX0_narrowed_32 : decode cX0_narrowed 32 = .ok (.lload_n 0, 1) := by decide +kernel
theorem dX0_narrowed_33 : decode cX0_narrowed 33 = .ok (.ldc2_w 107, 3) := by decide +kernel
theorem dX0_narrowed_36 : decode cX0_narrowed 36 = .ok (.lsub, 1) := by decide +kernel
theorem dX0_narrowed_37 : decode cX0_narrowed 37 = .ok (.lstore_n 3, 1) := by decide +kernel
theorem dX0_narrowed_38 : decode cX0_narrowed 38 = .ok (.lload_n 3, 1) := by decide +kernel
theorem dX0_narrowed_39 : decode cX0_narrowed 39 = .ok (.bipush 29, 2) := by decide +kernel
theorem dX0_narrowed_41 : decode cX0_narrowed 41 = .ok (.invokestatic 91, 3) := by decide +kernel
theorem dX0_narrowed_44 : decode cX0_narrowed 44 = .ok (.lreturn, 1) := by decide +kernel
theorem dX0_narrowed_45 : decode cX0_narrowed 45 = .ok (.iconst 3, 1) := by decide +kernel
theorem dX0_narrowed_46 : decode cX0_narrowed 46 = .ok (.lload_n 0, 1) := by decide +kernel
theorem dX0_narrowed_47 : decode cX0_narrowed 47 = .ok (.invokestatic 102, 3) := by decide +kernel
theorem dX0_narrowed_50 : decode cX0_narrowed 50 = .ok (.bipush (-97), 2) := by decide +kernel
theorem dX0_narrowed_52 : decode cX0_narrowed 52 = .ok (.iload_n 2, 1) := by decide +kernel
theorem dX0_narrowed_53 : decode cX0_narrowed 53 = .ok (.isub, 1) := by decide +kernel
theorem dX0_narrowed_54 : decode cX0_narrowed 54 = .ok (.invokestatic 91, 3) := by decide +kernel
theorem dX0_narrowed_57 : decode cX0_narrowed 57 = .ok (.lreturn, 1) := by decide +kernel
theorem dX1_init_0 : decode cX1_init 0 = .ok (.aload_n 0, 1) := by decide +kernel
theorem dX1_init_1 : decode cX1_init 1 = .ok (.invokespecial 1, 3) := by decide +kernel
theorem dX1_init_4 : decode cX1_init 4 = .ok (.aload_n 0, 1) := by decide +kernel
theorem dX1_init_5 : decode cX1_init 5 = .ok (.bipush 16, 2) := by decide +kernel
theorem dX1_init_7 : decode cX1_init 7 = .ok (.newarray .int, 2) := by decide +kernel
theorem dX1_init_9 : decode cX1_init 9 = .ok (.putfield 9, 3) := by decide +kernel
theorem dX1_init_12 : decode cX1_init 12 = .ok (.aload_n 0, 1) := by decide +kernel
theorem dX1_init_13 : decode cX1_init 13 = .ok (.bipush 16, 2) := by decide +kernel
theorem dX1_init_15 : decode cX1_init 15 = .ok (.newarray .long, 2) := by decide +kernel
theorem dX1_init_17 : decode cX1_init 17 = .ok (.putfield 13, 3) := by decide +kernel
theorem dX1_init_20 : decode cX1_init 20 = .ok (.aload_n 0, 1) := by decide +kernel
theorem dX1_init_21 : decode cX1_init 21 = .ok (.bipush 16, 2) := by decide +kernel
theorem dX1_init_23 : decode cX1_init 23 = .ok (.newarray .long, 2) := by decide +kernel
theorem dX1_init_25 : decode cX1_init 25 = .ok (.putfield 17, 3) := by decide +kernel
theorem dX1_init_28 : decode cX1_init 28 = .ok (.aload_n 0, 1) := by decide +kernel
theorem dX1_init_29 : decode cX1_init 29 = .ok (.bipush 12, 2) := by decide +kernel
theorem dX1_init_31 : decode cX1_init 31 = .ok (.newarray .int, 2) := by decide +kernel
theorem dX1_init_33 : decode cX1_init 33 = .ok (.putfield 20, 3) := by decide +kernel
theorem dX1_init_36 : decode cX1_init 36 = .ok (.aload_n 0, 1) := by decide +kernel
theorem dX1_init_37 : decode cX1_init 37 = .ok (.bipush 12, 2) := by decide +kernel
theorem dX1_init_39 : decode cX1_init 39 = .ok (.newarray .int, 2) := by decide +kernel
theorem dX1_init_41 : decode cX1_init 41 = .ok (.putfield 23, 3) := by decide +kernel
theorem dX1_init_44 : decode cX1_init 44 = .ok (.aload_n 0, 1) := by decide +kernel
theorem dX1_init_45 : decode cX1_init 45 = .ok (.bipush 12, 2) := by decide +kernel
theorem dX1_init_47 : decode cX1_init 47 = .ok (.newarray .int, 2) := by decide +kernel
theorem dX1_init_49 : decode cX1_init 49 = .ok (.putfield 26, 3) := by decide +kernel
theorem dX1_init_52 : decode cX1_init 52 = .ok (.aload_n 0, 1) := by decide +kernel
theorem dX1_init_53 : decode cX1_init 53 = .ok (.bipush 12, 2) := by decide +kernel
theorem dX1_init_55 : decode cX1_init 55 = .ok (.newarray .int, 2) := by decide +kernel
theorem dX1_init_57 : decode cX1_init 57 = .ok (.putfield 29, 3) := by decide +kernel
theorem dX1_init_60 : decode cX1_init 60 = .ok (.iconst 0, 1) := by decide +kernel
theorem dX1_init_61 : decode cX1_init 61 = .ok (.istore_n 1, 1) := by decide +kernel
theorem dX1_init_62 : decode cX1_init 62 = .ok (.iload_n 1, 1) := by decide +kernel
theorem dX1_init_63 : decode cX1_init 63 = .ok (.bipush 16, 2) := by decide +kernel
theorem dX1_init_65 : decode cX1_init 65 = .ok (.if_icmp .ge 16, 3) := by decide +kernel
theorem dX1_init_68 : decode cX1_init 68 = .ok (.aload_n 0, 1) := by decide +kernel
theorem dX1_init_69 : decode cX1_init 69 = .ok (.getfield 9, 3) := by decide +kernel
theorem dX1_init_72 : decode cX1_init 72 = .ok (.iload_n 1, 1) := by decide +kernel
theorem dX1_init_73 : decode cX1_init 73 = .ok (.iconst (-1), 1) := by decide +kernel
theorem dX1_init_74 : decode cX1_init 74 = .ok (.iastore, 1) := by decide +kernel
theorem dX1_init_75 : decode cX1_init 75 = .ok (.iinc 1 1, 3) := by decide +kernel
theorem dX1_init_78 : decode cX1_init 78 = .ok (.goto (-16), 3) := by decide +kernel
theorem dX1_init_81 : decode cX1_init 81 = .ok (.iconst 0, 1) := by decide +kernel
theorem dX1_init_82 : decode cX1_init 82 = .ok (.istore_n 1, 1) := by decide +kernel
theorem dX1_init_83 : decode cX1_init 83 = .ok (.iload_n 1, 1) := by decide +kernel
theorem dX1_init_84 : decode cX1_init 84 = .ok (.bipush 12, 2) := by decide +kernel
theorem dX1_init_86 : decode cX1_init 86 = .ok (.if_icmp .ge 16, 3) := by decide +kernel
theorem dX1_init_89 : decode cX1_init 89 = .ok (.aload_n 0, 1) := by decide +kernel
theorem dX1_init_90 : decode cX1_init 90 = .ok (.getfield 20, 3) := by decide +kernel
theorem dX1_init_93 : decode cX1_init 93 = .ok (.iload_n 1, 1) := by decide +kernel
theorem dX1_init_94 : decode cX1_init 94 = .ok (.iconst (-1), 1) := by decide +kernel
theorem dX1_init_95 : decode cX1_init 95 = .ok (.iastore, 1) := by decide +kernel
theorem dX1_init_96 : decode cX1_init 96 = .ok (.iinc 1 1, 3) := by decide +kernel
theorem dX1_init_99 : decode cX1_init 99 = .ok (.goto (-16), 3) := by decide +kernel
theorem dX1_init_102 : decode cX1_init 102 = .ok (.return_, 1) := by decide +kernel
set_option maxRecDepth 20000 in
theorem ggX1_set_X1_placed : GoodIn wsX1_set wsX1_placed := goodIn_r _ [5, 6, 7, 4, 8, 9, 10, 11, 12, 13, 14, 15, 16, 17, 18, 19, 20, 21, 22, 23, 24, 25, 26, 27, 28, 29, 30, 31, 32, 33, 34, 35, 36, 37, 38, 39, 40, 41, 42, 43, 44, 45, 46, 47, 48, 49, 50, 51, 52, 53, 54, 61, 62, 63, 64, 65, 66, 67, 68, 69, 70, 71] (by decide +kernel) (by decide +kernel)
set_option maxRecDepth 20000 in
theorem gX1_set_X1_placed : GoodIn wsX1_set (wsV RX1 32 RX1 yX1_placed wsX1_placed) := goodIn_app (goodIn_of _ (by decide +kernel)) ggX1_set_X1_placed
set_option maxRecDepth 20000 in
theorem ggX1_set_X1_noted : GoodIn wsX1_set wsX1_noted := goodIn_r _ [58, 59, 60, 61, 62, 63, 64, 65, 66, 67, 68, 69, 70, 71] (by decide +kernel) (by decide +kernel)
set_option maxRecDepth 20000 in
theorem gX1_set_X1_noted : GoodIn wsX1_set (wsV RX1 36 RX1 yX1_noted wsX1_noted) := goodIn_app (goodIn_of _ (by decide +kernel)) ggX1_set_X1_noted
theorem dX1_set_0 : decode cX1_set 0 = .ok (.aload_n 0, 1) := by decide +kernel
theorem dX1_set_1 : decode cX1_set 1 = .ok (.aload_n 0, 1) := by decide +kernel
theorem dX1_set_2 : decode cX1_set 2 = .ok (.iload_n 1, 1) := by decide +kernel
theorem dX1_set_3 : decode cX1_set 3 = .ok (.iload_n 2, 1) := by decide +kernel
theorem dX1_set_4 : decode cX1_set 4 = .ok (.lload_n 3, 1) := by decide +kernel
theorem dX1_set_5 : decode cX1_set 5 = .ok (.lload 5, 2) := by decide +kernel
theorem dX1_set_7 : decode cX1_set 7 = .ok (.invokevirtual 32, 3) := by decide +kernel
theorem dX1_set_10 : decode cX1_set 10 = .ok (.invokevirtual 36, 3) := by decide +kernel
theorem dX1_set_13 : decode cX1_set 13 = .ok (.ireturn, 1) := by decide +kernel
set_option maxRecDepth 20000 in
theorem ggX1_clear_X1_isSlot : GoodIn wsX1_clear wsX1_isSlot := goodIn_r _ [5] (by decide +kernel) (by decide +kernel)
set_option maxRecDepth 20000 in
theorem gX1_clear_X1_isSlot : GoodIn wsX1_clear (va_wsS RX1 40 yX1_isSlot wsX1_isSlot) := goodIn_app (goodIn_of _ (by decide +kernel)) ggX1_clear_X1_isSlot
set_option maxRecDepth 20000 in
theorem ggX1_clear_X1_noted : GoodIn wsX1_clear wsX1_noted := goodIn_r _ [9, 10, 11, 12, 13, 14, 15, 16, 17, 18, 19, 20, 21, 22] (by decide +kernel) (by decide +kernel)
set_option maxRecDepth 20000 in
theorem gX1_clear_X1_noted : GoodIn wsX1_clear (wsV RX1 36 RX1 yX1_noted wsX1_noted) := goodIn_app (goodIn_of _ (by decide +kernel)) ggX1_clear_X1_noted
theorem dX1_clear_0 : decode cX1_clear 0 = .ok (.iload_n 1, 1) := by decide +kernel
theorem dX1_clear_1 : decode cX1_clear 1 = .ok (.invokestatic 40, 3) := by decide +kernel
theorem dX1_clear_4 : decode cX1_clear 4 = .ok (.ifCond .ne 10, 3) := by decide +kernel
theorem dX1_clear_7 : decode cX1_clear 7 = .ok (.aload_n 0, 1) := by decide +kernel
theorem dX1_clear_8 : decode cX1_clear 8 = .ok (.bipush (-2), 2) := by decide +kernel
theorem dX1_clear_10 : decode cX1_clear 10 = .ok (.invokevirtual 36, 3) := by decide +kernel
theorem dX1_clear_13 : decode cX1_clear 13 = .ok (.ireturn, 1) := by decide +kernel
theorem dX1_clear_14 : decode cX1_clear 14 = .ok (.aload_n 0, 1) := by decide +kernel
theorem dX1_clear_15 : decode cX1_clear 15 = .ok (.getfield 9, 3) := by decide +kernel
theorem dX1_clear_18 : decode cX1_clear 18 = .ok (.iload_n 1, 1) := by decide +kernel
theorem dX1_clear_19 : decode cX1_clear 19 = .ok (.iaload, 1) := by decide +kernel
theorem dX1_clear_20 : decode cX1_clear 20 = .ok (.iconst (-1), 1) := by decide +kernel
theorem dX1_clear_21 : decode cX1_clear 21 = .ok (.if_icmp .ne 7, 3) := by decide +kernel
theorem dX1_clear_24 : decode cX1_clear 24 = .ok (.iconst 0, 1) := by decide +kernel
theorem dX1_clear_25 : decode cX1_clear 25 = .ok (.goto 4, 3) := by decide +kernel
theorem dX1_clear_28 : decode cX1_clear 28 = .ok (.iconst 1, 1) := by decide +kernel
theorem dX1_clear_29 : decode cX1_clear 29 = .ok (.istore_n 2, 1) := by decide +kernel
theorem dX1_clear_30 : decode cX1_clear 30 = .ok (.aload_n 0, 1) := by decide +kernel
theorem dX1_clear_31 : decode cX1_clear 31 = .ok (.getfield 9, 3) := by decide +kernel
theorem dX1_clear_34 : decode cX1_clear 34 = .ok (.iload_n 1, 1) := by decide +kernel
theorem dX1_clear_35 : decode cX1_clear 35 = .ok (.iconst (-1), 1) := by decide +kernel
theorem dX1_clear_36 : decode cX1_clear 36 = .ok (.iastore, 1) := by decide +kernel
theorem dX1_clear_37 : decode cX1_clear 37 = .ok (.aload_n 0, 1) := by decide +kernel
theorem dX1_clear_38 : decode cX1_clear 38 = .ok (.iload_n 2, 1) := by decide +kernel
theorem dX1_clear_39 : decode cX1_clear 39 = .ok (.invokevirtual 36, 3) := by decide +kernel
theorem dX1_clear_42 : decode cX1_clear 42 = .ok (.ireturn, 1) := by decide +kernel
set_option maxRecDepth 20000 in
theorem ggX1_sort_X1_refusalToTake : GoodIn wsX1_sort wsX1_refusalToTake := goodIn_r _ [6, 1, 7, 8, 5, 9, 16, 17, 18, 19, 20, 21, 22, 23, 24, 25, 26] (by decide +kernel) (by decide +kernel)
set_option maxRecDepth 20000 in
theorem gX1_sort_X1_refusalToTake : GoodIn wsX1_sort (wsV RX1 44 RX1 yX1_refusalToTake wsX1_refusalToTake) := goodIn_app (goodIn_of _ (by decide +kernel)) ggX1_sort_X1_refusalToTake
set_option maxRecDepth 20000 in
theorem ggX1_sort_X1_noted : GoodIn wsX1_sort wsX1_noted := goodIn_r _ [13, 14, 15, 16, 17, 18, 19, 20, 21, 22, 23, 24, 25, 26] (by decide +kernel) (by decide +kernel)
set_option maxRecDepth 20000 in
theorem gX1_sort_X1_noted : GoodIn wsX1_sort (wsV RX1 36 RX1 yX1_noted wsX1_noted) := goodIn_app (goodIn_of _ (by decide +kernel)) ggX1_sort_X1_noted
theorem dX1_sort_0 : decode cX1_sort 0 = .ok (.aload_n 0, 1) := by decide +kernel
theorem dX1_sort_1 : decode cX1_sort 1 = .ok (.iload_n 1, 1) := by decide +kernel
theorem dX1_sort_2 : decode cX1_sort 2 = .ok (.invokevirtual 44, 3) := by decide +kernel
theorem dX1_sort_5 : decode cX1_sort 5 = .ok (.istore_n 2, 1) := by decide +kernel
theorem dX1_sort_6 : decode cX1_sort 6 = .ok (.aload_n 0, 1) := by decide +kernel
theorem dX1_sort_7 : decode cX1_sort 7 = .ok (.iload_n 2, 1) := by decide +kernel
theorem dX1_sort_8 : decode cX1_sort 8 = .ok (.ifCond .ge 7, 3) := by decide +kernel
theorem dX1_sort_11 : decode cX1_sort 11 = .ok (.iload_n 2, 1) := by decide +kernel
theorem dX1_sort_12 : decode cX1_sort 12 = .ok (.goto 9, 3) := by decide +kernel
theorem dX1_sort_15 : decode cX1_sort 15 = .ok (.aload_n 0, 1) := by decide +kernel
theorem dX1_sort_16 : decode cX1_sort 16 = .ok (.getfield 9, 3) := by decide +kernel
theorem dX1_sort_19 : decode cX1_sort 19 = .ok (.iload_n 1, 1) := by decide +kernel
theorem dX1_sort_20 : decode cX1_sort 20 = .ok (.iaload, 1) := by decide +kernel
theorem dX1_sort_21 : decode cX1_sort 21 = .ok (.invokevirtual 36, 3) := by decide +kernel
theorem dX1_sort_24 : decode cX1_sort 24 = .ok (.ireturn, 1) := by decide +kernel
set_option maxRecDepth 20000 in
theorem ggX1_low_X1_refusalToTake : GoodIn wsX1_low wsX1_refusalToTake := goodIn_r _ [7, 8, 9, 10, 6, 11, 18, 19, 20, 21, 22, 23, 24, 25, 26, 27, 28] (by decide +kernel) (by decide +kernel)
set_option maxRecDepth 20000 in
theorem gX1_low_X1_refusalToTake : GoodIn wsX1_low (wsV RX1 44 RX1 yX1_refusalToTake wsX1_refusalToTake) := goodIn_app (goodIn_of _ (by decide +kernel)) ggX1_low_X1_refusalToTake
set_option maxRecDepth 20000 in
theorem ggX1_low_X1_noted : GoodIn wsX1_low wsX1_noted := goodIn_r _ [15, 16, 17, 18, 19, 20, 21, 22, 23, 24, 25, 26, 27, 28] (by decide +kernel) (by decide +kernel)
set_option maxRecDepth 20000 in
theorem gX1_low_X1_noted : GoodIn wsX1_low (wsV RX1 36 RX1 yX1_noted wsX1_noted) := goodIn_app (goodIn_of _ (by decide +kernel)) ggX1_low_X1_noted
theorem dX1_low_0 : decode cX1_low 0 = .ok (.aload_n 0, 1) := by decide +kernel
theorem dX1_low_1 : decode cX1_low 1 = .ok (.aload_n 0, 1) := by decide +kernel
theorem dX1_low_2 : decode cX1_low 2 = .ok (.iload_n 1, 1) := by decide +kernel
theorem dX1_low_3 : decode cX1_low 3 = .ok (.invokevirtual 44, 3) := by decide +kernel
theorem dX1_low_6 : decode cX1_low 6 = .ok (.invokevirtual 36, 3) := by decide +kernel
theorem dX1_low_9 : decode cX1_low 9 = .ok (.ifCond .ge 5, 3) := by decide +kernel
theorem dX1_low_12 : decode cX1_low 12 = .ok (.lconst 0, 1) := by decide +kernel
theorem dX1_low_13 : decode cX1_low 13 = .ok (.lreturn, 1) := by decide +kernel
theorem dX1_low_14 : decode cX1_low 14 = .ok (.aload_n 0, 1) := by decide +kernel
theorem dX1_low_15 : decode cX1_low 15 = .ok (.dup, 1) := by decide +kernel
theorem dX1_low_16 : decode cX1_low 16 = .ok (.getfield 47, 3) := by decide +kernel
theorem dX1_low_19 : decode cX1_low 19 = .ok (.iconst 1, 1) := by decide +kernel
theorem dX1_low_20 : decode cX1_low 20 = .ok (.iadd, 1) := by decide +kernel
theorem dX1_low_21 : decode cX1_low 21 = .ok (.putfield 47, 3) := by decide +kernel
theorem dX1_low_24 : decode cX1_low 24 = .ok (.aload_n 0, 1) := by decide +kernel
theorem dX1_low_25 : decode cX1_low 25 = .ok (.getfield 13, 3) := by decide +kernel
theorem dX1_low_28 : decode cX1_low 28 = .ok (.iload_n 1, 1) := by decide +kernel
theorem dX1_low_29 : decode cX1_low 29 = .ok (.laload, 1) := by decide +kernel
theorem dX1_low_30 : decode cX1_low 30 = .ok (.lreturn, 1) := by decide +kernel
set_option maxRecDepth 20000 in
theorem ggX1_high_X1_refusalToTake : GoodIn wsX1_high wsX1_refusalToTake := goodIn_r _ [7, 8, 9, 10, 6, 11, 18, 19, 20, 21, 22, 23, 24, 25, 26, 27, 28] (by decide +kernel) (by decide +kernel)
set_option maxRecDepth 20000 in
theorem gX1_high_X1_refusalToTake : GoodIn wsX1_high (wsV RX1 44 RX1 yX1_refusalToTake wsX1_refusalToTake) := goodIn_app (goodIn_of _ (by decide +kernel)) ggX1_high_X1_refusalToTake
set_option maxRecDepth 20000 in
theorem ggX1_high_X1_noted : GoodIn wsX1_high wsX1_noted := goodIn_r _ [15, 16, 17, 18, 19, 20, 21, 22, 23, 24, 25, 26, 27, 28] (by decide +kernel) (by decide +kernel)
set_option maxRecDepth 20000 in
theorem gX1_high_X1_noted : GoodIn wsX1_high (wsV RX1 36 RX1 yX1_noted wsX1_noted) := goodIn_app (goodIn_of _ (by decide +kernel)) ggX1_high_X1_noted
theorem dX1_high_0 : decode cX1_high 0 = .ok (.aload_n 0, 1) := by decide +kernel
theorem dX1_high_1 : decode cX1_high 1 = .ok (.aload_n 0, 1) := by decide +kernel
theorem dX1_high_2 : decode cX1_high 2 = .ok (.iload_n 1, 1) := by decide +kernel
theorem dX1_high_3 : decode cX1_high 3 = .ok (.invokevirtual 44, 3) := by decide +kernel
theorem dX1_high_6 : decode cX1_high 6 = .ok (.invokevirtual 36, 3) := by decide +kernel
theorem dX1_high_9 : decode cX1_high 9 = .ok (.ifCond .ge 5, 3) := by decide +kernel
theorem dX1_high_12 : decode cX1_high 12 = .ok (.lconst 0, 1) := by decide +kernel
theorem dX1_high_13 : decode cX1_high 13 = .ok (.lreturn, 1) := by decide +kernel
theorem dX1_high_14 : decode cX1_high 14 = .ok (.aload_n 0, 1) := by decide +kernel
theorem dX1_high_15 : decode cX1_high 15 = .ok (.dup, 1) := by decide +kernel
theorem dX1_high_16 : decode cX1_high 16 = .ok (.getfield 47, 3) := by decide +kernel
theorem dX1_high_19 : decode cX1_high 19 = .ok (.iconst 1, 1) := by decide +kernel
theorem dX1_high_20 : decode cX1_high 20 = .ok (.iadd, 1) := by decide +kernel
theorem dX1_high_21 : decode cX1_high 21 = .ok (.putfield 47, 3) := by decide +kernel
theorem dX1_high_24 : decode cX1_high 24 = .ok (.aload_n 0, 1) := by decide +kernel
theorem dX1_high_25 : decode cX1_high 25 = .ok (.getfield 17, 3) := by decide +kernel
theorem dX1_high_28 : decode cX1_high 28 = .ok (.iload_n 1, 1) := by decide +kernel
theorem dX1_high_29 : decode cX1_high 29 = .ok (.laload, 1) := by decide +kernel
theorem dX1_high_30 : decode cX1_high 30 = .ok (.lreturn, 1) := by decide +kernel
set_option maxRecDepth 20000 in
theorem ggX1_hull_X1_performed : GoodIn wsX1_hull wsX1_performed := goodIn_r _ [5, 6, 7, 8, 4, 9, 10, 11, 12, 13, 14, 15, 16, 17, 18, 19, 20, 21, 22, 23, 24, 25, 26, 27, 28, 29, 30, 31, 32, 33, 34, 35, 36, 37, 38, 39, 40, 41, 42, 43, 44, 45, 46, 47, 48, 49, 50, 51, 52, 53, 54, 55, 56, 57, 58, 59, 60, 61, 62, 63, 64, 65, 66, 67, 68, 69, 70, 71, 72, 73, 74, 75, 76, 77, 78, 79, 80, 81, 82, 83, 84, 85, 86, 87, 88, 89, 90, 91, 92, 93, 94, 95, 96, 97, 98, 99, 100, 101, 102, 103, 104, 105, 106, 107, 108, 109, 110, 111, 112, 113, 114, 115, 116, 117, 118, 119, 120, 121, 122, 123, 124, 125, 126, 127, 128, 129, 130, 131, 132, 133, 134, 135, 136, 137, 138, 139, 140, 141, 142, 143, 144, 145, 146, 147, 148, 149, 150, 151, 152, 153, 154, 155, 156, 157, 158, 159, 160, 161, 162, 163, 164, 165, 166, 167, 168, 169, 170, 171, 172, 173, 174, 175, 182, 183, 184, 185, 186, 187, 188, 189, 190, 191, 192] (by decide +kernel) (by decide +kernel)
set_option maxRecDepth 20000 in
theorem gX1_hull_X1_performed : GoodIn wsX1_hull (wsV RX1 51 RX1 yX1_performed wsX1_performed) := goodIn_app (goodIn_of _ (by decide +kernel)) ggX1_hull_X1_performed
set_option maxRecDepth 20000 in
theorem ggX1_hull_X1_noted : GoodIn wsX1_hull wsX1_noted := goodIn_r _ [179, 180, 181, 182, 183, 184, 185, 186, 187, 188, 189, 190, 191, 192] (by decide +kernel) (by decide +kernel)
set_option maxRecDepth 20000 in
theorem gX1_hull_X1_noted : GoodIn wsX1_hull (wsV RX1 36 RX1 yX1_noted wsX1_noted) := goodIn_app (goodIn_of _ (by decide +kernel)) ggX1_hull_X1_noted
theorem dX1_hull_0 : decode cX1_hull 0 = .ok (.aload_n 0, 1) := by decide +kernel
theorem dX1_hull_1 : decode cX1_hull 1 = .ok (.aload_n 0, 1) := by decide +kernel
theorem dX1_hull_2 : decode cX1_hull 2 = .ok (.iconst 0, 1) := by decide +kernel
theorem dX1_hull_3 : decode cX1_hull 3 = .ok (.iload_n 1, 1) := by decide +kernel
theorem dX1_hull_4 : decode cX1_hull 4 = .ok (.iload_n 2, 1) := by decide +kernel
theorem dX1_hull_5 : decode cX1_hull 5 = .ok (.iload_n 3, 1) := by decide +kernel
theorem dX1_hull_6 : decode cX1_hull 6 = .ok (.invokevirtual 51, 3) := by decide +kernel
theorem dX1_hull_9 : decode cX1_hull 9 = .ok (.invokevirtual 36, 3) := by decide +kernel
theorem dX1_hull_12 : decode cX1_hull 12 = .ok (.ireturn, 1) := by decide +kernel
set_option maxRecDepth 20000 in
theorem ggX1_meet_X1_performed : GoodIn wsX1_meet wsX1_performed := goodIn_r _ [5, 6, 7, 8, 4, 9, 10, 11, 12, 13, 14, 15, 16, 17, 18, 19, 20, 21, 22, 23, 24, 25, 26, 27, 28, 29, 30, 31, 32, 33, 34, 35, 36, 37, 38, 39, 40, 41, 42, 43, 44, 45, 46, 47, 48, 49, 50, 51, 52, 53, 54, 55, 56, 57, 58, 59, 60, 61, 62, 63, 64, 65, 66, 67, 68, 69, 70, 71, 72, 73, 74, 75, 76, 77, 78, 79, 80, 81, 82, 83, 84, 85, 86, 87, 88, 89, 90, 91, 92, 93, 94, 95, 96, 97, 98, 99, 100, 101, 102, 103, 104, 105, 106, 107, 108, 109, 110, 111, 112, 113, 114, 115, 116, 117, 118, 119, 120, 121, 122, 123, 124, 125, 126, 127, 128, 129, 130, 131, 132, 133, 134, 135, 136, 137, 138, 139, 140, 141, 142, 143, 144, 145, 146, 147, 148, 149, 150, 151, 152, 153, 154, 155, 156, 157, 158, 159, 160, 161, 162, 163, 164, 165, 166, 167, 168, 169, 170, 171, 172, 173, 174, 175, 182, 183, 184, 185, 186, 187, 188, 189, 190, 191, 192] (by decide +kernel) (by decide +kernel)
set_option maxRecDepth 20000 in
theorem gX1_meet_X1_performed : GoodIn wsX1_meet (wsV RX1 51 RX1 yX1_performed wsX1_performed) := goodIn_app (goodIn_of _ (by decide +kernel)) ggX1_meet_X1_performed
set_option maxRecDepth 20000 in
theorem ggX1_meet_X1_noted : GoodIn wsX1_meet wsX1_noted := goodIn_r _ [179, 180, 181, 182, 183, 184, 185, 186, 187, 188, 189, 190, 191, 192] (by decide +kernel) (by decide +kernel)
set_option maxRecDepth 20000 in
theorem gX1_meet_X1_noted : GoodIn wsX1_meet (wsV RX1 36 RX1 yX1_noted wsX1_noted) := goodIn_app (goodIn_of _ (by decide +kernel)) ggX1_meet_X1_noted
theorem dX1_meet_0 : decode cX1_meet 0 = .ok (.aload_n 0, 1) := by decide +kernel
theorem dX1_meet_1 : decode cX1_meet 1 = .ok (.aload_n 0, 1) := by decide +kernel
theorem dX1_meet_2 : decode cX1_meet 2 = .ok (.iconst 1, 1) := by decide +kernel
theorem dX1_meet_3 : decode cX1_meet 3 = .ok (.iload_n 1, 1) := by decide +kernel
theorem dX1_meet_4 : decode cX1_meet 4 = .ok (.iload_n 2, 1) := by decide +kernel
theorem dX1_meet_5 : decode cX1_meet 5 = .ok (.iload_n 3, 1) := by decide +kernel
theorem dX1_meet_6 : decode cX1_meet 6 = .ok (.invokevirtual 51, 3) := by decide +kernel
theorem dX1_meet_9 : decode cX1_meet 9 = .ok (.invokevirtual 36, 3) := by decide +kernel
theorem dX1_meet_12 : decode cX1_meet 12 = .ok (.ireturn, 1) := by decide +kernel
set_option maxRecDepth 20000 in
theorem ggX1_size_X1_performed : GoodIn wsX1_size wsX1_performed := goodIn_r _ [5, 6, 7, 8, 4, 9, 10, 11, 12, 13, 14, 15, 16, 17, 18, 19, 20, 21, 22, 23, 24, 25, 26, 27, 28, 29, 30, 31, 32, 33, 34, 35, 36, 37, 38, 39, 40, 41, 42, 43, 44, 45, 46, 47, 48, 49, 50, 51, 52, 53, 54, 55, 56, 57, 58, 59, 60, 61, 62, 63, 64, 65, 66, 67, 68, 69, 70, 71, 72, 73, 74, 75, 76, 77, 78, 79, 80, 81, 82, 83, 84, 85, 86, 87, 88, 89, 90, 91, 92, 93, 94, 95, 96, 97, 98, 99, 100, 101, 102, 103, 104, 105, 106, 107, 108, 109, 110, 111, 112, 113, 114, 115, 116, 117, 118, 119, 120, 121, 122, 123, 124, 125, 126, 127, 128, 129, 130, 131, 132, 133, 134, 135, 136, 137, 138, 139, 140, 141, 142, 143, 144, 145, 146, 147, 148, 149, 150, 151, 152, 153, 154, 155, 156, 157, 158, 159, 160, 161, 162, 163, 164, 165, 166, 167, 168, 169, 170, 171, 172, 173, 174, 175, 182, 183, 184, 185, 186, 187, 188, 189, 190, 191, 192] (by decide +kernel) (by decide +kernel)
set_option maxRecDepth 20000 in
theorem gX1_size_X1_performed : GoodIn wsX1_size (wsV RX1 51 RX1 yX1_performed wsX1_performed) := goodIn_app (goodIn_of _ (by decide +kernel)) ggX1_size_X1_performed
set_option maxRecDepth 20000 in
theorem ggX1_size_X1_noted : GoodIn wsX1_size wsX1_noted := goodIn_r _ [179, 180, 181, 182, 183, 184, 185, 186, 187, 188, 189, 190, 191, 192] (by decide +kernel) (by decide +kernel)
set_option maxRecDepth 20000 in
theorem gX1_size_X1_noted : GoodIn wsX1_size (wsV RX1 36 RX1 yX1_noted wsX1_noted) := goodIn_app (goodIn_of _ (by decide +kernel)) ggX1_size_X1_noted
theorem dX1_size_0 : decode cX1_size 0 = .ok (.aload_n 0, 1) := by decide +kernel
theorem dX1_size_1 : decode cX1_size 1 = .ok (.aload_n 0, 1) := by decide +kernel
theorem dX1_size_2 : decode cX1_size 2 = .ok (.iconst 2, 1) := by decide +kernel
theorem dX1_size_3 : decode cX1_size 3 = .ok (.iload_n 1, 1) := by decide +kernel
theorem dX1_size_4 : decode cX1_size 4 = .ok (.iconst 0, 1) := by decide +kernel
theorem dX1_size_5 : decode cX1_size 5 = .ok (.iload_n 2, 1) := by decide +kernel
theorem dX1_size_6 : decode cX1_size 6 = .ok (.invokevirtual 51, 3) := by decide +kernel
theorem dX1_size_9 : decode cX1_size 9 = .ok (.invokevirtual 36, 3) := by decide +kernel
theorem dX1_size_12 : decode cX1_size 12 = .ok (.ireturn, 1) := by decide +kernel
set_option maxRecDepth 20000 in
theorem ggX1_round_X1_performed : GoodIn wsX1_round wsX1_performed := goodIn_r _ [5, 6, 7, 8, 4, 9, 10, 11, 12, 13, 14, 15, 16, 17, 18, 19, 20, 21, 22, 23, 24, 25, 26, 27, 28, 29, 30, 31, 32, 33, 34, 35, 36, 37, 38, 39, 40, 41, 42, 43, 44, 45, 46, 47, 48, 49, 50, 51, 52, 53, 54, 55, 56, 57, 58, 59, 60, 61, 62, 63, 64, 65, 66, 67, 68, 69, 70, 71, 72, 73, 74, 75, 76, 77, 78, 79, 80, 81, 82, 83, 84, 85, 86, 87, 88, 89, 90, 91, 92, 93, 94, 95, 96, 97, 98, 99, 100, 101, 102, 103, 104, 105, 106, 107, 108, 109, 110, 111, 112, 113, 114, 115, 116, 117, 118, 119, 120, 121, 122, 123, 124, 125, 126, 127, 128, 129, 130, 131, 132, 133, 134, 135, 136, 137, 138, 139, 140, 141, 142, 143, 144, 145, 146, 147, 148, 149, 150, 151, 152, 153, 154, 155, 156, 157, 158, 159, 160, 161, 162, 163, 164, 165, 166, 167, 168, 169, 170, 171, 172, 173, 174, 175, 182, 183, 184, 185, 186, 187, 188, 189, 190, 191, 192] (by decide +kernel) (by decide +kernel)
set_option maxRecDepth 20000 in
theorem gX1_round_X1_performed : GoodIn wsX1_round (wsV RX1 51 RX1 yX1_performed wsX1_performed) := goodIn_app (goodIn_of _ (by decide +kernel)) ggX1_round_X1_performed
set_option maxRecDepth 20000 in
theorem ggX1_round_X1_noted : GoodIn wsX1_round wsX1_noted := goodIn_r _ [179, 180, 181, 182, 183, 184, 185, 186, 187, 188, 189, 190, 191, 192] (by decide +kernel) (by decide +kernel)
set_option maxRecDepth 20000 in
theorem gX1_round_X1_noted : GoodIn wsX1_round (wsV RX1 36 RX1 yX1_noted wsX1_noted) := goodIn_app (goodIn_of _ (by decide +kernel)) ggX1_round_X1_noted
theorem dX1_round_0 : decode cX1_round 0 = .ok (.aload_n 0, 1) := by decide +kernel
theorem dX1_round_1 : decode cX1_round 1 = .ok (.aload_n 0, 1) := by decide +kernel
theorem dX1_round_2 : decode cX1_round 2 = .ok (.iconst 3, 1) := by decide +kernel
theorem dX1_round_3 : decode cX1_round 3 = .ok (.iload_n 1, 1) := by decide +kernel
theorem dX1_round_4 : decode cX1_round 4 = .ok (.iload_n 2, 1) := by decide +kernel
theorem dX1_round_5 : decode cX1_round 5 = .ok (.iload_n 3, 1) := by decide +kernel
theorem dX1_round_6 : decode cX1_round 6 = .ok (.invokevirtual 51, 3) := by decide +kernel
theorem dX1_round_9 : decode cX1_round 9 = .ok (.invokevirtual 36, 3) := by decide +kernel
theorem dX1_round_12 : decode cX1_round 12 = .ok (.ireturn, 1) := by decide +kernel
set_option maxRecDepth 20000 in
theorem ggX1_sign_X1_performed : GoodIn wsX1_sign wsX1_performed := goodIn_r _ [5, 6, 7, 8, 4, 9, 10, 11, 12, 13, 14, 15, 16, 17, 18, 19, 20, 21, 22, 23, 24, 25, 26, 27, 28, 29, 30, 31, 32, 33, 34, 35, 36, 37, 38, 39, 40, 41, 42, 43, 44, 45, 46, 47, 48, 49, 50, 51, 52, 53, 54, 55, 56, 57, 58, 59, 60, 61, 62, 63, 64, 65, 66, 67, 68, 69, 70, 71, 72, 73, 74, 75, 76, 77, 78, 79, 80, 81, 82, 83, 84, 85, 86, 87, 88, 89, 90, 91, 92, 93, 94, 95, 96, 97, 98, 99, 100, 101, 102, 103, 104, 105, 106, 107, 108, 109, 110, 111, 112, 113, 114, 115, 116, 117, 118, 119, 120, 121, 122, 123, 124, 125, 126, 127, 128, 129, 130, 131, 132, 133, 134, 135, 136, 137, 138, 139, 140, 141, 142, 143, 144, 145, 146, 147, 148, 149, 150, 151, 152, 153, 154, 155, 156, 157, 158, 159, 160, 161, 162, 163, 164, 165, 166, 167, 168, 169, 170, 171, 172, 173, 174, 175, 182, 183, 184, 185, 186, 187, 188, 189, 190, 191, 192] (by decide +kernel) (by decide +kernel)
set_option maxRecDepth 20000 in
theorem gX1_sign_X1_performed : GoodIn wsX1_sign (wsV RX1 51 RX1 yX1_performed wsX1_performed) := goodIn_app (goodIn_of _ (by decide +kernel)) ggX1_sign_X1_performed
set_option maxRecDepth 20000 in
theorem ggX1_sign_X1_noted : GoodIn wsX1_sign wsX1_noted := goodIn_r _ [179, 180, 181, 182, 183, 184, 185, 186, 187, 188, 189, 190, 191, 192] (by decide +kernel) (by decide +kernel)
set_option maxRecDepth 20000 in
theorem gX1_sign_X1_noted : GoodIn wsX1_sign (wsV RX1 36 RX1 yX1_noted wsX1_noted) := goodIn_app (goodIn_of _ (by decide +kernel)) ggX1_sign_X1_noted
theorem dX1_sign_0 : decode cX1_sign 0 = .ok (.aload_n 0, 1) := by decide +kernel
theorem dX1_sign_1 : decode cX1_sign 1 = .ok (.aload_n 0, 1) := by decide +kernel
theorem dX1_sign_2 : decode cX1_sign 2 = .ok (.iconst 4, 1) := by decide +kernel
theorem dX1_sign_3 : decode cX1_sign 3 = .ok (.iload_n 1, 1) := by decide +kernel
theorem dX1_sign_4 : decode cX1_sign 4 = .ok (.iconst 0, 1) := by decide +kernel
theorem dX1_sign_5 : decode cX1_sign 5 = .ok (.iload_n 2, 1) := by decide +kernel
theorem dX1_sign_6 : decode cX1_sign 6 = .ok (.invokevirtual 51, 3) := by decide +kernel
theorem dX1_sign_9 : decode cX1_sign 9 = .ok (.invokevirtual 36, 3) := by decide +kernel
theorem dX1_sign_12 : decode cX1_sign 12 = .ok (.ireturn, 1) := by decide +kernel
set_option maxRecDepth 20000 in
theorem ggX1_lend_X1_performed : GoodIn wsX1_lend wsX1_performed := goodIn_r _ [5, 6, 7, 8, 4, 9, 10, 11, 12, 13, 14, 15, 16, 17, 18, 19, 20, 21, 22, 23, 24, 25, 26, 27, 28, 29, 30, 31, 32, 33, 34, 35, 36, 37, 38, 39, 40, 41, 42, 43, 44, 45, 46, 47, 48, 49, 50, 51, 52, 53, 54, 55, 56, 57, 58, 59, 60, 61, 62, 63, 64, 65, 66, 67, 68, 69, 70, 71, 72, 73, 74, 75, 76, 77, 78, 79, 80, 81, 82, 83, 84, 85, 86, 87, 88, 89, 90, 91, 92, 93, 94, 95, 96, 97, 98, 99, 100, 101, 102, 103, 104, 105, 106, 107, 108, 109, 110, 111, 112, 113, 114, 115, 116, 117, 118, 119, 120, 121, 122, 123, 124, 125, 126, 127, 128, 129, 130, 131, 132, 133, 134, 135, 136, 137, 138, 139, 140, 141, 142, 143, 144, 145, 146, 147, 148, 149, 150, 151, 152, 153, 154, 155, 156, 157, 158, 159, 160, 161, 162, 163, 164, 165, 166, 167, 168, 169, 170, 171, 172, 173, 174, 175, 182, 183, 184, 185, 186, 187, 188, 189, 190, 191, 192] (by decide +kernel) (by decide +kernel)
set_option maxRecDepth 20000 in
theorem gX1_lend_X1_performed : GoodIn wsX1_lend (wsV RX1 51 RX1 yX1_performed wsX1_performed) := goodIn_app (goodIn_of _ (by decide +kernel)) ggX1_lend_X1_performed
set_option maxRecDepth 20000 in
theorem ggX1_lend_X1_noted : GoodIn wsX1_lend wsX1_noted := goodIn_r _ [179, 180, 181, 182, 183, 184, 185, 186, 187, 188, 189, 190, 191, 192] (by decide +kernel) (by decide +kernel)
set_option maxRecDepth 20000 in
theorem gX1_lend_X1_noted : GoodIn wsX1_lend (wsV RX1 36 RX1 yX1_noted wsX1_noted) := goodIn_app (goodIn_of _ (by decide +kernel)) ggX1_lend_X1_noted
theorem dX1_lend_0 : decode cX1_lend 0 = .ok (.aload_n 0, 1) := by decide +kernel
theorem dX1_lend_1 : decode cX1_lend 1 = .ok (.aload_n 0, 1) := by decide +kernel
theorem dX1_lend_2 : decode cX1_lend 2 = .ok (.iconst 5, 1) := by decide +kernel
theorem dX1_lend_3 : decode cX1_lend 3 = .ok (.iload_n 1, 1) := by decide +kernel
theorem dX1_lend_4 : decode cX1_lend 4 = .ok (.iload_n 2, 1) := by decide +kernel
theorem dX1_lend_5 : decode cX1_lend 5 = .ok (.iload_n 3, 1) := by decide +kernel
theorem dX1_lend_6 : decode cX1_lend 6 = .ok (.invokevirtual 51, 3) := by decide +kernel
theorem dX1_lend_9 : decode cX1_lend 9 = .ok (.invokevirtual 36, 3) := by decide +kernel
theorem dX1_lend_12 : decode cX1_lend 12 = .ok (.ireturn, 1) := by decide +kernel
set_option maxRecDepth 20000 in
theorem ggX1_turn_X1_performed : GoodIn wsX1_turn wsX1_performed := goodIn_r _ [5, 6, 7, 8, 4, 9, 10, 11, 12, 13, 14, 15, 16, 17, 18, 19, 20, 21, 22, 23, 24, 25, 26, 27, 28, 29, 30, 31, 32, 33, 34, 35, 36, 37, 38, 39, 40, 41, 42, 43, 44, 45, 46, 47, 48, 49, 50, 51, 52, 53, 54, 55, 56, 57, 58, 59, 60, 61, 62, 63, 64, 65, 66, 67, 68, 69, 70, 71, 72, 73, 74, 75, 76, 77, 78, 79, 80, 81, 82, 83, 84, 85, 86, 87, 88, 89, 90, 91, 92, 93, 94, 95, 96, 97, 98, 99, 100, 101, 102, 103, 104, 105, 106, 107, 108, 109, 110, 111, 112, 113, 114, 115, 116, 117, 118, 119, 120, 121, 122, 123, 124, 125, 126, 127, 128, 129, 130, 131, 132, 133, 134, 135, 136, 137, 138, 139, 140, 141, 142, 143, 144, 145, 146, 147, 148, 149, 150, 151, 152, 153, 154, 155, 156, 157, 158, 159, 160, 161, 162, 163, 164, 165, 166, 167, 168, 169, 170, 171, 172, 173, 174, 175, 182, 183, 184, 185, 186, 187, 188, 189, 190, 191, 192] (by decide +kernel) (by decide +kernel)
set_option maxRecDepth 20000 in
theorem gX1_turn_X1_performed : GoodIn wsX1_turn (wsV RX1 51 RX1 yX1_performed wsX1_performed) := goodIn_app (goodIn_of _ (by decide +kernel)) ggX1_turn_X1_performed
set_option maxRecDepth 20000 in
theorem ggX1_turn_X1_noted : GoodIn wsX1_turn wsX1_noted := goodIn_r _ [179, 180, 181, 182, 183, 184, 185, 186, 187, 188, 189, 190, 191, 192] (by decide +kernel) (by decide +kernel)
set_option maxRecDepth 20000 in
theorem gX1_turn_X1_noted : GoodIn wsX1_turn (wsV RX1 36 RX1 yX1_noted wsX1_noted) := goodIn_app (goodIn_of _ (by decide +kernel)) ggX1_turn_X1_noted
theorem dX1_turn_0 : decode cX1_turn 0 = .ok (.aload_n 0, 1) := by decide +kernel
theorem dX1_turn_1 : decode cX1_turn 1 = .ok (.aload_n 0, 1) := by decide +kernel
theorem dX1_turn_2 : decode cX1_turn 2 = .ok (.bipush 6, 2) := by decide +kernel
theorem dX1_turn_4 : decode cX1_turn 4 = .ok (.iload_n 1, 1) := by decide +kernel
theorem dX1_turn_5 : decode cX1_turn 5 = .ok (.iconst 0, 1) := by decide +kernel
theorem dX1_turn_6 : decode cX1_turn 6 = .ok (.iload_n 2, 1) := by decide +kernel
theorem dX1_turn_7 : decode cX1_turn 7 = .ok (.invokevirtual 51, 3) := by decide +kernel
theorem dX1_turn_10 : decode cX1_turn 10 = .ok (.invokevirtual 36, 3) := by decide +kernel
theorem dX1_turn_13 : decode cX1_turn 13 = .ok (.ireturn, 1) := by decide +kernel
set_option maxRecDepth 20000 in
theorem ggX1_as_X1_performed : GoodIn wsX1_as wsX1_performed := goodIn_r _ [5, 6, 7, 8, 4, 9, 10, 11, 12, 13, 14, 15, 16, 17, 18, 19, 20, 21, 22, 23, 24, 25, 26, 27, 28, 29, 30, 31, 32, 33, 34, 35, 36, 37, 38, 39, 40, 41, 42, 43, 44, 45, 46, 47, 48, 49, 50, 51, 52, 53, 54, 55, 56, 57, 58, 59, 60, 61, 62, 63, 64, 65, 66, 67, 68, 69, 70, 71, 72, 73, 74, 75, 76, 77, 78, 79, 80, 81, 82, 83, 84, 85, 86, 87, 88, 89, 90, 91, 92, 93, 94, 95, 96, 97, 98, 99, 100, 101, 102, 103, 104, 105, 106, 107, 108, 109, 110, 111, 112, 113, 114, 115, 116, 117, 118, 119, 120, 121, 122, 123, 124, 125, 126, 127, 128, 129, 130, 131, 132, 133, 134, 135, 136, 137, 138, 139, 140, 141, 142, 143, 144, 145, 146, 147, 148, 149, 150, 151, 152, 153, 154, 155, 156, 157, 158, 159, 160, 161, 162, 163, 164, 165, 166, 167, 168, 169, 170, 171, 172, 173, 174, 175, 182, 183, 184, 185, 186, 187, 188, 189, 190, 191, 192] (by decide +kernel) (by decide +kernel)
set_option maxRecDepth 20000 in
theorem gX1_as_X1_performed : GoodIn wsX1_as (wsV RX1 51 RX1 yX1_performed wsX1_performed) := goodIn_app (goodIn_of _ (by decide +kernel)) ggX1_as_X1_performed
set_option maxRecDepth 20000 in
theorem ggX1_as_X1_noted : GoodIn wsX1_as wsX1_noted := goodIn_r _ [179, 180, 181, 182, 183, 184, 185, 186, 187, 188, 189, 190, 191, 192] (by decide +kernel) (by decide +kernel)
set_option maxRecDepth 20000 in
theorem gX1_as_X1_noted : GoodIn wsX1_as (wsV RX1 36 RX1 yX1_noted wsX1_noted) := goodIn_app (goodIn_of _ (by decide +kernel)) ggX1_as_X1_noted
theorem dX1_as_0 : decode cX1_as 0 = .ok (.aload_n 0, 1) := by decide +kernel
theorem dX1_as_1 : decode cX1_as 1 = .ok (.aload_n 0, 1) := by decide +kernel
theorem dX1_as_2 : decode cX1_as 2 = .ok (.bipush 7, 2) := by decide +kernel
theorem dX1_as_4 : decode cX1_as 4 = .ok (.iload_n 1, 1) := by decide +kernel
theorem dX1_as_5 : decode cX1_as 5 = .ok (.iload_n 2, 1) := by decide +kernel
theorem dX1_as_6 : decode cX1_as 6 = .ok (.iload_n 3, 1) := by decide +kernel
theorem dX1_as_7 : decode cX1_as 7 = .ok (.invokevirtual 51, 3) := by decide +kernel
theorem dX1_as_10 : decode cX1_as 10 = .ok (.invokevirtual 36, 3) := by decide +kernel
theorem dX1_as_13 : decode cX1_as 13 = .ok (.ireturn, 1) := by decide +kernel
set_option maxRecDepth 20000 in
theorem ggX1_near_X1_refusalToCompare : GoodIn wsX1_near wsX1_refusalToCompare := goodIn_r _ [8, 1, 9, 10, 11, 7, 12, 13, 14, 15, 16, 17, 18, 19, 20, 21, 22, 23, 24, 25, 26, 27, 28, 29, 30, 31, 32, 33, 34, 35, 36, 37, 38, 39, 40, 41, 42, 43, 64, 65, 66, 67, 68, 69, 70, 71, 72, 73, 74] (by decide +kernel) (by decide +kernel)
set_option maxRecDepth 20000 in
theorem gX1_near_X1_refusalToCompare : GoodIn wsX1_near (wsV RX1 55 RX1 yX1_refusalToCompare wsX1_refusalToCompare) := goodIn_app (goodIn_of _ (by decide +kernel)) ggX1_near_X1_refusalToCompare
set_option maxRecDepth 20000 in
theorem ggX1_near_X1_noted : GoodIn wsX1_near wsX1_noted := goodIn_r _ [47, 48, 49, 64, 65, 66, 67, 68, 69, 70, 71, 72, 73, 74] (by decide +kernel) (by decide +kernel)
set_option maxRecDepth 20000 in
theorem gX1_near_X1_noted : GoodIn wsX1_near (wsV RX1 36 RX1 yX1_noted wsX1_noted) := goodIn_app (goodIn_of _ (by decide +kernel)) ggX1_near_X1_noted
set_option maxRecDepth 20000 in
theorem ggX1_near_X0_fitted : GoodIn wsX1_near wsX0_fitted := goodIn_r _ [25] (by decide +kernel) (by decide +kernel)
set_option maxRecDepth 20000 in
theorem gX1_near_X0_fitted : GoodIn wsX1_near (va_wsS RX1 59 yX0_fitted wsX0_fitted) := goodIn_app (goodIn_of _ (by decide +kernel)) ggX1_near_X0_fitted
set_option maxRecDepth 20000 in
theorem ggX1_near_X0_greater : GoodIn wsX1_near wsX0_greater := goodIn_r _ [53, 54, 55, 18, 56, 20, 21, 22, 57, 58, 59, 60] (by decide +kernel) (by decide +kernel)
set_option maxRecDepth 20000 in
theorem gX1_near_X0_greater : GoodIn wsX1_near (va_wsS RX1 65 yX0_greater wsX0_greater) := goodIn_app (goodIn_of _ (by decide +kernel)) ggX1_near_X0_greater
set_option maxRecDepth 20000 in
theorem ggX1_near_X0_lesser : GoodIn wsX1_near wsX0_lesser := goodIn_r _ [63, 54, 55, 18, 56, 20, 21, 22, 57, 58, 59, 60] (by decide +kernel) (by decide +kernel)
set_option maxRecDepth 20000 in
theorem gX1_near_X0_lesser : GoodIn wsX1_near (va_wsS RX1 69 yX0_lesser wsX0_lesser) := goodIn_app (goodIn_of _ (by decide +kernel)) ggX1_near_X0_lesser
theorem dX1_near_0 : decode cX1_near 0 = .ok (.aload_n 0, 1) := by decide +kernel
theorem dX1_near_1 : decode cX1_near 1 = .ok (.aload_n 0, 1) := by decide +kernel
theorem dX1_near_2 : decode cX1_near 2 = .ok (.iload_n 1, 1) := by decide +kernel
theorem dX1_near_3 : decode cX1_near 3 = .ok (.lload_n 2, 1) := by decide +kernel
theorem dX1_near_4 : decode cX1_near 4 = .ok (.invokevirtual 55, 3) := by decide +kernel
theorem dX1_near_7 : decode cX1_near 7 = .ok (.invokevirtual 36, 3) := by decide +kernel
theorem dX1_near_10 : decode cX1_near 10 = .ok (.ifCond .ge 5, 3) := by decide +kernel
theorem dX1_near_13 : decode cX1_near 13 = .ok (.lconst 0, 1) := by decide +kernel
theorem dX1_near_14 : decode cX1_near 14 = .ok (.lreturn, 1) := by decide +kernel
theorem dX1_near_15 : decode cX1_near 15 = .ok (.aload_n 0, 1) := by decide +kernel
theorem dX1_near_16 : decode cX1_near 16 = .ok (.getfield 9, 3) := by decide +kernel
theorem dX1_near_19 : decode cX1_near 19 = .ok (.iload_n 1, 1) := by decide +kernel
theorem dX1_near_20 : decode cX1_near 20 = .ok (.iaload, 1) := by decide +kernel
theorem dX1_near_21 : decode cX1_near 21 = .ok (.istore 4, 2) := by decide +kernel
theorem dX1_near_23 : decode cX1_near 23 = .ok (.iload 4, 2) := by decide +kernel
theorem dX1_near_25 : decode cX1_near 25 = .ok (.lload_n 2, 1) := by decide +kernel
theorem dX1_near_26 : decode cX1_near 26 = .ok (.invokestatic 59, 3) := by decide +kernel
theorem dX1_near_29 : decode cX1_near 29 = .ok (.lstore 5, 2) := by decide +kernel
theorem dX1_near_31 : decode cX1_near 31 = .ok (.iload 4, 2) := by decide +kernel
theorem dX1_near_33 : decode cX1_near 33 = .ok (.iload 4, 2) := by decide +kernel
theorem dX1_near_35 : decode cX1_near 35 = .ok (.lload 5, 2) := by decide +kernel
theorem dX1_near_37 : decode cX1_near 37 = .ok (.aload_n 0, 1) := by decide +kernel
theorem dX1_near_38 : decode cX1_near 38 = .ok (.getfield 13, 3) := by decide +kernel
theorem dX1_near_41 : decode cX1_near 41 = .ok (.iload_n 1, 1) := by decide +kernel
theorem dX1_near_42 : decode cX1_near 42 = .ok (.laload, 1) := by decide +kernel
theorem dX1_near_43 : decode cX1_near 43 = .ok (.invokestatic 65, 3) := by decide +kernel
theorem dX1_near_46 : decode cX1_near 46 = .ok (.aload_n 0, 1) := by decide +kernel
theorem dX1_near_47 : decode cX1_near 47 = .ok (.getfield 17, 3) := by decide +kernel
theorem dX1_near_50 : decode cX1_near 50 = .ok (.iload_n 1, 1) := by decide +kernel
theorem dX1_near_51 : decode cX1_near 51 = .ok (.laload, 1) := by decide +kernel
theorem dX1_near_52 : decode cX1_near 52 = .ok (.invokestatic 69, 3) := by decide +kernel
theorem dX1_near_55 : decode cX1_near 55 = .ok (.lreturn, 1) := by decide +kernel
set_option maxRecDepth 20000 in
theorem ggX1_has_X1_refusalToCompare : GoodIn wsX1_has wsX1_refusalToCompare := goodIn_r _ [8, 1, 9, 10, 11, 7, 12, 13, 14, 15, 16, 17, 18, 19, 20, 21, 22, 23, 24, 25, 26, 27, 28, 29, 30, 31, 32, 33, 34, 35, 36, 37, 38, 39, 40, 41, 42, 43, 58, 59, 60, 61, 62, 63, 64, 65, 66, 67, 68] (by decide +kernel) (by decide +kernel)
set_option maxRecDepth 20000 in
theorem gX1_has_X1_refusalToCompare : GoodIn wsX1_has (wsV RX1 55 RX1 yX1_refusalToCompare wsX1_refusalToCompare) := goodIn_app (goodIn_of _ (by decide +kernel)) ggX1_has_X1_refusalToCompare
set_option maxRecDepth 20000 in
theorem ggX1_has_X1_noted : GoodIn wsX1_has wsX1_noted := goodIn_r _ [47, 48, 49, 58, 59, 60, 61, 62, 63, 64, 65, 66, 67, 68] (by decide +kernel) (by decide +kernel)
set_option maxRecDepth 20000 in
theorem gX1_has_X1_noted : GoodIn wsX1_has (wsV RX1 36 RX1 yX1_noted wsX1_noted) := goodIn_app (goodIn_of _ (by decide +kernel)) ggX1_has_X1_noted
set_option maxRecDepth 20000 in
theorem ggX1_has_X0_fitted : GoodIn wsX1_has wsX0_fitted := goodIn_r _ [25] (by decide +kernel) (by decide +kernel)
set_option maxRecDepth 20000 in
theorem gX1_has_X0_fitted : GoodIn wsX1_has (va_wsS RX1 59 yX0_fitted wsX0_fitted) := goodIn_app (goodIn_of _ (by decide +kernel)) ggX1_has_X0_fitted
set_option maxRecDepth 20000 in
theorem ggX1_has_X0_isLess : GoodIn wsX1_has wsX0_isLess := goodIn_r _ [53, 20, 21, 18, 22, 54, 55, 56, 57] (by decide +kernel) (by decide +kernel)
set_option maxRecDepth 20000 in
theorem gX1_has_X0_isLess : GoodIn wsX1_has (va_wsS RX1 72 yX0_isLess wsX0_isLess) := goodIn_app (goodIn_of _ (by decide +kernel)) ggX1_has_X0_isLess
theorem dX1_has_0 : decode cX1_has 0 = .ok (.aload_n 0, 1) := by decide +kernel
theorem dX1_has_1 : decode cX1_has 1 = .ok (.iload_n 1, 1) := by decide +kernel
theorem dX1_has_2 : decode cX1_has 2 = .ok (.lload_n 2, 1) := by decide +kernel
theorem dX1_has_3 : decode cX1_has 3 = .ok (.invokevirtual 55, 3) := by decide +kernel
theorem dX1_has_6 : decode cX1_has 6 = .ok (.istore 4, 2) := by decide +kernel
theorem dX1_has_8 : decode cX1_has 8 = .ok (.iload 4, 2) := by decide +kernel
theorem dX1_has_10 : decode cX1_has 10 = .ok (.ifCond .ge 10, 3) := by decide +kernel
theorem dX1_has_13 : decode cX1_has 13 = .ok (.aload_n 0, 1) := by decide +kernel
theorem dX1_has_14 : decode cX1_has 14 = .ok (.iload 4, 2) := by decide +kernel
theorem dX1_has_16 : decode cX1_has 16 = .ok (.invokevirtual 36, 3) := by decide +kernel
theorem dX1_has_19 : decode cX1_has 19 = .ok (.ireturn, 1) := by decide +kernel
theorem dX1_has_20 : decode cX1_has 20 = .ok (.aload_n 0, 1) := by decide +kernel
theorem dX1_has_21 : decode cX1_has 21 = .ok (.getfield 9, 3) := by decide +kernel
theorem dX1_has_24 : decode cX1_has 24 = .ok (.iload_n 1, 1) := by decide +kernel
theorem dX1_has_25 : decode cX1_has 25 = .ok (.iaload, 1) := by decide +kernel
theorem dX1_has_26 : decode cX1_has 26 = .ok (.istore 5, 2) := by decide +kernel
theorem dX1_has_28 : decode cX1_has 28 = .ok (.iload 5, 2) := by decide +kernel
theorem dX1_has_30 : decode cX1_has 30 = .ok (.lload_n 2, 1) := by decide +kernel
theorem dX1_has_31 : decode cX1_has 31 = .ok (.invokestatic 59, 3) := by decide +kernel
theorem dX1_has_34 : decode cX1_has 34 = .ok (.lstore 6, 2) := by decide +kernel
theorem dX1_has_36 : decode cX1_has 36 = .ok (.iload 5, 2) := by decide +kernel
theorem dX1_has_38 : decode cX1_has 38 = .ok (.lload 6, 2) := by decide +kernel
theorem dX1_has_40 : decode cX1_has 40 = .ok (.aload_n 0, 1) := by decide +kernel
theorem dX1_has_41 : decode cX1_has 41 = .ok (.getfield 13, 3) := by decide +kernel
theorem dX1_has_44 : decode cX1_has 44 = .ok (.iload_n 1, 1) := by decide +kernel
theorem dX1_has_45 : decode cX1_has 45 = .ok (.laload, 1) := by decide +kernel
theorem dX1_has_46 : decode cX1_has 46 = .ok (.invokestatic 72, 3) := by decide +kernel
theorem dX1_has_49 : decode cX1_has 49 = .ok (.ifCond .ne 19, 3) := by decide +kernel
theorem dX1_has_52 : decode cX1_has 52 = .ok (.iload 5, 2) := by decide +kernel
theorem dX1_has_54 : decode cX1_has 54 = .ok (.aload_n 0, 1) := by decide +kernel
theorem dX1_has_55 : decode cX1_has 55 = .ok (.getfield 17, 3) := by decide +kernel
theorem dX1_has_58 : decode cX1_has 58 = .ok (.iload_n 1, 1) := by decide +kernel
theorem dX1_has_59 : decode cX1_has 59 = .ok (.laload, 1) := by decide +kernel
theorem dX1_has_60 : decode cX1_has 60 = .ok (.lload 6, 2) := by decide +kernel
theorem dX1_has_62 : decode cX1_has 62 = .ok (.invokestatic 72, 3) := by decide +kernel
theorem dX1_has_65 : decode cX1_has 65 = .ok (.ifCond .eq 7, 3) := by decide +kernel
theorem dX1_has_68 : decode cX1_has 68 = .ok (.iconst 1, 1) := by decide +kernel
theorem dX1_has_69 : decode cX1_has 69 = .ok (.goto 4, 3) := by decide +kernel
theorem dX1_has_72 : decode cX1_has 72 = .ok (.iconst 0, 1) := by decide +kernel
theorem dX1_has_73 : decode cX1_has 73 = .ok (.istore 8, 2) := by decide +kernel
theorem dX1_has_75 : decode cX1_has 75 = .ok (.aload_n 0, 1) := by decide +kernel
theorem dX1_has_76 : decode cX1_has 76 = .ok (.iload 8, 2) := by decide +kernel
theorem dX1_has_78 : decode cX1_has 78 = .ok (.ifCond .eq 7, 3) := by decide +kernel
theorem dX1_has_81 : decode cX1_has 81 = .ok (.iconst 0, 1) := by decide +kernel
theorem dX1_has_82 : decode cX1_has 82 = .ok (.goto 4, 3) := by decide +kernel
theorem dX1_has_85 : decode cX1_has 85 = .ok (.iconst 1, 1) := by decide +kernel
theorem dX1_has_86 : decode cX1_has 86 = .ok (.invokevirtual 36, 3) := by decide +kernel
theorem dX1_has_89 : decode cX1_has 89 = .ok (.ireturn, 1) := by decide +kernel
set_option maxRecDepth 20000 in
theorem ggX1_alike_X1_isSlot : GoodIn wsX1_alike wsX1_isSlot := goodIn_r _ [7] (by decide +kernel) (by decide +kernel)
set_option maxRecDepth 20000 in
theorem gX1_alike_X1_isSlot : GoodIn wsX1_alike (va_wsS RX1 40 yX1_isSlot wsX1_isSlot) := goodIn_app (goodIn_of _ (by decide +kernel)) ggX1_alike_X1_isSlot
set_option maxRecDepth 20000 in
theorem ggX1_alike_X1_noted : GoodIn wsX1_alike wsX1_noted := goodIn_r _ [11, 12, 13, 14, 15, 16, 17, 18, 19, 20, 21, 22, 23, 24] (by decide +kernel) (by decide +kernel)
set_option maxRecDepth 20000 in
theorem gX1_alike_X1_noted : GoodIn wsX1_alike (wsV RX1 36 RX1 yX1_noted wsX1_noted) := goodIn_app (goodIn_of _ (by decide +kernel)) ggX1_alike_X1_noted
theorem dX1_alike_0 : decode cX1_alike 0 = .ok (.iload_n 1, 1) := by decide +kernel
theorem dX1_alike_1 : decode cX1_alike 1 = .ok (.invokestatic 40, 3) := by decide +kernel
theorem dX1_alike_4 : decode cX1_alike 4 = .ok (.ifCond .eq 10, 3) := by decide +kernel
theorem dX1_alike_7 : decode cX1_alike 7 = .ok (.iload_n 2, 1) := by decide +kernel
theorem dX1_alike_8 : decode cX1_alike 8 = .ok (.invokestatic 40, 3) := by decide +kernel
theorem dX1_alike_11 : decode cX1_alike 11 = .ok (.ifCond .ne 10, 3) := by decide +kernel
theorem dX1_alike_14 : decode cX1_alike 14 = .ok (.aload_n 0, 1) := by decide +kernel
theorem dX1_alike_15 : decode cX1_alike 15 = .ok (.bipush (-2), 2) := by decide +kernel
theorem dX1_alike_17 : decode cX1_alike 17 = .ok (.invokevirtual 36, 3) := by decide +kernel
theorem dX1_alike_20 : decode cX1_alike 20 = .ok (.ireturn, 1) := by decide +kernel
theorem dX1_alike_21 : decode cX1_alike 21 = .ok (.aload_n 0, 1) := by decide +kernel
theorem dX1_alike_22 : decode cX1_alike 22 = .ok (.getfield 9, 3) := by decide +kernel
theorem dX1_alike_25 : decode cX1_alike 25 = .ok (.iload_n 1, 1) := by decide +kernel
theorem dX1_alike_26 : decode cX1_alike 26 = .ok (.iaload, 1) := by decide +kernel
theorem dX1_alike_27 : decode cX1_alike 27 = .ok (.iconst (-1), 1) := by decide +kernel
theorem dX1_alike_28 : decode cX1_alike 28 = .ok (.if_icmp .eq 13, 3) := by decide +kernel
theorem dX1_alike_31 : decode cX1_alike 31 = .ok (.aload_n 0, 1) := by decide +kernel
theorem dX1_alike_32 : decode cX1_alike 32 = .ok (.getfield 9, 3) := by decide +kernel
theorem dX1_alike_35 : decode cX1_alike 35 = .ok (.iload_n 2, 1) := by decide +kernel
theorem dX1_alike_36 : decode cX1_alike 36 = .ok (.iaload, 1) := by decide +kernel
theorem dX1_alike_37 : decode cX1_alike 37 = .ok (.iconst (-1), 1) := by decide +kernel
theorem dX1_alike_38 : decode cX1_alike 38 = .ok (.if_icmp .ne 10, 3) := by decide +kernel
theorem dX1_alike_41 : decode cX1_alike 41 = .ok (.aload_n 0, 1) := by decide +kernel
theorem dX1_alike_42 : decode cX1_alike 42 = .ok (.bipush (-3), 2) := by decide +kernel
theorem dX1_alike_44 : decode cX1_alike 44 = .ok (.invokevirtual 36, 3) := by decide +kernel
theorem dX1_alike_47 : decode cX1_alike 47 = .ok (.ireturn, 1) := by decide +kernel
theorem dX1_alike_48 : decode cX1_alike 48 = .ok (.aload_n 0, 1) := by decide +kernel
theorem dX1_alike_49 : decode cX1_alike 49 = .ok (.getfield 9, 3) := by decide +kernel
theorem dX1_alike_52 : decode cX1_alike 52 = .ok (.iload_n 1, 1) := by decide +kernel
theorem dX1_alike_53 : decode cX1_alike 53 = .ok (.iaload, 1) := by decide +kernel
theorem dX1_alike_54 : decode cX1_alike 54 = .ok (.aload_n 0, 1) := by decide +kernel
theorem dX1_alike_55 : decode cX1_alike 55 = .ok (.getfield 9, 3) := by decide +kernel
theorem dX1_alike_58 : decode cX1_alike 58 = .ok (.iload_n 2, 1) := by decide +kernel
theorem dX1_alike_59 : decode cX1_alike 59 = .ok (.iaload, 1) := by decide +kernel
theorem dX1_alike_60 : decode cX1_alike 60 = .ok (.if_icmp .ne 39, 3) := by decide +kernel
theorem dX1_alike_63 : decode cX1_alike 63 = .ok (.aload_n 0, 1) := by decide +kernel
theorem dX1_alike_64 : decode cX1_alike 64 = .ok (.getfield 13, 3) := by decide +kernel
theorem dX1_alike_67 : decode cX1_alike 67 = .ok (.iload_n 1, 1) := by decide +kernel
theorem dX1_alike_68 : decode cX1_alike 68 = .ok (.laload, 1) := by decide +kernel
theorem dX1_alike_69 : decode cX1_alike 69 = .ok (.aload_n 0, 1) := by decide +kernel
theorem dX1_alike_70 : decode cX1_alike 70 = .ok (.getfield 13, 3) := by decide +kernel
theorem dX1_alike_73 : decode cX1_alike 73 = .ok (.iload_n 2, 1) := by decide +kernel
theorem dX1_alike_74 : decode cX1_alike 74 = .ok (.laload, 1) := by decide +kernel
theorem dX1_alike_75 : decode cX1_alike 75 = .ok (.lcmp, 1) := by decide +kernel
theorem dX1_alike_76 : decode cX1_alike 76 = .ok (.ifCond .ne 23, 3) := by decide +kernel
theorem dX1_alike_79 : decode cX1_alike 79 = .ok (.aload_n 0, 1) := by decide +kernel
theorem dX1_alike_80 : decode cX1_alike 80 = .ok (.getfield 17, 3) := by decide +kernel
theorem dX1_alike_83 : decode cX1_alike 83 = .ok (.iload_n 1, 1) := by decide +kernel
theorem dX1_alike_84 : decode cX1_alike 84 = .ok (.laload, 1) := by decide +kernel
theorem dX1_alike_85 : decode cX1_alike 85 = .ok (.aload_n 0, 1) := by decide +kernel
theorem dX1_alike_86 : decode cX1_alike 86 = .ok (.getfield 17, 3) := by decide +kernel
theorem dX1_alike_89 : decode cX1_alike 89 = .ok (.iload_n 2, 1) := by decide +kernel
theorem dX1_alike_90 : decode cX1_alike 90 = .ok (.laload, 1) := by decide +kernel
theorem dX1_alike_91 : decode cX1_alike 91 = .ok (.lcmp, 1) := by decide +kernel
theorem dX1_alike_92 : decode cX1_alike 92 = .ok (.ifCond .ne 7, 3) := by decide +kernel
theorem dX1_alike_95 : decode cX1_alike 95 = .ok (.iconst 1, 1) := by decide +kernel
theorem dX1_alike_96 : decode cX1_alike 96 = .ok (.goto 4, 3) := by decide +kernel
theorem dX1_alike_99 : decode cX1_alike 99 = .ok (.iconst 0, 1) := by decide +kernel
theorem dX1_alike_100 : decode cX1_alike 100 = .ok (.istore_n 3, 1) := by decide +kernel
theorem dX1_alike_101 : decode cX1_alike 101 = .ok (.aload_n 0, 1) := by decide +kernel
theorem dX1_alike_102 : decode cX1_alike 102 = .ok (.iload_n 3, 1) := by decide +kernel
theorem dX1_alike_103 : decode cX1_alike 103 = .ok (.ifCond .eq 7, 3) := by decide +kernel
theorem dX1_alike_106 : decode cX1_alike 106 = .ok (.iconst 1, 1) := by decide +kernel
theorem dX1_alike_107 : decode cX1_alike 107 = .ok (.goto 4, 3) := by decide +kernel
theorem dX1_alike_110 : decode cX1_alike 110 = .ok (.iconst 0, 1) := by decide +kernel
theorem dX1_alike_111 : decode cX1_alike 111 = .ok (.invokevirtual 36, 3) := by decide +kernel
theorem dX1_alike_114 : decode cX1_alike 114 = .ok (.ireturn, 1) := by decide +kernel
set_option maxRecDepth 20000 in
theorem ggX1_step_X1_areSlots : GoodIn wsX1_step wsX1_areSlots := goodIn_r _ [8, 9, 10, 7, 11, 12, 13, 14] (by decide +kernel) (by decide +kernel)
set_option maxRecDepth 20000 in
theorem gX1_step_X1_areSlots : GoodIn wsX1_step (va_wsS RX1 76 yX1_areSlots wsX1_areSlots) := goodIn_app (goodIn_of _ (by decide +kernel)) ggX1_step_X1_areSlots
set_option maxRecDepth 20000 in
theorem ggX1_step_X1_noted : GoodIn wsX1_step wsX1_noted := goodIn_r _ [18, 19, 20, 24, 25, 26, 27, 28, 29, 30, 31, 32, 33, 34] (by decide +kernel) (by decide +kernel)
set_option maxRecDepth 20000 in
theorem gX1_step_X1_noted : GoodIn wsX1_step (wsV RX1 36 RX1 yX1_noted wsX1_noted) := goodIn_app (goodIn_of _ (by decide +kernel)) ggX1_step_X1_noted
set_option maxRecDepth 20000 in
theorem ggX1_step_X1_isStep : GoodIn wsX1_step wsX1_isStep := goodIn_r _ [23] (by decide +kernel) (by decide +kernel)
set_option maxRecDepth 20000 in
theorem gX1_step_X1_isStep : GoodIn wsX1_step (va_wsS RX1 80 yX1_isStep wsX1_isStep) := goodIn_app (goodIn_of _ (by decide +kernel)) ggX1_step_X1_isStep
theorem dX1_step_0 : decode cX1_step 0 = .ok (.iload_n 2, 1) := by decide +kernel
theorem dX1_step_1 : decode cX1_step 1 = .ok (.iload_n 3, 1) := by decide +kernel
theorem dX1_step_2 : decode cX1_step 2 = .ok (.iload 4, 2) := by decide +kernel
theorem dX1_step_4 : decode cX1_step 4 = .ok (.iload 5, 2) := by decide +kernel
theorem dX1_step_6 : decode cX1_step 6 = .ok (.invokestatic 76, 3) := by decide +kernel
theorem dX1_step_9 : decode cX1_step 9 = .ok (.ifCond .ne 10, 3) := by decide +kernel
theorem dX1_step_12 : decode cX1_step 12 = .ok (.aload_n 0, 1) := by decide +kernel
theorem dX1_step_13 : decode cX1_step 13 = .ok (.bipush (-2), 2) := by decide +kernel
theorem dX1_step_15 : decode cX1_step 15 = .ok (.invokevirtual 36, 3) := by decide +kernel
theorem dX1_step_18 : decode cX1_step 18 = .ok (.ireturn, 1) := by decide +kernel
theorem dX1_step_19 : decode cX1_step 19 = .ok (.iload_n 1, 1) := by decide +kernel
theorem dX1_step_20 : decode cX1_step 20 = .ok (.invokestatic 80, 3) := by decide +kernel
theorem dX1_step_23 : decode cX1_step 23 = .ok (.ifCond .eq 13, 3) := by decide +kernel
theorem dX1_step_26 : decode cX1_step 26 = .ok (.iload_n 2, 1) := by decide +kernel
theorem dX1_step_27 : decode cX1_step 27 = .ok (.ifCond .lt 9, 3) := by decide +kernel
theorem dX1_step_30 : decode cX1_step 30 = .ok (.iload_n 2, 1) := by decide +kernel
theorem dX1_step_31 : decode cX1_step 31 = .ok (.bipush 7, 2) := by decide +kernel
theorem dX1_step_33 : decode cX1_step 33 = .ok (.if_icmp .le 10, 3) := by decide +kernel
theorem dX1_step_36 : decode cX1_step 36 = .ok (.aload_n 0, 1) := by decide +kernel
theorem dX1_step_37 : decode cX1_step 37 = .ok (.bipush (-5), 2) := by decide +kernel
theorem dX1_step_39 : decode cX1_step 39 = .ok (.invokevirtual 36, 3) := by decide +kernel
theorem dX1_step_42 : decode cX1_step 42 = .ok (.ireturn, 1) := by decide +kernel
theorem dX1_step_43 : decode cX1_step 43 = .ok (.aload_n 0, 1) := by decide +kernel
theorem dX1_step_44 : decode cX1_step 44 = .ok (.getfield 20, 3) := by decide +kernel
theorem dX1_step_47 : decode cX1_step 47 = .ok (.iload_n 1, 1) := by decide +kernel
theorem dX1_step_48 : decode cX1_step 48 = .ok (.iload_n 2, 1) := by decide +kernel
theorem dX1_step_49 : decode cX1_step 49 = .ok (.iastore, 1) := by decide +kernel
theorem dX1_step_50 : decode cX1_step 50 = .ok (.aload_n 0, 1) := by decide +kernel
theorem dX1_step_51 : decode cX1_step 51 = .ok (.getfield 23, 3) := by decide +kernel
theorem dX1_step_54 : decode cX1_step 54 = .ok (.iload_n 1, 1) := by decide +kernel
theorem dX1_step_55 : decode cX1_step 55 = .ok (.iload_n 3, 1) := by decide +kernel
theorem dX1_step_56 : decode cX1_step 56 = .ok (.iastore, 1) := by decide +kernel
theorem dX1_step_57 : decode cX1_step 57 = .ok (.aload_n 0, 1) := by decide +kernel
theorem dX1_step_58 : decode cX1_step 58 = .ok (.getfield 26, 3) := by decide +kernel
theorem dX1_step_61 : decode cX1_step 61 = .ok (.iload_n 1, 1) := by decide +kernel
theorem dX1_step_62 : decode cX1_step 62 = .ok (.iload 4, 2) := by decide +kernel
theorem dX1_step_64 : decode cX1_step 64 = .ok (.iastore, 1) := by decide +kernel
theorem dX1_step_65 : decode cX1_step 65 = .ok (.aload_n 0, 1) := by decide +kernel
theorem dX1_step_66 : decode cX1_step 66 = .ok (.getfield 29, 3) := by decide +kernel
theorem dX1_step_69 : decode cX1_step 69 = .ok (.iload_n 1, 1) := by decide +kernel
theorem dX1_step_70 : decode cX1_step 70 = .ok (.iload 5, 2) := by decide +kernel
theorem dX1_step_72 : decode cX1_step 72 = .ok (.iastore, 1) := by decide +kernel
theorem dX1_step_73 : decode cX1_step 73 = .ok (.aload_n 0, 1) := by decide +kernel
theorem dX1_step_74 : decode cX1_step 74 = .ok (.iconst 1, 1) := by decide +kernel
theorem dX1_step_75 : decode cX1_step 75 = .ok (.invokevirtual 36, 3) := by decide +kernel
theorem dX1_step_78 : decode cX1_step 78 = .ok (.ireturn, 1) := by decide +kernel
set_option maxRecDepth 20000 in
theorem ggX1_run_X1_isStep : GoodIn wsX1_run wsX1_isStep := goodIn_r _ [10] (by decide +kernel) (by decide +kernel)
set_option maxRecDepth 20000 in
theorem gX1_run_X1_isStep : GoodIn wsX1_run (va_wsS RX1 80 yX1_isStep wsX1_isStep) := goodIn_app (goodIn_of _ (by decide +kernel)) ggX1_run_X1_isStep
set_option maxRecDepth 20000 in
theorem ggX1_run_X1_noted : GoodIn wsX1_run wsX1_noted := goodIn_r _ [14, 1, 15, 190, 191, 192, 193, 194, 195, 196, 197, 198, 199, 200] (by decide +kernel) (by decide +kernel)
set_option maxRecDepth 20000 in
theorem gX1_run_X1_noted : GoodIn wsX1_run (wsV RX1 36 RX1 yX1_noted wsX1_noted) := goodIn_app (goodIn_of _ (by decide +kernel)) ggX1_run_X1_noted
set_option maxRecDepth 20000 in
theorem ggX1_run_X1_performed : GoodIn wsX1_run wsX1_performed := goodIn_r _ [19, 20, 21, 22, 9, 23, 24, 25, 26, 27, 28, 29, 30, 31, 32, 33, 34, 35, 36, 37, 38, 39, 40, 41, 42, 43, 44, 45, 46, 47, 48, 49, 50, 51, 52, 53, 54, 55, 56, 57, 58, 59, 60, 61, 62, 63, 64, 65, 66, 67, 68, 69, 70, 71, 72, 73, 74, 75, 76, 77, 78, 79, 80, 81, 82, 83, 84, 85, 86, 87, 88, 89, 90, 91, 92, 93, 94, 95, 96, 97, 98, 99, 100, 101, 102, 103, 104, 105, 106, 107, 108, 109, 110, 111, 112, 113, 114, 115, 116, 117, 118, 119, 120, 121, 122, 123, 124, 125, 126, 127, 128, 129, 130, 131, 132, 133, 134, 135, 136, 137, 138, 139, 140, 141, 142, 143, 144, 145, 146, 147, 148, 149, 150, 151, 152, 153, 154, 155, 156, 157, 158, 159, 160, 161, 162, 163, 164, 165, 166, 167, 168, 169, 170, 171, 172, 173, 174, 175, 176, 177, 178, 179, 180, 181, 182, 183, 184, 185, 186, 187, 188, 189, 190, 191, 192, 193, 194, 195, 196, 197, 198, 199, 200] (by decide +kernel) (by decide +kernel)
set_option maxRecDepth 20000 in
theorem gX1_run_X1_performed : GoodIn wsX1_run (wsV RX1 51 RX1 yX1_performed wsX1_performed) := goodIn_app (goodIn_of _ (by decide +kernel)) ggX1_run_X1_performed
theorem dX1_run_0 : decode cX1_run 0 = .ok (.iload_n 1, 1) := by decide +kernel
theorem dX1_run_1 : decode cX1_run 1 = .ok (.invokestatic 80, 3) := by decide +kernel
theorem dX1_run_4 : decode cX1_run 4 = .ok (.ifCond .eq 13, 3) := by decide +kernel
theorem dX1_run_7 : decode cX1_run 7 = .ok (.iload_n 2, 1) := by decide +kernel
theorem dX1_run_8 : decode cX1_run 8 = .ok (.ifCond .lt 9, 3) := by decide +kernel
theorem dX1_run_11 : decode cX1_run 11 = .ok (.iload_n 2, 1) := by decide +kernel
theorem dX1_run_12 : decode cX1_run 12 = .ok (.bipush 12, 2) := by decide +kernel
theorem dX1_run_14 : decode cX1_run 14 = .ok (.if_icmp .le 10, 3) := by decide +kernel
theorem dX1_run_17 : decode cX1_run 17 = .ok (.aload_n 0, 1) := by decide +kernel
theorem dX1_run_18 : decode cX1_run 18 = .ok (.bipush (-5), 2) := by decide +kernel
theorem dX1_run_20 : decode cX1_run 20 = .ok (.invokevirtual 36, 3) := by decide +kernel
theorem dX1_run_23 : decode cX1_run 23 = .ok (.ireturn, 1) := by decide +kernel
theorem dX1_run_24 : decode cX1_run 24 = .ok (.aload_n 0, 1) := by decide +kernel
theorem dX1_run_25 : decode cX1_run 25 = .ok (.iconst 0, 1) := by decide +kernel
theorem dX1_run_26 : decode cX1_run 26 = .ok (.putfield 83, 3) := by decide +kernel
theorem dX1_run_29 : decode cX1_run 29 = .ok (.iconst 0, 1) := by decide +kernel
theorem dX1_run_30 : decode cX1_run 30 = .ok (.istore_n 3, 1) := by decide +kernel
theorem dX1_run_31 : decode cX1_run 31 = .ok (.iload_n 1, 1) := by decide +kernel
theorem dX1_run_32 : decode cX1_run 32 = .ok (.istore 4, 2) := by decide +kernel
theorem dX1_run_34 : decode cX1_run 34 = .ok (.iload 4, 2) := by decide +kernel
theorem dX1_run_36 : decode cX1_run 36 = .ok (.bipush 12, 2) := by decide +kernel
theorem dX1_run_38 : decode cX1_run 38 = .ok (.if_icmp .ge 73, 3) := by decide +kernel
theorem dX1_run_41 : decode cX1_run 41 = .ok (.iload_n 3, 1) := by decide +kernel
theorem dX1_run_42 : decode cX1_run 42 = .ok (.iload_n 2, 1) := by decide +kernel
theorem dX1_run_43 : decode cX1_run 43 = .ok (.if_icmp .ge 68, 3) := by decide +kernel
theorem dX1_run_46 : decode cX1_run 46 = .ok (.aload_n 0, 1) := by decide +kernel
theorem dX1_run_47 : decode cX1_run 47 = .ok (.getfield 20, 3) := by decide +kernel
theorem dX1_run_50 : decode cX1_run 50 = .ok (.iload 4, 2) := by decide +kernel
theorem dX1_run_52 : decode cX1_run 52 = .ok (.iaload, 1) := by decide +kernel
theorem dX1_run_53 : decode cX1_run 53 = .ok (.iconst (-1), 1) := by decide +kernel
theorem dX1_run_54 : decode cX1_run 54 = .ok (.if_icmp .ne 6, 3) := by decide +kernel
theorem dX1_run_57 : decode cX1_run 57 = .ok (.goto 54, 3) := by decide +kernel
theorem dX1_run_60 : decode cX1_run 60 = .ok (.aload_n 0, 1) := by decide +kernel
theorem dX1_run_61 : decode cX1_run 61 = .ok (.aload_n 0, 1) := by decide +kernel
theorem dX1_run_62 : decode cX1_run 62 = .ok (.aload_n 0, 1) := by decide +kernel
theorem dX1_run_63 : decode cX1_run 63 = .ok (.getfield 20, 3) := by decide +kernel
theorem dX1_run_66 : decode cX1_run 66 = .ok (.iload 4, 2) := by decide +kernel
theorem dX1_run_68 : decode cX1_run 68 = .ok (.iaload, 1) := by decide +kernel
theorem dX1_run_69 : decode cX1_run 69 = .ok (.aload_n 0, 1) := by decide +kernel
theorem dX1_run_70 : decode cX1_run 70 = .ok (.getfield 23, 3) := by decide +kernel
theorem dX1_run_73 : decode cX1_run 73 = .ok (.iload 4, 2) := by decide +kernel
theorem dX1_run_75 : decode cX1_run 75 = .ok (.iaload, 1) := by decide +kernel
theorem dX1_run_76 : decode cX1_run 76 = .ok (.aload_n 0, 1) := by decide +kernel
theorem dX1_run_77 : decode cX1_run 77 = .ok (.getfield 26, 3) := by decide +kernel
theorem dX1_run_80 : decode cX1_run 80 = .ok (.iload 4, 2) := by decide +kernel
theorem dX1_run_82 : decode cX1_run 82 = .ok (.iaload, 1) := by decide +kernel
theorem dX1_run_83 : decode cX1_run 83 = .ok (.aload_n 0, 1) := by decide +kernel
theorem dX1_run_84 : decode cX1_run 84 = .ok (.getfield 29, 3) := by decide +kernel
theorem dX1_run_87 : decode cX1_run 87 = .ok (.iload 4, 2) := by decide +kernel
theorem dX1_run_89 : decode cX1_run 89 = .ok (.iaload, 1) := by decide +kernel
theorem dX1_run_90 : decode cX1_run 90 = .ok (.invokevirtual 51, 3) := by decide +kernel
theorem dX1_run_93 : decode cX1_run 93 = .ok (.invokevirtual 36, 3) := by decide +kernel
theorem dX1_run_96 : decode cX1_run 96 = .ok (.ifCond .ge 6, 3) := by decide +kernel
theorem dX1_run_99 : decode cX1_run 99 = .ok (.goto 12, 3) := by decide +kernel
theorem dX1_run_102 : decode cX1_run 102 = .ok (.iinc 3 1, 3) := by decide +kernel
theorem dX1_run_105 : decode cX1_run 105 = .ok (.iinc 4 1, 3) := by decide +kernel
theorem dX1_run_108 : decode cX1_run 108 = .ok (.goto (-74), 3) := by decide +kernel
theorem dX1_run_111 : decode cX1_run 111 = .ok (.aload_n 0, 1) := by decide +kernel
theorem dX1_run_112 : decode cX1_run 112 = .ok (.dup, 1) := by decide +kernel
theorem dX1_run_113 : decode cX1_run 113 = .ok (.getfield 86, 3) := by decide +kernel
theorem dX1_run_116 : decode cX1_run 116 = .ok (.iload_n 3, 1) := by decide +kernel
theorem dX1_run_117 : decode cX1_run 117 = .ok (.iadd, 1) := by decide +kernel
theorem dX1_run_118 : decode cX1_run 118 = .ok (.putfield 86, 3) := by decide +kernel
theorem dX1_run_121 : decode cX1_run 121 = .ok (.iload_n 3, 1) := by decide +kernel
theorem dX1_run_122 : decode cX1_run 122 = .ok (.ireturn, 1) := by decide +kernel
theorem dX1_state_0 : decode cX1_state 0 = .ok (.aload_n 0, 1) := by decide +kernel
theorem dX1_state_1 : decode cX1_state 1 = .ok (.getfield 83, 3) := by decide +kernel
theorem dX1_state_4 : decode cX1_state 4 = .ok (.ireturn, 1) := by decide +kernel
set_option maxRecDepth 20000 in
theorem ggX1_about_X1_present : GoodIn wsX1_about wsX1_present := goodIn_r _ [9] (by decide +kernel) (by decide +kernel)
set_option maxRecDepth 20000 in
theorem gX1_about_X1_present : GoodIn wsX1_about (va_wsS RX1 89 yX1_present wsX1_present) := goodIn_app (goodIn_of _ (by decide +kernel)) ggX1_about_X1_present
theorem dX1_about_0 : decode cX1_about 0 = .ok (.iload_n 1, 1) := by decide +kernel
theorem dX1_about_1 : decode cX1_about 1 = .ok (.tableswitch 66 0 4 #[35, 43, 51, 56, 61], 35) := by decide +kernel
theorem dX1_about_36 : decode cX1_about 36 = .ok (.aload_n 0, 1) := by decide +kernel
theorem dX1_about_37 : decode cX1_about 37 = .ok (.getfield 9, 3) := by decide +kernel
theorem dX1_about_40 : decode cX1_about 40 = .ok (.invokestatic 89, 3) := by decide +kernel
theorem dX1_about_43 : decode cX1_about 43 = .ok (.ireturn, 1) := by decide +kernel
theorem dX1_about_44 : decode cX1_about 44 = .ok (.aload_n 0, 1) := by decide +kernel
theorem dX1_about_45 : decode cX1_about 45 = .ok (.getfield 20, 3) := by decide +kernel
theorem dX1_about_48 : decode cX1_about 48 = .ok (.invokestatic 89, 3) := by decide +kernel
theorem dX1_about_51 : decode cX1_about 51 = .ok (.ireturn, 1) := by decide +kernel
theorem dX1_about_52 : decode cX1_about 52 = .ok (.aload_n 0, 1) := by decide +kernel
theorem dX1_about_53 : decode cX1_about 53 = .ok (.getfield 93, 3) := by decide +kernel
theorem dX1_about_56 : decode cX1_about 56 = .ok (.ireturn, 1) := by decide +kernel
theorem dX1_about_57 : decode cX1_about 57 = .ok (.aload_n 0, 1) := by decide +kernel
theorem dX1_about_58 : decode cX1_about 58 = .ok (.getfield 47, 3) := by decide +kernel
theorem dX1_about_61 : decode cX1_about 61 = .ok (.ireturn, 1) := by decide +kernel
theorem dX1_about_62 : decode cX1_about 62 = .ok (.aload_n 0, 1) := by decide +kernel
theorem dX1_about_63 : decode cX1_about 63 = .ok (.getfield 86, 3) := by decide +kernel
theorem dX1_about_66 : decode cX1_about 66 = .ok (.ireturn, 1) := by decide +kernel
theorem dX1_about_67 : decode cX1_about 67 = .ok (.iconst (-1), 1) := by decide +kernel
theorem dX1_about_68 : decode cX1_about 68 = .ok (.ireturn, 1) := by decide +kernel
theorem dX1_noted_0 : decode cX1_noted 0 = .ok (.aload_n 0, 1) := by decide +kernel
theorem dX1_noted_1 : decode cX1_noted 1 = .ok (.iload_n 1, 1) := by decide +kernel
theorem dX1_noted_2 : decode cX1_noted 2 = .ok (.ifCond .ge 7, 3) := by decide +kernel
theorem dX1_noted_5 : decode cX1_noted 5 = .ok (.iload_n 1, 1) := by decide +kernel
theorem dX1_noted_6 : decode cX1_noted 6 = .ok (.goto 4, 3) := by decide +kernel
theorem dX1_noted_9 : decode cX1_noted 9 = .ok (.iconst 0, 1) := by decide +kernel
theorem dX1_noted_10 : decode cX1_noted 10 = .ok (.putfield 83, 3) := by decide +kernel
theorem dX1_noted_13 : decode cX1_noted 13 = .ok (.iload_n 1, 1) := by decide +kernel
theorem dX1_noted_14 : decode cX1_noted 14 = .ok (.ifCond .ge 13, 3) := by decide +kernel
theorem dX1_noted_17 : decode cX1_noted 17 = .ok (.aload_n 0, 1) := by decide +kernel
theorem dX1_noted_18 : decode cX1_noted 18 = .ok (.dup, 1) := by decide +kernel
theorem dX1_noted_19 : decode cX1_noted 19 = .ok (.getfield 93, 3) := by decide +kernel
theorem dX1_noted_22 : decode cX1_noted 22 = .ok (.iconst 1, 1) := by decide +kernel
theorem dX1_noted_23 : decode cX1_noted 23 = .ok (.iadd, 1) := by decide +kernel
theorem dX1_noted_24 : decode cX1_noted 24 = .ok (.putfield 93, 3) := by decide +kernel
theorem dX1_noted_27 : decode cX1_noted 27 = .ok (.iload_n 1, 1) := by decide +kernel
theorem dX1_noted_28 : decode cX1_noted 28 = .ok (.ireturn, 1) := by decide +kernel
theorem dX1_present_0 : decode cX1_present 0 = .ok (.iconst 0, 1) := by decide +kernel
theorem dX1_present_1 : decode cX1_present 1 = .ok (.istore_n 1, 1) := by decide +kernel
theorem dX1_present_2 : decode cX1_present 2 = .ok (.iconst 0, 1) := by decide +kernel
theorem dX1_present_3 : decode cX1_present 3 = .ok (.istore_n 2, 1) := by decide +kernel
theorem dX1_present_4 : decode cX1_present 4 = .ok (.iload_n 2, 1) := by decide +kernel
theorem dX1_present_5 : decode cX1_present 5 = .ok (.aload_n 0, 1) := by decide +kernel
theorem dX1_present_6 : decode cX1_present 6 = .ok (.arraylength, 1) := by decide +kernel
theorem dX1_present_7 : decode cX1_present 7 = .ok (.if_icmp .ge 19, 3) := by decide +kernel
theorem dX1_present_10 : decode cX1_present 10 = .ok (.aload_n 0, 1) := by decide +kernel
theorem dX1_present_11 : decode cX1_present 11 = .ok (.iload_n 2, 1) := by decide +kernel
theorem dX1_present_12 : decode cX1_present 12 = .ok (.iaload, 1) := by decide +kernel
theorem dX1_present_13 : decode cX1_present 13 = .ok (.iconst (-1), 1) := by decide +kernel
theorem dX1_present_14 : decode cX1_present 14 = .ok (.if_icmp .eq 6, 3) := by decide +kernel
theorem dX1_present_17 : decode cX1_present 17 = .ok (.iinc 1 1, 3) := by decide +kernel
theorem dX1_present_20 : decode cX1_present 20 = .ok (.iinc 2 1, 3) := by decide +kernel
theorem dX1_present_23 : decode cX1_present 23 = .ok (.goto (-19), 3) := by decide +kernel
theorem dX1_present_26 : decode cX1_present 26 = .ok (.iload_n 1, 1) := by decide +kernel
theorem dX1_present_27 : decode cX1_present 27 = .ok (.ireturn, 1) := by decide +kernel
theorem dX1_isSlot_0 : decode cX1_isSlot 0 = .ok (.iload_n 0, 1) := by decide +kernel
theorem dX1_isSlot_1 : decode cX1_isSlot 1 = .ok (.ifCond .lt 13, 3) := by decide +kernel
theorem dX1_isSlot_4 : decode cX1_isSlot 4 = .ok (.iload_n 0, 1) := by decide +kernel
theorem dX1_isSlot_5 : decode cX1_isSlot 5 = .ok (.bipush 16, 2) := by decide +kernel
theorem dX1_isSlot_7 : decode cX1_isSlot 7 = .ok (.if_icmp .ge 7, 3) := by decide +kernel
theorem dX1_isSlot_10 : decode cX1_isSlot 10 = .ok (.iconst 1, 1) := by decide +kernel
theorem dX1_isSlot_11 : decode cX1_isSlot 11 = .ok (.goto 4, 3) := by decide +kernel
theorem dX1_isSlot_14 : decode cX1_isSlot 14 = .ok (.iconst 0, 1) := by decide +kernel
theorem dX1_isSlot_15 : decode cX1_isSlot 15 = .ok (.ireturn, 1) := by decide +kernel
theorem dX1_isStep_0 : decode cX1_isStep 0 = .ok (.iload_n 0, 1) := by decide +kernel
theorem dX1_isStep_1 : decode cX1_isStep 1 = .ok (.ifCond .lt 13, 3) := by decide +kernel
theorem dX1_isStep_4 : decode cX1_isStep 4 = .ok (.iload_n 0, 1) := by decide +kernel
theorem dX1_isStep_5 : decode cX1_isStep 5 = .ok (.bipush 12, 2) := by decide +kernel
theorem dX1_isStep_7 : decode cX1_isStep 7 = .ok (.if_icmp .ge 7, 3) := by decide +kernel
theorem dX1_isStep_10 : decode cX1_isStep 10 = .ok (.iconst 1, 1) := by decide +kernel
theorem dX1_isStep_11 : decode cX1_isStep 11 = .ok (.goto 4, 3) := by decide +kernel
theorem dX1_isStep_14 : decode cX1_isStep 14 = .ok (.iconst 0, 1) := by decide +kernel
theorem dX1_isStep_15 : decode cX1_isStep 15 = .ok (.ireturn, 1) := by decide +kernel
theorem dX1_isSort_0 : decode cX1_isSort 0 = .ok (.iload_n 0, 1) := by decide +kernel
theorem dX1_isSort_1 : decode cX1_isSort 1 = .ok (.ifCond .lt 12, 3) := by decide +kernel
theorem dX1_isSort_4 : decode cX1_isSort 4 = .ok (.iload_n 0, 1) := by decide +kernel
theorem dX1_isSort_5 : decode cX1_isSort 5 = .ok (.iconst 3, 1) := by decide +kernel
theorem dX1_isSort_6 : decode cX1_isSort 6 = .ok (.if_icmp .gt 7, 3) := by decide +kernel
theorem dX1_isSort_9 : decode cX1_isSort 9 = .ok (.iconst 1, 1) := by decide +kernel
theorem dX1_isSort_10 : decode cX1_isSort 10 = .ok (.goto 4, 3) := by decide +kernel
theorem dX1_isSort_13 : decode cX1_isSort 13 = .ok (.iconst 0, 1) := by decide +kernel
theorem dX1_isSort_14 : decode cX1_isSort 14 = .ok (.ireturn, 1) := by decide +kernel
theorem dX1_takesTwo_0 : decode cX1_takesTwo 0 = .ok (.iload_n 0, 1) := by decide +kernel
theorem dX1_takesTwo_1 : decode cX1_takesTwo 1 = .ok (.ifCond .eq 13, 3) := by decide +kernel
theorem dX1_takesTwo_4 : decode cX1_takesTwo 4 = .ok (.iload_n 0, 1) := by decide +kernel
theorem dX1_takesTwo_5 : decode cX1_takesTwo 5 = .ok (.iconst 1, 1) := by decide +kernel
theorem dX1_takesTwo_6 : decode cX1_takesTwo 6 = .ok (.if_icmp .eq 8, 3) := by decide +kernel
theorem dX1_takesTwo_9 : decode cX1_takesTwo 9 = .ok (.iload_n 0, 1) := by decide +kernel
theorem dX1_takesTwo_10 : decode cX1_takesTwo 10 = .ok (.iconst 5, 1) := by decide +kernel
theorem dX1_takesTwo_11 : decode cX1_takesTwo 11 = .ok (.if_icmp .ne 7, 3) := by decide +kernel
theorem dX1_takesTwo_14 : decode cX1_takesTwo 14 = .ok (.iconst 1, 1) := by decide +kernel
theorem dX1_takesTwo_15 : decode cX1_takesTwo 15 = .ok (.goto 4, 3) := by decide +kernel
theorem dX1_takesTwo_18 : decode cX1_takesTwo 18 = .ok (.iconst 0, 1) := by decide +kernel
theorem dX1_takesTwo_19 : decode cX1_takesTwo 19 = .ok (.ireturn, 1) := by decide +kernel
set_option maxRecDepth 20000 in
theorem ggX1_areSlots_X1_isSlot : GoodIn wsX1_areSlots wsX1_isSlot := goodIn_r _ [4] (by decide +kernel) (by decide +kernel)
set_option maxRecDepth 20000 in
theorem gX1_areSlots_X1_isSlot : GoodIn wsX1_areSlots (va_wsS RX1 40 yX1_isSlot wsX1_isSlot) := goodIn_app (goodIn_of _ (by decide +kernel)) ggX1_areSlots_X1_isSlot
set_option maxRecDepth 20000 in
theorem ggX1_areSlots_X1_takesTwo : GoodIn wsX1_areSlots wsX1_takesTwo := goodIn_r _ [7] (by decide +kernel) (by decide +kernel)
set_option maxRecDepth 20000 in
theorem gX1_areSlots_X1_takesTwo : GoodIn wsX1_areSlots (va_wsS RX1 96 yX1_takesTwo wsX1_takesTwo) := goodIn_app (goodIn_of _ (by decide +kernel)) ggX1_areSlots_X1_takesTwo
theorem dX1_areSlots_0 : decode cX1_areSlots 0 = .ok (.iload_n 1, 1) := by decide +kernel
theorem dX1_areSlots_1 : decode cX1_areSlots 1 = .ok (.invokestatic 40, 3) := by decide +kernel
theorem dX1_areSlots_4 : decode cX1_areSlots 4 = .ok (.ifCond .eq 28, 3) := by decide +kernel
theorem dX1_areSlots_7 : decode cX1_areSlots 7 = .ok (.iload_n 3, 1) := by decide +kernel
theorem dX1_areSlots_8 : decode cX1_areSlots 8 = .ok (.invokestatic 40, 3) := by decide +kernel
theorem dX1_areSlots_11 : decode cX1_areSlots 11 = .ok (.ifCond .eq 21, 3) := by decide +kernel
theorem dX1_areSlots_14 : decode cX1_areSlots 14 = .ok (.iload_n 0, 1) := by decide +kernel
theorem dX1_areSlots_15 : decode cX1_areSlots 15 = .ok (.invokestatic 96, 3) := by decide +kernel
theorem dX1_areSlots_18 : decode cX1_areSlots 18 = .ok (.ifCond .eq 10, 3) := by decide +kernel
theorem dX1_areSlots_21 : decode cX1_areSlots 21 = .ok (.iload_n 2, 1) := by decide +kernel
theorem dX1_areSlots_22 : decode cX1_areSlots 22 = .ok (.invokestatic 40, 3) := by decide +kernel
theorem dX1_areSlots_25 : decode cX1_areSlots 25 = .ok (.ifCond .eq 7, 3) := by decide +kernel
theorem dX1_areSlots_28 : decode cX1_areSlots 28 = .ok (.iconst 1, 1) := by decide +kernel
theorem dX1_areSlots_29 : decode cX1_areSlots 29 = .ok (.goto 4, 3) := by decide +kernel
theorem dX1_areSlots_32 : decode cX1_areSlots 32 = .ok (.iconst 0, 1) := by decide +kernel
theorem dX1_areSlots_33 : decode cX1_areSlots 33 = .ok (.ireturn, 1) := by decide +kernel
set_option maxRecDepth 20000 in
theorem ggX1_refusalToTake_X1_isSlot : GoodIn wsX1_refusalToTake wsX1_isSlot := goodIn_r _ [5] (by decide +kernel) (by decide +kernel)
set_option maxRecDepth 20000 in
theorem gX1_refusalToTake_X1_isSlot : GoodIn wsX1_refusalToTake (va_wsS RX1 40 yX1_isSlot wsX1_isSlot) := goodIn_app (goodIn_of _ (by decide +kernel)) ggX1_refusalToTake_X1_isSlot
theorem dX1_refusalToTake_0 : decode cX1_refusalToTake 0 = .ok (.iload_n 1, 1) := by decide +kernel
theorem dX1_refusalToTake_1 : decode cX1_refusalToTake 1 = .ok (.invokestatic 40, 3) := by decide +kernel
theorem dX1_refusalToTake_4 : decode cX1_refusalToTake 4 = .ok (.ifCond .ne 6, 3) := by decide +kernel
theorem dX1_refusalToTake_7 : decode cX1_refusalToTake 7 = .ok (.bipush (-2), 2) := by decide +kernel
theorem dX1_refusalToTake_9 : decode cX1_refusalToTake 9 = .ok (.ireturn, 1) := by decide +kernel
theorem dX1_refusalToTake_10 : decode cX1_refusalToTake 10 = .ok (.aload_n 0, 1) := by decide +kernel
theorem dX1_refusalToTake_11 : decode cX1_refusalToTake 11 = .ok (.getfield 9, 3) := by decide +kernel
theorem dX1_refusalToTake_14 : decode cX1_refusalToTake 14 = .ok (.iload_n 1, 1) := by decide +kernel
theorem dX1_refusalToTake_15 : decode cX1_refusalToTake 15 = .ok (.iaload, 1) := by decide +kernel
theorem dX1_refusalToTake_16 : decode cX1_refusalToTake 16 = .ok (.iconst (-1), 1) := by decide +kernel
theorem dX1_refusalToTake_17 : decode cX1_refusalToTake 17 = .ok (.if_icmp .ne 8, 3) := by decide +kernel
theorem dX1_refusalToTake_20 : decode cX1_refusalToTake 20 = .ok (.bipush (-3), 2) := by decide +kernel
theorem dX1_refusalToTake_22 : decode cX1_refusalToTake 22 = .ok (.goto 4, 3) := by decide +kernel
theorem dX1_refusalToTake_25 : decode cX1_refusalToTake 25 = .ok (.iconst 0, 1) := by decide +kernel
theorem dX1_refusalToTake_26 : decode cX1_refusalToTake 26 = .ok (.ireturn, 1) := by decide +kernel
set_option maxRecDepth 20000 in
theorem ggX1_refusalToCompare_X1_refusalToTake : GoodIn wsX1_refusalToCompare wsX1_refusalToTake := goodIn_r _ [6, 1, 7, 8, 5, 9, 38, 39, 40, 41, 42, 43, 44, 45, 46, 47, 48] (by decide +kernel) (by decide +kernel)
set_option maxRecDepth 20000 in
theorem gX1_refusalToCompare_X1_refusalToTake : GoodIn wsX1_refusalToCompare (wsV RX1 44 RX1 yX1_refusalToTake wsX1_refusalToTake) := goodIn_app (goodIn_of _ (by decide +kernel)) ggX1_refusalToCompare_X1_refusalToTake
set_option maxRecDepth 20000 in
theorem ggX1_refusalToCompare_X0_isNumber : GoodIn wsX1_refusalToCompare wsX0_isNumber := goodIn_r _ [13, 14, 15, 12, 16, 17, 18, 19, 20, 21, 22, 23, 24, 25, 26, 27, 28, 29, 30, 31, 32, 33, 34, 35, 36, 37] (by decide +kernel) (by decide +kernel)
set_option maxRecDepth 20000 in
theorem gX1_refusalToCompare_X0_isNumber : GoodIn wsX1_refusalToCompare (va_wsS RX1 99 yX0_isNumber wsX0_isNumber) := goodIn_app (goodIn_of _ (by decide +kernel)) ggX1_refusalToCompare_X0_isNumber
theorem dX1_refusalToCompare_0 : decode cX1_refusalToCompare 0 = .ok (.aload_n 0, 1) := by decide +kernel
theorem dX1_refusalToCompare_1 : decode cX1_refusalToCompare 1 = .ok (.iload_n 1, 1) := by decide +kernel
theorem dX1_refusalToCompare_2 : decode cX1_refusalToCompare 2 = .ok (.invokevirtual 44, 3) := by decide +kernel
theorem dX1_refusalToCompare_5 : decode cX1_refusalToCompare 5 = .ok (.istore 4, 2) := by decide +kernel
theorem dX1_refusalToCompare_7 : decode cX1_refusalToCompare 7 = .ok (.iload 4, 2) := by decide +kernel
theorem dX1_refusalToCompare_9 : decode cX1_refusalToCompare 9 = .ok (.ifCond .ge 6, 3) := by decide +kernel
theorem dX1_refusalToCompare_12 : decode cX1_refusalToCompare 12 = .ok (.iload 4, 2) := by decide +kernel
theorem dX1_refusalToCompare_14 : decode cX1_refusalToCompare 14 = .ok (.ireturn, 1) := by decide +kernel
theorem dX1_refusalToCompare_15 : decode cX1_refusalToCompare 15 = .ok (.aload_n 0, 1) := by decide +kernel
theorem dX1_refusalToCompare_16 : decode cX1_refusalToCompare 16 = .ok (.getfield 9, 3) := by decide +kernel
theorem dX1_refusalToCompare_19 : decode cX1_refusalToCompare 19 = .ok (.iload_n 1, 1) := by decide +kernel
theorem dX1_refusalToCompare_20 : decode cX1_refusalToCompare 20 = .ok (.iaload, 1) := by decide +kernel
theorem dX1_refusalToCompare_21 : decode cX1_refusalToCompare 21 = .ok (.lload_n 2, 1) := by decide +kernel
theorem dX1_refusalToCompare_22 : decode cX1_refusalToCompare 22 = .ok (.invokestatic 99, 3) := by decide +kernel
theorem dX1_refusalToCompare_25 : decode cX1_refusalToCompare 25 = .ok (.ifCond .eq 7, 3) := by decide +kernel
theorem dX1_refusalToCompare_28 : decode cX1_refusalToCompare 28 = .ok (.iconst 0, 1) := by decide +kernel
theorem dX1_refusalToCompare_29 : decode cX1_refusalToCompare 29 = .ok (.goto 5, 3) := by decide +kernel
theorem dX1_refusalToCompare_32 : decode cX1_refusalToCompare 32 = .ok (.bipush (-4), 2) := by decide +kernel
theorem dX1_refusalToCompare_34 : decode cX1_refusalToCompare 34 = .ok (.ireturn, 1) := by decide +kernel
set_option maxRecDepth 20000 in
theorem ggX1_placed_X1_isSlot : GoodIn wsX1_placed wsX1_isSlot := goodIn_r _ [4] (by decide +kernel) (by decide +kernel)
set_option maxRecDepth 20000 in
theorem gX1_placed_X1_isSlot : GoodIn wsX1_placed (va_wsS RX1 40 yX1_isSlot wsX1_isSlot) := goodIn_app (goodIn_of _ (by decide +kernel)) ggX1_placed_X1_isSlot
set_option maxRecDepth 20000 in
theorem ggX1_placed_X1_isSort : GoodIn wsX1_placed wsX1_isSort := goodIn_r _ [7] (by decide +kernel) (by decide +kernel)
set_option maxRecDepth 20000 in
theorem gX1_placed_X1_isSort : GoodIn wsX1_placed (va_wsS RX1 103 yX1_isSort wsX1_isSort) := goodIn_app (goodIn_of _ (by decide +kernel)) ggX1_placed_X1_isSort
set_option maxRecDepth 20000 in
theorem ggX1_placed_X0_isNumber : GoodIn wsX1_placed wsX0_isNumber := goodIn_r _ [11, 12, 13, 10, 14, 15, 16, 17, 18, 19, 20, 21, 22, 23, 24, 25, 26, 27, 28, 29, 30, 31, 32, 33, 34, 35] (by decide +kernel) (by decide +kernel)
set_option maxRecDepth 20000 in
theorem gX1_placed_X0_isNumber : GoodIn wsX1_placed (va_wsS RX1 99 yX0_isNumber wsX0_isNumber) := goodIn_app (goodIn_of _ (by decide +kernel)) ggX1_placed_X0_isNumber
set_option maxRecDepth 20000 in
theorem ggX1_placed_X0_fitted : GoodIn wsX1_placed wsX0_fitted := goodIn_r _ [17] (by decide +kernel) (by decide +kernel)
set_option maxRecDepth 20000 in
theorem gX1_placed_X0_fitted : GoodIn wsX1_placed (va_wsS RX1 59 yX0_fitted wsX0_fitted) := goodIn_app (goodIn_of _ (by decide +kernel)) ggX1_placed_X0_fitted
set_option maxRecDepth 20000 in
theorem ggX1_placed_X0_isLess : GoodIn wsX1_placed wsX0_isLess := goodIn_r _ [39, 12, 13, 10, 14, 40, 41, 42, 43] (by decide +kernel) (by decide +kernel)
set_option maxRecDepth 20000 in
theorem gX1_placed_X0_isLess : GoodIn wsX1_placed (va_wsS RX1 72 yX0_isLess wsX0_isLess) := goodIn_app (goodIn_of _ (by decide +kernel)) ggX1_placed_X0_isLess
set_option maxRecDepth 20000 in
theorem ggX1_placed_X1_put : GoodIn wsX1_placed wsX1_put := goodIn_r _ [47, 48, 49, 50, 51, 52, 53, 54, 55, 56, 57, 58, 59, 60, 61] (by decide +kernel) (by decide +kernel)
set_option maxRecDepth 20000 in
theorem gX1_placed_X1_put : GoodIn wsX1_placed (wsV RX1 106 RX1 yX1_put wsX1_put) := goodIn_app (goodIn_of _ (by decide +kernel)) ggX1_placed_X1_put
theorem dX1_placed_0 : decode cX1_placed 0 = .ok (.iload_n 1, 1) := by decide +kernel
theorem dX1_placed_1 : decode cX1_placed 1 = .ok (.invokestatic 40, 3) := by decide +kernel
theorem dX1_placed_4 : decode cX1_placed 4 = .ok (.ifCond .ne 6, 3) := by decide +kernel
theorem dX1_placed_7 : decode cX1_placed 7 = .ok (.bipush (-2), 2) := by decide +kernel
theorem dX1_placed_9 : decode cX1_placed 9 = .ok (.ireturn, 1) := by decide +kernel
theorem dX1_placed_10 : decode cX1_placed 10 = .ok (.iload_n 2, 1) := by decide +kernel
theorem dX1_placed_11 : decode cX1_placed 11 = .ok (.invokestatic 103, 3) := by decide +kernel
theorem dX1_placed_14 : decode cX1_placed 14 = .ok (.ifCond .eq 20, 3) := by decide +kernel
theorem dX1_placed_17 : decode cX1_placed 17 = .ok (.iload_n 2, 1) := by decide +kernel
theorem dX1_placed_18 : decode cX1_placed 18 = .ok (.lload_n 3, 1) := by decide +kernel
theorem dX1_placed_19 : decode cX1_placed 19 = .ok (.invokestatic 99, 3) := by decide +kernel
theorem dX1_placed_22 : decode cX1_placed 22 = .ok (.ifCond .eq 12, 3) := by decide +kernel
theorem dX1_placed_25 : decode cX1_placed 25 = .ok (.iload_n 2, 1) := by decide +kernel
theorem dX1_placed_26 : decode cX1_placed 26 = .ok (.lload 5, 2) := by decide +kernel
theorem dX1_placed_28 : decode cX1_placed 28 = .ok (.invokestatic 99, 3) := by decide +kernel
theorem dX1_placed_31 : decode cX1_placed 31 = .ok (.ifCond .ne 6, 3) := by decide +kernel
theorem dX1_placed_34 : decode cX1_placed 34 = .ok (.bipush (-4), 2) := by decide +kernel
theorem dX1_placed_36 : decode cX1_placed 36 = .ok (.ireturn, 1) := by decide +kernel
theorem dX1_placed_37 : decode cX1_placed 37 = .ok (.iload_n 2, 1) := by decide +kernel
theorem dX1_placed_38 : decode cX1_placed 38 = .ok (.lload_n 3, 1) := by decide +kernel
theorem dX1_placed_39 : decode cX1_placed 39 = .ok (.invokestatic 59, 3) := by decide +kernel
theorem dX1_placed_42 : decode cX1_placed 42 = .ok (.lstore 7, 2) := by decide +kernel
theorem dX1_placed_44 : decode cX1_placed 44 = .ok (.iload_n 2, 1) := by decide +kernel
theorem dX1_placed_45 : decode cX1_placed 45 = .ok (.lload 5, 2) := by decide +kernel
theorem dX1_placed_47 : decode cX1_placed 47 = .ok (.invokestatic 59, 3) := by decide +kernel
theorem dX1_placed_50 : decode cX1_placed 50 = .ok (.lstore 9, 2) := by decide +kernel
end
section
theorem dX1_placed_52 : decode cX1_placed 52 = .ok (.iload_n 2, 1) := by decide +kernel
theorem dX1_placed_53 : decode cX1_placed 53 = .ok (.lload 9, 2) := by decide +kernel
theorem dX1_placed_55 : decode cX1_placed 55 = .ok (.lload 7, 2) := by decide +kernel
theorem dX1_placed_57 : decode cX1_placed 57 = .ok (.invokestatic 72, 3) := by decide +kernel
theorem dX1_placed_60 : decode cX1_placed 60 = .ok (.ifCond .eq 6, 3) := by decide +kernel
theorem dX1_placed_63 : decode cX1_placed 63 = .ok (.bipush (-5), 2) := by decide +kernel
theorem dX1_placed_65 : decode cX1_placed 65 = .ok (.ireturn, 1) := by decide +kernel
theorem dX1_placed_66 : decode cX1_placed 66 = .ok (.aload_n 0, 1) := by decide +kernel
theorem dX1_placed_67 : decode cX1_placed 67 = .ok (.iload_n 1, 1) := by decide +kernel
theorem dX1_placed_68 : decode cX1_placed 68 = .ok (.iload_n 2, 1) := by decide +kernel
theorem dX1_placed_69 : decode cX1_placed 69 = .ok (.lload 7, 2) := by decide +kernel
theorem dX1_placed_71 : decode cX1_placed 71 = .ok (.lload 9, 2) := by decide +kernel
theorem dX1_placed_73 : decode cX1_placed 73 = .ok (.invokevirtual 106, 3) := by decide +kernel
theorem dX1_placed_76 : decode cX1_placed 76 = .ok (.ireturn, 1) := by decide +kernel
set_option maxRecDepth 20000 in
theorem ggX1_performed_X1_refusalToPerform : GoodIn wsX1_performed wsX1_refusalToPerform := goodIn_r _ [5, 6, 7, 8, 4, 9, 10, 11, 12, 13, 14, 15, 172, 173, 174, 175, 176, 177, 178, 179, 180, 181, 182] (by decide +kernel) (by decide +kernel)
set_option maxRecDepth 20000 in
theorem gX1_performed_X1_refusalToPerform : GoodIn wsX1_performed (wsV RX1 109 RX1 yX1_refusalToPerform wsX1_refusalToPerform) := goodIn_app (goodIn_of _ (by decide +kernel)) ggX1_performed_X1_refusalToPerform
set_option maxRecDepth 20000 in
theorem ggX1_performed_X1_joined : GoodIn wsX1_performed wsX1_joined := goodIn_r _ [19, 6, 20, 21, 22, 23, 24, 25, 26, 27, 28, 29, 30, 31, 32, 33, 34, 35, 36, 37, 38, 39, 40, 41, 4, 42, 172, 173, 174, 175, 176, 177, 178, 179, 180, 181, 182] (by decide +kernel) (by decide +kernel)
set_option maxRecDepth 20000 in
theorem gX1_performed_X1_joined : GoodIn wsX1_performed (wsV RX1 112 RX1 yX1_joined wsX1_joined) := goodIn_app (goodIn_of _ (by decide +kernel)) ggX1_performed_X1_joined
set_option maxRecDepth 20000 in
theorem ggX1_performed_X1_cut : GoodIn wsX1_performed wsX1_cut := goodIn_r _ [46, 6, 20, 21, 36, 37, 24, 38, 26, 27, 28, 29, 30, 31, 32, 33, 34, 35, 22, 23, 25, 47, 48, 49, 4, 50, 51, 39, 40, 41, 42, 172, 173, 174, 175, 176, 177, 178, 179, 180, 181, 182] (by decide +kernel) (by decide +kernel)
set_option maxRecDepth 20000 in
theorem gX1_performed_X1_cut : GoodIn wsX1_performed (wsV RX1 116 RX1 yX1_cut wsX1_cut) := goodIn_app (goodIn_of _ (by decide +kernel)) ggX1_performed_X1_cut
set_option maxRecDepth 20000 in
theorem ggX1_performed_X1_sized : GoodIn wsX1_performed wsX1_sized := goodIn_r _ [55, 6, 20, 21, 56, 57, 24, 58, 59, 60, 61, 29, 30, 31, 62, 63, 64, 65, 66, 67, 68, 69, 70, 71, 72, 73, 74, 75, 76, 77, 78, 79, 80, 81, 82, 36, 37, 38, 26, 27, 28, 32, 33, 34, 35, 83, 84, 85, 4, 86, 22, 23, 25, 39, 40, 41, 42, 172, 173, 174, 175, 176, 177, 178, 179, 180, 181, 182] (by decide +kernel) (by decide +kernel)
set_option maxRecDepth 20000 in
theorem gX1_performed_X1_sized : GoodIn wsX1_performed (wsV RX1 119 RX1 yX1_sized wsX1_sized) := goodIn_app (goodIn_of _ (by decide +kernel)) ggX1_performed_X1_sized
set_option maxRecDepth 20000 in
theorem ggX1_performed_X1_rounded : GoodIn wsX1_performed wsX1_rounded := goodIn_r _ [90, 6, 20, 21, 91, 30, 24, 31, 92, 93, 94, 76, 77, 78, 79, 62, 63, 64, 65, 66, 95, 96, 97, 98, 99, 100, 101, 102, 103, 104, 105, 106, 107, 108, 109, 110, 111, 112, 113, 114, 115, 116, 117, 118, 47, 48, 49, 4, 50, 51, 27, 28, 29, 32, 33, 34, 35, 39, 40, 41, 42, 172, 173, 174, 175, 176, 177, 178, 179, 180, 181, 182] (by decide +kernel) (by decide +kernel)
set_option maxRecDepth 20000 in
theorem gX1_performed_X1_rounded : GoodIn wsX1_performed (wsV RX1 123 RX1 yX1_rounded wsX1_rounded) := goodIn_app (goodIn_of _ (by decide +kernel)) ggX1_performed_X1_rounded
set_option maxRecDepth 20000 in
theorem ggX1_performed_X1_signed : GoodIn wsX1_performed wsX1_signed := goodIn_r _ [122, 6, 20, 21, 91, 30, 24, 31, 123, 124, 125, 73, 74, 75, 29, 76, 77, 78, 79, 62, 63, 64, 65, 66, 110, 111, 112, 104, 105, 106, 101, 102, 103, 116, 117, 118, 39, 40, 41, 4, 42, 172, 173, 174, 175, 176, 177, 178, 179, 180, 181, 182] (by decide +kernel) (by decide +kernel)
set_option maxRecDepth 20000 in
theorem gX1_performed_X1_signed : GoodIn wsX1_performed (wsV RX1 126 RX1 yX1_signed wsX1_signed) := goodIn_app (goodIn_of _ (by decide +kernel)) ggX1_performed_X1_signed
set_option maxRecDepth 20000 in
theorem ggX1_performed_X1_lent : GoodIn wsX1_performed wsX1_lent := goodIn_r _ [129, 6, 20, 21, 91, 30, 24, 31, 130, 117, 118, 76, 77, 78, 79, 62, 63, 64, 65, 66, 83, 84, 85, 4, 86, 22, 23, 25, 26, 27, 28, 29, 32, 33, 34, 35, 36, 37, 38, 39, 40, 41, 42, 172, 173, 174, 175, 176, 177, 178, 179, 180, 181, 182] (by decide +kernel) (by decide +kernel)
set_option maxRecDepth 20000 in
theorem gX1_performed_X1_lent : GoodIn wsX1_performed (wsV RX1 129 RX1 yX1_lent wsX1_lent) := goodIn_app (goodIn_of _ (by decide +kernel)) ggX1_performed_X1_lent
set_option maxRecDepth 20000 in
theorem ggX1_performed_X1_turned : GoodIn wsX1_performed wsX1_turned := goodIn_r _ [134, 6, 20, 21, 135, 60, 24, 61, 29, 30, 31, 62, 63, 64, 65, 66, 67, 68, 69, 83, 84, 85, 4, 86, 22, 23, 25, 26, 27, 28, 32, 33, 34, 35, 36, 37, 38, 39, 40, 41, 42, 172, 173, 174, 175, 176, 177, 178, 179, 180, 181, 182] (by decide +kernel) (by decide +kernel)
set_option maxRecDepth 20000 in
theorem gX1_performed_X1_turned : GoodIn wsX1_performed (wsV RX1 132 RX1 yX1_turned wsX1_turned) := goodIn_app (goodIn_of _ (by decide +kernel)) ggX1_performed_X1_turned
set_option maxRecDepth 20000 in
theorem ggX1_performed_X1_converted : GoodIn wsX1_performed wsX1_converted := goodIn_r _ [139, 6, 20, 21, 140, 141, 4, 142, 143, 144, 24, 145, 29, 30, 31, 146, 147, 148, 76, 77, 78, 79, 62, 63, 64, 65, 66, 98, 99, 100, 101, 102, 103, 104, 105, 106, 149, 150, 151, 152, 35, 153, 154, 155, 67, 68, 69, 156, 157, 158, 159, 160, 161, 113, 114, 115, 162, 163, 164, 165, 166, 167, 168, 169, 170, 171, 83, 84, 85, 86, 22, 23, 25, 26, 27, 28, 32, 33, 34, 36, 37, 38, 39, 40, 41, 42, 172, 173, 174, 175, 176, 177, 178, 179, 180, 181, 182] (by decide +kernel) (by decide +kernel)
set_option maxRecDepth 20000 in
theorem gX1_performed_X1_converted : GoodIn wsX1_performed (wsV RX1 135 RX1 yX1_converted wsX1_converted) := goodIn_app (goodIn_of _ (by decide +kernel)) ggX1_performed_X1_converted
theorem dX1_performed_0 : decode cX1_performed 0 = .ok (.aload_n 0, 1) := by decide +kernel
theorem dX1_performed_1 : decode cX1_performed 1 = .ok (.iload_n 1, 1) := by decide +kernel
theorem dX1_performed_2 : decode cX1_performed 2 = .ok (.iload_n 2, 1) := by decide +kernel
theorem dX1_performed_3 : decode cX1_performed 3 = .ok (.iload_n 3, 1) := by decide +kernel
theorem dX1_performed_4 : decode cX1_performed 4 = .ok (.iload 4, 2) := by decide +kernel
theorem dX1_performed_6 : decode cX1_performed 6 = .ok (.invokevirtual 109, 3) := by decide +kernel
theorem dX1_performed_9 : decode cX1_performed 9 = .ok (.istore 5, 2) := by decide +kernel
theorem dX1_performed_11 : decode cX1_performed 11 = .ok (.iload 5, 2) := by decide +kernel
theorem dX1_performed_13 : decode cX1_performed 13 = .ok (.ifCond .ge 6, 3) := by decide +kernel
theorem dX1_performed_16 : decode cX1_performed 16 = .ok (.iload 5, 2) := by decide +kernel
theorem dX1_performed_18 : decode cX1_performed 18 = .ok (.ireturn, 1) := by decide +kernel
theorem dX1_performed_19 : decode cX1_performed 19 = .ok (.iload_n 1, 1) := by decide +kernel
theorem dX1_performed_20 : decode cX1_performed 20 = .ok (.tableswitch 104 0 6 #[44, 53, 62, 70, 79, 87, 96], 44) := by decide +kernel
theorem dX1_performed_64 : decode cX1_performed 64 = .ok (.aload_n 0, 1) := by decide +kernel
theorem dX1_performed_65 : decode cX1_performed 65 = .ok (.iload_n 2, 1) := by decide +kernel
theorem dX1_performed_66 : decode cX1_performed 66 = .ok (.iload_n 3, 1) := by decide +kernel
theorem dX1_performed_67 : decode cX1_performed 67 = .ok (.iload 4, 2) := by decide +kernel
theorem dX1_performed_69 : decode cX1_performed 69 = .ok (.invokevirtual 112, 3) := by decide +kernel
theorem dX1_performed_72 : decode cX1_performed 72 = .ok (.ireturn, 1) := by decide +kernel
theorem dX1_performed_73 : decode cX1_performed 73 = .ok (.aload_n 0, 1) := by decide +kernel
theorem dX1_performed_74 : decode cX1_performed 74 = .ok (.iload_n 2, 1) := by decide +kernel
theorem dX1_performed_75 : decode cX1_performed 75 = .ok (.iload_n 3, 1) := by decide +kernel
theorem dX1_performed_76 : decode cX1_performed 76 = .ok (.iload 4, 2) := by decide +kernel
theorem dX1_performed_78 : decode cX1_performed 78 = .ok (.invokevirtual 116, 3) := by decide +kernel
theorem dX1_performed_81 : decode cX1_performed 81 = .ok (.ireturn, 1) := by decide +kernel
theorem dX1_performed_82 : decode cX1_performed 82 = .ok (.aload_n 0, 1) := by decide +kernel
theorem dX1_performed_83 : decode cX1_performed 83 = .ok (.iload_n 2, 1) := by decide +kernel
theorem dX1_performed_84 : decode cX1_performed 84 = .ok (.iload 4, 2) := by decide +kernel
theorem dX1_performed_86 : decode cX1_performed 86 = .ok (.invokevirtual 119, 3) := by decide +kernel
theorem dX1_performed_89 : decode cX1_performed 89 = .ok (.ireturn, 1) := by decide +kernel
theorem dX1_performed_90 : decode cX1_performed 90 = .ok (.aload_n 0, 1) := by decide +kernel
theorem dX1_performed_91 : decode cX1_performed 91 = .ok (.iload_n 2, 1) := by decide +kernel
theorem dX1_performed_92 : decode cX1_performed 92 = .ok (.iload_n 3, 1) := by decide +kernel
theorem dX1_performed_93 : decode cX1_performed 93 = .ok (.iload 4, 2) := by decide +kernel
theorem dX1_performed_95 : decode cX1_performed 95 = .ok (.invokevirtual 123, 3) := by decide +kernel
theorem dX1_performed_98 : decode cX1_performed 98 = .ok (.ireturn, 1) := by decide +kernel
theorem dX1_performed_99 : decode cX1_performed 99 = .ok (.aload_n 0, 1) := by decide +kernel
theorem dX1_performed_100 : decode cX1_performed 100 = .ok (.iload_n 2, 1) := by decide +kernel
theorem dX1_performed_101 : decode cX1_performed 101 = .ok (.iload 4, 2) := by decide +kernel
theorem dX1_performed_103 : decode cX1_performed 103 = .ok (.invokevirtual 126, 3) := by decide +kernel
theorem dX1_performed_106 : decode cX1_performed 106 = .ok (.ireturn, 1) := by decide +kernel
theorem dX1_performed_107 : decode cX1_performed 107 = .ok (.aload_n 0, 1) := by decide +kernel
theorem dX1_performed_108 : decode cX1_performed 108 = .ok (.iload_n 2, 1) := by decide +kernel
theorem dX1_performed_109 : decode cX1_performed 109 = .ok (.iload_n 3, 1) := by decide +kernel
theorem dX1_performed_110 : decode cX1_performed 110 = .ok (.iload 4, 2) := by decide +kernel
theorem dX1_performed_112 : decode cX1_performed 112 = .ok (.invokevirtual 129, 3) := by decide +kernel
theorem dX1_performed_115 : decode cX1_performed 115 = .ok (.ireturn, 1) := by decide +kernel
theorem dX1_performed_116 : decode cX1_performed 116 = .ok (.aload_n 0, 1) := by decide +kernel
theorem dX1_performed_117 : decode cX1_performed 117 = .ok (.iload_n 2, 1) := by decide +kernel
theorem dX1_performed_118 : decode cX1_performed 118 = .ok (.iload 4, 2) := by decide +kernel
theorem dX1_performed_120 : decode cX1_performed 120 = .ok (.invokevirtual 132, 3) := by decide +kernel
theorem dX1_performed_123 : decode cX1_performed 123 = .ok (.ireturn, 1) := by decide +kernel
theorem dX1_performed_124 : decode cX1_performed 124 = .ok (.aload_n 0, 1) := by decide +kernel
theorem dX1_performed_125 : decode cX1_performed 125 = .ok (.iload_n 2, 1) := by decide +kernel
theorem dX1_performed_126 : decode cX1_performed 126 = .ok (.iload_n 3, 1) := by decide +kernel
theorem dX1_performed_127 : decode cX1_performed 127 = .ok (.iload 4, 2) := by decide +kernel
theorem dX1_performed_129 : decode cX1_performed 129 = .ok (.invokevirtual 135, 3) := by decide +kernel
theorem dX1_performed_132 : decode cX1_performed 132 = .ok (.ireturn, 1) := by decide +kernel
set_option maxRecDepth 20000 in
theorem ggX1_refusalToPerform_X1_areSlots : GoodIn wsX1_refusalToPerform wsX1_areSlots := goodIn_r _ [5, 6, 7, 4, 8, 9, 10, 11] (by decide +kernel) (by decide +kernel)
set_option maxRecDepth 20000 in
theorem gX1_refusalToPerform_X1_areSlots : GoodIn wsX1_refusalToPerform (va_wsS RX1 76 yX1_areSlots wsX1_areSlots) := goodIn_app (goodIn_of _ (by decide +kernel)) ggX1_refusalToPerform_X1_areSlots
set_option maxRecDepth 20000 in
theorem ggX1_refusalToPerform_X1_takesTwo : GoodIn wsX1_refusalToPerform wsX1_takesTwo := goodIn_r _ [11] (by decide +kernel) (by decide +kernel)
set_option maxRecDepth 20000 in
theorem gX1_refusalToPerform_X1_takesTwo : GoodIn wsX1_refusalToPerform (va_wsS RX1 96 yX1_takesTwo wsX1_takesTwo) := goodIn_app (goodIn_of _ (by decide +kernel)) ggX1_refusalToPerform_X1_takesTwo
theorem dX1_refusalToPerform_0 : decode cX1_refusalToPerform 0 = .ok (.iload_n 1, 1) := by decide +kernel
theorem dX1_refusalToPerform_1 : decode cX1_refusalToPerform 1 = .ok (.iload_n 2, 1) := by decide +kernel
theorem dX1_refusalToPerform_2 : decode cX1_refusalToPerform 2 = .ok (.iload_n 3, 1) := by decide +kernel
theorem dX1_refusalToPerform_3 : decode cX1_refusalToPerform 3 = .ok (.iload 4, 2) := by decide +kernel
theorem dX1_refusalToPerform_5 : decode cX1_refusalToPerform 5 = .ok (.invokestatic 76, 3) := by decide +kernel
theorem dX1_refusalToPerform_8 : decode cX1_refusalToPerform 8 = .ok (.ifCond .ne 6, 3) := by decide +kernel
theorem dX1_refusalToPerform_11 : decode cX1_refusalToPerform 11 = .ok (.bipush (-2), 2) := by decide +kernel
theorem dX1_refusalToPerform_13 : decode cX1_refusalToPerform 13 = .ok (.ireturn, 1) := by decide +kernel
theorem dX1_refusalToPerform_14 : decode cX1_refusalToPerform 14 = .ok (.aload_n 0, 1) := by decide +kernel
theorem dX1_refusalToPerform_15 : decode cX1_refusalToPerform 15 = .ok (.getfield 9, 3) := by decide +kernel
theorem dX1_refusalToPerform_18 : decode cX1_refusalToPerform 18 = .ok (.iload_n 2, 1) := by decide +kernel
theorem dX1_refusalToPerform_19 : decode cX1_refusalToPerform 19 = .ok (.iaload, 1) := by decide +kernel
theorem dX1_refusalToPerform_20 : decode cX1_refusalToPerform 20 = .ok (.iconst (-1), 1) := by decide +kernel
theorem dX1_refusalToPerform_21 : decode cX1_refusalToPerform 21 = .ok (.if_icmp .ne 6, 3) := by decide +kernel
theorem dX1_refusalToPerform_24 : decode cX1_refusalToPerform 24 = .ok (.bipush (-3), 2) := by decide +kernel
theorem dX1_refusalToPerform_26 : decode cX1_refusalToPerform 26 = .ok (.ireturn, 1) := by decide +kernel
theorem dX1_refusalToPerform_27 : decode cX1_refusalToPerform 27 = .ok (.iload_n 1, 1) := by decide +kernel
theorem dX1_refusalToPerform_28 : decode cX1_refusalToPerform 28 = .ok (.invokestatic 96, 3) := by decide +kernel
theorem dX1_refusalToPerform_31 : decode cX1_refusalToPerform 31 = .ok (.ifCond .ne 5, 3) := by decide +kernel
theorem dX1_refusalToPerform_34 : decode cX1_refusalToPerform 34 = .ok (.iconst 0, 1) := by decide +kernel
theorem dX1_refusalToPerform_35 : decode cX1_refusalToPerform 35 = .ok (.ireturn, 1) := by decide +kernel
theorem dX1_refusalToPerform_36 : decode cX1_refusalToPerform 36 = .ok (.aload_n 0, 1) := by decide +kernel
theorem dX1_refusalToPerform_37 : decode cX1_refusalToPerform 37 = .ok (.getfield 9, 3) := by decide +kernel
theorem dX1_refusalToPerform_40 : decode cX1_refusalToPerform 40 = .ok (.iload_n 3, 1) := by decide +kernel
theorem dX1_refusalToPerform_41 : decode cX1_refusalToPerform 41 = .ok (.iaload, 1) := by decide +kernel
theorem dX1_refusalToPerform_42 : decode cX1_refusalToPerform 42 = .ok (.iconst (-1), 1) := by decide +kernel
theorem dX1_refusalToPerform_43 : decode cX1_refusalToPerform 43 = .ok (.if_icmp .ne 6, 3) := by decide +kernel
theorem dX1_refusalToPerform_46 : decode cX1_refusalToPerform 46 = .ok (.bipush (-3), 2) := by decide +kernel
theorem dX1_refusalToPerform_48 : decode cX1_refusalToPerform 48 = .ok (.ireturn, 1) := by decide +kernel
theorem dX1_refusalToPerform_49 : decode cX1_refusalToPerform 49 = .ok (.aload_n 0, 1) := by decide +kernel
theorem dX1_refusalToPerform_50 : decode cX1_refusalToPerform 50 = .ok (.getfield 9, 3) := by decide +kernel
theorem dX1_refusalToPerform_53 : decode cX1_refusalToPerform 53 = .ok (.iload_n 2, 1) := by decide +kernel
theorem dX1_refusalToPerform_54 : decode cX1_refusalToPerform 54 = .ok (.iaload, 1) := by decide +kernel
theorem dX1_refusalToPerform_55 : decode cX1_refusalToPerform 55 = .ok (.aload_n 0, 1) := by decide +kernel
theorem dX1_refusalToPerform_56 : decode cX1_refusalToPerform 56 = .ok (.getfield 9, 3) := by decide +kernel
theorem dX1_refusalToPerform_59 : decode cX1_refusalToPerform 59 = .ok (.iload_n 3, 1) := by decide +kernel
theorem dX1_refusalToPerform_60 : decode cX1_refusalToPerform 60 = .ok (.iaload, 1) := by decide +kernel
theorem dX1_refusalToPerform_61 : decode cX1_refusalToPerform 61 = .ok (.if_icmp .ne 7, 3) := by decide +kernel
theorem dX1_refusalToPerform_64 : decode cX1_refusalToPerform 64 = .ok (.iconst 0, 1) := by decide +kernel
theorem dX1_refusalToPerform_65 : decode cX1_refusalToPerform 65 = .ok (.goto 5, 3) := by decide +kernel
theorem dX1_refusalToPerform_68 : decode cX1_refusalToPerform 68 = .ok (.bipush (-4), 2) := by decide +kernel
theorem dX1_refusalToPerform_70 : decode cX1_refusalToPerform 70 = .ok (.ireturn, 1) := by decide +kernel
set_option maxRecDepth 20000 in
theorem ggX1_joined_X0_lesser : GoodIn wsX1_joined wsX0_lesser := goodIn_r _ [7, 8, 9, 6, 10, 11, 12, 13, 14, 15, 16, 17] (by decide +kernel) (by decide +kernel)
set_option maxRecDepth 20000 in
theorem gX1_joined_X0_lesser : GoodIn wsX1_joined (va_wsS RX1 69 yX0_lesser wsX0_lesser) := goodIn_app (goodIn_of _ (by decide +kernel)) ggX1_joined_X0_lesser
set_option maxRecDepth 20000 in
theorem ggX1_joined_X0_greater : GoodIn wsX1_joined wsX0_greater := goodIn_r _ [20, 8, 9, 6, 10, 11, 12, 13, 14, 15, 16, 17] (by decide +kernel) (by decide +kernel)
set_option maxRecDepth 20000 in
theorem gX1_joined_X0_greater : GoodIn wsX1_joined (va_wsS RX1 65 yX0_greater wsX0_greater) := goodIn_app (goodIn_of _ (by decide +kernel)) ggX1_joined_X0_greater
set_option maxRecDepth 20000 in
theorem ggX1_joined_X1_put : GoodIn wsX1_joined wsX1_put := goodIn_r _ [25, 1, 2, 3, 26, 27, 28, 29, 30, 31, 32, 33, 34, 35, 36] (by decide +kernel) (by decide +kernel)
set_option maxRecDepth 20000 in
theorem gX1_joined_X1_put : GoodIn wsX1_joined (wsV RX1 106 RX1 yX1_put wsX1_put) := goodIn_app (goodIn_of _ (by decide +kernel)) ggX1_joined_X1_put
theorem dX1_joined_0 : decode cX1_joined 0 = .ok (.aload_n 0, 1) := by decide +kernel
theorem dX1_joined_1 : decode cX1_joined 1 = .ok (.getfield 9, 3) := by decide +kernel
theorem dX1_joined_4 : decode cX1_joined 4 = .ok (.iload_n 1, 1) := by decide +kernel
theorem dX1_joined_5 : decode cX1_joined 5 = .ok (.iaload, 1) := by decide +kernel
theorem dX1_joined_6 : decode cX1_joined 6 = .ok (.istore 4, 2) := by decide +kernel
theorem dX1_joined_8 : decode cX1_joined 8 = .ok (.iload 4, 2) := by decide +kernel
theorem dX1_joined_10 : decode cX1_joined 10 = .ok (.aload_n 0, 1) := by decide +kernel
theorem dX1_joined_11 : decode cX1_joined 11 = .ok (.getfield 13, 3) := by decide +kernel
theorem dX1_joined_14 : decode cX1_joined 14 = .ok (.iload_n 1, 1) := by decide +kernel
theorem dX1_joined_15 : decode cX1_joined 15 = .ok (.laload, 1) := by decide +kernel
theorem dX1_joined_16 : decode cX1_joined 16 = .ok (.aload_n 0, 1) := by decide +kernel
theorem dX1_joined_17 : decode cX1_joined 17 = .ok (.getfield 13, 3) := by decide +kernel
theorem dX1_joined_20 : decode cX1_joined 20 = .ok (.iload_n 2, 1) := by decide +kernel
theorem dX1_joined_21 : decode cX1_joined 21 = .ok (.laload, 1) := by decide +kernel
theorem dX1_joined_22 : decode cX1_joined 22 = .ok (.invokestatic 69, 3) := by decide +kernel
theorem dX1_joined_25 : decode cX1_joined 25 = .ok (.lstore 5, 2) := by decide +kernel
theorem dX1_joined_27 : decode cX1_joined 27 = .ok (.iload 4, 2) := by decide +kernel
theorem dX1_joined_29 : decode cX1_joined 29 = .ok (.aload_n 0, 1) := by decide +kernel
theorem dX1_joined_30 : decode cX1_joined 30 = .ok (.getfield 17, 3) := by decide +kernel
theorem dX1_joined_33 : decode cX1_joined 33 = .ok (.iload_n 1, 1) := by decide +kernel
theorem dX1_joined_34 : decode cX1_joined 34 = .ok (.laload, 1) := by decide +kernel
theorem dX1_joined_35 : decode cX1_joined 35 = .ok (.aload_n 0, 1) := by decide +kernel
theorem dX1_joined_36 : decode cX1_joined 36 = .ok (.getfield 17, 3) := by decide +kernel
theorem dX1_joined_39 : decode cX1_joined 39 = .ok (.iload_n 2, 1) := by decide +kernel
theorem dX1_joined_40 : decode cX1_joined 40 = .ok (.laload, 1) := by decide +kernel
theorem dX1_joined_41 : decode cX1_joined 41 = .ok (.invokestatic 65, 3) := by decide +kernel
theorem dX1_joined_44 : decode cX1_joined 44 = .ok (.lstore 7, 2) := by decide +kernel
theorem dX1_joined_46 : decode cX1_joined 46 = .ok (.aload_n 0, 1) := by decide +kernel
theorem dX1_joined_47 : decode cX1_joined 47 = .ok (.iload_n 3, 1) := by decide +kernel
theorem dX1_joined_48 : decode cX1_joined 48 = .ok (.iload 4, 2) := by decide +kernel
theorem dX1_joined_50 : decode cX1_joined 50 = .ok (.lload 5, 2) := by decide +kernel
theorem dX1_joined_52 : decode cX1_joined 52 = .ok (.lload 7, 2) := by decide +kernel
theorem dX1_joined_54 : decode cX1_joined 54 = .ok (.invokevirtual 106, 3) := by decide +kernel
theorem dX1_joined_57 : decode cX1_joined 57 = .ok (.ireturn, 1) := by decide +kernel
set_option maxRecDepth 20000 in
theorem ggX1_cut_X0_greater : GoodIn wsX1_cut wsX0_greater := goodIn_r _ [7, 8, 9, 6, 10, 11, 12, 13, 14, 15, 16, 17] (by decide +kernel) (by decide +kernel)
set_option maxRecDepth 20000 in
theorem gX1_cut_X0_greater : GoodIn wsX1_cut (va_wsS RX1 65 yX0_greater wsX0_greater) := goodIn_app (goodIn_of _ (by decide +kernel)) ggX1_cut_X0_greater
set_option maxRecDepth 20000 in
theorem ggX1_cut_X0_lesser : GoodIn wsX1_cut wsX0_lesser := goodIn_r _ [20, 8, 9, 6, 10, 11, 12, 13, 14, 15, 16, 17] (by decide +kernel) (by decide +kernel)
set_option maxRecDepth 20000 in
theorem gX1_cut_X0_lesser : GoodIn wsX1_cut (va_wsS RX1 69 yX0_lesser wsX0_lesser) := goodIn_app (goodIn_of _ (by decide +kernel)) ggX1_cut_X0_lesser
set_option maxRecDepth 20000 in
theorem ggX1_cut_X1_putIfAny : GoodIn wsX1_cut wsX1_putIfAny := goodIn_r _ [25, 1, 26, 9, 6, 10, 11, 12, 13, 14, 15, 16, 17, 27, 28, 29, 24, 30, 2, 3, 31, 32, 33, 34, 35, 36, 37, 38, 39, 40, 41] (by decide +kernel) (by decide +kernel)
set_option maxRecDepth 20000 in
theorem gX1_cut_X1_putIfAny : GoodIn wsX1_cut (wsV RX1 138 RX1 yX1_putIfAny wsX1_putIfAny) := goodIn_app (goodIn_of _ (by decide +kernel)) ggX1_cut_X1_putIfAny
theorem dX1_cut_0 : decode cX1_cut 0 = .ok (.aload_n 0, 1) := by decide +kernel
theorem dX1_cut_1 : decode cX1_cut 1 = .ok (.getfield 9, 3) := by decide +kernel
theorem dX1_cut_4 : decode cX1_cut 4 = .ok (.iload_n 1, 1) := by decide +kernel
theorem dX1_cut_5 : decode cX1_cut 5 = .ok (.iaload, 1) := by decide +kernel
theorem dX1_cut_6 : decode cX1_cut 6 = .ok (.istore 4, 2) := by decide +kernel
theorem dX1_cut_8 : decode cX1_cut 8 = .ok (.iload 4, 2) := by decide +kernel
theorem dX1_cut_10 : decode cX1_cut 10 = .ok (.aload_n 0, 1) := by decide +kernel
theorem dX1_cut_11 : decode cX1_cut 11 = .ok (.getfield 13, 3) := by decide +kernel
theorem dX1_cut_14 : decode cX1_cut 14 = .ok (.iload_n 1, 1) := by decide +kernel
theorem dX1_cut_15 : decode cX1_cut 15 = .ok (.laload, 1) := by decide +kernel
theorem dX1_cut_16 : decode cX1_cut 16 = .ok (.aload_n 0, 1) := by decide +kernel
theorem dX1_cut_17 : decode cX1_cut 17 = .ok (.getfield 13, 3) := by decide +kernel
theorem dX1_cut_20 : decode cX1_cut 20 = .ok (.iload_n 2, 1) := by decide +kernel
theorem dX1_cut_21 : decode cX1_cut 21 = .ok (.laload, 1) := by decide +kernel
theorem dX1_cut_22 : decode cX1_cut 22 = .ok (.invokestatic 65, 3) := by decide +kernel
theorem dX1_cut_25 : decode cX1_cut 25 = .ok (.lstore 5, 2) := by decide +kernel
theorem dX1_cut_27 : decode cX1_cut 27 = .ok (.iload 4, 2) := by decide +kernel
theorem dX1_cut_29 : decode cX1_cut 29 = .ok (.aload_n 0, 1) := by decide +kernel
theorem dX1_cut_30 : decode cX1_cut 30 = .ok (.getfield 17, 3) := by decide +kernel
theorem dX1_cut_33 : decode cX1_cut 33 = .ok (.iload_n 1, 1) := by decide +kernel
theorem dX1_cut_34 : decode cX1_cut 34 = .ok (.laload, 1) := by decide +kernel
theorem dX1_cut_35 : decode cX1_cut 35 = .ok (.aload_n 0, 1) := by decide +kernel
theorem dX1_cut_36 : decode cX1_cut 36 = .ok (.getfield 17, 3) := by decide +kernel
theorem dX1_cut_39 : decode cX1_cut 39 = .ok (.iload_n 2, 1) := by decide +kernel
theorem dX1_cut_40 : decode cX1_cut 40 = .ok (.laload, 1) := by decide +kernel
theorem dX1_cut_41 : decode cX1_cut 41 = .ok (.invokestatic 69, 3) := by decide +kernel
theorem dX1_cut_44 : decode cX1_cut 44 = .ok (.lstore 7, 2) := by decide +kernel
theorem dX1_cut_46 : decode cX1_cut 46 = .ok (.aload_n 0, 1) := by decide +kernel
theorem dX1_cut_47 : decode cX1_cut 47 = .ok (.iload_n 3, 1) := by decide +kernel
theorem dX1_cut_48 : decode cX1_cut 48 = .ok (.iload 4, 2) := by decide +kernel
theorem dX1_cut_50 : decode cX1_cut 50 = .ok (.lload 5, 2) := by decide +kernel
theorem dX1_cut_52 : decode cX1_cut 52 = .ok (.lload 7, 2) := by decide +kernel
theorem dX1_cut_54 : decode cX1_cut 54 = .ok (.invokevirtual 138, 3) := by decide +kernel
theorem dX1_cut_57 : decode cX1_cut 57 = .ok (.ireturn, 1) := by decide +kernel
set_option maxRecDepth 20000 in
theorem ggX1_sized_X0_sizeOf : GoodIn wsX1_sized wsX0_sizeOf := goodIn_r _ [7, 8, 9, 6, 10, 11, 12, 13, 14, 15, 16, 17, 18, 19, 20, 21] (by decide +kernel) (by decide +kernel)
set_option maxRecDepth 20000 in
theorem gX1_sized_X0_sizeOf : GoodIn wsX1_sized (va_wsS RX1 141 yX0_sizeOf wsX0_sizeOf) := goodIn_app (goodIn_of _ (by decide +kernel)) ggX1_sized_X0_sizeOf
set_option maxRecDepth 20000 in
theorem ggX1_sized_X0_isBelowZero : GoodIn wsX1_sized wsX0_isBelowZero := goodIn_r _ [24, 25, 26, 6, 27, 11, 12, 13, 28, 29, 30, 31, 14, 15, 16, 17, 18] (by decide +kernel) (by decide +kernel)
set_option maxRecDepth 20000 in
theorem gX1_sized_X0_isBelowZero : GoodIn wsX1_sized (va_wsS RX1 144 yX0_isBelowZero wsX0_isBelowZero) := goodIn_app (goodIn_of _ (by decide +kernel)) ggX1_sized_X0_isBelowZero
set_option maxRecDepth 20000 in
theorem ggX1_sized_X0_isAboveZero : GoodIn wsX1_sized wsX0_isAboveZero := goodIn_r _ [34] (by decide +kernel) (by decide +kernel)
set_option maxRecDepth 20000 in
theorem gX1_sized_X0_isAboveZero : GoodIn wsX1_sized (va_wsS RX1 147 yX0_isAboveZero wsX0_isAboveZero) := goodIn_app (goodIn_of _ (by decide +kernel)) ggX1_sized_X0_isAboveZero
set_option maxRecDepth 20000 in
theorem ggX1_sized_X0_greater : GoodIn wsX1_sized wsX0_greater := goodIn_r _ [37, 38, 39, 6, 40, 11, 12, 13, 41, 42, 43, 44] (by decide +kernel) (by decide +kernel)
set_option maxRecDepth 20000 in
theorem gX1_sized_X0_greater : GoodIn wsX1_sized (va_wsS RX1 65 yX0_greater wsX0_greater) := goodIn_app (goodIn_of _ (by decide +kernel)) ggX1_sized_X0_greater
set_option maxRecDepth 20000 in
theorem ggX1_sized_X1_putOrdered : GoodIn wsX1_sized wsX1_putOrdered := goodIn_r _ [49, 50, 51, 6, 52, 38, 39, 40, 11, 12, 13, 41, 42, 43, 44, 35, 36, 37, 53, 54, 55, 48, 56, 1, 2, 3, 57, 58, 59, 60, 61, 62, 63, 64, 65, 66, 67] (by decide +kernel) (by decide +kernel)
set_option maxRecDepth 20000 in
theorem gX1_sized_X1_putOrdered : GoodIn wsX1_sized (wsV RX1 151 RX1 yX1_putOrdered wsX1_putOrdered) := goodIn_app (goodIn_of _ (by decide +kernel)) ggX1_sized_X1_putOrdered
theorem dX1_sized_0 : decode cX1_sized 0 = .ok (.aload_n 0, 1) := by decide +kernel
theorem dX1_sized_1 : decode cX1_sized 1 = .ok (.getfield 9, 3) := by decide +kernel
theorem dX1_sized_4 : decode cX1_sized 4 = .ok (.iload_n 1, 1) := by decide +kernel
theorem dX1_sized_5 : decode cX1_sized 5 = .ok (.iaload, 1) := by decide +kernel
theorem dX1_sized_6 : decode cX1_sized 6 = .ok (.istore_n 3, 1) := by decide +kernel
theorem dX1_sized_7 : decode cX1_sized 7 = .ok (.iload_n 3, 1) := by decide +kernel
theorem dX1_sized_8 : decode cX1_sized 8 = .ok (.aload_n 0, 1) := by decide +kernel
theorem dX1_sized_9 : decode cX1_sized 9 = .ok (.getfield 13, 3) := by decide +kernel
theorem dX1_sized_12 : decode cX1_sized 12 = .ok (.iload_n 1, 1) := by decide +kernel
theorem dX1_sized_13 : decode cX1_sized 13 = .ok (.laload, 1) := by decide +kernel
theorem dX1_sized_14 : decode cX1_sized 14 = .ok (.invokestatic 141, 3) := by decide +kernel
theorem dX1_sized_17 : decode cX1_sized 17 = .ok (.lstore 4, 2) := by decide +kernel
theorem dX1_sized_19 : decode cX1_sized 19 = .ok (.iload_n 3, 1) := by decide +kernel
theorem dX1_sized_20 : decode cX1_sized 20 = .ok (.aload_n 0, 1) := by decide +kernel
theorem dX1_sized_21 : decode cX1_sized 21 = .ok (.getfield 17, 3) := by decide +kernel
theorem dX1_sized_24 : decode cX1_sized 24 = .ok (.iload_n 1, 1) := by decide +kernel
theorem dX1_sized_25 : decode cX1_sized 25 = .ok (.laload, 1) := by decide +kernel
theorem dX1_sized_26 : decode cX1_sized 26 = .ok (.invokestatic 141, 3) := by decide +kernel
theorem dX1_sized_29 : decode cX1_sized 29 = .ok (.lstore 6, 2) := by decide +kernel
theorem dX1_sized_31 : decode cX1_sized 31 = .ok (.iload_n 3, 1) := by decide +kernel
theorem dX1_sized_32 : decode cX1_sized 32 = .ok (.aload_n 0, 1) := by decide +kernel
theorem dX1_sized_33 : decode cX1_sized 33 = .ok (.getfield 13, 3) := by decide +kernel
theorem dX1_sized_36 : decode cX1_sized 36 = .ok (.iload_n 1, 1) := by decide +kernel
theorem dX1_sized_37 : decode cX1_sized 37 = .ok (.laload, 1) := by decide +kernel
theorem dX1_sized_38 : decode cX1_sized 38 = .ok (.invokestatic 144, 3) := by decide +kernel
theorem dX1_sized_41 : decode cX1_sized 41 = .ok (.ifCond .eq 31, 3) := by decide +kernel
theorem dX1_sized_44 : decode cX1_sized 44 = .ok (.aload_n 0, 1) := by decide +kernel
theorem dX1_sized_45 : decode cX1_sized 45 = .ok (.getfield 17, 3) := by decide +kernel
theorem dX1_sized_48 : decode cX1_sized 48 = .ok (.iload_n 1, 1) := by decide +kernel
theorem dX1_sized_49 : decode cX1_sized 49 = .ok (.laload, 1) := by decide +kernel
theorem dX1_sized_50 : decode cX1_sized 50 = .ok (.invokestatic 147, 3) := by decide +kernel
theorem dX1_sized_53 : decode cX1_sized 53 = .ok (.ifCond .eq 19, 3) := by decide +kernel
theorem dX1_sized_56 : decode cX1_sized 56 = .ok (.aload_n 0, 1) := by decide +kernel
theorem dX1_sized_57 : decode cX1_sized 57 = .ok (.iload_n 2, 1) := by decide +kernel
theorem dX1_sized_58 : decode cX1_sized 58 = .ok (.iload_n 3, 1) := by decide +kernel
theorem dX1_sized_59 : decode cX1_sized 59 = .ok (.lconst 0, 1) := by decide +kernel
theorem dX1_sized_60 : decode cX1_sized 60 = .ok (.iload_n 3, 1) := by decide +kernel
theorem dX1_sized_61 : decode cX1_sized 61 = .ok (.lload 4, 2) := by decide +kernel
theorem dX1_sized_63 : decode cX1_sized 63 = .ok (.lload 6, 2) := by decide +kernel
theorem dX1_sized_65 : decode cX1_sized 65 = .ok (.invokestatic 65, 3) := by decide +kernel
theorem dX1_sized_68 : decode cX1_sized 68 = .ok (.invokevirtual 151, 3) := by decide +kernel
theorem dX1_sized_71 : decode cX1_sized 71 = .ok (.ireturn, 1) := by decide +kernel
theorem dX1_sized_72 : decode cX1_sized 72 = .ok (.aload_n 0, 1) := by decide +kernel
theorem dX1_sized_73 : decode cX1_sized 73 = .ok (.iload_n 2, 1) := by decide +kernel
theorem dX1_sized_74 : decode cX1_sized 74 = .ok (.iload_n 3, 1) := by decide +kernel
theorem dX1_sized_75 : decode cX1_sized 75 = .ok (.lload 4, 2) := by decide +kernel
theorem dX1_sized_77 : decode cX1_sized 77 = .ok (.lload 6, 2) := by decide +kernel
theorem dX1_sized_79 : decode cX1_sized 79 = .ok (.invokevirtual 151, 3) := by decide +kernel
theorem dX1_sized_82 : decode cX1_sized 82 = .ok (.ireturn, 1) := by decide +kernel
set_option maxRecDepth 20000 in
theorem ggX1_rounded_X0_isBroken : GoodIn wsX1_rounded wsX0_isBroken := goodIn_r _ [7] (by decide +kernel) (by decide +kernel)
set_option maxRecDepth 20000 in
theorem gX1_rounded_X0_isBroken : GoodIn wsX1_rounded (va_wsS RX1 154 yX0_isBroken wsX0_isBroken) := goodIn_app (goodIn_of _ (by decide +kernel)) ggX1_rounded_X0_isBroken
set_option maxRecDepth 20000 in
theorem ggX1_rounded_X0_whole : GoodIn wsX1_rounded wsX0_whole := goodIn_r _ [10, 11, 12, 6, 13, 14, 15, 16, 17, 18, 19, 20, 21, 22, 23, 24, 25, 26, 27, 28, 29, 30, 31, 32, 33, 34, 35, 36, 37, 38, 39, 40, 41, 42, 43] (by decide +kernel) (by decide +kernel)
set_option maxRecDepth 20000 in
theorem gX1_rounded_X0_whole : GoodIn wsX1_rounded (va_wsS RX1 157 yX0_whole wsX0_whole) := goodIn_app (goodIn_of _ (by decide +kernel)) ggX1_rounded_X0_whole
set_option maxRecDepth 20000 in
theorem ggX1_rounded_X1_putIfAny : GoodIn wsX1_rounded wsX1_putIfAny := goodIn_r _ [48, 1, 49, 50, 6, 51, 52, 5, 7, 53, 54, 55, 56, 57, 58, 59, 47, 60, 2, 3, 61, 62, 63, 64, 65, 66, 67, 68, 69, 70, 71] (by decide +kernel) (by decide +kernel)
set_option maxRecDepth 20000 in
theorem gX1_rounded_X1_putIfAny : GoodIn wsX1_rounded (wsV RX1 138 RX1 yX1_putIfAny wsX1_putIfAny) := goodIn_app (goodIn_of _ (by decide +kernel)) ggX1_rounded_X1_putIfAny
theorem dX1_rounded_0 : decode cX1_rounded 0 = .ok (.aload_n 0, 1) := by decide +kernel
theorem dX1_rounded_1 : decode cX1_rounded 1 = .ok (.getfield 9, 3) := by decide +kernel
theorem dX1_rounded_4 : decode cX1_rounded 4 = .ok (.iload_n 1, 1) := by decide +kernel
theorem dX1_rounded_5 : decode cX1_rounded 5 = .ok (.iaload, 1) := by decide +kernel
theorem dX1_rounded_6 : decode cX1_rounded 6 = .ok (.istore 4, 2) := by decide +kernel
theorem dX1_rounded_8 : decode cX1_rounded 8 = .ok (.iload 4, 2) := by decide +kernel
theorem dX1_rounded_10 : decode cX1_rounded 10 = .ok (.invokestatic 154, 3) := by decide +kernel
theorem dX1_rounded_13 : decode cX1_rounded 13 = .ok (.ifCond .ne 6, 3) := by decide +kernel
theorem dX1_rounded_16 : decode cX1_rounded 16 = .ok (.bipush (-4), 2) := by decide +kernel
theorem dX1_rounded_18 : decode cX1_rounded 18 = .ok (.ireturn, 1) := by decide +kernel
theorem dX1_rounded_19 : decode cX1_rounded 19 = .ok (.iload_n 2, 1) := by decide +kernel
theorem dX1_rounded_20 : decode cX1_rounded 20 = .ok (.ifCond .lt 8, 3) := by decide +kernel
theorem dX1_rounded_23 : decode cX1_rounded 23 = .ok (.iload_n 2, 1) := by decide +kernel
theorem dX1_rounded_24 : decode cX1_rounded 24 = .ok (.iconst 4, 1) := by decide +kernel
theorem dX1_rounded_25 : decode cX1_rounded 25 = .ok (.if_icmp .le 6, 3) := by decide +kernel
theorem dX1_rounded_28 : decode cX1_rounded 28 = .ok (.bipush (-5), 2) := by decide +kernel
theorem dX1_rounded_30 : decode cX1_rounded 30 = .ok (.ireturn, 1) := by decide +kernel
theorem dX1_rounded_31 : decode cX1_rounded 31 = .ok (.iload_n 2, 1) := by decide +kernel
theorem dX1_rounded_32 : decode cX1_rounded 32 = .ok (.istore 5, 2) := by decide +kernel
theorem dX1_rounded_34 : decode cX1_rounded 34 = .ok (.iload_n 2, 1) := by decide +kernel
theorem dX1_rounded_35 : decode cX1_rounded 35 = .ok (.istore 6, 2) := by decide +kernel
theorem dX1_rounded_37 : decode cX1_rounded 37 = .ok (.iload_n 2, 1) := by decide +kernel
theorem dX1_rounded_38 : decode cX1_rounded 38 = .ok (.iconst 3, 1) := by decide +kernel
theorem dX1_rounded_39 : decode cX1_rounded 39 = .ok (.if_icmp .ne 9, 3) := by decide +kernel
theorem dX1_rounded_42 : decode cX1_rounded 42 = .ok (.iconst 0, 1) := by decide +kernel
theorem dX1_rounded_43 : decode cX1_rounded 43 = .ok (.istore 5, 2) := by decide +kernel
theorem dX1_rounded_45 : decode cX1_rounded 45 = .ok (.iconst 1, 1) := by decide +kernel
theorem dX1_rounded_46 : decode cX1_rounded 46 = .ok (.istore 6, 2) := by decide +kernel
theorem dX1_rounded_48 : decode cX1_rounded 48 = .ok (.iload_n 2, 1) := by decide +kernel
theorem dX1_rounded_49 : decode cX1_rounded 49 = .ok (.iconst 4, 1) := by decide +kernel
theorem dX1_rounded_50 : decode cX1_rounded 50 = .ok (.if_icmp .ne 9, 3) := by decide +kernel
theorem dX1_rounded_53 : decode cX1_rounded 53 = .ok (.iconst 1, 1) := by decide +kernel
theorem dX1_rounded_54 : decode cX1_rounded 54 = .ok (.istore 5, 2) := by decide +kernel
theorem dX1_rounded_56 : decode cX1_rounded 56 = .ok (.iconst 0, 1) := by decide +kernel
theorem dX1_rounded_57 : decode cX1_rounded 57 = .ok (.istore 6, 2) := by decide +kernel
theorem dX1_rounded_59 : decode cX1_rounded 59 = .ok (.aload_n 0, 1) := by decide +kernel
theorem dX1_rounded_60 : decode cX1_rounded 60 = .ok (.iload_n 3, 1) := by decide +kernel
theorem dX1_rounded_61 : decode cX1_rounded 61 = .ok (.iload 4, 2) := by decide +kernel
theorem dX1_rounded_63 : decode cX1_rounded 63 = .ok (.iload 4, 2) := by decide +kernel
theorem dX1_rounded_65 : decode cX1_rounded 65 = .ok (.aload_n 0, 1) := by decide +kernel
theorem dX1_rounded_66 : decode cX1_rounded 66 = .ok (.getfield 13, 3) := by decide +kernel
theorem dX1_rounded_69 : decode cX1_rounded 69 = .ok (.iload_n 1, 1) := by decide +kernel
theorem dX1_rounded_70 : decode cX1_rounded 70 = .ok (.laload, 1) := by decide +kernel
theorem dX1_rounded_71 : decode cX1_rounded 71 = .ok (.iload 5, 2) := by decide +kernel
theorem dX1_rounded_73 : decode cX1_rounded 73 = .ok (.invokestatic 157, 3) := by decide +kernel
theorem dX1_rounded_76 : decode cX1_rounded 76 = .ok (.iload 4, 2) := by decide +kernel
theorem dX1_rounded_78 : decode cX1_rounded 78 = .ok (.aload_n 0, 1) := by decide +kernel
theorem dX1_rounded_79 : decode cX1_rounded 79 = .ok (.getfield 17, 3) := by decide +kernel
theorem dX1_rounded_82 : decode cX1_rounded 82 = .ok (.iload_n 1, 1) := by decide +kernel
theorem dX1_rounded_83 : decode cX1_rounded 83 = .ok (.laload, 1) := by decide +kernel
theorem dX1_rounded_84 : decode cX1_rounded 84 = .ok (.iload 6, 2) := by decide +kernel
theorem dX1_rounded_86 : decode cX1_rounded 86 = .ok (.invokestatic 157, 3) := by decide +kernel
theorem dX1_rounded_89 : decode cX1_rounded 89 = .ok (.invokevirtual 138, 3) := by decide +kernel
theorem dX1_rounded_92 : decode cX1_rounded 92 = .ok (.ireturn, 1) := by decide +kernel
set_option maxRecDepth 20000 in
theorem ggX1_signed_X0_isBroken : GoodIn wsX1_signed wsX0_isBroken := goodIn_r _ [7] (by decide +kernel) (by decide +kernel)
set_option maxRecDepth 20000 in
theorem gX1_signed_X0_isBroken : GoodIn wsX1_signed (va_wsS RX1 154 yX0_isBroken wsX0_isBroken) := goodIn_app (goodIn_of _ (by decide +kernel)) ggX1_signed_X0_isBroken
set_option maxRecDepth 20000 in
theorem ggX1_signed_X0_signOf : GoodIn wsX1_signed wsX0_signOf := goodIn_r _ [10, 11, 12, 6, 13, 14, 5, 7, 15, 16, 17, 18, 19, 20, 21, 22, 23, 24, 25, 26, 27, 28, 29, 30, 31, 32, 33, 34, 35] (by decide +kernel) (by decide +kernel)
set_option maxRecDepth 20000 in
theorem gX1_signed_X0_signOf : GoodIn wsX1_signed (va_wsS RX1 161 yX0_signOf wsX0_signOf) := goodIn_app (goodIn_of _ (by decide +kernel)) ggX1_signed_X0_signOf
set_option maxRecDepth 20000 in
theorem ggX1_signed_X1_put : GoodIn wsX1_signed wsX1_put := goodIn_r _ [40, 1, 2, 3, 41, 42, 43, 44, 45, 46, 47, 48, 49, 50, 51] (by decide +kernel) (by decide +kernel)
set_option maxRecDepth 20000 in
theorem gX1_signed_X1_put : GoodIn wsX1_signed (wsV RX1 106 RX1 yX1_put wsX1_put) := goodIn_app (goodIn_of _ (by decide +kernel)) ggX1_signed_X1_put
theorem dX1_signed_0 : decode cX1_signed 0 = .ok (.aload_n 0, 1) := by decide +kernel
theorem dX1_signed_1 : decode cX1_signed 1 = .ok (.getfield 9, 3) := by decide +kernel
theorem dX1_signed_4 : decode cX1_signed 4 = .ok (.iload_n 1, 1) := by decide +kernel
theorem dX1_signed_5 : decode cX1_signed 5 = .ok (.iaload, 1) := by decide +kernel
theorem dX1_signed_6 : decode cX1_signed 6 = .ok (.istore_n 3, 1) := by decide +kernel
theorem dX1_signed_7 : decode cX1_signed 7 = .ok (.iload_n 3, 1) := by decide +kernel
theorem dX1_signed_8 : decode cX1_signed 8 = .ok (.invokestatic 154, 3) := by decide +kernel
theorem dX1_signed_11 : decode cX1_signed 11 = .ok (.ifCond .ne 6, 3) := by decide +kernel
theorem dX1_signed_14 : decode cX1_signed 14 = .ok (.bipush (-4), 2) := by decide +kernel
theorem dX1_signed_16 : decode cX1_signed 16 = .ok (.ireturn, 1) := by decide +kernel
theorem dX1_signed_17 : decode cX1_signed 17 = .ok (.aload_n 0, 1) := by decide +kernel
theorem dX1_signed_18 : decode cX1_signed 18 = .ok (.iload_n 2, 1) := by decide +kernel
theorem dX1_signed_19 : decode cX1_signed 19 = .ok (.iload_n 3, 1) := by decide +kernel
theorem dX1_signed_20 : decode cX1_signed 20 = .ok (.iload_n 3, 1) := by decide +kernel
theorem dX1_signed_21 : decode cX1_signed 21 = .ok (.aload_n 0, 1) := by decide +kernel
theorem dX1_signed_22 : decode cX1_signed 22 = .ok (.getfield 13, 3) := by decide +kernel
theorem dX1_signed_25 : decode cX1_signed 25 = .ok (.iload_n 1, 1) := by decide +kernel
theorem dX1_signed_26 : decode cX1_signed 26 = .ok (.laload, 1) := by decide +kernel
theorem dX1_signed_27 : decode cX1_signed 27 = .ok (.invokestatic 161, 3) := by decide +kernel
theorem dX1_signed_30 : decode cX1_signed 30 = .ok (.iload_n 3, 1) := by decide +kernel
theorem dX1_signed_31 : decode cX1_signed 31 = .ok (.aload_n 0, 1) := by decide +kernel
theorem dX1_signed_32 : decode cX1_signed 32 = .ok (.getfield 17, 3) := by decide +kernel
theorem dX1_signed_35 : decode cX1_signed 35 = .ok (.iload_n 1, 1) := by decide +kernel
theorem dX1_signed_36 : decode cX1_signed 36 = .ok (.laload, 1) := by decide +kernel
theorem dX1_signed_37 : decode cX1_signed 37 = .ok (.invokestatic 161, 3) := by decide +kernel
theorem dX1_signed_40 : decode cX1_signed 40 = .ok (.invokevirtual 106, 3) := by decide +kernel
theorem dX1_signed_43 : decode cX1_signed 43 = .ok (.ireturn, 1) := by decide +kernel
set_option maxRecDepth 20000 in
theorem ggX1_lent_X0_isBroken : GoodIn wsX1_lent wsX0_isBroken := goodIn_r _ [7] (by decide +kernel) (by decide +kernel)
set_option maxRecDepth 20000 in
theorem gX1_lent_X0_isBroken : GoodIn wsX1_lent (va_wsS RX1 154 yX0_isBroken wsX0_isBroken) := goodIn_app (goodIn_of _ (by decide +kernel)) ggX1_lent_X0_isBroken
set_option maxRecDepth 20000 in
theorem ggX1_lent_X0_withSign : GoodIn wsX1_lent wsX0_withSign := goodIn_r _ [10, 11, 12, 6, 13, 14, 15, 16, 17, 18, 19] (by decide +kernel) (by decide +kernel)
set_option maxRecDepth 20000 in
theorem gX1_lent_X0_withSign : GoodIn wsX1_lent (va_wsS RX1 164 yX0_withSign wsX0_withSign) := goodIn_app (goodIn_of _ (by decide +kernel)) ggX1_lent_X0_withSign
set_option maxRecDepth 20000 in
theorem ggX1_lent_X1_putOrdered : GoodIn wsX1_lent wsX1_putOrdered := goodIn_r _ [24, 25, 26, 6, 27, 28, 29, 30, 31, 5, 7, 32, 33, 34, 35, 36, 37, 38, 39, 40, 41, 23, 42, 1, 2, 3, 43, 44, 45, 46, 47, 48, 49, 50, 51, 52, 53] (by decide +kernel) (by decide +kernel)
set_option maxRecDepth 20000 in
theorem gX1_lent_X1_putOrdered : GoodIn wsX1_lent (wsV RX1 151 RX1 yX1_putOrdered wsX1_putOrdered) := goodIn_app (goodIn_of _ (by decide +kernel)) ggX1_lent_X1_putOrdered
theorem dX1_lent_0 : decode cX1_lent 0 = .ok (.aload_n 0, 1) := by decide +kernel
theorem dX1_lent_1 : decode cX1_lent 1 = .ok (.getfield 9, 3) := by decide +kernel
theorem dX1_lent_4 : decode cX1_lent 4 = .ok (.iload_n 1, 1) := by decide +kernel
theorem dX1_lent_5 : decode cX1_lent 5 = .ok (.iaload, 1) := by decide +kernel
theorem dX1_lent_6 : decode cX1_lent 6 = .ok (.istore 4, 2) := by decide +kernel
theorem dX1_lent_8 : decode cX1_lent 8 = .ok (.iload 4, 2) := by decide +kernel
theorem dX1_lent_10 : decode cX1_lent 10 = .ok (.invokestatic 154, 3) := by decide +kernel
theorem dX1_lent_13 : decode cX1_lent 13 = .ok (.ifCond .ne 6, 3) := by decide +kernel
theorem dX1_lent_16 : decode cX1_lent 16 = .ok (.bipush (-4), 2) := by decide +kernel
theorem dX1_lent_18 : decode cX1_lent 18 = .ok (.ireturn, 1) := by decide +kernel
theorem dX1_lent_19 : decode cX1_lent 19 = .ok (.iload 4, 2) := by decide +kernel
theorem dX1_lent_21 : decode cX1_lent 21 = .ok (.aload_n 0, 1) := by decide +kernel
theorem dX1_lent_22 : decode cX1_lent 22 = .ok (.getfield 13, 3) := by decide +kernel
theorem dX1_lent_25 : decode cX1_lent 25 = .ok (.iload_n 1, 1) := by decide +kernel
theorem dX1_lent_26 : decode cX1_lent 26 = .ok (.laload, 1) := by decide +kernel
theorem dX1_lent_27 : decode cX1_lent 27 = .ok (.aload_n 0, 1) := by decide +kernel
theorem dX1_lent_28 : decode cX1_lent 28 = .ok (.getfield 13, 3) := by decide +kernel
theorem dX1_lent_31 : decode cX1_lent 31 = .ok (.iload_n 2, 1) := by decide +kernel
theorem dX1_lent_32 : decode cX1_lent 32 = .ok (.laload, 1) := by decide +kernel
theorem dX1_lent_33 : decode cX1_lent 33 = .ok (.invokestatic 164, 3) := by decide +kernel
theorem dX1_lent_36 : decode cX1_lent 36 = .ok (.lstore 5, 2) := by decide +kernel
theorem dX1_lent_38 : decode cX1_lent 38 = .ok (.iload 4, 2) := by decide +kernel
theorem dX1_lent_40 : decode cX1_lent 40 = .ok (.aload_n 0, 1) := by decide +kernel
theorem dX1_lent_41 : decode cX1_lent 41 = .ok (.getfield 17, 3) := by decide +kernel
theorem dX1_lent_44 : decode cX1_lent 44 = .ok (.iload_n 1, 1) := by decide +kernel
theorem dX1_lent_45 : decode cX1_lent 45 = .ok (.laload, 1) := by decide +kernel
theorem dX1_lent_46 : decode cX1_lent 46 = .ok (.aload_n 0, 1) := by decide +kernel
theorem dX1_lent_47 : decode cX1_lent 47 = .ok (.getfield 17, 3) := by decide +kernel
theorem dX1_lent_50 : decode cX1_lent 50 = .ok (.iload_n 2, 1) := by decide +kernel
theorem dX1_lent_51 : decode cX1_lent 51 = .ok (.laload, 1) := by decide +kernel
theorem dX1_lent_52 : decode cX1_lent 52 = .ok (.invokestatic 164, 3) := by decide +kernel
theorem dX1_lent_55 : decode cX1_lent 55 = .ok (.lstore 7, 2) := by decide +kernel
theorem dX1_lent_57 : decode cX1_lent 57 = .ok (.aload_n 0, 1) := by decide +kernel
theorem dX1_lent_58 : decode cX1_lent 58 = .ok (.iload_n 3, 1) := by decide +kernel
theorem dX1_lent_59 : decode cX1_lent 59 = .ok (.iload 4, 2) := by decide +kernel
theorem dX1_lent_61 : decode cX1_lent 61 = .ok (.lload 5, 2) := by decide +kernel
theorem dX1_lent_63 : decode cX1_lent 63 = .ok (.lload 7, 2) := by decide +kernel
theorem dX1_lent_65 : decode cX1_lent 65 = .ok (.invokevirtual 151, 3) := by decide +kernel
theorem dX1_lent_68 : decode cX1_lent 68 = .ok (.ireturn, 1) := by decide +kernel
set_option maxRecDepth 20000 in
theorem ggX1_turned_X0_negated : GoodIn wsX1_turned wsX0_negated := goodIn_r _ [7, 8, 9, 6, 10, 11, 12, 13, 14, 15, 16, 17, 18] (by decide +kernel) (by decide +kernel)
set_option maxRecDepth 20000 in
theorem gX1_turned_X0_negated : GoodIn wsX1_turned (va_wsS RX1 167 yX0_negated wsX0_negated) := goodIn_app (goodIn_of _ (by decide +kernel)) ggX1_turned_X0_negated
set_option maxRecDepth 20000 in
theorem ggX1_turned_X1_putOrdered : GoodIn wsX1_turned wsX1_putOrdered := goodIn_r _ [23, 24, 25, 6, 26, 27, 28, 29, 8, 9, 10, 30, 31, 32, 33, 34, 35, 36, 37, 38, 39, 22, 40, 1, 2, 3, 41, 42, 43, 44, 45, 46, 47, 48, 49, 50, 51] (by decide +kernel) (by decide +kernel)
set_option maxRecDepth 20000 in
theorem gX1_turned_X1_putOrdered : GoodIn wsX1_turned (wsV RX1 151 RX1 yX1_putOrdered wsX1_putOrdered) := goodIn_app (goodIn_of _ (by decide +kernel)) ggX1_turned_X1_putOrdered
theorem dX1_turned_0 : decode cX1_turned 0 = .ok (.aload_n 0, 1) := by decide +kernel
theorem dX1_turned_1 : decode cX1_turned 1 = .ok (.getfield 9, 3) := by decide +kernel
theorem dX1_turned_4 : decode cX1_turned 4 = .ok (.iload_n 1, 1) := by decide +kernel
theorem dX1_turned_5 : decode cX1_turned 5 = .ok (.iaload, 1) := by decide +kernel
theorem dX1_turned_6 : decode cX1_turned 6 = .ok (.istore_n 3, 1) := by decide +kernel
theorem dX1_turned_7 : decode cX1_turned 7 = .ok (.aload_n 0, 1) := by decide +kernel
theorem dX1_turned_8 : decode cX1_turned 8 = .ok (.iload_n 2, 1) := by decide +kernel
theorem dX1_turned_9 : decode cX1_turned 9 = .ok (.iload_n 3, 1) := by decide +kernel
theorem dX1_turned_10 : decode cX1_turned 10 = .ok (.iload_n 3, 1) := by decide +kernel
theorem dX1_turned_11 : decode cX1_turned 11 = .ok (.aload_n 0, 1) := by decide +kernel
theorem dX1_turned_12 : decode cX1_turned 12 = .ok (.getfield 13, 3) := by decide +kernel
theorem dX1_turned_15 : decode cX1_turned 15 = .ok (.iload_n 1, 1) := by decide +kernel
theorem dX1_turned_16 : decode cX1_turned 16 = .ok (.laload, 1) := by decide +kernel
theorem dX1_turned_17 : decode cX1_turned 17 = .ok (.invokestatic 167, 3) := by decide +kernel
theorem dX1_turned_20 : decode cX1_turned 20 = .ok (.iload_n 3, 1) := by decide +kernel
theorem dX1_turned_21 : decode cX1_turned 21 = .ok (.aload_n 0, 1) := by decide +kernel
theorem dX1_turned_22 : decode cX1_turned 22 = .ok (.getfield 17, 3) := by decide +kernel
theorem dX1_turned_25 : decode cX1_turned 25 = .ok (.iload_n 1, 1) := by decide +kernel
theorem dX1_turned_26 : decode cX1_turned 26 = .ok (.laload, 1) := by decide +kernel
theorem dX1_turned_27 : decode cX1_turned 27 = .ok (.invokestatic 167, 3) := by decide +kernel
theorem dX1_turned_30 : decode cX1_turned 30 = .ok (.invokevirtual 151, 3) := by decide +kernel
theorem dX1_turned_33 : decode cX1_turned 33 = .ok (.ireturn, 1) := by decide +kernel
set_option maxRecDepth 20000 in
theorem ggX1_converted_X1_isSort : GoodIn wsX1_converted wsX1_isSort := goodIn_r _ [7] (by decide +kernel) (by decide +kernel)
set_option maxRecDepth 20000 in
theorem gX1_converted_X1_isSort : GoodIn wsX1_converted (va_wsS RX1 103 yX1_isSort wsX1_isSort) := goodIn_app (goodIn_of _ (by decide +kernel)) ggX1_converted_X1_isSort
set_option maxRecDepth 20000 in
theorem ggX1_converted_X0_ofSort : GoodIn wsX1_converted wsX0_ofSort := goodIn_r _ [11, 12, 13, 10, 14, 15, 16, 17, 18, 19, 20, 21, 22, 23, 24, 25, 26, 27, 28, 29, 30, 31, 32, 33, 34, 35, 36, 37, 38, 39, 40, 41, 42, 43, 44, 45, 46, 47, 48, 49, 50, 51, 52, 53, 54, 55, 56, 57, 58, 59, 60, 61, 62, 63, 64, 65] (by decide +kernel) (by decide +kernel)
set_option maxRecDepth 20000 in
theorem gX1_converted_X0_ofSort : GoodIn wsX1_converted (va_wsS RX1 170 yX0_ofSort wsX0_ofSort) := goodIn_app (goodIn_of _ (by decide +kernel)) ggX1_converted_X0_ofSort
set_option maxRecDepth 20000 in
theorem ggX1_converted_X1_putOrdered : GoodIn wsX1_converted wsX1_putOrdered := goodIn_r _ [69, 70, 71, 10, 72, 73, 74, 75, 12, 13, 14, 76, 77, 78, 40, 79, 80, 81, 82, 83, 84, 6, 85, 1, 2, 3, 86, 87, 88, 89, 90, 91, 92, 93, 94, 95, 96] (by decide +kernel) (by decide +kernel)
set_option maxRecDepth 20000 in
theorem gX1_converted_X1_putOrdered : GoodIn wsX1_converted (wsV RX1 151 RX1 yX1_putOrdered wsX1_putOrdered) := goodIn_app (goodIn_of _ (by decide +kernel)) ggX1_converted_X1_putOrdered
theorem dX1_converted_0 : decode cX1_converted 0 = .ok (.iload_n 2, 1) := by decide +kernel
theorem dX1_converted_1 : decode cX1_converted 1 = .ok (.invokestatic 103, 3) := by decide +kernel
theorem dX1_converted_4 : decode cX1_converted 4 = .ok (.ifCond .ne 6, 3) := by decide +kernel
theorem dX1_converted_7 : decode cX1_converted 7 = .ok (.bipush (-4), 2) := by decide +kernel
theorem dX1_converted_9 : decode cX1_converted 9 = .ok (.ireturn, 1) := by decide +kernel
theorem dX1_converted_10 : decode cX1_converted 10 = .ok (.aload_n 0, 1) := by decide +kernel
theorem dX1_converted_11 : decode cX1_converted 11 = .ok (.getfield 9, 3) := by decide +kernel
theorem dX1_converted_14 : decode cX1_converted 14 = .ok (.iload_n 1, 1) := by decide +kernel
theorem dX1_converted_15 : decode cX1_converted 15 = .ok (.iaload, 1) := by decide +kernel
theorem dX1_converted_16 : decode cX1_converted 16 = .ok (.aload_n 0, 1) := by decide +kernel
theorem dX1_converted_17 : decode cX1_converted 17 = .ok (.getfield 13, 3) := by decide +kernel
theorem dX1_converted_20 : decode cX1_converted 20 = .ok (.iload_n 1, 1) := by decide +kernel
theorem dX1_converted_21 : decode cX1_converted 21 = .ok (.laload, 1) := by decide +kernel
theorem dX1_converted_22 : decode cX1_converted 22 = .ok (.iload_n 2, 1) := by decide +kernel
theorem dX1_converted_23 : decode cX1_converted 23 = .ok (.invokestatic 170, 3) := by decide +kernel
theorem dX1_converted_26 : decode cX1_converted 26 = .ok (.lstore 4, 2) := by decide +kernel
theorem dX1_converted_28 : decode cX1_converted 28 = .ok (.aload_n 0, 1) := by decide +kernel
theorem dX1_converted_29 : decode cX1_converted 29 = .ok (.getfield 9, 3) := by decide +kernel
theorem dX1_converted_32 : decode cX1_converted 32 = .ok (.iload_n 1, 1) := by decide +kernel
theorem dX1_converted_33 : decode cX1_converted 33 = .ok (.iaload, 1) := by decide +kernel
theorem dX1_converted_34 : decode cX1_converted 34 = .ok (.aload_n 0, 1) := by decide +kernel
theorem dX1_converted_35 : decode cX1_converted 35 = .ok (.getfield 17, 3) := by decide +kernel
theorem dX1_converted_38 : decode cX1_converted 38 = .ok (.iload_n 1, 1) := by decide +kernel
theorem dX1_converted_39 : decode cX1_converted 39 = .ok (.laload, 1) := by decide +kernel
theorem dX1_converted_40 : decode cX1_converted 40 = .ok (.iload_n 2, 1) := by decide +kernel
theorem dX1_converted_41 : decode cX1_converted 41 = .ok (.invokestatic 170, 3) := by decide +kernel
theorem dX1_converted_44 : decode cX1_converted 44 = .ok (.lstore 6, 2) := by decide +kernel
theorem dX1_converted_46 : decode cX1_converted 46 = .ok (.aload_n 0, 1) := by decide +kernel
theorem dX1_converted_47 : decode cX1_converted 47 = .ok (.iload_n 3, 1) := by decide +kernel
theorem dX1_converted_48 : decode cX1_converted 48 = .ok (.iload_n 2, 1) := by decide +kernel
theorem dX1_converted_49 : decode cX1_converted 49 = .ok (.lload 4, 2) := by decide +kernel
theorem dX1_converted_51 : decode cX1_converted 51 = .ok (.lload 6, 2) := by decide +kernel
theorem dX1_converted_53 : decode cX1_converted 53 = .ok (.invokevirtual 151, 3) := by decide +kernel
theorem dX1_converted_56 : decode cX1_converted 56 = .ok (.ireturn, 1) := by decide +kernel
theorem dX1_put_0 : decode cX1_put 0 = .ok (.aload_n 0, 1) := by decide +kernel
theorem dX1_put_1 : decode cX1_put 1 = .ok (.getfield 9, 3) := by decide +kernel
theorem dX1_put_4 : decode cX1_put 4 = .ok (.iload_n 1, 1) := by decide +kernel
theorem dX1_put_5 : decode cX1_put 5 = .ok (.iload_n 2, 1) := by decide +kernel
theorem dX1_put_6 : decode cX1_put 6 = .ok (.iastore, 1) := by decide +kernel
theorem dX1_put_7 : decode cX1_put 7 = .ok (.aload_n 0, 1) := by decide +kernel
theorem dX1_put_8 : decode cX1_put 8 = .ok (.getfield 13, 3) := by decide +kernel
theorem dX1_put_11 : decode cX1_put 11 = .ok (.iload_n 1, 1) := by decide +kernel
theorem dX1_put_12 : decode cX1_put 12 = .ok (.lload_n 3, 1) := by decide +kernel
theorem dX1_put_13 : decode cX1_put 13 = .ok (.lastore, 1) := by decide +kernel
theorem dX1_put_14 : decode cX1_put 14 = .ok (.aload_n 0, 1) := by decide +kernel
theorem dX1_put_15 : decode cX1_put 15 = .ok (.getfield 17, 3) := by decide +kernel
theorem dX1_put_18 : decode cX1_put 18 = .ok (.iload_n 1, 1) := by decide +kernel
theorem dX1_put_19 : decode cX1_put 19 = .ok (.lload 5, 2) := by decide +kernel
theorem dX1_put_21 : decode cX1_put 21 = .ok (.lastore, 1) := by decide +kernel
theorem dX1_put_22 : decode cX1_put 22 = .ok (.iconst 1, 1) := by decide +kernel
theorem dX1_put_23 : decode cX1_put 23 = .ok (.ireturn, 1) := by decide +kernel
set_option maxRecDepth 20000 in
theorem ggX1_putOrdered_X0_lesser : GoodIn wsX1_putOrdered wsX0_lesser := goodIn_r _ [4, 5, 6, 3, 7, 8, 9, 10, 11, 12, 13, 14] (by decide +kernel) (by decide +kernel)
set_option maxRecDepth 20000 in
theorem gX1_putOrdered_X0_lesser : GoodIn wsX1_putOrdered (va_wsS RX1 69 yX0_lesser wsX0_lesser) := goodIn_app (goodIn_of _ (by decide +kernel)) ggX1_putOrdered_X0_lesser
set_option maxRecDepth 20000 in
theorem ggX1_putOrdered_X0_greater : GoodIn wsX1_putOrdered wsX0_greater := goodIn_r _ [17, 5, 6, 3, 7, 8, 9, 10, 11, 12, 13, 14] (by decide +kernel) (by decide +kernel)
set_option maxRecDepth 20000 in
theorem gX1_putOrdered_X0_greater : GoodIn wsX1_putOrdered (va_wsS RX1 65 yX0_greater wsX0_greater) := goodIn_app (goodIn_of _ (by decide +kernel)) ggX1_putOrdered_X0_greater
set_option maxRecDepth 20000 in
theorem ggX1_putOrdered_X1_put : GoodIn wsX1_putOrdered wsX1_put := goodIn_r _ [22, 23, 24, 25, 26, 27, 28, 29, 30, 31, 32, 33, 34, 35, 36] (by decide +kernel) (by decide +kernel)
set_option maxRecDepth 20000 in
theorem gX1_putOrdered_X1_put : GoodIn wsX1_putOrdered (wsV RX1 106 RX1 yX1_put wsX1_put) := goodIn_app (goodIn_of _ (by decide +kernel)) ggX1_putOrdered_X1_put
theorem dX1_putOrdered_0 : decode cX1_putOrdered 0 = .ok (.aload_n 0, 1) := by decide +kernel
theorem dX1_putOrdered_1 : decode cX1_putOrdered 1 = .ok (.iload_n 1, 1) := by decide +kernel
theorem dX1_putOrdered_2 : decode cX1_putOrdered 2 = .ok (.iload_n 2, 1) := by decide +kernel
theorem dX1_putOrdered_3 : decode cX1_putOrdered 3 = .ok (.iload_n 2, 1) := by decide +kernel
theorem dX1_putOrdered_4 : decode cX1_putOrdered 4 = .ok (.lload_n 3, 1) := by decide +kernel
theorem dX1_putOrdered_5 : decode cX1_putOrdered 5 = .ok (.lload 5, 2) := by decide +kernel
theorem dX1_putOrdered_7 : decode cX1_putOrdered 7 = .ok (.invokestatic 69, 3) := by decide +kernel
theorem dX1_putOrdered_10 : decode cX1_putOrdered 10 = .ok (.iload_n 2, 1) := by decide +kernel
theorem dX1_putOrdered_11 : decode cX1_putOrdered 11 = .ok (.lload_n 3, 1) := by decide +kernel
theorem dX1_putOrdered_12 : decode cX1_putOrdered 12 = .ok (.lload 5, 2) := by decide +kernel
theorem dX1_putOrdered_14 : decode cX1_putOrdered 14 = .ok (.invokestatic 65, 3) := by decide +kernel
theorem dX1_putOrdered_17 : decode cX1_putOrdered 17 = .ok (.invokevirtual 106, 3) := by decide +kernel
theorem dX1_putOrdered_20 : decode cX1_putOrdered 20 = .ok (.ireturn, 1) := by decide +kernel
set_option maxRecDepth 20000 in
theorem ggX1_putIfAny_X0_isLess : GoodIn wsX1_putIfAny wsX0_isLess := goodIn_r _ [5, 6, 7, 4, 8, 9, 10, 11, 12] (by decide +kernel) (by decide +kernel)
set_option maxRecDepth 20000 in
theorem gX1_putIfAny_X0_isLess : GoodIn wsX1_putIfAny (va_wsS RX1 72 yX0_isLess wsX0_isLess) := goodIn_app (goodIn_of _ (by decide +kernel)) ggX1_putIfAny_X0_isLess
set_option maxRecDepth 20000 in
theorem ggX1_putIfAny_X1_put : GoodIn wsX1_putIfAny wsX1_put := goodIn_r _ [17, 1, 18, 19, 20, 21, 22, 23, 24, 25, 26, 27, 28, 29, 30] (by decide +kernel) (by decide +kernel)
set_option maxRecDepth 20000 in
theorem gX1_putIfAny_X1_put : GoodIn wsX1_putIfAny (wsV RX1 106 RX1 yX1_put wsX1_put) := goodIn_app (goodIn_of _ (by decide +kernel)) ggX1_putIfAny_X1_put
theorem dX1_putIfAny_0 : decode cX1_putIfAny 0 = .ok (.iload_n 2, 1) := by decide +kernel
theorem dX1_putIfAny_1 : decode cX1_putIfAny 1 = .ok (.lload 5, 2) := by decide +kernel
theorem dX1_putIfAny_3 : decode cX1_putIfAny 3 = .ok (.lload_n 3, 1) := by decide +kernel
theorem dX1_putIfAny_4 : decode cX1_putIfAny 4 = .ok (.invokestatic 72, 3) := by decide +kernel
theorem dX1_putIfAny_7 : decode cX1_putIfAny 7 = .ok (.ifCond .eq 12, 3) := by decide +kernel
theorem dX1_putIfAny_10 : decode cX1_putIfAny 10 = .ok (.aload_n 0, 1) := by decide +kernel
theorem dX1_putIfAny_11 : decode cX1_putIfAny 11 = .ok (.getfield 9, 3) := by decide +kernel
theorem dX1_putIfAny_14 : decode cX1_putIfAny 14 = .ok (.iload_n 1, 1) := by decide +kernel
theorem dX1_putIfAny_15 : decode cX1_putIfAny 15 = .ok (.iconst (-1), 1) := by decide +kernel
theorem dX1_putIfAny_16 : decode cX1_putIfAny 16 = .ok (.iastore, 1) := by decide +kernel
theorem dX1_putIfAny_17 : decode cX1_putIfAny 17 = .ok (.iconst 0, 1) := by decide +kernel
theorem dX1_putIfAny_18 : decode cX1_putIfAny 18 = .ok (.ireturn, 1) := by decide +kernel
theorem dX1_putIfAny_19 : decode cX1_putIfAny 19 = .ok (.aload_n 0, 1) := by decide +kernel
theorem dX1_putIfAny_20 : decode cX1_putIfAny 20 = .ok (.iload_n 1, 1) := by decide +kernel
theorem dX1_putIfAny_21 : decode cX1_putIfAny 21 = .ok (.iload_n 2, 1) := by decide +kernel
theorem dX1_putIfAny_22 : decode cX1_putIfAny 22 = .ok (.lload_n 3, 1) := by decide +kernel
theorem dX1_putIfAny_23 : decode cX1_putIfAny 23 = .ok (.lload 5, 2) := by decide +kernel
theorem dX1_putIfAny_25 : decode cX1_putIfAny 25 = .ok (.invokevirtual 106, 3) := by decide +kernel
theorem dX1_putIfAny_28 : decode cX1_putIfAny 28 = .ok (.ireturn, 1) := by decide +kernel
theorem dX2_init_0 : decode cX2_init 0 = .ok (.aload_n 0, 1) := by decide +kernel
theorem dX2_init_1 : decode cX2_init 1 = .ok (.invokespecial 1, 3) := by decide +kernel
theorem dX2_init_4 : decode cX2_init 4 = .ok (.aload_n 0, 1) := by decide +kernel
theorem dX2_init_5 : decode cX2_init 5 = .ok (.bipush 16, 2) := by decide +kernel
theorem dX2_init_7 : decode cX2_init 7 = .ok (.newarray .int, 2) := by decide +kernel
theorem dX2_init_9 : decode cX2_init 9 = .ok (.dup, 1) := by decide +kernel
theorem dX2_init_10 : decode cX2_init 10 = .ok (.iconst 0, 1) := by decide +kernel
theorem dX2_init_11 : decode cX2_init 11 = .ok (.iconst (-1), 1) := by decide +kernel
theorem dX2_init_12 : decode cX2_init 12 = .ok (.iastore, 1) := by decide +kernel
theorem dX2_init_13 : decode cX2_init 13 = .ok (.dup, 1) := by decide +kernel
theorem dX2_init_14 : decode cX2_init 14 = .ok (.iconst 1, 1) := by decide +kernel
theorem dX2_init_15 : decode cX2_init 15 = .ok (.iconst (-1), 1) := by decide +kernel
theorem dX2_init_16 : decode cX2_init 16 = .ok (.iastore, 1) := by decide +kernel
theorem dX2_init_17 : decode cX2_init 17 = .ok (.dup, 1) := by decide +kernel
theorem dX2_init_18 : decode cX2_init 18 = .ok (.iconst 2, 1) := by decide +kernel
theorem dX2_init_19 : decode cX2_init 19 = .ok (.iconst (-1), 1) := by decide +kernel
theorem dX2_init_20 : decode cX2_init 20 = .ok (.iastore, 1) := by decide +kernel
theorem dX2_init_21 : decode cX2_init 21 = .ok (.dup, 1) := by decide +kernel
theorem dX2_init_22 : decode cX2_init 22 = .ok (.iconst 3, 1) := by decide +kernel
theorem dX2_init_23 : decode cX2_init 23 = .ok (.iconst (-1), 1) := by decide +kernel
theorem dX2_init_24 : decode cX2_init 24 = .ok (.iastore, 1) := by decide +kernel
theorem dX2_init_25 : decode cX2_init 25 = .ok (.dup, 1) := by decide +kernel
theorem dX2_init_26 : decode cX2_init 26 = .ok (.iconst 4, 1) := by decide +kernel
theorem dX2_init_27 : decode cX2_init 27 = .ok (.iconst (-1), 1) := by decide +kernel
theorem dX2_init_28 : decode cX2_init 28 = .ok (.iastore, 1) := by decide +kernel
theorem dX2_init_29 : decode cX2_init 29 = .ok (.dup, 1) := by decide +kernel
theorem dX2_init_30 : decode cX2_init 30 = .ok (.iconst 5, 1) := by decide +kernel
theorem dX2_init_31 : decode cX2_init 31 = .ok (.iconst (-1), 1) := by decide +kernel
theorem dX2_init_32 : decode cX2_init 32 = .ok (.iastore, 1) := by decide +kernel
theorem dX2_init_33 : decode cX2_init 33 = .ok (.dup, 1) := by decide +kernel
theorem dX2_init_34 : decode cX2_init 34 = .ok (.bipush 6, 2) := by decide +kernel
theorem dX2_init_36 : decode cX2_init 36 = .ok (.iconst (-1), 1) := by decide +kernel
theorem dX2_init_37 : decode cX2_init 37 = .ok (.iastore, 1) := by decide +kernel
theorem dX2_init_38 : decode cX2_init 38 = .ok (.dup, 1) := by decide +kernel
theorem dX2_init_39 : decode cX2_init 39 = .ok (.bipush 7, 2) := by decide +kernel
theorem dX2_init_41 : decode cX2_init 41 = .ok (.iconst (-1), 1) := by decide +kernel
theorem dX2_init_42 : decode cX2_init 42 = .ok (.iastore, 1) := by decide +kernel
theorem dX2_init_43 : decode cX2_init 43 = .ok (.dup, 1) := by decide +kernel
theorem dX2_init_44 : decode cX2_init 44 = .ok (.bipush 8, 2) := by decide +kernel
theorem dX2_init_46 : decode cX2_init 46 = .ok (.iconst (-1), 1) := by decide +kernel
theorem dX2_init_47 : decode cX2_init 47 = .ok (.iastore, 1) := by decide +kernel
theorem dX2_init_48 : decode cX2_init 48 = .ok (.dup, 1) := by decide +kernel
theorem dX2_init_49 : decode cX2_init 49 = .ok (.bipush 9, 2) := by decide +kernel
theorem dX2_init_51 : decode cX2_init 51 = .ok (.iconst (-1), 1) := by decide +kernel
theorem dX2_init_52 : decode cX2_init 52 = .ok (.iastore, 1) := by decide +kernel
theorem dX2_init_53 : decode cX2_init 53 = .ok (.dup, 1) := by decide +kernel
theorem dX2_init_54 : decode cX2_init 54 = .ok (.bipush 10, 2) := by decide +kernel
theorem dX2_init_56 : decode cX2_init 56 = .ok (.iconst (-1), 1) := by decide +kernel
theorem dX2_init_57 : decode cX2_init 57 = .ok (.iastore, 1) := by decide +kernel
theorem dX2_init_58 : decode cX2_init 58 = .ok (.dup, 1) := by decide +kernel
theorem dX2_init_59 : decode cX2_init 59 = .ok (.bipush 11, 2) := by decide +kernel
theorem dX2_init_61 : decode cX2_init 61 = .ok (.iconst (-1), 1) := by decide +kernel
theorem dX2_init_62 : decode cX2_init 62 = .ok (.iastore, 1) := by decide +kernel
theorem dX2_init_63 : decode cX2_init 63 = .ok (.dup, 1) := by decide +kernel
theorem dX2_init_64 : decode cX2_init 64 = .ok (.bipush 12, 2) := by decide +kernel
theorem dX2_init_66 : decode cX2_init 66 = .ok (.iconst (-1), 1) := by decide +kernel
theorem dX2_init_67 : decode cX2_init 67 = .ok (.iastore, 1) := by decide +kernel
theorem dX2_init_68 : decode cX2_init 68 = .ok (.dup, 1) := by decide +kernel
theorem dX2_init_69 : decode cX2_init 69 = .ok (.bipush 13, 2) := by decide +kernel
theorem dX2_init_71 : decode cX2_init 71 = .ok (.iconst (-1), 1) := by decide +kernel
theorem dX2_init_72 : decode cX2_init 72 = .ok (.iastore, 1) := by decide +kernel
theorem dX2_init_73 : decode cX2_init 73 = .ok (.dup, 1) := by decide +kernel
theorem dX2_init_74 : decode cX2_init 74 = .ok (.bipush 14, 2) := by decide +kernel
theorem dX2_init_76 : decode cX2_init 76 = .ok (.iconst (-1), 1) := by decide +kernel
theorem dX2_init_77 : decode cX2_init 77 = .ok (.iastore, 1) := by decide +kernel
theorem dX2_init_78 : decode cX2_init 78 = .ok (.dup, 1) := by decide +kernel
theorem dX2_init_79 : decode cX2_init 79 = .ok (.bipush 15, 2) := by decide +kernel
theorem dX2_init_81 : decode cX2_init 81 = .ok (.iconst (-1), 1) := by decide +kernel
theorem dX2_init_82 : decode cX2_init 82 = .ok (.iastore, 1) := by decide +kernel
theorem dX2_init_83 : decode cX2_init 83 = .ok (.putfield 7, 3) := by decide +kernel
theorem dX2_init_86 : decode cX2_init 86 = .ok (.aload_n 0, 1) := by decide +kernel
theorem dX2_init_87 : decode cX2_init 87 = .ok (.bipush 16, 2) := by decide +kernel
theorem dX2_init_89 : decode cX2_init 89 = .ok (.newarray .long, 2) := by decide +kernel
theorem dX2_init_91 : decode cX2_init 91 = .ok (.putfield 13, 3) := by decide +kernel
theorem dX2_init_94 : decode cX2_init 94 = .ok (.aload_n 0, 1) := by decide +kernel
theorem dX2_init_95 : decode cX2_init 95 = .ok (.bipush 16, 2) := by decide +kernel
theorem dX2_init_97 : decode cX2_init 97 = .ok (.newarray .long, 2) := by decide +kernel
theorem dX2_init_99 : decode cX2_init 99 = .ok (.putfield 17, 3) := by decide +kernel
theorem dX2_init_102 : decode cX2_init 102 = .ok (.aload_n 0, 1) := by decide +kernel
theorem dX2_init_103 : decode cX2_init 103 = .ok (.bipush 12, 2) := by decide +kernel
theorem dX2_init_105 : decode cX2_init 105 = .ok (.newarray .boolean, 2) := by decide +kernel
theorem dX2_init_107 : decode cX2_init 107 = .ok (.putfield 20, 3) := by decide +kernel
theorem dX2_init_110 : decode cX2_init 110 = .ok (.aload_n 0, 1) := by decide +kernel
theorem dX2_init_111 : decode cX2_init 111 = .ok (.bipush 12, 2) := by decide +kernel
theorem dX2_init_113 : decode cX2_init 113 = .ok (.newarray .int, 2) := by decide +kernel
theorem dX2_init_115 : decode cX2_init 115 = .ok (.putfield 24, 3) := by decide +kernel
theorem dX2_init_118 : decode cX2_init 118 = .ok (.aload_n 0, 1) := by decide +kernel
theorem dX2_init_119 : decode cX2_init 119 = .ok (.bipush 12, 2) := by decide +kernel
theorem dX2_init_121 : decode cX2_init 121 = .ok (.newarray .int, 2) := by decide +kernel
theorem dX2_init_123 : decode cX2_init 123 = .ok (.putfield 27, 3) := by decide +kernel
theorem dX2_init_126 : decode cX2_init 126 = .ok (.aload_n 0, 1) := by decide +kernel
theorem dX2_init_127 : decode cX2_init 127 = .ok (.bipush 12, 2) := by decide +kernel
theorem dX2_init_129 : decode cX2_init 129 = .ok (.newarray .int, 2) := by decide +kernel
theorem dX2_init_131 : decode cX2_init 131 = .ok (.putfield 30, 3) := by decide +kernel
theorem dX2_init_134 : decode cX2_init 134 = .ok (.aload_n 0, 1) := by decide +kernel
theorem dX2_init_135 : decode cX2_init 135 = .ok (.bipush 12, 2) := by decide +kernel
theorem dX2_init_137 : decode cX2_init 137 = .ok (.newarray .int, 2) := by decide +kernel
theorem dX2_init_139 : decode cX2_init 139 = .ok (.putfield 33, 3) := by decide +kernel
theorem dX2_init_142 : decode cX2_init 142 = .ok (.return_, 1) := by decide +kernel
theorem dX2_refuses_0 : decode cX2_refuses 0 = .ok (.aload_n 0, 1) := by decide +kernel
theorem dX2_refuses_1 : decode cX2_refuses 1 = .ok (.iload_n 1, 1) := by decide +kernel
theorem dX2_refuses_2 : decode cX2_refuses 2 = .ok (.putfield 36, 3) := by decide +kernel
theorem dX2_refuses_5 : decode cX2_refuses 5 = .ok (.aload_n 0, 1) := by decide +kernel
theorem dX2_refuses_6 : decode cX2_refuses 6 = .ok (.dup, 1) := by decide +kernel
theorem dX2_refuses_7 : decode cX2_refuses 7 = .ok (.getfield 40, 3) := by decide +kernel
theorem dX2_refuses_10 : decode cX2_refuses 10 = .ok (.iconst 1, 1) := by decide +kernel
theorem dX2_refuses_11 : decode cX2_refuses 11 = .ok (.iadd, 1) := by decide +kernel
theorem dX2_refuses_12 : decode cX2_refuses 12 = .ok (.putfield 40, 3) := by decide +kernel
theorem dX2_refuses_15 : decode cX2_refuses 15 = .ok (.iload_n 1, 1) := by decide +kernel
theorem dX2_refuses_16 : decode cX2_refuses 16 = .ok (.ireturn, 1) := by decide +kernel
theorem dX2_says_0 : decode cX2_says 0 = .ok (.aload_n 0, 1) := by decide +kernel
theorem dX2_says_1 : decode cX2_says 1 = .ok (.iconst 0, 1) := by decide +kernel
theorem dX2_says_2 : decode cX2_says 2 = .ok (.putfield 36, 3) := by decide +kernel
theorem dX2_says_5 : decode cX2_says 5 = .ok (.iload_n 1, 1) := by decide +kernel
theorem dX2_says_6 : decode cX2_says 6 = .ok (.ireturn, 1) := by decide +kernel
theorem dX2_isSlot_0 : decode cX2_isSlot 0 = .ok (.iload_n 0, 1) := by decide +kernel
theorem dX2_isSlot_1 : decode cX2_isSlot 1 = .ok (.ifCond .lt 13, 3) := by decide +kernel
theorem dX2_isSlot_4 : decode cX2_isSlot 4 = .ok (.iload_n 0, 1) := by decide +kernel
theorem dX2_isSlot_5 : decode cX2_isSlot 5 = .ok (.bipush 16, 2) := by decide +kernel
theorem dX2_isSlot_7 : decode cX2_isSlot 7 = .ok (.if_icmp .ge 7, 3) := by decide +kernel
theorem dX2_isSlot_10 : decode cX2_isSlot 10 = .ok (.iconst 1, 1) := by decide +kernel
theorem dX2_isSlot_11 : decode cX2_isSlot 11 = .ok (.goto 4, 3) := by decide +kernel
theorem dX2_isSlot_14 : decode cX2_isSlot 14 = .ok (.iconst 0, 1) := by decide +kernel
theorem dX2_isSlot_15 : decode cX2_isSlot 15 = .ok (.ireturn, 1) := by decide +kernel
set_option maxRecDepth 20000 in
theorem ggX2_whyNot_X2_isSlot : GoodIn wsX2_whyNot wsX2_isSlot := goodIn_r _ [5] (by decide +kernel) (by decide +kernel)
set_option maxRecDepth 20000 in
theorem gX2_whyNot_X2_isSlot : GoodIn wsX2_whyNot (va_wsS RX2 43 yX2_isSlot wsX2_isSlot) := goodIn_app (goodIn_of _ (by decide +kernel)) ggX2_whyNot_X2_isSlot
theorem dX2_whyNot_0 : decode cX2_whyNot 0 = .ok (.iload_n 1, 1) := by decide +kernel
theorem dX2_whyNot_1 : decode cX2_whyNot 1 = .ok (.invokestatic 43, 3) := by decide +kernel
theorem dX2_whyNot_4 : decode cX2_whyNot 4 = .ok (.ifCond .eq 17, 3) := by decide +kernel
theorem dX2_whyNot_7 : decode cX2_whyNot 7 = .ok (.iload_n 2, 1) := by decide +kernel
theorem dX2_whyNot_8 : decode cX2_whyNot 8 = .ok (.invokestatic 43, 3) := by decide +kernel
theorem dX2_whyNot_11 : decode cX2_whyNot 11 = .ok (.ifCond .eq 10, 3) := by decide +kernel
theorem dX2_whyNot_14 : decode cX2_whyNot 14 = .ok (.iload_n 3, 1) := by decide +kernel
theorem dX2_whyNot_15 : decode cX2_whyNot 15 = .ok (.invokestatic 43, 3) := by decide +kernel
theorem dX2_whyNot_18 : decode cX2_whyNot 18 = .ok (.ifCond .ne 6, 3) := by decide +kernel
theorem dX2_whyNot_21 : decode cX2_whyNot 21 = .ok (.bipush (-2), 2) := by decide +kernel
theorem dX2_whyNot_23 : decode cX2_whyNot 23 = .ok (.ireturn, 1) := by decide +kernel
theorem dX2_whyNot_24 : decode cX2_whyNot 24 = .ok (.aload_n 0, 1) := by decide +kernel
theorem dX2_whyNot_25 : decode cX2_whyNot 25 = .ok (.getfield 7, 3) := by decide +kernel
theorem dX2_whyNot_28 : decode cX2_whyNot 28 = .ok (.iload_n 1, 1) := by decide +kernel
theorem dX2_whyNot_29 : decode cX2_whyNot 29 = .ok (.iaload, 1) := by decide +kernel
theorem dX2_whyNot_30 : decode cX2_whyNot 30 = .ok (.iconst (-1), 1) := by decide +kernel
theorem dX2_whyNot_31 : decode cX2_whyNot 31 = .ok (.if_icmp .eq 13, 3) := by decide +kernel
theorem dX2_whyNot_34 : decode cX2_whyNot 34 = .ok (.aload_n 0, 1) := by decide +kernel
theorem dX2_whyNot_35 : decode cX2_whyNot 35 = .ok (.getfield 7, 3) := by decide +kernel
theorem dX2_whyNot_38 : decode cX2_whyNot 38 = .ok (.iload_n 2, 1) := by decide +kernel
theorem dX2_whyNot_39 : decode cX2_whyNot 39 = .ok (.iaload, 1) := by decide +kernel
theorem dX2_whyNot_40 : decode cX2_whyNot 40 = .ok (.iconst (-1), 1) := by decide +kernel
theorem dX2_whyNot_41 : decode cX2_whyNot 41 = .ok (.if_icmp .ne 8, 3) := by decide +kernel
theorem dX2_whyNot_44 : decode cX2_whyNot 44 = .ok (.bipush (-3), 2) := by decide +kernel
theorem dX2_whyNot_46 : decode cX2_whyNot 46 = .ok (.goto 4, 3) := by decide +kernel
theorem dX2_whyNot_49 : decode cX2_whyNot 49 = .ok (.iconst 0, 1) := by decide +kernel
theorem dX2_whyNot_50 : decode cX2_whyNot 50 = .ok (.ireturn, 1) := by decide +kernel
theorem dX2_isBroken_0 : decode cX2_isBroken 0 = .ok (.iload_n 0, 1) := by decide +kernel
theorem dX2_isBroken_1 : decode cX2_isBroken 1 = .ok (.iconst 2, 1) := by decide +kernel
theorem dX2_isBroken_2 : decode cX2_isBroken 2 = .ok (.if_icmp .lt 7, 3) := by decide +kernel
theorem dX2_isBroken_5 : decode cX2_isBroken 5 = .ok (.iconst 1, 1) := by decide +kernel
theorem dX2_isBroken_6 : decode cX2_isBroken 6 = .ok (.goto 4, 3) := by decide +kernel
theorem dX2_isBroken_9 : decode cX2_isBroken 9 = .ok (.iconst 0, 1) := by decide +kernel
theorem dX2_isBroken_10 : decode cX2_isBroken 10 = .ok (.ireturn, 1) := by decide +kernel
theorem dX2_taken_0 : decode cX2_taken 0 = .ok (.iload_n 0, 1) := by decide +kernel
theorem dX2_taken_1 : decode cX2_taken 1 = .ok (.ifCond .eq 8, 3) := by decide +kernel
theorem dX2_taken_4 : decode cX2_taken 4 = .ok (.iload_n 0, 1) := by decide +kernel
theorem dX2_taken_5 : decode cX2_taken 5 = .ok (.iconst 2, 1) := by decide +kernel
theorem dX2_taken_6 : decode cX2_taken 6 = .ok (.if_icmp .ne 9, 3) := by decide +kernel
theorem dX2_taken_9 : decode cX2_taken 9 = .ok (.lload_n 1, 1) := by decide +kernel
theorem dX2_taken_10 : decode cX2_taken 10 = .ok (.l2i, 1) := by decide +kernel
theorem dX2_taken_11 : decode cX2_taken 11 = .ok (.i2l, 1) := by decide +kernel
theorem dX2_taken_12 : decode cX2_taken 12 = .ok (.goto 4, 3) := by decide +kernel
theorem dX2_taken_15 : decode cX2_taken 15 = .ok (.lload_n 1, 1) := by decide +kernel
theorem dX2_taken_16 : decode cX2_taken 16 = .ok (.lreturn, 1) := by decide +kernel
theorem dX2_magnitude_0 : decode cX2_magnitude 0 = .ok (.iload_n 0, 1) := by decide +kernel
theorem dX2_magnitude_1 : decode cX2_magnitude 1 = .ok (.iconst 2, 1) := by decide +kernel
theorem dX2_magnitude_2 : decode cX2_magnitude 2 = .ok (.if_icmp .ne 11, 3) := by decide +kernel
theorem dX2_magnitude_5 : decode cX2_magnitude 5 = .ok (.lload_n 1, 1) := by decide +kernel
theorem dX2_magnitude_6 : decode cX2_magnitude 6 = .ok (.ldc2_w 47, 3) := by decide +kernel
theorem dX2_magnitude_9 : decode cX2_magnitude 9 = .ok (.land, 1) := by decide +kernel
theorem dX2_magnitude_10 : decode cX2_magnitude 10 = .ok (.goto 8, 3) := by decide +kernel
theorem dX2_magnitude_13 : decode cX2_magnitude 13 = .ok (.lload_n 1, 1) := by decide +kernel
theorem dX2_magnitude_14 : decode cX2_magnitude 14 = .ok (.ldc2_w 49, 3) := by decide +kernel
theorem dX2_magnitude_17 : decode cX2_magnitude 17 = .ok (.land, 1) := by decide +kernel
theorem dX2_magnitude_18 : decode cX2_magnitude 18 = .ok (.lreturn, 1) := by decide +kernel
theorem dX2_endless_0 : decode cX2_endless 0 = .ok (.iload_n 0, 1) := by decide +kernel
theorem dX2_endless_1 : decode cX2_endless 1 = .ok (.iconst 2, 1) := by decide +kernel
theorem dX2_endless_2 : decode cX2_endless 2 = .ok (.if_icmp .ne 9, 3) := by decide +kernel
theorem dX2_endless_5 : decode cX2_endless 5 = .ok (.ldc2_w 51, 3) := by decide +kernel
theorem dX2_endless_8 : decode cX2_endless 8 = .ok (.goto 6, 3) := by decide +kernel
theorem dX2_endless_11 : decode cX2_endless 11 = .ok (.ldc2_w 53, 3) := by decide +kernel
theorem dX2_endless_14 : decode cX2_endless 14 = .ok (.lreturn, 1) := by decide +kernel
theorem dX2_one_0 : decode cX2_one 0 = .ok (.iload_n 0, 1) := by decide +kernel
theorem dX2_one_1 : decode cX2_one 1 = .ok (.iconst 2, 1) := by decide +kernel
theorem dX2_one_2 : decode cX2_one 2 = .ok (.if_icmp .ne 9, 3) := by decide +kernel
theorem dX2_one_5 : decode cX2_one 5 = .ok (.ldc2_w 55, 3) := by decide +kernel
theorem dX2_one_8 : decode cX2_one 8 = .ok (.goto 6, 3) := by decide +kernel
theorem dX2_one_11 : decode cX2_one 11 = .ok (.ldc2_w 57, 3) := by decide +kernel
theorem dX2_one_14 : decode cX2_one 14 = .ok (.lreturn, 1) := by decide +kernel
theorem dX2_signed_0 : decode cX2_signed 0 = .ok (.iload_n 3, 1) := by decide +kernel
theorem dX2_signed_1 : decode cX2_signed 1 = .ok (.ifCond .ne 5, 3) := by decide +kernel
theorem dX2_signed_4 : decode cX2_signed 4 = .ok (.lload_n 1, 1) := by decide +kernel
theorem dX2_signed_5 : decode cX2_signed 5 = .ok (.lreturn, 1) := by decide +kernel
theorem dX2_signed_6 : decode cX2_signed 6 = .ok (.iload_n 0, 1) := by decide +kernel
theorem dX2_signed_7 : decode cX2_signed 7 = .ok (.iconst 2, 1) := by decide +kernel
theorem dX2_signed_8 : decode cX2_signed 8 = .ok (.if_icmp .ne 13, 3) := by decide +kernel
theorem dX2_signed_11 : decode cX2_signed 11 = .ok (.lload_n 1, 1) := by decide +kernel
theorem dX2_signed_12 : decode cX2_signed 12 = .ok (.ldc2_w 59, 3) := by decide +kernel
theorem dX2_signed_15 : decode cX2_signed 15 = .ok (.lor, 1) := by decide +kernel
theorem dX2_signed_16 : decode cX2_signed 16 = .ok (.l2i, 1) := by decide +kernel
theorem dX2_signed_17 : decode cX2_signed 17 = .ok (.i2l, 1) := by decide +kernel
theorem dX2_signed_18 : decode cX2_signed 18 = .ok (.goto 8, 3) := by decide +kernel
theorem dX2_signed_21 : decode cX2_signed 21 = .ok (.lload_n 1, 1) := by decide +kernel
theorem dX2_signed_22 : decode cX2_signed 22 = .ok (.ldc2_w 61, 3) := by decide +kernel
theorem dX2_signed_25 : decode cX2_signed 25 = .ok (.lor, 1) := by decide +kernel
theorem dX2_signed_26 : decode cX2_signed 26 = .ok (.lreturn, 1) := by decide +kernel
set_option maxRecDepth 20000 in
theorem ggX2_isNumber_X2_isBroken : GoodIn wsX2_isNumber wsX2_isBroken := goodIn_r _ [4] (by decide +kernel) (by decide +kernel)
set_option maxRecDepth 20000 in
theorem gX2_isNumber_X2_isBroken : GoodIn wsX2_isNumber (va_wsS RX2 63 yX2_isBroken wsX2_isBroken) := goodIn_app (goodIn_of _ (by decide +kernel)) ggX2_isNumber_X2_isBroken
set_option maxRecDepth 20000 in
theorem ggX2_isNumber_X2_magnitude : GoodIn wsX2_isNumber wsX2_magnitude := goodIn_r _ [7, 8, 9] (by decide +kernel) (by decide +kernel)
set_option maxRecDepth 20000 in
theorem gX2_isNumber_X2_magnitude : GoodIn wsX2_isNumber (va_wsS RX2 66 yX2_magnitude wsX2_magnitude) := goodIn_app (goodIn_of _ (by decide +kernel)) ggX2_isNumber_X2_magnitude
set_option maxRecDepth 20000 in
theorem ggX2_isNumber_X2_endless : GoodIn wsX2_isNumber wsX2_endless := goodIn_r _ [12, 13, 14] (by decide +kernel) (by decide +kernel)
set_option maxRecDepth 20000 in
theorem gX2_isNumber_X2_endless : GoodIn wsX2_isNumber (va_wsS RX2 70 yX2_endless wsX2_endless) := goodIn_app (goodIn_of _ (by decide +kernel)) ggX2_isNumber_X2_endless
theorem dX2_isNumber_0 : decode cX2_isNumber 0 = .ok (.iload_n 0, 1) := by decide +kernel
theorem dX2_isNumber_1 : decode cX2_isNumber 1 = .ok (.invokestatic 63, 3) := by decide +kernel
theorem dX2_isNumber_4 : decode cX2_isNumber 4 = .ok (.ifCond .eq 16, 3) := by decide +kernel
theorem dX2_isNumber_7 : decode cX2_isNumber 7 = .ok (.iload_n 0, 1) := by decide +kernel
theorem dX2_isNumber_8 : decode cX2_isNumber 8 = .ok (.lload_n 1, 1) := by decide +kernel
theorem dX2_isNumber_9 : decode cX2_isNumber 9 = .ok (.invokestatic 66, 3) := by decide +kernel
theorem dX2_isNumber_12 : decode cX2_isNumber 12 = .ok (.iload_n 0, 1) := by decide +kernel
theorem dX2_isNumber_13 : decode cX2_isNumber 13 = .ok (.invokestatic 70, 3) := by decide +kernel
theorem dX2_isNumber_16 : decode cX2_isNumber 16 = .ok (.lcmp, 1) := by decide +kernel
theorem dX2_isNumber_17 : decode cX2_isNumber 17 = .ok (.ifCond .gt 7, 3) := by decide +kernel
theorem dX2_isNumber_20 : decode cX2_isNumber 20 = .ok (.iconst 1, 1) := by decide +kernel
theorem dX2_isNumber_21 : decode cX2_isNumber 21 = .ok (.goto 4, 3) := by decide +kernel
theorem dX2_isNumber_24 : decode cX2_isNumber 24 = .ok (.iconst 0, 1) := by decide +kernel
theorem dX2_isNumber_25 : decode cX2_isNumber 25 = .ok (.ireturn, 1) := by decide +kernel
set_option maxRecDepth 20000 in
theorem ggX2_rank_X2_isBroken : GoodIn wsX2_rank wsX2_isBroken := goodIn_r _ [6] (by decide +kernel) (by decide +kernel)
set_option maxRecDepth 20000 in
theorem gX2_rank_X2_isBroken : GoodIn wsX2_rank (va_wsS RX2 63 yX2_isBroken wsX2_isBroken) := goodIn_app (goodIn_of _ (by decide +kernel)) ggX2_rank_X2_isBroken
theorem dX2_rank_0 : decode cX2_rank 0 = .ok (.iload_n 0, 1) := by decide +kernel
theorem dX2_rank_1 : decode cX2_rank 1 = .ok (.invokestatic 63, 3) := by decide +kernel
theorem dX2_rank_4 : decode cX2_rank 4 = .ok (.ifCond .eq 9, 3) := by decide +kernel
theorem dX2_rank_7 : decode cX2_rank 7 = .ok (.lload_n 1, 1) := by decide +kernel
theorem dX2_rank_8 : decode cX2_rank 8 = .ok (.lconst 0, 1) := by decide +kernel
theorem dX2_rank_9 : decode cX2_rank 9 = .ok (.lcmp, 1) := by decide +kernel
theorem dX2_rank_10 : decode cX2_rank 10 = .ok (.ifCond .lt 5, 3) := by decide +kernel
theorem dX2_rank_13 : decode cX2_rank 13 = .ok (.lload_n 1, 1) := by decide +kernel
theorem dX2_rank_14 : decode cX2_rank 14 = .ok (.lreturn, 1) := by decide +kernel
theorem dX2_rank_15 : decode cX2_rank 15 = .ok (.iload_n 0, 1) := by decide +kernel
theorem dX2_rank_16 : decode cX2_rank 16 = .ok (.iconst 2, 1) := by decide +kernel
theorem dX2_rank_17 : decode cX2_rank 17 = .ok (.if_icmp .ne 11, 3) := by decide +kernel
theorem dX2_rank_20 : decode cX2_rank 20 = .ok (.lload_n 1, 1) := by decide +kernel
theorem dX2_rank_21 : decode cX2_rank 21 = .ok (.ldc2_w 47, 3) := by decide +kernel
theorem dX2_rank_24 : decode cX2_rank 24 = .ok (.lxor, 1) := by decide +kernel
theorem dX2_rank_25 : decode cX2_rank 25 = .ok (.goto 8, 3) := by decide +kernel
theorem dX2_rank_28 : decode cX2_rank 28 = .ok (.lload_n 1, 1) := by decide +kernel
theorem dX2_rank_29 : decode cX2_rank 29 = .ok (.ldc2_w 49, 3) := by decide +kernel
theorem dX2_rank_32 : decode cX2_rank 32 = .ok (.lxor, 1) := by decide +kernel
theorem dX2_rank_33 : decode cX2_rank 33 = .ok (.lreturn, 1) := by decide +kernel
set_option maxRecDepth 20000 in
theorem ggX2_isAbove_X2_rank : GoodIn wsX2_isAbove wsX2_rank := goodIn_r _ [4, 5, 6, 7, 8, 3, 9] (by decide +kernel) (by decide +kernel)
set_option maxRecDepth 20000 in
theorem gX2_isAbove_X2_rank : GoodIn wsX2_isAbove (va_wsS RX2 74 yX2_rank wsX2_rank) := goodIn_app (goodIn_of _ (by decide +kernel)) ggX2_isAbove_X2_rank
theorem dX2_isAbove_0 : decode cX2_isAbove 0 = .ok (.iload_n 0, 1) := by decide +kernel
theorem dX2_isAbove_1 : decode cX2_isAbove 1 = .ok (.lload_n 1, 1) := by decide +kernel
theorem dX2_isAbove_2 : decode cX2_isAbove 2 = .ok (.invokestatic 74, 3) := by decide +kernel
theorem dX2_isAbove_5 : decode cX2_isAbove 5 = .ok (.iload_n 0, 1) := by decide +kernel
theorem dX2_isAbove_6 : decode cX2_isAbove 6 = .ok (.lload_n 3, 1) := by decide +kernel
theorem dX2_isAbove_7 : decode cX2_isAbove 7 = .ok (.invokestatic 74, 3) := by decide +kernel
theorem dX2_isAbove_10 : decode cX2_isAbove 10 = .ok (.lcmp, 1) := by decide +kernel
theorem dX2_isAbove_11 : decode cX2_isAbove 11 = .ok (.ifCond .le 7, 3) := by decide +kernel
theorem dX2_isAbove_14 : decode cX2_isAbove 14 = .ok (.iconst 1, 1) := by decide +kernel
theorem dX2_isAbove_15 : decode cX2_isAbove 15 = .ok (.goto 4, 3) := by decide +kernel
theorem dX2_isAbove_18 : decode cX2_isAbove 18 = .ok (.iconst 0, 1) := by decide +kernel
end
section
theorem dX2_isAbove_19 : decode cX2_isAbove 19 = .ok (.ireturn, 1) := by decide +kernel
set_option maxRecDepth 20000 in
theorem ggX2_greater_X2_isAbove : GoodIn wsX2_greater wsX2_isAbove := goodIn_r _ [4, 5, 6, 3, 7, 8, 9, 10, 11, 12] (by decide +kernel) (by decide +kernel)
set_option maxRecDepth 20000 in
theorem gX2_greater_X2_isAbove : GoodIn wsX2_greater (va_wsS RX2 77 yX2_isAbove wsX2_isAbove) := goodIn_app (goodIn_of _ (by decide +kernel)) ggX2_greater_X2_isAbove
theorem dX2_greater_0 : decode cX2_greater 0 = .ok (.iload_n 0, 1) := by decide +kernel
theorem dX2_greater_1 : decode cX2_greater 1 = .ok (.lload_n 1, 1) := by decide +kernel
theorem dX2_greater_2 : decode cX2_greater 2 = .ok (.lload_n 3, 1) := by decide +kernel
theorem dX2_greater_3 : decode cX2_greater 3 = .ok (.invokestatic 77, 3) := by decide +kernel
theorem dX2_greater_6 : decode cX2_greater 6 = .ok (.ifCond .eq 7, 3) := by decide +kernel
theorem dX2_greater_9 : decode cX2_greater 9 = .ok (.lload_n 1, 1) := by decide +kernel
theorem dX2_greater_10 : decode cX2_greater 10 = .ok (.goto 4, 3) := by decide +kernel
theorem dX2_greater_13 : decode cX2_greater 13 = .ok (.lload_n 3, 1) := by decide +kernel
theorem dX2_greater_14 : decode cX2_greater 14 = .ok (.lreturn, 1) := by decide +kernel
set_option maxRecDepth 20000 in
theorem ggX2_lesser_X2_isAbove : GoodIn wsX2_lesser wsX2_isAbove := goodIn_r _ [4, 5, 6, 3, 7, 8, 9, 10, 11, 12] (by decide +kernel) (by decide +kernel)
set_option maxRecDepth 20000 in
theorem gX2_lesser_X2_isAbove : GoodIn wsX2_lesser (va_wsS RX2 77 yX2_isAbove wsX2_isAbove) := goodIn_app (goodIn_of _ (by decide +kernel)) ggX2_lesser_X2_isAbove
theorem dX2_lesser_0 : decode cX2_lesser 0 = .ok (.iload_n 0, 1) := by decide +kernel
theorem dX2_lesser_1 : decode cX2_lesser 1 = .ok (.lload_n 1, 1) := by decide +kernel
theorem dX2_lesser_2 : decode cX2_lesser 2 = .ok (.lload_n 3, 1) := by decide +kernel
theorem dX2_lesser_3 : decode cX2_lesser 3 = .ok (.invokestatic 77, 3) := by decide +kernel
theorem dX2_lesser_6 : decode cX2_lesser 6 = .ok (.ifCond .eq 7, 3) := by decide +kernel
theorem dX2_lesser_9 : decode cX2_lesser 9 = .ok (.lload_n 3, 1) := by decide +kernel
theorem dX2_lesser_10 : decode cX2_lesser 10 = .ok (.goto 4, 3) := by decide +kernel
theorem dX2_lesser_13 : decode cX2_lesser 13 = .ok (.lload_n 1, 1) := by decide +kernel
theorem dX2_lesser_14 : decode cX2_lesser 14 = .ok (.lreturn, 1) := by decide +kernel
set_option maxRecDepth 20000 in
theorem ggX2_sizeOf_X2_isBroken : GoodIn wsX2_sizeOf wsX2_isBroken := goodIn_r _ [4] (by decide +kernel) (by decide +kernel)
set_option maxRecDepth 20000 in
theorem gX2_sizeOf_X2_isBroken : GoodIn wsX2_sizeOf (va_wsS RX2 63 yX2_isBroken wsX2_isBroken) := goodIn_app (goodIn_of _ (by decide +kernel)) ggX2_sizeOf_X2_isBroken
set_option maxRecDepth 20000 in
theorem ggX2_sizeOf_X2_magnitude : GoodIn wsX2_sizeOf wsX2_magnitude := goodIn_r _ [7, 8, 9] (by decide +kernel) (by decide +kernel)
set_option maxRecDepth 20000 in
theorem gX2_sizeOf_X2_magnitude : GoodIn wsX2_sizeOf (va_wsS RX2 66 yX2_magnitude wsX2_magnitude) := goodIn_app (goodIn_of _ (by decide +kernel)) ggX2_sizeOf_X2_magnitude
set_option maxRecDepth 20000 in
theorem ggX2_sizeOf_X2_taken : GoodIn wsX2_sizeOf wsX2_taken := goodIn_r _ [12] (by decide +kernel) (by decide +kernel)
set_option maxRecDepth 20000 in
theorem gX2_sizeOf_X2_taken : GoodIn wsX2_sizeOf (va_wsS RX2 81 yX2_taken wsX2_taken) := goodIn_app (goodIn_of _ (by decide +kernel)) ggX2_sizeOf_X2_taken
theorem dX2_sizeOf_0 : decode cX2_sizeOf 0 = .ok (.iload_n 0, 1) := by decide +kernel
theorem dX2_sizeOf_1 : decode cX2_sizeOf 1 = .ok (.invokestatic 63, 3) := by decide +kernel
theorem dX2_sizeOf_4 : decode cX2_sizeOf 4 = .ok (.ifCond .eq 9, 3) := by decide +kernel
theorem dX2_sizeOf_7 : decode cX2_sizeOf 7 = .ok (.iload_n 0, 1) := by decide +kernel
theorem dX2_sizeOf_8 : decode cX2_sizeOf 8 = .ok (.lload_n 1, 1) := by decide +kernel
theorem dX2_sizeOf_9 : decode cX2_sizeOf 9 = .ok (.invokestatic 66, 3) := by decide +kernel
theorem dX2_sizeOf_12 : decode cX2_sizeOf 12 = .ok (.lreturn, 1) := by decide +kernel
theorem dX2_sizeOf_13 : decode cX2_sizeOf 13 = .ok (.lload_n 1, 1) := by decide +kernel
theorem dX2_sizeOf_14 : decode cX2_sizeOf 14 = .ok (.lconst 0, 1) := by decide +kernel
theorem dX2_sizeOf_15 : decode cX2_sizeOf 15 = .ok (.lcmp, 1) := by decide +kernel
theorem dX2_sizeOf_16 : decode cX2_sizeOf 16 = .ok (.ifCond .ge 12, 3) := by decide +kernel
theorem dX2_sizeOf_19 : decode cX2_sizeOf 19 = .ok (.iload_n 0, 1) := by decide +kernel
theorem dX2_sizeOf_20 : decode cX2_sizeOf 20 = .ok (.lload_n 1, 1) := by decide +kernel
theorem dX2_sizeOf_21 : decode cX2_sizeOf 21 = .ok (.lneg, 1) := by decide +kernel
theorem dX2_sizeOf_22 : decode cX2_sizeOf 22 = .ok (.invokestatic 81, 3) := by decide +kernel
theorem dX2_sizeOf_25 : decode cX2_sizeOf 25 = .ok (.goto 4, 3) := by decide +kernel
theorem dX2_sizeOf_28 : decode cX2_sizeOf 28 = .ok (.lload_n 1, 1) := by decide +kernel
theorem dX2_sizeOf_29 : decode cX2_sizeOf 29 = .ok (.lreturn, 1) := by decide +kernel
set_option maxRecDepth 20000 in
theorem ggX2_turned_X2_isBroken : GoodIn wsX2_turned wsX2_isBroken := goodIn_r _ [4] (by decide +kernel) (by decide +kernel)
set_option maxRecDepth 20000 in
theorem gX2_turned_X2_isBroken : GoodIn wsX2_turned (va_wsS RX2 63 yX2_isBroken wsX2_isBroken) := goodIn_app (goodIn_of _ (by decide +kernel)) ggX2_turned_X2_isBroken
set_option maxRecDepth 20000 in
theorem ggX2_turned_X2_magnitude : GoodIn wsX2_turned wsX2_magnitude := goodIn_r _ [7, 8, 9] (by decide +kernel) (by decide +kernel)
set_option maxRecDepth 20000 in
theorem gX2_turned_X2_magnitude : GoodIn wsX2_turned (va_wsS RX2 66 yX2_magnitude wsX2_magnitude) := goodIn_app (goodIn_of _ (by decide +kernel)) ggX2_turned_X2_magnitude
set_option maxRecDepth 20000 in
theorem ggX2_turned_X2_signed : GoodIn wsX2_turned wsX2_signed := goodIn_r _ [12, 13, 14] (by decide +kernel) (by decide +kernel)
set_option maxRecDepth 20000 in
theorem gX2_turned_X2_signed : GoodIn wsX2_turned (va_wsS RX2 84 yX2_signed wsX2_signed) := goodIn_app (goodIn_of _ (by decide +kernel)) ggX2_turned_X2_signed
set_option maxRecDepth 20000 in
theorem ggX2_turned_X2_taken : GoodIn wsX2_turned wsX2_taken := goodIn_r _ [17] (by decide +kernel) (by decide +kernel)
set_option maxRecDepth 20000 in
theorem gX2_turned_X2_taken : GoodIn wsX2_turned (va_wsS RX2 81 yX2_taken wsX2_taken) := goodIn_app (goodIn_of _ (by decide +kernel)) ggX2_turned_X2_taken
theorem dX2_turned_0 : decode cX2_turned 0 = .ok (.iload_n 0, 1) := by decide +kernel
theorem dX2_turned_1 : decode cX2_turned 1 = .ok (.invokestatic 63, 3) := by decide +kernel
theorem dX2_turned_4 : decode cX2_turned 4 = .ok (.ifCond .eq 26, 3) := by decide +kernel
theorem dX2_turned_7 : decode cX2_turned 7 = .ok (.iload_n 0, 1) := by decide +kernel
theorem dX2_turned_8 : decode cX2_turned 8 = .ok (.iload_n 0, 1) := by decide +kernel
theorem dX2_turned_9 : decode cX2_turned 9 = .ok (.lload_n 1, 1) := by decide +kernel
theorem dX2_turned_10 : decode cX2_turned 10 = .ok (.invokestatic 66, 3) := by decide +kernel
theorem dX2_turned_13 : decode cX2_turned 13 = .ok (.lload_n 1, 1) := by decide +kernel
theorem dX2_turned_14 : decode cX2_turned 14 = .ok (.lconst 0, 1) := by decide +kernel
theorem dX2_turned_15 : decode cX2_turned 15 = .ok (.lcmp, 1) := by decide +kernel
theorem dX2_turned_16 : decode cX2_turned 16 = .ok (.ifCond .lt 7, 3) := by decide +kernel
theorem dX2_turned_19 : decode cX2_turned 19 = .ok (.iconst 1, 1) := by decide +kernel
theorem dX2_turned_20 : decode cX2_turned 20 = .ok (.goto 4, 3) := by decide +kernel
theorem dX2_turned_23 : decode cX2_turned 23 = .ok (.iconst 0, 1) := by decide +kernel
theorem dX2_turned_24 : decode cX2_turned 24 = .ok (.invokestatic 84, 3) := by decide +kernel
theorem dX2_turned_27 : decode cX2_turned 27 = .ok (.goto 9, 3) := by decide +kernel
theorem dX2_turned_30 : decode cX2_turned 30 = .ok (.iload_n 0, 1) := by decide +kernel
theorem dX2_turned_31 : decode cX2_turned 31 = .ok (.lload_n 1, 1) := by decide +kernel
theorem dX2_turned_32 : decode cX2_turned 32 = .ok (.lneg, 1) := by decide +kernel
theorem dX2_turned_33 : decode cX2_turned 33 = .ok (.invokestatic 81, 3) := by decide +kernel
theorem dX2_turned_36 : decode cX2_turned 36 = .ok (.lreturn, 1) := by decide +kernel
set_option maxRecDepth 20000 in
theorem ggX2_isZero_X2_isBroken : GoodIn wsX2_isZero wsX2_isBroken := goodIn_r _ [4] (by decide +kernel) (by decide +kernel)
set_option maxRecDepth 20000 in
theorem gX2_isZero_X2_isBroken : GoodIn wsX2_isZero (va_wsS RX2 63 yX2_isBroken wsX2_isBroken) := goodIn_app (goodIn_of _ (by decide +kernel)) ggX2_isZero_X2_isBroken
set_option maxRecDepth 20000 in
theorem ggX2_isZero_X2_magnitude : GoodIn wsX2_isZero wsX2_magnitude := goodIn_r _ [7, 8, 9] (by decide +kernel) (by decide +kernel)
set_option maxRecDepth 20000 in
theorem gX2_isZero_X2_magnitude : GoodIn wsX2_isZero (va_wsS RX2 66 yX2_magnitude wsX2_magnitude) := goodIn_app (goodIn_of _ (by decide +kernel)) ggX2_isZero_X2_magnitude
theorem dX2_isZero_0 : decode cX2_isZero 0 = .ok (.iload_n 0, 1) := by decide +kernel
theorem dX2_isZero_1 : decode cX2_isZero 1 = .ok (.invokestatic 63, 3) := by decide +kernel
theorem dX2_isZero_4 : decode cX2_isZero 4 = .ok (.ifCond .eq 21, 3) := by decide +kernel
theorem dX2_isZero_7 : decode cX2_isZero 7 = .ok (.iload_n 0, 1) := by decide +kernel
theorem dX2_isZero_8 : decode cX2_isZero 8 = .ok (.lload_n 1, 1) := by decide +kernel
theorem dX2_isZero_9 : decode cX2_isZero 9 = .ok (.invokestatic 66, 3) := by decide +kernel
theorem dX2_isZero_12 : decode cX2_isZero 12 = .ok (.lconst 0, 1) := by decide +kernel
theorem dX2_isZero_13 : decode cX2_isZero 13 = .ok (.lcmp, 1) := by decide +kernel
theorem dX2_isZero_14 : decode cX2_isZero 14 = .ok (.ifCond .ne 7, 3) := by decide +kernel
theorem dX2_isZero_17 : decode cX2_isZero 17 = .ok (.iconst 1, 1) := by decide +kernel
theorem dX2_isZero_18 : decode cX2_isZero 18 = .ok (.goto 18, 3) := by decide +kernel
theorem dX2_isZero_21 : decode cX2_isZero 21 = .ok (.iconst 0, 1) := by decide +kernel
theorem dX2_isZero_22 : decode cX2_isZero 22 = .ok (.goto 14, 3) := by decide +kernel
theorem dX2_isZero_25 : decode cX2_isZero 25 = .ok (.lload_n 1, 1) := by decide +kernel
theorem dX2_isZero_26 : decode cX2_isZero 26 = .ok (.lconst 0, 1) := by decide +kernel
theorem dX2_isZero_27 : decode cX2_isZero 27 = .ok (.lcmp, 1) := by decide +kernel
theorem dX2_isZero_28 : decode cX2_isZero 28 = .ok (.ifCond .ne 7, 3) := by decide +kernel
theorem dX2_isZero_31 : decode cX2_isZero 31 = .ok (.iconst 1, 1) := by decide +kernel
theorem dX2_isZero_32 : decode cX2_isZero 32 = .ok (.goto 4, 3) := by decide +kernel
theorem dX2_isZero_35 : decode cX2_isZero 35 = .ok (.iconst 0, 1) := by decide +kernel
theorem dX2_isZero_36 : decode cX2_isZero 36 = .ok (.ireturn, 1) := by decide +kernel
set_option maxRecDepth 20000 in
theorem ggX2_whole_X2_magnitude : GoodIn wsX2_whole wsX2_magnitude := goodIn_r _ [5, 6, 7] (by decide +kernel) (by decide +kernel)
set_option maxRecDepth 20000 in
theorem gX2_whole_X2_magnitude : GoodIn wsX2_whole (va_wsS RX2 66 yX2_magnitude wsX2_magnitude) := goodIn_app (goodIn_of _ (by decide +kernel)) ggX2_whole_X2_magnitude
set_option maxRecDepth 20000 in
theorem ggX2_whole_X2_one : GoodIn wsX2_whole wsX2_one := goodIn_r _ [10, 11, 12] (by decide +kernel) (by decide +kernel)
set_option maxRecDepth 20000 in
theorem gX2_whole_X2_one : GoodIn wsX2_whole (va_wsS RX2 88 yX2_one wsX2_one) := goodIn_app (goodIn_of _ (by decide +kernel)) ggX2_whole_X2_one
set_option maxRecDepth 20000 in
theorem ggX2_whole_X2_signed : GoodIn wsX2_whole wsX2_signed := goodIn_r _ [15, 16, 17] (by decide +kernel) (by decide +kernel)
set_option maxRecDepth 20000 in
theorem gX2_whole_X2_signed : GoodIn wsX2_whole (va_wsS RX2 84 yX2_signed wsX2_signed) := goodIn_app (goodIn_of _ (by decide +kernel)) ggX2_whole_X2_signed
theorem dX2_whole_0 : decode cX2_whole 0 = .ok (.iload_n 0, 1) := by decide +kernel
theorem dX2_whole_1 : decode cX2_whole 1 = .ok (.iconst 2, 1) := by decide +kernel
theorem dX2_whole_2 : decode cX2_whole 2 = .ok (.if_icmp .ne 8, 3) := by decide +kernel
theorem dX2_whole_5 : decode cX2_whole 5 = .ok (.bipush 23, 2) := by decide +kernel
theorem dX2_whole_7 : decode cX2_whole 7 = .ok (.goto 5, 3) := by decide +kernel
theorem dX2_whole_10 : decode cX2_whole 10 = .ok (.bipush 52, 2) := by decide +kernel
theorem dX2_whole_12 : decode cX2_whole 12 = .ok (.istore 4, 2) := by decide +kernel
theorem dX2_whole_14 : decode cX2_whole 14 = .ok (.iload_n 0, 1) := by decide +kernel
theorem dX2_whole_15 : decode cX2_whole 15 = .ok (.iconst 2, 1) := by decide +kernel
theorem dX2_whole_16 : decode cX2_whole 16 = .ok (.if_icmp .ne 8, 3) := by decide +kernel
theorem dX2_whole_19 : decode cX2_whole 19 = .ok (.bipush 127, 2) := by decide +kernel
theorem dX2_whole_21 : decode cX2_whole 21 = .ok (.goto 6, 3) := by decide +kernel
theorem dX2_whole_24 : decode cX2_whole 24 = .ok (.sipush 1023, 3) := by decide +kernel
theorem dX2_whole_27 : decode cX2_whole 27 = .ok (.istore 5, 2) := by decide +kernel
theorem dX2_whole_29 : decode cX2_whole 29 = .ok (.iload_n 0, 1) := by decide +kernel
theorem dX2_whole_30 : decode cX2_whole 30 = .ok (.lload_n 1, 1) := by decide +kernel
theorem dX2_whole_31 : decode cX2_whole 31 = .ok (.invokestatic 66, 3) := by decide +kernel
theorem dX2_whole_34 : decode cX2_whole 34 = .ok (.lstore 6, 2) := by decide +kernel
theorem dX2_whole_36 : decode cX2_whole 36 = .ok (.lload_n 1, 1) := by decide +kernel
theorem dX2_whole_37 : decode cX2_whole 37 = .ok (.lconst 0, 1) := by decide +kernel
theorem dX2_whole_38 : decode cX2_whole 38 = .ok (.lcmp, 1) := by decide +kernel
theorem dX2_whole_39 : decode cX2_whole 39 = .ok (.ifCond .ge 7, 3) := by decide +kernel
theorem dX2_whole_42 : decode cX2_whole 42 = .ok (.iconst 1, 1) := by decide +kernel
theorem dX2_whole_43 : decode cX2_whole 43 = .ok (.goto 4, 3) := by decide +kernel
theorem dX2_whole_46 : decode cX2_whole 46 = .ok (.iconst 0, 1) := by decide +kernel
theorem dX2_whole_47 : decode cX2_whole 47 = .ok (.istore 8, 2) := by decide +kernel
theorem dX2_whole_49 : decode cX2_whole 49 = .ok (.lload 6, 2) := by decide +kernel
theorem dX2_whole_51 : decode cX2_whole 51 = .ok (.iload 4, 2) := by decide +kernel
theorem dX2_whole_53 : decode cX2_whole 53 = .ok (.lshr, 1) := by decide +kernel
theorem dX2_whole_54 : decode cX2_whole 54 = .ok (.l2i, 1) := by decide +kernel
theorem dX2_whole_55 : decode cX2_whole 55 = .ok (.iload 5, 2) := by decide +kernel
theorem dX2_whole_57 : decode cX2_whole 57 = .ok (.isub, 1) := by decide +kernel
theorem dX2_whole_58 : decode cX2_whole 58 = .ok (.istore 9, 2) := by decide +kernel
theorem dX2_whole_60 : decode cX2_whole 60 = .ok (.iload 9, 2) := by decide +kernel
theorem dX2_whole_62 : decode cX2_whole 62 = .ok (.iload 4, 2) := by decide +kernel
theorem dX2_whole_64 : decode cX2_whole 64 = .ok (.if_icmp .ge 10, 3) := by decide +kernel
theorem dX2_whole_67 : decode cX2_whole 67 = .ok (.lload 6, 2) := by decide +kernel
theorem dX2_whole_69 : decode cX2_whole 69 = .ok (.lconst 0, 1) := by decide +kernel
theorem dX2_whole_70 : decode cX2_whole 70 = .ok (.lcmp, 1) := by decide +kernel
theorem dX2_whole_71 : decode cX2_whole 71 = .ok (.ifCond .ne 5, 3) := by decide +kernel
theorem dX2_whole_74 : decode cX2_whole 74 = .ok (.lload_n 1, 1) := by decide +kernel
theorem dX2_whole_75 : decode cX2_whole 75 = .ok (.lreturn, 1) := by decide +kernel
theorem dX2_whole_76 : decode cX2_whole 76 = .ok (.iload_n 3, 1) := by decide +kernel
theorem dX2_whole_77 : decode cX2_whole 77 = .ok (.ifCond .ne 8, 3) := by decide +kernel
theorem dX2_whole_80 : decode cX2_whole 80 = .ok (.iload 8, 2) := by decide +kernel
theorem dX2_whole_82 : decode cX2_whole 82 = .ok (.goto 18, 3) := by decide +kernel
theorem dX2_whole_85 : decode cX2_whole 85 = .ok (.iload_n 3, 1) := by decide +kernel
theorem dX2_whole_86 : decode cX2_whole 86 = .ok (.iconst 1, 1) := by decide +kernel
theorem dX2_whole_87 : decode cX2_whole 87 = .ok (.if_icmp .ne 12, 3) := by decide +kernel
theorem dX2_whole_90 : decode cX2_whole 90 = .ok (.iload 8, 2) := by decide +kernel
theorem dX2_whole_92 : decode cX2_whole 92 = .ok (.ifCond .ne 7, 3) := by decide +kernel
theorem dX2_whole_95 : decode cX2_whole 95 = .ok (.iconst 1, 1) := by decide +kernel
theorem dX2_whole_96 : decode cX2_whole 96 = .ok (.goto 4, 3) := by decide +kernel
theorem dX2_whole_99 : decode cX2_whole 99 = .ok (.iconst 0, 1) := by decide +kernel
theorem dX2_whole_100 : decode cX2_whole 100 = .ok (.istore 10, 2) := by decide +kernel
theorem dX2_whole_102 : decode cX2_whole 102 = .ok (.iload 9, 2) := by decide +kernel
theorem dX2_whole_104 : decode cX2_whole 104 = .ok (.ifCond .ge 49, 3) := by decide +kernel
theorem dX2_whole_107 : decode cX2_whole 107 = .ok (.iload_n 3, 1) := by decide +kernel
theorem dX2_whole_108 : decode cX2_whole 108 = .ok (.iconst 2, 1) := by decide +kernel
theorem dX2_whole_109 : decode cX2_whole 109 = .ok (.if_icmp .ne 24, 3) := by decide +kernel
theorem dX2_whole_112 : decode cX2_whole 112 = .ok (.lload 6, 2) := by decide +kernel
theorem dX2_whole_114 : decode cX2_whole 114 = .ok (.iload 5, 2) := by decide +kernel
theorem dX2_whole_116 : decode cX2_whole 116 = .ok (.i2l, 1) := by decide +kernel
theorem dX2_whole_117 : decode cX2_whole 117 = .ok (.lconst 1, 1) := by decide +kernel
theorem dX2_whole_118 : decode cX2_whole 118 = .ok (.lsub, 1) := by decide +kernel
theorem dX2_whole_119 : decode cX2_whole 119 = .ok (.iload 4, 2) := by decide +kernel
theorem dX2_whole_121 : decode cX2_whole 121 = .ok (.lshl, 1) := by decide +kernel
theorem dX2_whole_122 : decode cX2_whole 122 = .ok (.lcmp, 1) := by decide +kernel
theorem dX2_whole_123 : decode cX2_whole 123 = .ok (.ifCond .le 7, 3) := by decide +kernel
theorem dX2_whole_126 : decode cX2_whole 126 = .ok (.iconst 1, 1) := by decide +kernel
theorem dX2_whole_127 : decode cX2_whole 127 = .ok (.goto 4, 3) := by decide +kernel
theorem dX2_whole_130 : decode cX2_whole 130 = .ok (.iconst 0, 1) := by decide +kernel
theorem dX2_whole_131 : decode cX2_whole 131 = .ok (.istore 10, 2) := by decide +kernel
theorem dX2_whole_133 : decode cX2_whole 133 = .ok (.iload_n 0, 1) := by decide +kernel
theorem dX2_whole_134 : decode cX2_whole 134 = .ok (.iload 10, 2) := by decide +kernel
theorem dX2_whole_136 : decode cX2_whole 136 = .ok (.ifCond .eq 10, 3) := by decide +kernel
theorem dX2_whole_139 : decode cX2_whole 139 = .ok (.iload_n 0, 1) := by decide +kernel
theorem dX2_whole_140 : decode cX2_whole 140 = .ok (.invokestatic 88, 3) := by decide +kernel
theorem dX2_whole_143 : decode cX2_whole 143 = .ok (.goto 4, 3) := by decide +kernel
theorem dX2_whole_146 : decode cX2_whole 146 = .ok (.lconst 0, 1) := by decide +kernel
theorem dX2_whole_147 : decode cX2_whole 147 = .ok (.iload 8, 2) := by decide +kernel
theorem dX2_whole_149 : decode cX2_whole 149 = .ok (.invokestatic 84, 3) := by decide +kernel
theorem dX2_whole_152 : decode cX2_whole 152 = .ok (.lreturn, 1) := by decide +kernel
theorem dX2_whole_153 : decode cX2_whole 153 = .ok (.lconst 1, 1) := by decide +kernel
theorem dX2_whole_154 : decode cX2_whole 154 = .ok (.iload 4, 2) := by decide +kernel
theorem dX2_whole_156 : decode cX2_whole 156 = .ok (.iload 9, 2) := by decide +kernel
theorem dX2_whole_158 : decode cX2_whole 158 = .ok (.isub, 1) := by decide +kernel
theorem dX2_whole_159 : decode cX2_whole 159 = .ok (.lshl, 1) := by decide +kernel
theorem dX2_whole_160 : decode cX2_whole 160 = .ok (.lstore 11, 2) := by decide +kernel
theorem dX2_whole_162 : decode cX2_whole 162 = .ok (.lload 6, 2) := by decide +kernel
theorem dX2_whole_164 : decode cX2_whole 164 = .ok (.lload 11, 2) := by decide +kernel
theorem dX2_whole_166 : decode cX2_whole 166 = .ok (.lconst 1, 1) := by decide +kernel
theorem dX2_whole_167 : decode cX2_whole 167 = .ok (.lsub, 1) := by decide +kernel
theorem dX2_whole_168 : decode cX2_whole 168 = .ok (.land, 1) := by decide +kernel
theorem dX2_whole_169 : decode cX2_whole 169 = .ok (.lstore 13, 2) := by decide +kernel
theorem dX2_whole_171 : decode cX2_whole 171 = .ok (.lload 6, 2) := by decide +kernel
theorem dX2_whole_173 : decode cX2_whole 173 = .ok (.lload 13, 2) := by decide +kernel
theorem dX2_whole_175 : decode cX2_whole 175 = .ok (.lsub, 1) := by decide +kernel
theorem dX2_whole_176 : decode cX2_whole 176 = .ok (.lstore 15, 2) := by decide +kernel
theorem dX2_whole_178 : decode cX2_whole 178 = .ok (.lload 13, 2) := by decide +kernel
theorem dX2_whole_180 : decode cX2_whole 180 = .ok (.lconst 0, 1) := by decide +kernel
theorem dX2_whole_181 : decode cX2_whole 181 = .ok (.lcmp, 1) := by decide +kernel
theorem dX2_whole_182 : decode cX2_whole 182 = .ok (.ifCond .ne 5, 3) := by decide +kernel
theorem dX2_whole_185 : decode cX2_whole 185 = .ok (.lload_n 1, 1) := by decide +kernel
theorem dX2_whole_186 : decode cX2_whole 186 = .ok (.lreturn, 1) := by decide +kernel
theorem dX2_whole_187 : decode cX2_whole 187 = .ok (.iload_n 3, 1) := by decide +kernel
theorem dX2_whole_188 : decode cX2_whole 188 = .ok (.iconst 2, 1) := by decide +kernel
theorem dX2_whole_189 : decode cX2_whole 189 = .ok (.if_icmp .ne 44, 3) := by decide +kernel
theorem dX2_whole_192 : decode cX2_whole 192 = .ok (.lload 13, 2) := by decide +kernel
theorem dX2_whole_194 : decode cX2_whole 194 = .ok (.lload 11, 2) := by decide +kernel
theorem dX2_whole_196 : decode cX2_whole 196 = .ok (.ldc2_w 91, 3) := by decide +kernel
theorem dX2_whole_199 : decode cX2_whole 199 = .ok (.ldiv, 1) := by decide +kernel
theorem dX2_whole_200 : decode cX2_whole 200 = .ok (.lcmp, 1) := by decide +kernel
theorem dX2_whole_201 : decode cX2_whole 201 = .ok (.ifCond .gt 25, 3) := by decide +kernel
theorem dX2_whole_204 : decode cX2_whole 204 = .ok (.lload 13, 2) := by decide +kernel
theorem dX2_whole_206 : decode cX2_whole 206 = .ok (.lload 11, 2) := by decide +kernel
theorem dX2_whole_208 : decode cX2_whole 208 = .ok (.ldc2_w 91, 3) := by decide +kernel
theorem dX2_whole_211 : decode cX2_whole 211 = .ok (.ldiv, 1) := by decide +kernel
theorem dX2_whole_212 : decode cX2_whole 212 = .ok (.lcmp, 1) := by decide +kernel
theorem dX2_whole_213 : decode cX2_whole 213 = .ok (.ifCond .ne 17, 3) := by decide +kernel
theorem dX2_whole_216 : decode cX2_whole 216 = .ok (.lload 15, 2) := by decide +kernel
theorem dX2_whole_218 : decode cX2_whole 218 = .ok (.lload 11, 2) := by decide +kernel
theorem dX2_whole_220 : decode cX2_whole 220 = .ok (.land, 1) := by decide +kernel
theorem dX2_whole_221 : decode cX2_whole 221 = .ok (.lconst 0, 1) := by decide +kernel
theorem dX2_whole_222 : decode cX2_whole 222 = .ok (.lcmp, 1) := by decide +kernel
theorem dX2_whole_223 : decode cX2_whole 223 = .ok (.ifCond .eq 7, 3) := by decide +kernel
theorem dX2_whole_226 : decode cX2_whole 226 = .ok (.iconst 1, 1) := by decide +kernel
theorem dX2_whole_227 : decode cX2_whole 227 = .ok (.goto 4, 3) := by decide +kernel
theorem dX2_whole_230 : decode cX2_whole 230 = .ok (.iconst 0, 1) := by decide +kernel
theorem dX2_whole_231 : decode cX2_whole 231 = .ok (.istore 10, 2) := by decide +kernel
theorem dX2_whole_233 : decode cX2_whole 233 = .ok (.iload_n 0, 1) := by decide +kernel
theorem dX2_whole_234 : decode cX2_whole 234 = .ok (.iload 10, 2) := by decide +kernel
theorem dX2_whole_236 : decode cX2_whole 236 = .ok (.ifCond .eq 11, 3) := by decide +kernel
theorem dX2_whole_239 : decode cX2_whole 239 = .ok (.lload 15, 2) := by decide +kernel
theorem dX2_whole_241 : decode cX2_whole 241 = .ok (.lload 11, 2) := by decide +kernel
theorem dX2_whole_243 : decode cX2_whole 243 = .ok (.ladd, 1) := by decide +kernel
theorem dX2_whole_244 : decode cX2_whole 244 = .ok (.goto 5, 3) := by decide +kernel
theorem dX2_whole_247 : decode cX2_whole 247 = .ok (.lload 15, 2) := by decide +kernel
theorem dX2_whole_249 : decode cX2_whole 249 = .ok (.iload 8, 2) := by decide +kernel
theorem dX2_whole_251 : decode cX2_whole 251 = .ok (.invokestatic 84, 3) := by decide +kernel
theorem dX2_whole_254 : decode cX2_whole 254 = .ok (.lreturn, 1) := by decide +kernel
set_option maxRecDepth 20000 in
theorem ggX2_made_X2_isBroken : GoodIn wsX2_made wsX2_isBroken := goodIn_r _ [12] (by decide +kernel) (by decide +kernel)
set_option maxRecDepth 20000 in
theorem gX2_made_X2_isBroken : GoodIn wsX2_made (va_wsS RX2 63 yX2_isBroken wsX2_isBroken) := goodIn_app (goodIn_of _ (by decide +kernel)) ggX2_made_X2_isBroken
set_option maxRecDepth 20000 in
theorem ggX2_made_X2_taken : GoodIn wsX2_made wsX2_taken := goodIn_r _ [15] (by decide +kernel) (by decide +kernel)
set_option maxRecDepth 20000 in
theorem gX2_made_X2_taken : GoodIn wsX2_made (va_wsS RX2 81 yX2_taken wsX2_taken) := goodIn_app (goodIn_of _ (by decide +kernel)) ggX2_made_X2_taken
set_option maxRecDepth 20000 in
theorem ggX2_made_Jxf58ca_floatToIntBits_5c35a : GoodIn wsX2_made wsJxf58ca_floatToIntBits_5c35a := goodIn_r _ [19, 20, 21, 22, 4, 23, 24, 25, 18, 26] (by decide +kernel) (by decide +kernel)
set_option maxRecDepth 20000 in
theorem gX2_made_Jxf58ca_floatToIntBits_5c35a : GoodIn wsX2_made (va_wsS RX2 93 yJxf58ca_floatToIntBits_5c35a wsJxf58ca_floatToIntBits_5c35a) := goodIn_app (goodIn_of _ (by decide +kernel)) ggX2_made_Jxf58ca_floatToIntBits_5c35a
set_option maxRecDepth 20000 in
theorem ggX2_made_Jxe99ae_doubleToLongBits_ccdee : GoodIn wsX2_made wsJxe99ae_doubleToLongBits_ccdee := goodIn_r _ [30, 31, 32, 33, 8, 34, 35, 36, 29, 37] (by decide +kernel) (by decide +kernel)
set_option maxRecDepth 20000 in
theorem gX2_made_Jxe99ae_doubleToLongBits_ccdee : GoodIn wsX2_made (va_wsS RX2 99 yJxe99ae_doubleToLongBits_ccdee wsJxe99ae_doubleToLongBits_ccdee) := goodIn_app (goodIn_of _ (by decide +kernel)) ggX2_made_Jxe99ae_doubleToLongBits_ccdee
theorem dX2_made_0 : decode cX2_made 0 = .ok (.iload_n 0, 1) := by decide +kernel
theorem dX2_made_1 : decode cX2_made 1 = .ok (.iload_n 1, 1) := by decide +kernel
theorem dX2_made_2 : decode cX2_made 2 = .ok (.if_icmp .ne 5, 3) := by decide +kernel
theorem dX2_made_5 : decode cX2_made 5 = .ok (.lload_n 2, 1) := by decide +kernel
theorem dX2_made_6 : decode cX2_made 6 = .ok (.lreturn, 1) := by decide +kernel
theorem dX2_made_7 : decode cX2_made 7 = .ok (.iload_n 0, 1) := by decide +kernel
theorem dX2_made_8 : decode cX2_made 8 = .ok (.invokestatic 63, 3) := by decide +kernel
theorem dX2_made_11 : decode cX2_made 11 = .ok (.ifCond .ne 16, 3) := by decide +kernel
theorem dX2_made_14 : decode cX2_made 14 = .ok (.iload_n 1, 1) := by decide +kernel
theorem dX2_made_15 : decode cX2_made 15 = .ok (.invokestatic 63, 3) := by decide +kernel
theorem dX2_made_18 : decode cX2_made 18 = .ok (.ifCond .ne 9, 3) := by decide +kernel
theorem dX2_made_21 : decode cX2_made 21 = .ok (.iload_n 1, 1) := by decide +kernel
theorem dX2_made_22 : decode cX2_made 22 = .ok (.lload_n 2, 1) := by decide +kernel
theorem dX2_made_23 : decode cX2_made 23 = .ok (.invokestatic 81, 3) := by decide +kernel
theorem dX2_made_26 : decode cX2_made 26 = .ok (.lreturn, 1) := by decide +kernel
theorem dX2_made_27 : decode cX2_made 27 = .ok (.iload_n 0, 1) := by decide +kernel
theorem dX2_made_28 : decode cX2_made 28 = .ok (.invokestatic 63, 3) := by decide +kernel
theorem dX2_made_31 : decode cX2_made 31 = .ok (.ifCond .ne 23, 3) := by decide +kernel
theorem dX2_made_34 : decode cX2_made 34 = .ok (.iload_n 1, 1) := by decide +kernel
theorem dX2_made_35 : decode cX2_made 35 = .ok (.iconst 2, 1) := by decide +kernel
theorem dX2_made_36 : decode cX2_made 36 = .ok (.if_icmp .ne 12, 3) := by decide +kernel
theorem dX2_made_39 : decode cX2_made 39 = .ok (.lload_n 2, 1) := by decide +kernel
theorem dX2_made_40 : decode cX2_made 40 = .ok (.l2f, 1) := by decide +kernel
theorem dX2_made_41 : decode cX2_made 41 = .ok (.invokestatic 93, 3) := by decide +kernel
theorem dX2_made_44 : decode cX2_made 44 = .ok (.i2l, 1) := by decide +kernel
theorem dX2_made_45 : decode cX2_made 45 = .ok (.goto 8, 3) := by decide +kernel
theorem dX2_made_48 : decode cX2_made 48 = .ok (.lload_n 2, 1) := by decide +kernel
theorem dX2_made_49 : decode cX2_made 49 = .ok (.l2d, 1) := by decide +kernel
theorem dX2_made_50 : decode cX2_made 50 = .ok (.invokestatic 99, 3) := by decide +kernel
theorem dX2_made_53 : decode cX2_made 53 = .ok (.lreturn, 1) := by decide +kernel
theorem dX2_made_54 : decode cX2_made 54 = .ok (.iload_n 0, 1) := by decide +kernel
theorem dX2_made_55 : decode cX2_made 55 = .ok (.iconst 2, 1) := by decide +kernel
theorem dX2_made_56 : decode cX2_made 56 = .ok (.if_icmp .ne 12, 3) := by decide +kernel
theorem dX2_made_59 : decode cX2_made 59 = .ok (.lload_n 2, 1) := by decide +kernel
theorem dX2_made_60 : decode cX2_made 60 = .ok (.l2i, 1) := by decide +kernel
theorem dX2_made_61 : decode cX2_made 61 = .ok (.invokestatic 105, 3) := by decide +kernel
theorem dX2_made_64 : decode cX2_made 64 = .ok (.f2d, 1) := by decide +kernel
theorem dX2_made_65 : decode cX2_made 65 = .ok (.goto 7, 3) := by decide +kernel
theorem dX2_made_68 : decode cX2_made 68 = .ok (.lload_n 2, 1) := by decide +kernel
theorem dX2_made_69 : decode cX2_made 69 = .ok (.invokestatic 109, 3) := by decide +kernel
theorem dX2_made_72 : decode cX2_made 72 = .ok (.dstore 4, 2) := by decide +kernel
theorem dX2_made_74 : decode cX2_made 74 = .ok (.iload_n 1, 1) := by decide +kernel
theorem dX2_made_75 : decode cX2_made 75 = .ok (.ifCond .ne 8, 3) := by decide +kernel
theorem dX2_made_78 : decode cX2_made 78 = .ok (.dload 4, 2) := by decide +kernel
theorem dX2_made_80 : decode cX2_made 80 = .ok (.d2i, 1) := by decide +kernel
theorem dX2_made_81 : decode cX2_made 81 = .ok (.i2l, 1) := by decide +kernel
theorem dX2_made_82 : decode cX2_made 82 = .ok (.lreturn, 1) := by decide +kernel
theorem dX2_made_83 : decode cX2_made 83 = .ok (.iload_n 1, 1) := by decide +kernel
theorem dX2_made_84 : decode cX2_made 84 = .ok (.iconst 1, 1) := by decide +kernel
theorem dX2_made_85 : decode cX2_made 85 = .ok (.if_icmp .ne 7, 3) := by decide +kernel
theorem dX2_made_88 : decode cX2_made 88 = .ok (.dload 4, 2) := by decide +kernel
theorem dX2_made_90 : decode cX2_made 90 = .ok (.d2l, 1) := by decide +kernel
theorem dX2_made_91 : decode cX2_made 91 = .ok (.lreturn, 1) := by decide +kernel
theorem dX2_made_92 : decode cX2_made 92 = .ok (.iload_n 1, 1) := by decide +kernel
theorem dX2_made_93 : decode cX2_made 93 = .ok (.iconst 2, 1) := by decide +kernel
theorem dX2_made_94 : decode cX2_made 94 = .ok (.if_icmp .ne 13, 3) := by decide +kernel
theorem dX2_made_97 : decode cX2_made 97 = .ok (.dload 4, 2) := by decide +kernel
theorem dX2_made_99 : decode cX2_made 99 = .ok (.d2f, 1) := by decide +kernel
theorem dX2_made_100 : decode cX2_made 100 = .ok (.invokestatic 93, 3) := by decide +kernel
theorem dX2_made_103 : decode cX2_made 103 = .ok (.i2l, 1) := by decide +kernel
theorem dX2_made_104 : decode cX2_made 104 = .ok (.goto 8, 3) := by decide +kernel
theorem dX2_made_107 : decode cX2_made 107 = .ok (.dload 4, 2) := by decide +kernel
theorem dX2_made_109 : decode cX2_made 109 = .ok (.invokestatic 99, 3) := by decide +kernel
theorem dX2_made_112 : decode cX2_made 112 = .ok (.lreturn, 1) := by decide +kernel
set_option maxRecDepth 20000 in
theorem ggX2_comes_X2_says : GoodIn wsX2_comes wsX2_says := goodIn_r _ [8, 9, 10, 11, 12, 13, 14, 15, 16, 17, 18, 19, 20, 21] (by decide +kernel) (by decide +kernel)
set_option maxRecDepth 20000 in
theorem gX2_comes_X2_says : GoodIn wsX2_comes (wsV RX2 113 RX2 yX2_says wsX2_says) := goodIn_app (goodIn_of _ (by decide +kernel)) ggX2_comes_X2_says
theorem dX2_comes_0 : decode cX2_comes 0 = .ok (.aload_n 0, 1) := by decide +kernel
theorem dX2_comes_1 : decode cX2_comes 1 = .ok (.getfield 7, 3) := by decide +kernel
theorem dX2_comes_4 : decode cX2_comes 4 = .ok (.iload_n 1, 1) := by decide +kernel
theorem dX2_comes_5 : decode cX2_comes 5 = .ok (.iload_n 2, 1) := by decide +kernel
theorem dX2_comes_6 : decode cX2_comes 6 = .ok (.iastore, 1) := by decide +kernel
theorem dX2_comes_7 : decode cX2_comes 7 = .ok (.aload_n 0, 1) := by decide +kernel
theorem dX2_comes_8 : decode cX2_comes 8 = .ok (.getfield 13, 3) := by decide +kernel
theorem dX2_comes_11 : decode cX2_comes 11 = .ok (.iload_n 1, 1) := by decide +kernel
theorem dX2_comes_12 : decode cX2_comes 12 = .ok (.lload_n 3, 1) := by decide +kernel
theorem dX2_comes_13 : decode cX2_comes 13 = .ok (.lastore, 1) := by decide +kernel
theorem dX2_comes_14 : decode cX2_comes 14 = .ok (.aload_n 0, 1) := by decide +kernel
theorem dX2_comes_15 : decode cX2_comes 15 = .ok (.getfield 17, 3) := by decide +kernel
theorem dX2_comes_18 : decode cX2_comes 18 = .ok (.iload_n 1, 1) := by decide +kernel
theorem dX2_comes_19 : decode cX2_comes 19 = .ok (.lload 5, 2) := by decide +kernel
theorem dX2_comes_21 : decode cX2_comes 21 = .ok (.lastore, 1) := by decide +kernel
theorem dX2_comes_22 : decode cX2_comes 22 = .ok (.aload_n 0, 1) := by decide +kernel
theorem dX2_comes_23 : decode cX2_comes 23 = .ok (.iconst 1, 1) := by decide +kernel
theorem dX2_comes_24 : decode cX2_comes 24 = .ok (.invokevirtual 113, 3) := by decide +kernel
theorem dX2_comes_27 : decode cX2_comes 27 = .ok (.ireturn, 1) := by decide +kernel
set_option maxRecDepth 20000 in
theorem ggX2_ordered_X2_lesser : GoodIn wsX2_ordered wsX2_lesser := goodIn_r _ [4, 5, 6, 3, 7, 8, 9, 10, 11, 12, 13, 14, 15] (by decide +kernel) (by decide +kernel)
set_option maxRecDepth 20000 in
theorem gX2_ordered_X2_lesser : GoodIn wsX2_ordered (va_wsS RX2 117 yX2_lesser wsX2_lesser) := goodIn_app (goodIn_of _ (by decide +kernel)) ggX2_ordered_X2_lesser
set_option maxRecDepth 20000 in
theorem ggX2_ordered_X2_greater : GoodIn wsX2_ordered wsX2_greater := goodIn_r _ [18, 5, 6, 3, 7, 8, 9, 10, 11, 12, 13, 14, 15] (by decide +kernel) (by decide +kernel)
set_option maxRecDepth 20000 in
theorem gX2_ordered_X2_greater : GoodIn wsX2_ordered (va_wsS RX2 121 yX2_greater wsX2_greater) := goodIn_app (goodIn_of _ (by decide +kernel)) ggX2_ordered_X2_greater
set_option maxRecDepth 20000 in
theorem ggX2_ordered_X2_comes : GoodIn wsX2_ordered wsX2_comes := goodIn_r _ [22, 23, 24, 25, 26, 27, 28, 3, 29, 30, 31, 32, 33, 34, 35, 36, 37, 38, 39, 40, 41, 42] (by decide +kernel) (by decide +kernel)
set_option maxRecDepth 20000 in
theorem gX2_ordered_X2_comes : GoodIn wsX2_ordered (wsV RX2 124 RX2 yX2_comes wsX2_comes) := goodIn_app (goodIn_of _ (by decide +kernel)) ggX2_ordered_X2_comes
theorem dX2_ordered_0 : decode cX2_ordered 0 = .ok (.aload_n 0, 1) := by decide +kernel
theorem dX2_ordered_1 : decode cX2_ordered 1 = .ok (.iload_n 1, 1) := by decide +kernel
theorem dX2_ordered_2 : decode cX2_ordered 2 = .ok (.iload_n 2, 1) := by decide +kernel
theorem dX2_ordered_3 : decode cX2_ordered 3 = .ok (.iload_n 2, 1) := by decide +kernel
theorem dX2_ordered_4 : decode cX2_ordered 4 = .ok (.lload_n 3, 1) := by decide +kernel
theorem dX2_ordered_5 : decode cX2_ordered 5 = .ok (.lload 5, 2) := by decide +kernel
theorem dX2_ordered_7 : decode cX2_ordered 7 = .ok (.invokestatic 117, 3) := by decide +kernel
theorem dX2_ordered_10 : decode cX2_ordered 10 = .ok (.iload_n 2, 1) := by decide +kernel
theorem dX2_ordered_11 : decode cX2_ordered 11 = .ok (.lload_n 3, 1) := by decide +kernel
theorem dX2_ordered_12 : decode cX2_ordered 12 = .ok (.lload 5, 2) := by decide +kernel
theorem dX2_ordered_14 : decode cX2_ordered 14 = .ok (.invokestatic 121, 3) := by decide +kernel
theorem dX2_ordered_17 : decode cX2_ordered 17 = .ok (.invokevirtual 124, 3) := by decide +kernel
theorem dX2_ordered_20 : decode cX2_ordered 20 = .ok (.ireturn, 1) := by decide +kernel
set_option maxRecDepth 20000 in
theorem ggX2_emptied_X2_says : GoodIn wsX2_emptied wsX2_says := goodIn_r _ [6, 7, 8, 9, 10, 11, 12, 13, 14, 15, 16, 17, 18, 19] (by decide +kernel) (by decide +kernel)
set_option maxRecDepth 20000 in
theorem gX2_emptied_X2_says : GoodIn wsX2_emptied (wsV RX2 113 RX2 yX2_says wsX2_says) := goodIn_app (goodIn_of _ (by decide +kernel)) ggX2_emptied_X2_says
theorem dX2_emptied_0 : decode cX2_emptied 0 = .ok (.aload_n 0, 1) := by decide +kernel
theorem dX2_emptied_1 : decode cX2_emptied 1 = .ok (.getfield 7, 3) := by decide +kernel
theorem dX2_emptied_4 : decode cX2_emptied 4 = .ok (.iload_n 1, 1) := by decide +kernel
theorem dX2_emptied_5 : decode cX2_emptied 5 = .ok (.iconst (-1), 1) := by decide +kernel
theorem dX2_emptied_6 : decode cX2_emptied 6 = .ok (.iastore, 1) := by decide +kernel
theorem dX2_emptied_7 : decode cX2_emptied 7 = .ok (.aload_n 0, 1) := by decide +kernel
theorem dX2_emptied_8 : decode cX2_emptied 8 = .ok (.iconst 0, 1) := by decide +kernel
theorem dX2_emptied_9 : decode cX2_emptied 9 = .ok (.invokevirtual 113, 3) := by decide +kernel
theorem dX2_emptied_12 : decode cX2_emptied 12 = .ok (.ireturn, 1) := by decide +kernel
set_option maxRecDepth 20000 in
theorem ggX2_set_X2_isSlot : GoodIn wsX2_set wsX2_isSlot := goodIn_r _ [4] (by decide +kernel) (by decide +kernel)
set_option maxRecDepth 20000 in
theorem gX2_set_X2_isSlot : GoodIn wsX2_set (va_wsS RX2 43 yX2_isSlot wsX2_isSlot) := goodIn_app (goodIn_of _ (by decide +kernel)) ggX2_set_X2_isSlot
set_option maxRecDepth 20000 in
theorem ggX2_set_X2_refuses : GoodIn wsX2_set wsX2_refuses := goodIn_r _ [8, 9, 10, 47, 48, 49, 50, 51, 52, 53, 54, 55, 56, 57, 58] (by decide +kernel) (by decide +kernel)
set_option maxRecDepth 20000 in
theorem gX2_set_X2_refuses : GoodIn wsX2_set (wsV RX2 128 RX2 yX2_refuses wsX2_refuses) := goodIn_app (goodIn_of _ (by decide +kernel)) ggX2_set_X2_refuses
set_option maxRecDepth 20000 in
theorem ggX2_set_X2_taken : GoodIn wsX2_set wsX2_taken := goodIn_r _ [13] (by decide +kernel) (by decide +kernel)
set_option maxRecDepth 20000 in
theorem gX2_set_X2_taken : GoodIn wsX2_set (va_wsS RX2 81 yX2_taken wsX2_taken) := goodIn_app (goodIn_of _ (by decide +kernel)) ggX2_set_X2_taken
set_option maxRecDepth 20000 in
theorem ggX2_set_X2_isNumber : GoodIn wsX2_set wsX2_isNumber := goodIn_r _ [16, 17, 18, 3, 19, 20, 21, 22, 23, 24, 25, 26, 27, 28, 29] (by decide +kernel) (by decide +kernel)
set_option maxRecDepth 20000 in
theorem gX2_set_X2_isNumber : GoodIn wsX2_set (va_wsS RX2 131 yX2_isNumber wsX2_isNumber) := goodIn_app (goodIn_of _ (by decide +kernel)) ggX2_set_X2_isNumber
set_option maxRecDepth 20000 in
theorem ggX2_set_X2_isAbove : GoodIn wsX2_set wsX2_isAbove := goodIn_r _ [32, 33, 34, 3, 35, 23, 24, 17, 18, 19] (by decide +kernel) (by decide +kernel)
set_option maxRecDepth 20000 in
theorem gX2_set_X2_isAbove : GoodIn wsX2_set (va_wsS RX2 77 yX2_isAbove wsX2_isAbove) := goodIn_app (goodIn_of _ (by decide +kernel)) ggX2_set_X2_isAbove
set_option maxRecDepth 20000 in
theorem ggX2_set_X2_comes : GoodIn wsX2_set wsX2_comes := goodIn_r _ [39, 40, 41, 42, 43, 44, 45, 3, 46, 9, 47, 48, 49, 50, 51, 52, 53, 54, 55, 56, 57, 58] (by decide +kernel) (by decide +kernel)
set_option maxRecDepth 20000 in
theorem gX2_set_X2_comes : GoodIn wsX2_set (wsV RX2 124 RX2 yX2_comes wsX2_comes) := goodIn_app (goodIn_of _ (by decide +kernel)) ggX2_set_X2_comes
theorem dX2_set_0 : decode cX2_set 0 = .ok (.iload_n 1, 1) := by decide +kernel
theorem dX2_set_1 : decode cX2_set 1 = .ok (.invokestatic 43, 3) := by decide +kernel
theorem dX2_set_4 : decode cX2_set 4 = .ok (.ifCond .ne 10, 3) := by decide +kernel
theorem dX2_set_7 : decode cX2_set 7 = .ok (.aload_n 0, 1) := by decide +kernel
theorem dX2_set_8 : decode cX2_set 8 = .ok (.bipush (-2), 2) := by decide +kernel
theorem dX2_set_10 : decode cX2_set 10 = .ok (.invokevirtual 128, 3) := by decide +kernel
theorem dX2_set_13 : decode cX2_set 13 = .ok (.ireturn, 1) := by decide +kernel
theorem dX2_set_14 : decode cX2_set 14 = .ok (.iload_n 2, 1) := by decide +kernel
theorem dX2_set_15 : decode cX2_set 15 = .ok (.ifCond .lt 8, 3) := by decide +kernel
theorem dX2_set_18 : decode cX2_set 18 = .ok (.iload_n 2, 1) := by decide +kernel
theorem dX2_set_19 : decode cX2_set 19 = .ok (.iconst 3, 1) := by decide +kernel
theorem dX2_set_20 : decode cX2_set 20 = .ok (.if_icmp .le 10, 3) := by decide +kernel
theorem dX2_set_23 : decode cX2_set 23 = .ok (.aload_n 0, 1) := by decide +kernel
theorem dX2_set_24 : decode cX2_set 24 = .ok (.bipush (-4), 2) := by decide +kernel
theorem dX2_set_26 : decode cX2_set 26 = .ok (.invokevirtual 128, 3) := by decide +kernel
theorem dX2_set_29 : decode cX2_set 29 = .ok (.ireturn, 1) := by decide +kernel
theorem dX2_set_30 : decode cX2_set 30 = .ok (.iload_n 2, 1) := by decide +kernel
theorem dX2_set_31 : decode cX2_set 31 = .ok (.lload_n 3, 1) := by decide +kernel
theorem dX2_set_32 : decode cX2_set 32 = .ok (.invokestatic 81, 3) := by decide +kernel
theorem dX2_set_35 : decode cX2_set 35 = .ok (.lstore 7, 2) := by decide +kernel
theorem dX2_set_37 : decode cX2_set 37 = .ok (.iload_n 2, 1) := by decide +kernel
theorem dX2_set_38 : decode cX2_set 38 = .ok (.lload 5, 2) := by decide +kernel
theorem dX2_set_40 : decode cX2_set 40 = .ok (.invokestatic 81, 3) := by decide +kernel
theorem dX2_set_43 : decode cX2_set 43 = .ok (.lstore 9, 2) := by decide +kernel
theorem dX2_set_45 : decode cX2_set 45 = .ok (.iload_n 2, 1) := by decide +kernel
theorem dX2_set_46 : decode cX2_set 46 = .ok (.lload 7, 2) := by decide +kernel
theorem dX2_set_48 : decode cX2_set 48 = .ok (.invokestatic 131, 3) := by decide +kernel
theorem dX2_set_51 : decode cX2_set 51 = .ok (.ifCond .eq 12, 3) := by decide +kernel
theorem dX2_set_54 : decode cX2_set 54 = .ok (.iload_n 2, 1) := by decide +kernel
theorem dX2_set_55 : decode cX2_set 55 = .ok (.lload 9, 2) := by decide +kernel
theorem dX2_set_57 : decode cX2_set 57 = .ok (.invokestatic 131, 3) := by decide +kernel
theorem dX2_set_60 : decode cX2_set 60 = .ok (.ifCond .ne 10, 3) := by decide +kernel
theorem dX2_set_63 : decode cX2_set 63 = .ok (.aload_n 0, 1) := by decide +kernel
theorem dX2_set_64 : decode cX2_set 64 = .ok (.bipush (-4), 2) := by decide +kernel
theorem dX2_set_66 : decode cX2_set 66 = .ok (.invokevirtual 128, 3) := by decide +kernel
theorem dX2_set_69 : decode cX2_set 69 = .ok (.ireturn, 1) := by decide +kernel
theorem dX2_set_70 : decode cX2_set 70 = .ok (.iload_n 2, 1) := by decide +kernel
theorem dX2_set_71 : decode cX2_set 71 = .ok (.lload 7, 2) := by decide +kernel
theorem dX2_set_73 : decode cX2_set 73 = .ok (.lload 9, 2) := by decide +kernel
theorem dX2_set_75 : decode cX2_set 75 = .ok (.invokestatic 77, 3) := by decide +kernel
theorem dX2_set_78 : decode cX2_set 78 = .ok (.ifCond .eq 12, 3) := by decide +kernel
theorem dX2_set_81 : decode cX2_set 81 = .ok (.aload_n 0, 1) := by decide +kernel
theorem dX2_set_82 : decode cX2_set 82 = .ok (.bipush (-5), 2) := by decide +kernel
theorem dX2_set_84 : decode cX2_set 84 = .ok (.invokevirtual 128, 3) := by decide +kernel
theorem dX2_set_87 : decode cX2_set 87 = .ok (.goto 13, 3) := by decide +kernel
theorem dX2_set_90 : decode cX2_set 90 = .ok (.aload_n 0, 1) := by decide +kernel
theorem dX2_set_91 : decode cX2_set 91 = .ok (.iload_n 1, 1) := by decide +kernel
theorem dX2_set_92 : decode cX2_set 92 = .ok (.iload_n 2, 1) := by decide +kernel
theorem dX2_set_93 : decode cX2_set 93 = .ok (.lload 7, 2) := by decide +kernel
theorem dX2_set_95 : decode cX2_set 95 = .ok (.lload 9, 2) := by decide +kernel
theorem dX2_set_97 : decode cX2_set 97 = .ok (.invokevirtual 124, 3) := by decide +kernel
theorem dX2_set_100 : decode cX2_set 100 = .ok (.ireturn, 1) := by decide +kernel
set_option maxRecDepth 20000 in
theorem ggX2_clear_X2_isSlot : GoodIn wsX2_clear wsX2_isSlot := goodIn_r _ [5] (by decide +kernel) (by decide +kernel)
set_option maxRecDepth 20000 in
theorem gX2_clear_X2_isSlot : GoodIn wsX2_clear (va_wsS RX2 43 yX2_isSlot wsX2_isSlot) := goodIn_app (goodIn_of _ (by decide +kernel)) ggX2_clear_X2_isSlot
set_option maxRecDepth 20000 in
theorem ggX2_clear_X2_refuses : GoodIn wsX2_clear wsX2_refuses := goodIn_r _ [9, 10, 11, 16, 17, 18, 19, 20, 21, 22, 23, 24, 25, 26, 27] (by decide +kernel) (by decide +kernel)
set_option maxRecDepth 20000 in
theorem gX2_clear_X2_refuses : GoodIn wsX2_clear (wsV RX2 128 RX2 yX2_refuses wsX2_refuses) := goodIn_app (goodIn_of _ (by decide +kernel)) ggX2_clear_X2_refuses
set_option maxRecDepth 20000 in
theorem ggX2_clear_X2_says : GoodIn wsX2_clear wsX2_says := goodIn_r _ [15, 10, 16, 17, 18, 19, 20, 21, 22, 23, 24, 25, 26, 27] (by decide +kernel) (by decide +kernel)
set_option maxRecDepth 20000 in
theorem gX2_clear_X2_says : GoodIn wsX2_clear (wsV RX2 113 RX2 yX2_says wsX2_says) := goodIn_app (goodIn_of _ (by decide +kernel)) ggX2_clear_X2_says
theorem dX2_clear_0 : decode cX2_clear 0 = .ok (.iload_n 1, 1) := by decide +kernel
theorem dX2_clear_1 : decode cX2_clear 1 = .ok (.invokestatic 43, 3) := by decide +kernel
theorem dX2_clear_4 : decode cX2_clear 4 = .ok (.ifCond .ne 10, 3) := by decide +kernel
theorem dX2_clear_7 : decode cX2_clear 7 = .ok (.aload_n 0, 1) := by decide +kernel
theorem dX2_clear_8 : decode cX2_clear 8 = .ok (.bipush (-2), 2) := by decide +kernel
theorem dX2_clear_10 : decode cX2_clear 10 = .ok (.invokevirtual 128, 3) := by decide +kernel
theorem dX2_clear_13 : decode cX2_clear 13 = .ok (.ireturn, 1) := by decide +kernel
theorem dX2_clear_14 : decode cX2_clear 14 = .ok (.aload_n 0, 1) := by decide +kernel
theorem dX2_clear_15 : decode cX2_clear 15 = .ok (.getfield 7, 3) := by decide +kernel
theorem dX2_clear_18 : decode cX2_clear 18 = .ok (.iload_n 1, 1) := by decide +kernel
theorem dX2_clear_19 : decode cX2_clear 19 = .ok (.iaload, 1) := by decide +kernel
theorem dX2_clear_20 : decode cX2_clear 20 = .ok (.iconst (-1), 1) := by decide +kernel
theorem dX2_clear_21 : decode cX2_clear 21 = .ok (.if_icmp .ne 7, 3) := by decide +kernel
theorem dX2_clear_24 : decode cX2_clear 24 = .ok (.iconst 0, 1) := by decide +kernel
theorem dX2_clear_25 : decode cX2_clear 25 = .ok (.goto 4, 3) := by decide +kernel
theorem dX2_clear_28 : decode cX2_clear 28 = .ok (.iconst 1, 1) := by decide +kernel
theorem dX2_clear_29 : decode cX2_clear 29 = .ok (.istore_n 2, 1) := by decide +kernel
theorem dX2_clear_30 : decode cX2_clear 30 = .ok (.aload_n 0, 1) := by decide +kernel
theorem dX2_clear_31 : decode cX2_clear 31 = .ok (.getfield 7, 3) := by decide +kernel
theorem dX2_clear_34 : decode cX2_clear 34 = .ok (.iload_n 1, 1) := by decide +kernel
theorem dX2_clear_35 : decode cX2_clear 35 = .ok (.iconst (-1), 1) := by decide +kernel
theorem dX2_clear_36 : decode cX2_clear 36 = .ok (.iastore, 1) := by decide +kernel
theorem dX2_clear_37 : decode cX2_clear 37 = .ok (.aload_n 0, 1) := by decide +kernel
theorem dX2_clear_38 : decode cX2_clear 38 = .ok (.iload_n 2, 1) := by decide +kernel
theorem dX2_clear_39 : decode cX2_clear 39 = .ok (.invokevirtual 113, 3) := by decide +kernel
theorem dX2_clear_42 : decode cX2_clear 42 = .ok (.ireturn, 1) := by decide +kernel
set_option maxRecDepth 20000 in
theorem ggX2_sort_X2_whyNot : GoodIn wsX2_sort wsX2_whyNot := goodIn_r _ [6, 1, 7, 8, 5, 9, 20, 21, 22, 23, 24, 25, 26, 27, 28, 29, 30, 31] (by decide +kernel) (by decide +kernel)
set_option maxRecDepth 20000 in
theorem gX2_sort_X2_whyNot : GoodIn wsX2_sort (wsV RX2 135 RX2 yX2_whyNot wsX2_whyNot) := goodIn_app (goodIn_of _ (by decide +kernel)) ggX2_sort_X2_whyNot
set_option maxRecDepth 20000 in
theorem ggX2_sort_X2_refuses : GoodIn wsX2_sort wsX2_refuses := goodIn_r _ [13, 14, 15, 20, 21, 22, 23, 24, 25, 26, 27, 28, 29, 30, 31] (by decide +kernel) (by decide +kernel)
set_option maxRecDepth 20000 in
theorem gX2_sort_X2_refuses : GoodIn wsX2_sort (wsV RX2 128 RX2 yX2_refuses wsX2_refuses) := goodIn_app (goodIn_of _ (by decide +kernel)) ggX2_sort_X2_refuses
set_option maxRecDepth 20000 in
theorem ggX2_sort_X2_says : GoodIn wsX2_sort wsX2_says := goodIn_r _ [19, 14, 20, 21, 22, 23, 24, 25, 26, 27, 28, 29, 30, 31] (by decide +kernel) (by decide +kernel)
set_option maxRecDepth 20000 in
theorem gX2_sort_X2_says : GoodIn wsX2_sort (wsV RX2 113 RX2 yX2_says wsX2_says) := goodIn_app (goodIn_of _ (by decide +kernel)) ggX2_sort_X2_says
theorem dX2_sort_0 : decode cX2_sort 0 = .ok (.aload_n 0, 1) := by decide +kernel
theorem dX2_sort_1 : decode cX2_sort 1 = .ok (.iload_n 1, 1) := by decide +kernel
theorem dX2_sort_2 : decode cX2_sort 2 = .ok (.iload_n 1, 1) := by decide +kernel
theorem dX2_sort_3 : decode cX2_sort 3 = .ok (.iload_n 1, 1) := by decide +kernel
theorem dX2_sort_4 : decode cX2_sort 4 = .ok (.invokevirtual 135, 3) := by decide +kernel
theorem dX2_sort_7 : decode cX2_sort 7 = .ok (.istore_n 2, 1) := by decide +kernel
theorem dX2_sort_8 : decode cX2_sort 8 = .ok (.iload_n 2, 1) := by decide +kernel
theorem dX2_sort_9 : decode cX2_sort 9 = .ok (.ifCond .ge 11, 3) := by decide +kernel
theorem dX2_sort_12 : decode cX2_sort 12 = .ok (.aload_n 0, 1) := by decide +kernel
theorem dX2_sort_13 : decode cX2_sort 13 = .ok (.iload_n 2, 1) := by decide +kernel
theorem dX2_sort_14 : decode cX2_sort 14 = .ok (.invokevirtual 128, 3) := by decide +kernel
theorem dX2_sort_17 : decode cX2_sort 17 = .ok (.goto 13, 3) := by decide +kernel
theorem dX2_sort_20 : decode cX2_sort 20 = .ok (.aload_n 0, 1) := by decide +kernel
theorem dX2_sort_21 : decode cX2_sort 21 = .ok (.aload_n 0, 1) := by decide +kernel
theorem dX2_sort_22 : decode cX2_sort 22 = .ok (.getfield 7, 3) := by decide +kernel
theorem dX2_sort_25 : decode cX2_sort 25 = .ok (.iload_n 1, 1) := by decide +kernel
theorem dX2_sort_26 : decode cX2_sort 26 = .ok (.iaload, 1) := by decide +kernel
theorem dX2_sort_27 : decode cX2_sort 27 = .ok (.invokevirtual 113, 3) := by decide +kernel
theorem dX2_sort_30 : decode cX2_sort 30 = .ok (.ireturn, 1) := by decide +kernel
set_option maxRecDepth 20000 in
theorem ggX2_end_X2_whyNot : GoodIn wsX2_end wsX2_whyNot := goodIn_r _ [9, 10, 11, 12, 8, 13, 19, 20, 21, 22, 23, 24, 25, 26, 27, 28, 29, 30] (by decide +kernel) (by decide +kernel)
set_option maxRecDepth 20000 in
theorem gX2_end_X2_whyNot : GoodIn wsX2_end (wsV RX2 135 RX2 yX2_whyNot wsX2_whyNot) := goodIn_app (goodIn_of _ (by decide +kernel)) ggX2_end_X2_whyNot
set_option maxRecDepth 20000 in
theorem ggX2_end_X2_refuses : GoodIn wsX2_end wsX2_refuses := goodIn_r _ [17, 1, 18, 19, 20, 21, 22, 23, 24, 25, 26, 27, 28, 29, 30] (by decide +kernel) (by decide +kernel)
set_option maxRecDepth 20000 in
theorem gX2_end_X2_refuses : GoodIn wsX2_end (wsV RX2 128 RX2 yX2_refuses wsX2_refuses) := goodIn_app (goodIn_of _ (by decide +kernel)) ggX2_end_X2_refuses
theorem dX2_end_0 : decode cX2_end 0 = .ok (.aload_n 0, 1) := by decide +kernel
theorem dX2_end_1 : decode cX2_end 1 = .ok (.iload_n 1, 1) := by decide +kernel
theorem dX2_end_2 : decode cX2_end 2 = .ok (.iload_n 1, 1) := by decide +kernel
theorem dX2_end_3 : decode cX2_end 3 = .ok (.iload_n 1, 1) := by decide +kernel
theorem dX2_end_4 : decode cX2_end 4 = .ok (.invokevirtual 135, 3) := by decide +kernel
theorem dX2_end_7 : decode cX2_end 7 = .ok (.istore_n 3, 1) := by decide +kernel
theorem dX2_end_8 : decode cX2_end 8 = .ok (.iload_n 3, 1) := by decide +kernel
theorem dX2_end_9 : decode cX2_end 9 = .ok (.ifCond .ge 11, 3) := by decide +kernel
theorem dX2_end_12 : decode cX2_end 12 = .ok (.aload_n 0, 1) := by decide +kernel
theorem dX2_end_13 : decode cX2_end 13 = .ok (.iload_n 3, 1) := by decide +kernel
theorem dX2_end_14 : decode cX2_end 14 = .ok (.invokevirtual 128, 3) := by decide +kernel
theorem dX2_end_17 : decode cX2_end 17 = .ok (.istore_n 3, 1) := by decide +kernel
theorem dX2_end_18 : decode cX2_end 18 = .ok (.lconst 0, 1) := by decide +kernel
theorem dX2_end_19 : decode cX2_end 19 = .ok (.lreturn, 1) := by decide +kernel
theorem dX2_end_20 : decode cX2_end 20 = .ok (.aload_n 0, 1) := by decide +kernel
theorem dX2_end_21 : decode cX2_end 21 = .ok (.iconst 0, 1) := by decide +kernel
theorem dX2_end_22 : decode cX2_end 22 = .ok (.putfield 36, 3) := by decide +kernel
theorem dX2_end_25 : decode cX2_end 25 = .ok (.aload_n 0, 1) := by decide +kernel
theorem dX2_end_26 : decode cX2_end 26 = .ok (.dup, 1) := by decide +kernel
theorem dX2_end_27 : decode cX2_end 27 = .ok (.getfield 139, 3) := by decide +kernel
theorem dX2_end_30 : decode cX2_end 30 = .ok (.iconst 1, 1) := by decide +kernel
theorem dX2_end_31 : decode cX2_end 31 = .ok (.iadd, 1) := by decide +kernel
theorem dX2_end_32 : decode cX2_end 32 = .ok (.putfield 139, 3) := by decide +kernel
theorem dX2_end_35 : decode cX2_end 35 = .ok (.iload_n 2, 1) := by decide +kernel
theorem dX2_end_36 : decode cX2_end 36 = .ok (.ifCond .eq 12, 3) := by decide +kernel
theorem dX2_end_39 : decode cX2_end 39 = .ok (.aload_n 0, 1) := by decide +kernel
theorem dX2_end_40 : decode cX2_end 40 = .ok (.getfield 17, 3) := by decide +kernel
theorem dX2_end_43 : decode cX2_end 43 = .ok (.iload_n 1, 1) := by decide +kernel
theorem dX2_end_44 : decode cX2_end 44 = .ok (.laload, 1) := by decide +kernel
theorem dX2_end_45 : decode cX2_end 45 = .ok (.goto 9, 3) := by decide +kernel
theorem dX2_end_48 : decode cX2_end 48 = .ok (.aload_n 0, 1) := by decide +kernel
theorem dX2_end_49 : decode cX2_end 49 = .ok (.getfield 13, 3) := by decide +kernel
theorem dX2_end_52 : decode cX2_end 52 = .ok (.iload_n 1, 1) := by decide +kernel
theorem dX2_end_53 : decode cX2_end 53 = .ok (.laload, 1) := by decide +kernel
theorem dX2_end_54 : decode cX2_end 54 = .ok (.lreturn, 1) := by decide +kernel
set_option maxRecDepth 20000 in
theorem ggX2_low_X2_end : GoodIn wsX2_low wsX2_end := goodIn_r _ [5, 6, 7, 8, 9, 10, 11, 12, 4, 13, 14, 15, 16, 17, 18, 19, 20, 21, 22, 23, 24, 25, 26, 27, 28, 29, 30, 31, 32, 33, 34] (by decide +kernel) (by decide +kernel)
set_option maxRecDepth 20000 in
theorem gX2_low_X2_end : GoodIn wsX2_low (wsV RX2 142 RX2 yX2_end wsX2_end) := goodIn_app (goodIn_of _ (by decide +kernel)) ggX2_low_X2_end
theorem dX2_low_0 : decode cX2_low 0 = .ok (.aload_n 0, 1) := by decide +kernel
theorem dX2_low_1 : decode cX2_low 1 = .ok (.iload_n 1, 1) := by decide +kernel
theorem dX2_low_2 : decode cX2_low 2 = .ok (.iconst 0, 1) := by decide +kernel
theorem dX2_low_3 : decode cX2_low 3 = .ok (.invokevirtual 142, 3) := by decide +kernel
theorem dX2_low_6 : decode cX2_low 6 = .ok (.lreturn, 1) := by decide +kernel
set_option maxRecDepth 20000 in
theorem ggX2_high_X2_end : GoodIn wsX2_high wsX2_end := goodIn_r _ [5, 6, 7, 8, 9, 10, 11, 12, 4, 13, 14, 15, 16, 17, 18, 19, 20, 21, 22, 23, 24, 25, 26, 27, 28, 29, 30, 31, 32, 33, 34] (by decide +kernel) (by decide +kernel)
set_option maxRecDepth 20000 in
theorem gX2_high_X2_end : GoodIn wsX2_high (wsV RX2 142 RX2 yX2_end wsX2_end) := goodIn_app (goodIn_of _ (by decide +kernel)) ggX2_high_X2_end
theorem dX2_high_0 : decode cX2_high 0 = .ok (.aload_n 0, 1) := by decide +kernel
theorem dX2_high_1 : decode cX2_high 1 = .ok (.iload_n 1, 1) := by decide +kernel
theorem dX2_high_2 : decode cX2_high 2 = .ok (.iconst 1, 1) := by decide +kernel
theorem dX2_high_3 : decode cX2_high 3 = .ok (.invokevirtual 142, 3) := by decide +kernel
theorem dX2_high_6 : decode cX2_high 6 = .ok (.lreturn, 1) := by decide +kernel
set_option maxRecDepth 20000 in
theorem ggX2_hull_X2_whyNot : GoodIn wsX2_hull wsX2_whyNot := goodIn_r _ [8, 1, 9, 10, 7, 11, 43, 44, 45, 46, 47, 48, 49, 50, 51, 52, 53, 54] (by decide +kernel) (by decide +kernel)
set_option maxRecDepth 20000 in
theorem gX2_hull_X2_whyNot : GoodIn wsX2_hull (wsV RX2 135 RX2 yX2_whyNot wsX2_whyNot) := goodIn_app (goodIn_of _ (by decide +kernel)) ggX2_hull_X2_whyNot
set_option maxRecDepth 20000 in
theorem ggX2_hull_X2_refuses : GoodIn wsX2_hull wsX2_refuses := goodIn_r _ [15, 16, 17, 43, 44, 45, 46, 47, 48, 49, 50, 51, 52, 53, 54] (by decide +kernel) (by decide +kernel)
set_option maxRecDepth 20000 in
theorem gX2_hull_X2_refuses : GoodIn wsX2_hull (wsV RX2 128 RX2 yX2_refuses wsX2_refuses) := goodIn_app (goodIn_of _ (by decide +kernel)) ggX2_hull_X2_refuses
set_option maxRecDepth 20000 in
theorem ggX2_hull_X2_lesser : GoodIn wsX2_hull wsX2_lesser := goodIn_r _ [20, 21, 22, 7, 23, 24, 25, 26, 27, 28, 29, 30, 31] (by decide +kernel) (by decide +kernel)
set_option maxRecDepth 20000 in
theorem gX2_hull_X2_lesser : GoodIn wsX2_hull (va_wsS RX2 117 yX2_lesser wsX2_lesser) := goodIn_app (goodIn_of _ (by decide +kernel)) ggX2_hull_X2_lesser
set_option maxRecDepth 20000 in
theorem ggX2_hull_X2_greater : GoodIn wsX2_hull wsX2_greater := goodIn_r _ [34, 21, 22, 7, 23, 24, 25, 26, 27, 28, 29, 30, 31] (by decide +kernel) (by decide +kernel)
set_option maxRecDepth 20000 in
theorem gX2_hull_X2_greater : GoodIn wsX2_hull (va_wsS RX2 121 yX2_greater wsX2_greater) := goodIn_app (goodIn_of _ (by decide +kernel)) ggX2_hull_X2_greater
set_option maxRecDepth 20000 in
theorem ggX2_hull_X2_comes : GoodIn wsX2_hull wsX2_comes := goodIn_r _ [38, 1, 2, 3, 39, 40, 41, 7, 42, 16, 43, 44, 45, 46, 47, 48, 49, 50, 51, 52, 53, 54] (by decide +kernel) (by decide +kernel)
set_option maxRecDepth 20000 in
theorem gX2_hull_X2_comes : GoodIn wsX2_hull (wsV RX2 124 RX2 yX2_comes wsX2_comes) := goodIn_app (goodIn_of _ (by decide +kernel)) ggX2_hull_X2_comes
theorem dX2_hull_0 : decode cX2_hull 0 = .ok (.aload_n 0, 1) := by decide +kernel
theorem dX2_hull_1 : decode cX2_hull 1 = .ok (.iload_n 1, 1) := by decide +kernel
theorem dX2_hull_2 : decode cX2_hull 2 = .ok (.iload_n 2, 1) := by decide +kernel
theorem dX2_hull_3 : decode cX2_hull 3 = .ok (.iload_n 3, 1) := by decide +kernel
theorem dX2_hull_4 : decode cX2_hull 4 = .ok (.invokevirtual 135, 3) := by decide +kernel
theorem dX2_hull_7 : decode cX2_hull 7 = .ok (.istore 4, 2) := by decide +kernel
theorem dX2_hull_9 : decode cX2_hull 9 = .ok (.iload 4, 2) := by decide +kernel
theorem dX2_hull_11 : decode cX2_hull 11 = .ok (.ifCond .ne 22, 3) := by decide +kernel
theorem dX2_hull_14 : decode cX2_hull 14 = .ok (.aload_n 0, 1) := by decide +kernel
theorem dX2_hull_15 : decode cX2_hull 15 = .ok (.getfield 7, 3) := by decide +kernel
theorem dX2_hull_18 : decode cX2_hull 18 = .ok (.iload_n 1, 1) := by decide +kernel
theorem dX2_hull_19 : decode cX2_hull 19 = .ok (.iaload, 1) := by decide +kernel
theorem dX2_hull_20 : decode cX2_hull 20 = .ok (.aload_n 0, 1) := by decide +kernel
theorem dX2_hull_21 : decode cX2_hull 21 = .ok (.getfield 7, 3) := by decide +kernel
theorem dX2_hull_24 : decode cX2_hull 24 = .ok (.iload_n 2, 1) := by decide +kernel
theorem dX2_hull_25 : decode cX2_hull 25 = .ok (.iaload, 1) := by decide +kernel
theorem dX2_hull_26 : decode cX2_hull 26 = .ok (.if_icmp .eq 7, 3) := by decide +kernel
theorem dX2_hull_29 : decode cX2_hull 29 = .ok (.bipush (-4), 2) := by decide +kernel
theorem dX2_hull_31 : decode cX2_hull 31 = .ok (.istore 4, 2) := by decide +kernel
theorem dX2_hull_33 : decode cX2_hull 33 = .ok (.iload 4, 2) := by decide +kernel
theorem dX2_hull_35 : decode cX2_hull 35 = .ok (.ifCond .ge 10, 3) := by decide +kernel
theorem dX2_hull_38 : decode cX2_hull 38 = .ok (.aload_n 0, 1) := by decide +kernel
theorem dX2_hull_39 : decode cX2_hull 39 = .ok (.iload 4, 2) := by decide +kernel
theorem dX2_hull_41 : decode cX2_hull 41 = .ok (.invokevirtual 128, 3) := by decide +kernel
theorem dX2_hull_44 : decode cX2_hull 44 = .ok (.ireturn, 1) := by decide +kernel
theorem dX2_hull_45 : decode cX2_hull 45 = .ok (.aload_n 0, 1) := by decide +kernel
theorem dX2_hull_46 : decode cX2_hull 46 = .ok (.getfield 7, 3) := by decide +kernel
theorem dX2_hull_49 : decode cX2_hull 49 = .ok (.iload_n 1, 1) := by decide +kernel
theorem dX2_hull_50 : decode cX2_hull 50 = .ok (.iaload, 1) := by decide +kernel
theorem dX2_hull_51 : decode cX2_hull 51 = .ok (.istore 5, 2) := by decide +kernel
theorem dX2_hull_53 : decode cX2_hull 53 = .ok (.aload_n 0, 1) := by decide +kernel
theorem dX2_hull_54 : decode cX2_hull 54 = .ok (.iload_n 3, 1) := by decide +kernel
theorem dX2_hull_55 : decode cX2_hull 55 = .ok (.iload 5, 2) := by decide +kernel
theorem dX2_hull_57 : decode cX2_hull 57 = .ok (.iload 5, 2) := by decide +kernel
theorem dX2_hull_59 : decode cX2_hull 59 = .ok (.aload_n 0, 1) := by decide +kernel
theorem dX2_hull_60 : decode cX2_hull 60 = .ok (.getfield 13, 3) := by decide +kernel
theorem dX2_hull_63 : decode cX2_hull 63 = .ok (.iload_n 1, 1) := by decide +kernel
theorem dX2_hull_64 : decode cX2_hull 64 = .ok (.laload, 1) := by decide +kernel
theorem dX2_hull_65 : decode cX2_hull 65 = .ok (.aload_n 0, 1) := by decide +kernel
theorem dX2_hull_66 : decode cX2_hull 66 = .ok (.getfield 13, 3) := by decide +kernel
theorem dX2_hull_69 : decode cX2_hull 69 = .ok (.iload_n 2, 1) := by decide +kernel
theorem dX2_hull_70 : decode cX2_hull 70 = .ok (.laload, 1) := by decide +kernel
theorem dX2_hull_71 : decode cX2_hull 71 = .ok (.invokestatic 117, 3) := by decide +kernel
theorem dX2_hull_74 : decode cX2_hull 74 = .ok (.iload 5, 2) := by decide +kernel
theorem dX2_hull_76 : decode cX2_hull 76 = .ok (.aload_n 0, 1) := by decide +kernel
theorem dX2_hull_77 : decode cX2_hull 77 = .ok (.getfield 17, 3) := by decide +kernel
theorem dX2_hull_80 : decode cX2_hull 80 = .ok (.iload_n 1, 1) := by decide +kernel
theorem dX2_hull_81 : decode cX2_hull 81 = .ok (.laload, 1) := by decide +kernel
theorem dX2_hull_82 : decode cX2_hull 82 = .ok (.aload_n 0, 1) := by decide +kernel
theorem dX2_hull_83 : decode cX2_hull 83 = .ok (.getfield 17, 3) := by decide +kernel
theorem dX2_hull_86 : decode cX2_hull 86 = .ok (.iload_n 2, 1) := by decide +kernel
theorem dX2_hull_87 : decode cX2_hull 87 = .ok (.laload, 1) := by decide +kernel
theorem dX2_hull_88 : decode cX2_hull 88 = .ok (.invokestatic 121, 3) := by decide +kernel
theorem dX2_hull_91 : decode cX2_hull 91 = .ok (.invokevirtual 124, 3) := by decide +kernel
theorem dX2_hull_94 : decode cX2_hull 94 = .ok (.ireturn, 1) := by decide +kernel
set_option maxRecDepth 20000 in
theorem ggX2_meet_X2_whyNot : GoodIn wsX2_meet wsX2_whyNot := goodIn_r _ [8, 1, 9, 10, 7, 11, 47, 48, 49, 50, 51, 52, 53, 54, 55, 56, 57, 58] (by decide +kernel) (by decide +kernel)
set_option maxRecDepth 20000 in
theorem gX2_meet_X2_whyNot : GoodIn wsX2_meet (wsV RX2 135 RX2 yX2_whyNot wsX2_whyNot) := goodIn_app (goodIn_of _ (by decide +kernel)) ggX2_meet_X2_whyNot
set_option maxRecDepth 20000 in
theorem ggX2_meet_X2_refuses : GoodIn wsX2_meet wsX2_refuses := goodIn_r _ [15, 16, 17, 47, 48, 49, 50, 51, 52, 53, 54, 55, 56, 57, 58] (by decide +kernel) (by decide +kernel)
set_option maxRecDepth 20000 in
theorem gX2_meet_X2_refuses : GoodIn wsX2_meet (wsV RX2 128 RX2 yX2_refuses wsX2_refuses) := goodIn_app (goodIn_of _ (by decide +kernel)) ggX2_meet_X2_refuses
set_option maxRecDepth 20000 in
theorem ggX2_meet_X2_greater : GoodIn wsX2_meet wsX2_greater := goodIn_r _ [20, 21, 22, 7, 23, 24, 25, 26, 27, 28, 29, 30, 31] (by decide +kernel) (by decide +kernel)
set_option maxRecDepth 20000 in
theorem gX2_meet_X2_greater : GoodIn wsX2_meet (va_wsS RX2 121 yX2_greater wsX2_greater) := goodIn_app (goodIn_of _ (by decide +kernel)) ggX2_meet_X2_greater
set_option maxRecDepth 20000 in
theorem ggX2_meet_X2_lesser : GoodIn wsX2_meet wsX2_lesser := goodIn_r _ [34, 21, 22, 7, 23, 24, 25, 26, 27, 28, 29, 30, 31] (by decide +kernel) (by decide +kernel)
set_option maxRecDepth 20000 in
theorem gX2_meet_X2_lesser : GoodIn wsX2_meet (va_wsS RX2 117 yX2_lesser wsX2_lesser) := goodIn_app (goodIn_of _ (by decide +kernel)) ggX2_meet_X2_lesser
set_option maxRecDepth 20000 in
theorem ggX2_meet_X2_isAbove : GoodIn wsX2_meet wsX2_isAbove := goodIn_r _ [23, 24, 25, 7, 26, 27, 28, 29, 30, 31] (by decide +kernel) (by decide +kernel)
set_option maxRecDepth 20000 in
theorem gX2_meet_X2_isAbove : GoodIn wsX2_meet (va_wsS RX2 77 yX2_isAbove wsX2_isAbove) := goodIn_app (goodIn_of _ (by decide +kernel)) ggX2_meet_X2_isAbove
set_option maxRecDepth 20000 in
theorem ggX2_meet_X2_emptied : GoodIn wsX2_meet wsX2_emptied := goodIn_r _ [38, 1, 39, 40, 41, 7, 42, 16, 47, 48, 49, 50, 51, 52, 53, 54, 55, 56, 57, 58] (by decide +kernel) (by decide +kernel)
set_option maxRecDepth 20000 in
theorem gX2_meet_X2_emptied : GoodIn wsX2_meet (wsV RX2 146 RX2 yX2_emptied wsX2_emptied) := goodIn_app (goodIn_of _ (by decide +kernel)) ggX2_meet_X2_emptied
set_option maxRecDepth 20000 in
theorem ggX2_meet_X2_comes : GoodIn wsX2_meet wsX2_comes := goodIn_r _ [46, 1, 2, 3, 39, 40, 41, 7, 42, 16, 47, 48, 49, 50, 51, 52, 53, 54, 55, 56, 57, 58] (by decide +kernel) (by decide +kernel)
set_option maxRecDepth 20000 in
theorem gX2_meet_X2_comes : GoodIn wsX2_meet (wsV RX2 124 RX2 yX2_comes wsX2_comes) := goodIn_app (goodIn_of _ (by decide +kernel)) ggX2_meet_X2_comes
theorem dX2_meet_0 : decode cX2_meet 0 = .ok (.aload_n 0, 1) := by decide +kernel
theorem dX2_meet_1 : decode cX2_meet 1 = .ok (.iload_n 1, 1) := by decide +kernel
theorem dX2_meet_2 : decode cX2_meet 2 = .ok (.iload_n 2, 1) := by decide +kernel
theorem dX2_meet_3 : decode cX2_meet 3 = .ok (.iload_n 3, 1) := by decide +kernel
theorem dX2_meet_4 : decode cX2_meet 4 = .ok (.invokevirtual 135, 3) := by decide +kernel
theorem dX2_meet_7 : decode cX2_meet 7 = .ok (.istore 4, 2) := by decide +kernel
theorem dX2_meet_9 : decode cX2_meet 9 = .ok (.iload 4, 2) := by decide +kernel
theorem dX2_meet_11 : decode cX2_meet 11 = .ok (.ifCond .ne 22, 3) := by decide +kernel
theorem dX2_meet_14 : decode cX2_meet 14 = .ok (.aload_n 0, 1) := by decide +kernel
theorem dX2_meet_15 : decode cX2_meet 15 = .ok (.getfield 7, 3) := by decide +kernel
theorem dX2_meet_18 : decode cX2_meet 18 = .ok (.iload_n 1, 1) := by decide +kernel
theorem dX2_meet_19 : decode cX2_meet 19 = .ok (.iaload, 1) := by decide +kernel
theorem dX2_meet_20 : decode cX2_meet 20 = .ok (.aload_n 0, 1) := by decide +kernel
theorem dX2_meet_21 : decode cX2_meet 21 = .ok (.getfield 7, 3) := by decide +kernel
theorem dX2_meet_24 : decode cX2_meet 24 = .ok (.iload_n 2, 1) := by decide +kernel
theorem dX2_meet_25 : decode cX2_meet 25 = .ok (.iaload, 1) := by decide +kernel
theorem dX2_meet_26 : decode cX2_meet 26 = .ok (.if_icmp .eq 7, 3) := by decide +kernel
theorem dX2_meet_29 : decode cX2_meet 29 = .ok (.bipush (-4), 2) := by decide +kernel
theorem dX2_meet_31 : decode cX2_meet 31 = .ok (.istore 4, 2) := by decide +kernel
theorem dX2_meet_33 : decode cX2_meet 33 = .ok (.iload 4, 2) := by decide +kernel
theorem dX2_meet_35 : decode cX2_meet 35 = .ok (.ifCond .ge 10, 3) := by decide +kernel
theorem dX2_meet_38 : decode cX2_meet 38 = .ok (.aload_n 0, 1) := by decide +kernel
theorem dX2_meet_39 : decode cX2_meet 39 = .ok (.iload 4, 2) := by decide +kernel
theorem dX2_meet_41 : decode cX2_meet 41 = .ok (.invokevirtual 128, 3) := by decide +kernel
theorem dX2_meet_44 : decode cX2_meet 44 = .ok (.ireturn, 1) := by decide +kernel
theorem dX2_meet_45 : decode cX2_meet 45 = .ok (.aload_n 0, 1) := by decide +kernel
theorem dX2_meet_46 : decode cX2_meet 46 = .ok (.getfield 7, 3) := by decide +kernel
theorem dX2_meet_49 : decode cX2_meet 49 = .ok (.iload_n 1, 1) := by decide +kernel
theorem dX2_meet_50 : decode cX2_meet 50 = .ok (.iaload, 1) := by decide +kernel
theorem dX2_meet_51 : decode cX2_meet 51 = .ok (.istore 5, 2) := by decide +kernel
theorem dX2_meet_53 : decode cX2_meet 53 = .ok (.iload 5, 2) := by decide +kernel
theorem dX2_meet_55 : decode cX2_meet 55 = .ok (.aload_n 0, 1) := by decide +kernel
theorem dX2_meet_56 : decode cX2_meet 56 = .ok (.getfield 13, 3) := by decide +kernel
theorem dX2_meet_59 : decode cX2_meet 59 = .ok (.iload_n 1, 1) := by decide +kernel
theorem dX2_meet_60 : decode cX2_meet 60 = .ok (.laload, 1) := by decide +kernel
theorem dX2_meet_61 : decode cX2_meet 61 = .ok (.aload_n 0, 1) := by decide +kernel
theorem dX2_meet_62 : decode cX2_meet 62 = .ok (.getfield 13, 3) := by decide +kernel
theorem dX2_meet_65 : decode cX2_meet 65 = .ok (.iload_n 2, 1) := by decide +kernel
theorem dX2_meet_66 : decode cX2_meet 66 = .ok (.laload, 1) := by decide +kernel
theorem dX2_meet_67 : decode cX2_meet 67 = .ok (.invokestatic 121, 3) := by decide +kernel
theorem dX2_meet_70 : decode cX2_meet 70 = .ok (.lstore 6, 2) := by decide +kernel
theorem dX2_meet_72 : decode cX2_meet 72 = .ok (.iload 5, 2) := by decide +kernel
theorem dX2_meet_74 : decode cX2_meet 74 = .ok (.aload_n 0, 1) := by decide +kernel
theorem dX2_meet_75 : decode cX2_meet 75 = .ok (.getfield 17, 3) := by decide +kernel
theorem dX2_meet_78 : decode cX2_meet 78 = .ok (.iload_n 1, 1) := by decide +kernel
theorem dX2_meet_79 : decode cX2_meet 79 = .ok (.laload, 1) := by decide +kernel
theorem dX2_meet_80 : decode cX2_meet 80 = .ok (.aload_n 0, 1) := by decide +kernel
theorem dX2_meet_81 : decode cX2_meet 81 = .ok (.getfield 17, 3) := by decide +kernel
theorem dX2_meet_84 : decode cX2_meet 84 = .ok (.iload_n 2, 1) := by decide +kernel
theorem dX2_meet_85 : decode cX2_meet 85 = .ok (.laload, 1) := by decide +kernel
theorem dX2_meet_86 : decode cX2_meet 86 = .ok (.invokestatic 117, 3) := by decide +kernel
theorem dX2_meet_89 : decode cX2_meet 89 = .ok (.lstore 8, 2) := by decide +kernel
theorem dX2_meet_91 : decode cX2_meet 91 = .ok (.iload 5, 2) := by decide +kernel
theorem dX2_meet_93 : decode cX2_meet 93 = .ok (.lload 6, 2) := by decide +kernel
theorem dX2_meet_95 : decode cX2_meet 95 = .ok (.lload 8, 2) := by decide +kernel
theorem dX2_meet_97 : decode cX2_meet 97 = .ok (.invokestatic 77, 3) := by decide +kernel
theorem dX2_meet_100 : decode cX2_meet 100 = .ok (.ifCond .eq 11, 3) := by decide +kernel
theorem dX2_meet_103 : decode cX2_meet 103 = .ok (.aload_n 0, 1) := by decide +kernel
theorem dX2_meet_104 : decode cX2_meet 104 = .ok (.iload_n 3, 1) := by decide +kernel
theorem dX2_meet_105 : decode cX2_meet 105 = .ok (.invokevirtual 146, 3) := by decide +kernel
theorem dX2_meet_108 : decode cX2_meet 108 = .ok (.goto 14, 3) := by decide +kernel
theorem dX2_meet_111 : decode cX2_meet 111 = .ok (.aload_n 0, 1) := by decide +kernel
theorem dX2_meet_112 : decode cX2_meet 112 = .ok (.iload_n 3, 1) := by decide +kernel
theorem dX2_meet_113 : decode cX2_meet 113 = .ok (.iload 5, 2) := by decide +kernel
theorem dX2_meet_115 : decode cX2_meet 115 = .ok (.lload 6, 2) := by decide +kernel
theorem dX2_meet_117 : decode cX2_meet 117 = .ok (.lload 8, 2) := by decide +kernel
theorem dX2_meet_119 : decode cX2_meet 119 = .ok (.invokevirtual 124, 3) := by decide +kernel
theorem dX2_meet_122 : decode cX2_meet 122 = .ok (.ireturn, 1) := by decide +kernel
set_option maxRecDepth 20000 in
theorem ggX2_size_X2_whyNot : GoodIn wsX2_size wsX2_whyNot := goodIn_r _ [8, 1, 9, 10, 7, 11, 59, 60, 61, 62, 63, 64, 65, 66, 67, 68, 69, 70] (by decide +kernel) (by decide +kernel)
set_option maxRecDepth 20000 in
theorem gX2_size_X2_whyNot : GoodIn wsX2_size (wsV RX2 135 RX2 yX2_whyNot wsX2_whyNot) := goodIn_app (goodIn_of _ (by decide +kernel)) ggX2_size_X2_whyNot
set_option maxRecDepth 20000 in
theorem ggX2_size_X2_refuses : GoodIn wsX2_size wsX2_refuses := goodIn_r _ [15, 16, 17, 59, 60, 61, 62, 63, 64, 65, 66, 67, 68, 69, 70] (by decide +kernel) (by decide +kernel)
set_option maxRecDepth 20000 in
theorem gX2_size_X2_refuses : GoodIn wsX2_size (wsV RX2 128 RX2 yX2_refuses wsX2_refuses) := goodIn_app (goodIn_of _ (by decide +kernel)) ggX2_size_X2_refuses
set_option maxRecDepth 20000 in
theorem ggX2_size_X2_isZero : GoodIn wsX2_size wsX2_isZero := goodIn_r _ [20, 21, 22, 7, 23, 24, 25, 26, 27, 28] (by decide +kernel) (by decide +kernel)
set_option maxRecDepth 20000 in
theorem gX2_size_X2_isZero : GoodIn wsX2_size (va_wsS RX2 149 yX2_isZero wsX2_isZero) := goodIn_app (goodIn_of _ (by decide +kernel)) ggX2_size_X2_isZero
set_option maxRecDepth 20000 in
theorem ggX2_size_X2_sizeOf : GoodIn wsX2_size wsX2_sizeOf := goodIn_r _ [31, 21, 22, 7, 23, 24, 25, 26, 27, 28, 32, 33, 34] (by decide +kernel) (by decide +kernel)
set_option maxRecDepth 20000 in
theorem gX2_size_X2_sizeOf : GoodIn wsX2_size (va_wsS RX2 152 yX2_sizeOf wsX2_sizeOf) := goodIn_app (goodIn_of _ (by decide +kernel)) ggX2_size_X2_sizeOf
set_option maxRecDepth 20000 in
theorem ggX2_size_X2_greater : GoodIn wsX2_size wsX2_greater := goodIn_r _ [37, 38, 39, 7, 40, 41, 42, 43, 27, 28, 21, 22, 23] (by decide +kernel) (by decide +kernel)
set_option maxRecDepth 20000 in
theorem gX2_size_X2_greater : GoodIn wsX2_size (va_wsS RX2 121 yX2_greater wsX2_greater) := goodIn_app (goodIn_of _ (by decide +kernel)) ggX2_size_X2_greater
set_option maxRecDepth 20000 in
theorem ggX2_size_X2_ordered : GoodIn wsX2_size wsX2_ordered := goodIn_r _ [47, 48, 49, 7, 50, 38, 39, 40, 41, 42, 43, 27, 28, 21, 22, 23, 35, 36, 37, 51, 52, 53, 54, 1, 2, 3, 55, 56, 57, 58, 16, 59, 60, 61, 62, 63, 64, 65, 66, 67, 68, 69, 70] (by decide +kernel) (by decide +kernel)
set_option maxRecDepth 20000 in
theorem gX2_size_X2_ordered : GoodIn wsX2_size (wsV RX2 155 RX2 yX2_ordered wsX2_ordered) := goodIn_app (goodIn_of _ (by decide +kernel)) ggX2_size_X2_ordered
theorem dX2_size_0 : decode cX2_size 0 = .ok (.aload_n 0, 1) := by decide +kernel
theorem dX2_size_1 : decode cX2_size 1 = .ok (.iload_n 1, 1) := by decide +kernel
theorem dX2_size_2 : decode cX2_size 2 = .ok (.iload_n 1, 1) := by decide +kernel
theorem dX2_size_3 : decode cX2_size 3 = .ok (.iload_n 2, 1) := by decide +kernel
theorem dX2_size_4 : decode cX2_size 4 = .ok (.invokevirtual 135, 3) := by decide +kernel
theorem dX2_size_7 : decode cX2_size 7 = .ok (.istore_n 3, 1) := by decide +kernel
theorem dX2_size_8 : decode cX2_size 8 = .ok (.iload_n 3, 1) := by decide +kernel
theorem dX2_size_9 : decode cX2_size 9 = .ok (.ifCond .ge 9, 3) := by decide +kernel
theorem dX2_size_12 : decode cX2_size 12 = .ok (.aload_n 0, 1) := by decide +kernel
theorem dX2_size_13 : decode cX2_size 13 = .ok (.iload_n 3, 1) := by decide +kernel
theorem dX2_size_14 : decode cX2_size 14 = .ok (.invokevirtual 128, 3) := by decide +kernel
theorem dX2_size_17 : decode cX2_size 17 = .ok (.ireturn, 1) := by decide +kernel
theorem dX2_size_18 : decode cX2_size 18 = .ok (.aload_n 0, 1) := by decide +kernel
theorem dX2_size_19 : decode cX2_size 19 = .ok (.getfield 7, 3) := by decide +kernel
theorem dX2_size_22 : decode cX2_size 22 = .ok (.iload_n 1, 1) := by decide +kernel
theorem dX2_size_23 : decode cX2_size 23 = .ok (.iaload, 1) := by decide +kernel
theorem dX2_size_24 : decode cX2_size 24 = .ok (.istore 4, 2) := by decide +kernel
theorem dX2_size_26 : decode cX2_size 26 = .ok (.aload_n 0, 1) := by decide +kernel
theorem dX2_size_27 : decode cX2_size 27 = .ok (.getfield 13, 3) := by decide +kernel
theorem dX2_size_30 : decode cX2_size 30 = .ok (.iload_n 1, 1) := by decide +kernel
theorem dX2_size_31 : decode cX2_size 31 = .ok (.laload, 1) := by decide +kernel
theorem dX2_size_32 : decode cX2_size 32 = .ok (.lconst 0, 1) := by decide +kernel
theorem dX2_size_33 : decode cX2_size 33 = .ok (.lcmp, 1) := by decide +kernel
theorem dX2_size_34 : decode cX2_size 34 = .ok (.ifCond .ge 21, 3) := by decide +kernel
theorem dX2_size_37 : decode cX2_size 37 = .ok (.iload 4, 2) := by decide +kernel
theorem dX2_size_39 : decode cX2_size 39 = .ok (.aload_n 0, 1) := by decide +kernel
theorem dX2_size_40 : decode cX2_size 40 = .ok (.getfield 13, 3) := by decide +kernel
theorem dX2_size_43 : decode cX2_size 43 = .ok (.iload_n 1, 1) := by decide +kernel
theorem dX2_size_44 : decode cX2_size 44 = .ok (.laload, 1) := by decide +kernel
theorem dX2_size_45 : decode cX2_size 45 = .ok (.invokestatic 149, 3) := by decide +kernel
theorem dX2_size_48 : decode cX2_size 48 = .ok (.ifCond .ne 7, 3) := by decide +kernel
theorem dX2_size_51 : decode cX2_size 51 = .ok (.iconst 1, 1) := by decide +kernel
theorem dX2_size_52 : decode cX2_size 52 = .ok (.goto 4, 3) := by decide +kernel
theorem dX2_size_55 : decode cX2_size 55 = .ok (.iconst 0, 1) := by decide +kernel
theorem dX2_size_56 : decode cX2_size 56 = .ok (.istore 5, 2) := by decide +kernel
theorem dX2_size_58 : decode cX2_size 58 = .ok (.aload_n 0, 1) := by decide +kernel
theorem dX2_size_59 : decode cX2_size 59 = .ok (.getfield 17, 3) := by decide +kernel
theorem dX2_size_62 : decode cX2_size 62 = .ok (.iload_n 1, 1) := by decide +kernel
theorem dX2_size_63 : decode cX2_size 63 = .ok (.laload, 1) := by decide +kernel
theorem dX2_size_64 : decode cX2_size 64 = .ok (.lconst 0, 1) := by decide +kernel
theorem dX2_size_65 : decode cX2_size 65 = .ok (.lcmp, 1) := by decide +kernel
theorem dX2_size_66 : decode cX2_size 66 = .ok (.ifCond .le 7, 3) := by decide +kernel
theorem dX2_size_69 : decode cX2_size 69 = .ok (.iconst 1, 1) := by decide +kernel
theorem dX2_size_70 : decode cX2_size 70 = .ok (.goto 4, 3) := by decide +kernel
theorem dX2_size_73 : decode cX2_size 73 = .ok (.iconst 0, 1) := by decide +kernel
theorem dX2_size_74 : decode cX2_size 74 = .ok (.istore 6, 2) := by decide +kernel
theorem dX2_size_76 : decode cX2_size 76 = .ok (.iload 4, 2) := by decide +kernel
theorem dX2_size_78 : decode cX2_size 78 = .ok (.aload_n 0, 1) := by decide +kernel
theorem dX2_size_79 : decode cX2_size 79 = .ok (.getfield 13, 3) := by decide +kernel
theorem dX2_size_82 : decode cX2_size 82 = .ok (.iload_n 1, 1) := by decide +kernel
theorem dX2_size_83 : decode cX2_size 83 = .ok (.laload, 1) := by decide +kernel
theorem dX2_size_84 : decode cX2_size 84 = .ok (.invokestatic 152, 3) := by decide +kernel
theorem dX2_size_87 : decode cX2_size 87 = .ok (.lstore 7, 2) := by decide +kernel
theorem dX2_size_89 : decode cX2_size 89 = .ok (.iload 4, 2) := by decide +kernel
theorem dX2_size_91 : decode cX2_size 91 = .ok (.aload_n 0, 1) := by decide +kernel
theorem dX2_size_92 : decode cX2_size 92 = .ok (.getfield 17, 3) := by decide +kernel
theorem dX2_size_95 : decode cX2_size 95 = .ok (.iload_n 1, 1) := by decide +kernel
theorem dX2_size_96 : decode cX2_size 96 = .ok (.laload, 1) := by decide +kernel
theorem dX2_size_97 : decode cX2_size 97 = .ok (.invokestatic 152, 3) := by decide +kernel
theorem dX2_size_100 : decode cX2_size 100 = .ok (.lstore 9, 2) := by decide +kernel
theorem dX2_size_102 : decode cX2_size 102 = .ok (.iload 5, 2) := by decide +kernel
theorem dX2_size_104 : decode cX2_size 104 = .ok (.ifCond .eq 28, 3) := by decide +kernel
theorem dX2_size_107 : decode cX2_size 107 = .ok (.iload 6, 2) := by decide +kernel
theorem dX2_size_109 : decode cX2_size 109 = .ok (.ifCond .eq 23, 3) := by decide +kernel
theorem dX2_size_112 : decode cX2_size 112 = .ok (.aload_n 0, 1) := by decide +kernel
theorem dX2_size_113 : decode cX2_size 113 = .ok (.iload_n 2, 1) := by decide +kernel
theorem dX2_size_114 : decode cX2_size 114 = .ok (.iload 4, 2) := by decide +kernel
theorem dX2_size_116 : decode cX2_size 116 = .ok (.lconst 0, 1) := by decide +kernel
theorem dX2_size_117 : decode cX2_size 117 = .ok (.iload 4, 2) := by decide +kernel
theorem dX2_size_119 : decode cX2_size 119 = .ok (.lload 7, 2) := by decide +kernel
theorem dX2_size_121 : decode cX2_size 121 = .ok (.lload 9, 2) := by decide +kernel
theorem dX2_size_123 : decode cX2_size 123 = .ok (.invokestatic 121, 3) := by decide +kernel
theorem dX2_size_126 : decode cX2_size 126 = .ok (.invokevirtual 155, 3) := by decide +kernel
theorem dX2_size_129 : decode cX2_size 129 = .ok (.goto 14, 3) := by decide +kernel
theorem dX2_size_132 : decode cX2_size 132 = .ok (.aload_n 0, 1) := by decide +kernel
theorem dX2_size_133 : decode cX2_size 133 = .ok (.iload_n 2, 1) := by decide +kernel
theorem dX2_size_134 : decode cX2_size 134 = .ok (.iload 4, 2) := by decide +kernel
theorem dX2_size_136 : decode cX2_size 136 = .ok (.lload 7, 2) := by decide +kernel
theorem dX2_size_138 : decode cX2_size 138 = .ok (.lload 9, 2) := by decide +kernel
theorem dX2_size_140 : decode cX2_size 140 = .ok (.invokevirtual 155, 3) := by decide +kernel
theorem dX2_size_143 : decode cX2_size 143 = .ok (.ireturn, 1) := by decide +kernel
set_option maxRecDepth 20000 in
theorem ggX2_round_X2_whyNot : GoodIn wsX2_round wsX2_whyNot := goodIn_r _ [8, 1, 9, 10, 7, 11, 58, 59, 60, 61, 62, 63, 64, 65, 66, 67, 68, 69] (by decide +kernel) (by decide +kernel)
set_option maxRecDepth 20000 in
theorem gX2_round_X2_whyNot : GoodIn wsX2_round (wsV RX2 135 RX2 yX2_whyNot wsX2_whyNot) := goodIn_app (goodIn_of _ (by decide +kernel)) ggX2_round_X2_whyNot
set_option maxRecDepth 20000 in
theorem ggX2_round_X2_isBroken : GoodIn wsX2_round wsX2_isBroken := goodIn_r _ [14] (by decide +kernel) (by decide +kernel)
set_option maxRecDepth 20000 in
theorem gX2_round_X2_isBroken : GoodIn wsX2_round (va_wsS RX2 63 yX2_isBroken wsX2_isBroken) := goodIn_app (goodIn_of _ (by decide +kernel)) ggX2_round_X2_isBroken
set_option maxRecDepth 20000 in
theorem ggX2_round_X2_refuses : GoodIn wsX2_round wsX2_refuses := goodIn_r _ [18, 19, 20, 58, 59, 60, 61, 62, 63, 64, 65, 66, 67, 68, 69] (by decide +kernel) (by decide +kernel)
set_option maxRecDepth 20000 in
theorem gX2_round_X2_refuses : GoodIn wsX2_round (wsV RX2 128 RX2 yX2_refuses wsX2_refuses) := goodIn_app (goodIn_of _ (by decide +kernel)) ggX2_round_X2_refuses
set_option maxRecDepth 20000 in
theorem ggX2_round_X2_whole : GoodIn wsX2_round wsX2_whole := goodIn_r _ [23, 24, 25, 26, 7, 27, 28, 29, 30, 31, 32, 33, 34, 35, 36, 37, 38, 39] (by decide +kernel) (by decide +kernel)
set_option maxRecDepth 20000 in
theorem gX2_round_X2_whole : GoodIn wsX2_round (va_wsS RX2 158 yX2_whole wsX2_whole) := goodIn_app (goodIn_of _ (by decide +kernel)) ggX2_round_X2_whole
set_option maxRecDepth 20000 in
theorem ggX2_round_X2_isAbove : GoodIn wsX2_round wsX2_isAbove := goodIn_r _ [42, 43, 44, 7, 45, 28, 29, 12, 13, 14] (by decide +kernel) (by decide +kernel)
set_option maxRecDepth 20000 in
theorem gX2_round_X2_isAbove : GoodIn wsX2_round (va_wsS RX2 77 yX2_isAbove wsX2_isAbove) := goodIn_app (goodIn_of _ (by decide +kernel)) ggX2_round_X2_isAbove
set_option maxRecDepth 20000 in
theorem ggX2_round_X2_emptied : GoodIn wsX2_round wsX2_emptied := goodIn_r _ [49, 1, 50, 51, 52, 7, 53, 19, 58, 59, 60, 61, 62, 63, 64, 65, 66, 67, 68, 69] (by decide +kernel) (by decide +kernel)
set_option maxRecDepth 20000 in
theorem gX2_round_X2_emptied : GoodIn wsX2_round (wsV RX2 146 RX2 yX2_emptied wsX2_emptied) := goodIn_app (goodIn_of _ (by decide +kernel)) ggX2_round_X2_emptied
set_option maxRecDepth 20000 in
theorem ggX2_round_X2_comes : GoodIn wsX2_round wsX2_comes := goodIn_r _ [57, 1, 2, 3, 50, 51, 52, 7, 53, 19, 58, 59, 60, 61, 62, 63, 64, 65, 66, 67, 68, 69] (by decide +kernel) (by decide +kernel)
set_option maxRecDepth 20000 in
theorem gX2_round_X2_comes : GoodIn wsX2_round (wsV RX2 124 RX2 yX2_comes wsX2_comes) := goodIn_app (goodIn_of _ (by decide +kernel)) ggX2_round_X2_comes
theorem dX2_round_0 : decode cX2_round 0 = .ok (.aload_n 0, 1) := by decide +kernel
end
section
theorem dX2_round_1 : decode cX2_round 1 = .ok (.iload_n 1, 1) := by decide +kernel
theorem dX2_round_2 : decode cX2_round 2 = .ok (.iload_n 1, 1) := by decide +kernel
theorem dX2_round_3 : decode cX2_round 3 = .ok (.iload_n 3, 1) := by decide +kernel
theorem dX2_round_4 : decode cX2_round 4 = .ok (.invokevirtual 135, 3) := by decide +kernel
theorem dX2_round_7 : decode cX2_round 7 = .ok (.istore 4, 2) := by decide +kernel
theorem dX2_round_9 : decode cX2_round 9 = .ok (.iload 4, 2) := by decide +kernel
theorem dX2_round_11 : decode cX2_round 11 = .ok (.ifCond .ne 19, 3) := by decide +kernel
theorem dX2_round_14 : decode cX2_round 14 = .ok (.aload_n 0, 1) := by decide +kernel
theorem dX2_round_15 : decode cX2_round 15 = .ok (.getfield 7, 3) := by decide +kernel
theorem dX2_round_18 : decode cX2_round 18 = .ok (.iload_n 1, 1) := by decide +kernel
theorem dX2_round_19 : decode cX2_round 19 = .ok (.iaload, 1) := by decide +kernel
theorem dX2_round_20 : decode cX2_round 20 = .ok (.invokestatic 63, 3) := by decide +kernel
theorem dX2_round_23 : decode cX2_round 23 = .ok (.ifCond .ne 7, 3) := by decide +kernel
theorem dX2_round_26 : decode cX2_round 26 = .ok (.bipush (-4), 2) := by decide +kernel
theorem dX2_round_28 : decode cX2_round 28 = .ok (.istore 4, 2) := by decide +kernel
theorem dX2_round_30 : decode cX2_round 30 = .ok (.iload 4, 2) := by decide +kernel
theorem dX2_round_32 : decode cX2_round 32 = .ok (.ifCond .ne 16, 3) := by decide +kernel
theorem dX2_round_35 : decode cX2_round 35 = .ok (.iload_n 2, 1) := by decide +kernel
theorem dX2_round_36 : decode cX2_round 36 = .ok (.ifCond .lt 8, 3) := by decide +kernel
theorem dX2_round_39 : decode cX2_round 39 = .ok (.iload_n 2, 1) := by decide +kernel
theorem dX2_round_40 : decode cX2_round 40 = .ok (.iconst 4, 1) := by decide +kernel
theorem dX2_round_41 : decode cX2_round 41 = .ok (.if_icmp .le 7, 3) := by decide +kernel
theorem dX2_round_44 : decode cX2_round 44 = .ok (.bipush (-5), 2) := by decide +kernel
theorem dX2_round_46 : decode cX2_round 46 = .ok (.istore 4, 2) := by decide +kernel
theorem dX2_round_48 : decode cX2_round 48 = .ok (.iload 4, 2) := by decide +kernel
theorem dX2_round_50 : decode cX2_round 50 = .ok (.ifCond .ge 10, 3) := by decide +kernel
theorem dX2_round_53 : decode cX2_round 53 = .ok (.aload_n 0, 1) := by decide +kernel
theorem dX2_round_54 : decode cX2_round 54 = .ok (.iload 4, 2) := by decide +kernel
theorem dX2_round_56 : decode cX2_round 56 = .ok (.invokevirtual 128, 3) := by decide +kernel
theorem dX2_round_59 : decode cX2_round 59 = .ok (.ireturn, 1) := by decide +kernel
theorem dX2_round_60 : decode cX2_round 60 = .ok (.aload_n 0, 1) := by decide +kernel
theorem dX2_round_61 : decode cX2_round 61 = .ok (.getfield 7, 3) := by decide +kernel
theorem dX2_round_64 : decode cX2_round 64 = .ok (.iload_n 1, 1) := by decide +kernel
theorem dX2_round_65 : decode cX2_round 65 = .ok (.iaload, 1) := by decide +kernel
theorem dX2_round_66 : decode cX2_round 66 = .ok (.istore 5, 2) := by decide +kernel
theorem dX2_round_68 : decode cX2_round 68 = .ok (.iload 5, 2) := by decide +kernel
theorem dX2_round_70 : decode cX2_round 70 = .ok (.aload_n 0, 1) := by decide +kernel
theorem dX2_round_71 : decode cX2_round 71 = .ok (.getfield 13, 3) := by decide +kernel
theorem dX2_round_74 : decode cX2_round 74 = .ok (.iload_n 1, 1) := by decide +kernel
theorem dX2_round_75 : decode cX2_round 75 = .ok (.laload, 1) := by decide +kernel
theorem dX2_round_76 : decode cX2_round 76 = .ok (.iload_n 2, 1) := by decide +kernel
theorem dX2_round_77 : decode cX2_round 77 = .ok (.iconst 3, 1) := by decide +kernel
theorem dX2_round_78 : decode cX2_round 78 = .ok (.if_icmp .ge 7, 3) := by decide +kernel
theorem dX2_round_81 : decode cX2_round 81 = .ok (.iload_n 2, 1) := by decide +kernel
theorem dX2_round_82 : decode cX2_round 82 = .ok (.goto 6, 3) := by decide +kernel
theorem dX2_round_85 : decode cX2_round 85 = .ok (.iload_n 2, 1) := by decide +kernel
theorem dX2_round_86 : decode cX2_round 86 = .ok (.iconst 3, 1) := by decide +kernel
theorem dX2_round_87 : decode cX2_round 87 = .ok (.isub, 1) := by decide +kernel
theorem dX2_round_88 : decode cX2_round 88 = .ok (.invokestatic 158, 3) := by decide +kernel
theorem dX2_round_91 : decode cX2_round 91 = .ok (.lstore 6, 2) := by decide +kernel
theorem dX2_round_93 : decode cX2_round 93 = .ok (.iload 5, 2) := by decide +kernel
theorem dX2_round_95 : decode cX2_round 95 = .ok (.aload_n 0, 1) := by decide +kernel
theorem dX2_round_96 : decode cX2_round 96 = .ok (.getfield 17, 3) := by decide +kernel
theorem dX2_round_99 : decode cX2_round 99 = .ok (.iload_n 1, 1) := by decide +kernel
theorem dX2_round_100 : decode cX2_round 100 = .ok (.laload, 1) := by decide +kernel
theorem dX2_round_101 : decode cX2_round 101 = .ok (.iload_n 2, 1) := by decide +kernel
theorem dX2_round_102 : decode cX2_round 102 = .ok (.iconst 3, 1) := by decide +kernel
theorem dX2_round_103 : decode cX2_round 103 = .ok (.if_icmp .ge 7, 3) := by decide +kernel
theorem dX2_round_106 : decode cX2_round 106 = .ok (.iload_n 2, 1) := by decide +kernel
theorem dX2_round_107 : decode cX2_round 107 = .ok (.goto 6, 3) := by decide +kernel
theorem dX2_round_110 : decode cX2_round 110 = .ok (.iconst 4, 1) := by decide +kernel
theorem dX2_round_111 : decode cX2_round 111 = .ok (.iload_n 2, 1) := by decide +kernel
theorem dX2_round_112 : decode cX2_round 112 = .ok (.isub, 1) := by decide +kernel
theorem dX2_round_113 : decode cX2_round 113 = .ok (.invokestatic 158, 3) := by decide +kernel
theorem dX2_round_116 : decode cX2_round 116 = .ok (.lstore 8, 2) := by decide +kernel
theorem dX2_round_118 : decode cX2_round 118 = .ok (.iload 5, 2) := by decide +kernel
theorem dX2_round_120 : decode cX2_round 120 = .ok (.lload 6, 2) := by decide +kernel
theorem dX2_round_122 : decode cX2_round 122 = .ok (.lload 8, 2) := by decide +kernel
theorem dX2_round_124 : decode cX2_round 124 = .ok (.invokestatic 77, 3) := by decide +kernel
theorem dX2_round_127 : decode cX2_round 127 = .ok (.ifCond .eq 11, 3) := by decide +kernel
theorem dX2_round_130 : decode cX2_round 130 = .ok (.aload_n 0, 1) := by decide +kernel
theorem dX2_round_131 : decode cX2_round 131 = .ok (.iload_n 3, 1) := by decide +kernel
theorem dX2_round_132 : decode cX2_round 132 = .ok (.invokevirtual 146, 3) := by decide +kernel
theorem dX2_round_135 : decode cX2_round 135 = .ok (.goto 14, 3) := by decide +kernel
theorem dX2_round_138 : decode cX2_round 138 = .ok (.aload_n 0, 1) := by decide +kernel
theorem dX2_round_139 : decode cX2_round 139 = .ok (.iload_n 3, 1) := by decide +kernel
theorem dX2_round_140 : decode cX2_round 140 = .ok (.iload 5, 2) := by decide +kernel
theorem dX2_round_142 : decode cX2_round 142 = .ok (.lload 6, 2) := by decide +kernel
theorem dX2_round_144 : decode cX2_round 144 = .ok (.lload 8, 2) := by decide +kernel
theorem dX2_round_146 : decode cX2_round 146 = .ok (.invokevirtual 124, 3) := by decide +kernel
theorem dX2_round_149 : decode cX2_round 149 = .ok (.ireturn, 1) := by decide +kernel
set_option maxRecDepth 20000 in
theorem ggX2_signOf_X2_isZero : GoodIn wsX2_signOf wsX2_isZero := goodIn_r _ [4, 5, 6, 3, 7, 8, 9, 10, 11, 12] (by decide +kernel) (by decide +kernel)
set_option maxRecDepth 20000 in
theorem gX2_signOf_X2_isZero : GoodIn wsX2_signOf (va_wsS RX2 149 yX2_isZero wsX2_isZero) := goodIn_app (goodIn_of _ (by decide +kernel)) ggX2_signOf_X2_isZero
set_option maxRecDepth 20000 in
theorem ggX2_signOf_X2_one : GoodIn wsX2_signOf wsX2_one := goodIn_r _ [15, 16, 17] (by decide +kernel) (by decide +kernel)
set_option maxRecDepth 20000 in
theorem gX2_signOf_X2_one : GoodIn wsX2_signOf (va_wsS RX2 88 yX2_one wsX2_one) := goodIn_app (goodIn_of _ (by decide +kernel)) ggX2_signOf_X2_one
set_option maxRecDepth 20000 in
theorem ggX2_signOf_X2_signed : GoodIn wsX2_signOf wsX2_signed := goodIn_r _ [20, 21, 22] (by decide +kernel) (by decide +kernel)
set_option maxRecDepth 20000 in
theorem gX2_signOf_X2_signed : GoodIn wsX2_signOf (va_wsS RX2 84 yX2_signed wsX2_signed) := goodIn_app (goodIn_of _ (by decide +kernel)) ggX2_signOf_X2_signed
theorem dX2_signOf_0 : decode cX2_signOf 0 = .ok (.iload_n 0, 1) := by decide +kernel
theorem dX2_signOf_1 : decode cX2_signOf 1 = .ok (.lload_n 1, 1) := by decide +kernel
theorem dX2_signOf_2 : decode cX2_signOf 2 = .ok (.invokestatic 149, 3) := by decide +kernel
theorem dX2_signOf_5 : decode cX2_signOf 5 = .ok (.ifCond .eq 7, 3) := by decide +kernel
theorem dX2_signOf_8 : decode cX2_signOf 8 = .ok (.lload_n 1, 1) := by decide +kernel
theorem dX2_signOf_9 : decode cX2_signOf 9 = .ok (.goto 22, 3) := by decide +kernel
theorem dX2_signOf_12 : decode cX2_signOf 12 = .ok (.iload_n 0, 1) := by decide +kernel
theorem dX2_signOf_13 : decode cX2_signOf 13 = .ok (.iload_n 0, 1) := by decide +kernel
theorem dX2_signOf_14 : decode cX2_signOf 14 = .ok (.invokestatic 88, 3) := by decide +kernel
theorem dX2_signOf_17 : decode cX2_signOf 17 = .ok (.lload_n 1, 1) := by decide +kernel
theorem dX2_signOf_18 : decode cX2_signOf 18 = .ok (.lconst 0, 1) := by decide +kernel
theorem dX2_signOf_19 : decode cX2_signOf 19 = .ok (.lcmp, 1) := by decide +kernel
theorem dX2_signOf_20 : decode cX2_signOf 20 = .ok (.ifCond .ge 7, 3) := by decide +kernel
theorem dX2_signOf_23 : decode cX2_signOf 23 = .ok (.iconst 1, 1) := by decide +kernel
theorem dX2_signOf_24 : decode cX2_signOf 24 = .ok (.goto 4, 3) := by decide +kernel
theorem dX2_signOf_27 : decode cX2_signOf 27 = .ok (.iconst 0, 1) := by decide +kernel
theorem dX2_signOf_28 : decode cX2_signOf 28 = .ok (.invokestatic 84, 3) := by decide +kernel
theorem dX2_signOf_31 : decode cX2_signOf 31 = .ok (.lreturn, 1) := by decide +kernel
set_option maxRecDepth 20000 in
theorem ggX2_sign_X2_whyNot : GoodIn wsX2_sign wsX2_whyNot := goodIn_r _ [8, 1, 9, 10, 7, 11, 50, 51, 52, 53, 54, 55, 56, 57, 58, 59, 60, 61] (by decide +kernel) (by decide +kernel)
set_option maxRecDepth 20000 in
theorem gX2_sign_X2_whyNot : GoodIn wsX2_sign (wsV RX2 135 RX2 yX2_whyNot wsX2_whyNot) := goodIn_app (goodIn_of _ (by decide +kernel)) ggX2_sign_X2_whyNot
set_option maxRecDepth 20000 in
theorem ggX2_sign_X2_isBroken : GoodIn wsX2_sign wsX2_isBroken := goodIn_r _ [14] (by decide +kernel) (by decide +kernel)
set_option maxRecDepth 20000 in
theorem gX2_sign_X2_isBroken : GoodIn wsX2_sign (va_wsS RX2 63 yX2_isBroken wsX2_isBroken) := goodIn_app (goodIn_of _ (by decide +kernel)) ggX2_sign_X2_isBroken
set_option maxRecDepth 20000 in
theorem ggX2_sign_X2_refuses : GoodIn wsX2_sign wsX2_refuses := goodIn_r _ [18, 19, 20, 50, 51, 52, 53, 54, 55, 56, 57, 58, 59, 60, 61] (by decide +kernel) (by decide +kernel)
set_option maxRecDepth 20000 in
theorem gX2_sign_X2_refuses : GoodIn wsX2_sign (wsV RX2 128 RX2 yX2_refuses wsX2_refuses) := goodIn_app (goodIn_of _ (by decide +kernel)) ggX2_sign_X2_refuses
set_option maxRecDepth 20000 in
theorem ggX2_sign_X2_signOf : GoodIn wsX2_sign wsX2_signOf := goodIn_r _ [23, 24, 25, 7, 26, 12, 13, 14, 27, 28, 29, 30, 31, 32, 33, 34, 35, 36, 37, 38, 39, 40, 41] (by decide +kernel) (by decide +kernel)
set_option maxRecDepth 20000 in
theorem gX2_sign_X2_signOf : GoodIn wsX2_sign (va_wsS RX2 162 yX2_signOf wsX2_signOf) := goodIn_app (goodIn_of _ (by decide +kernel)) ggX2_sign_X2_signOf
set_option maxRecDepth 20000 in
theorem ggX2_sign_X2_comes : GoodIn wsX2_sign wsX2_comes := goodIn_r _ [45, 1, 2, 3, 46, 47, 48, 7, 49, 19, 50, 51, 52, 53, 54, 55, 56, 57, 58, 59, 60, 61] (by decide +kernel) (by decide +kernel)
set_option maxRecDepth 20000 in
theorem gX2_sign_X2_comes : GoodIn wsX2_sign (wsV RX2 124 RX2 yX2_comes wsX2_comes) := goodIn_app (goodIn_of _ (by decide +kernel)) ggX2_sign_X2_comes
theorem dX2_sign_0 : decode cX2_sign 0 = .ok (.aload_n 0, 1) := by decide +kernel
theorem dX2_sign_1 : decode cX2_sign 1 = .ok (.iload_n 1, 1) := by decide +kernel
theorem dX2_sign_2 : decode cX2_sign 2 = .ok (.iload_n 1, 1) := by decide +kernel
theorem dX2_sign_3 : decode cX2_sign 3 = .ok (.iload_n 2, 1) := by decide +kernel
theorem dX2_sign_4 : decode cX2_sign 4 = .ok (.invokevirtual 135, 3) := by decide +kernel
theorem dX2_sign_7 : decode cX2_sign 7 = .ok (.istore_n 3, 1) := by decide +kernel
theorem dX2_sign_8 : decode cX2_sign 8 = .ok (.iload_n 3, 1) := by decide +kernel
theorem dX2_sign_9 : decode cX2_sign 9 = .ok (.ifCond .ne 18, 3) := by decide +kernel
theorem dX2_sign_12 : decode cX2_sign 12 = .ok (.aload_n 0, 1) := by decide +kernel
theorem dX2_sign_13 : decode cX2_sign 13 = .ok (.getfield 7, 3) := by decide +kernel
theorem dX2_sign_16 : decode cX2_sign 16 = .ok (.iload_n 1, 1) := by decide +kernel
theorem dX2_sign_17 : decode cX2_sign 17 = .ok (.iaload, 1) := by decide +kernel
theorem dX2_sign_18 : decode cX2_sign 18 = .ok (.invokestatic 63, 3) := by decide +kernel
theorem dX2_sign_21 : decode cX2_sign 21 = .ok (.ifCond .ne 6, 3) := by decide +kernel
theorem dX2_sign_24 : decode cX2_sign 24 = .ok (.bipush (-4), 2) := by decide +kernel
theorem dX2_sign_26 : decode cX2_sign 26 = .ok (.istore_n 3, 1) := by decide +kernel
theorem dX2_sign_27 : decode cX2_sign 27 = .ok (.iload_n 3, 1) := by decide +kernel
theorem dX2_sign_28 : decode cX2_sign 28 = .ok (.ifCond .ge 11, 3) := by decide +kernel
theorem dX2_sign_31 : decode cX2_sign 31 = .ok (.aload_n 0, 1) := by decide +kernel
theorem dX2_sign_32 : decode cX2_sign 32 = .ok (.iload_n 3, 1) := by decide +kernel
theorem dX2_sign_33 : decode cX2_sign 33 = .ok (.invokevirtual 128, 3) := by decide +kernel
theorem dX2_sign_36 : decode cX2_sign 36 = .ok (.goto 44, 3) := by decide +kernel
theorem dX2_sign_39 : decode cX2_sign 39 = .ok (.aload_n 0, 1) := by decide +kernel
theorem dX2_sign_40 : decode cX2_sign 40 = .ok (.iload_n 2, 1) := by decide +kernel
theorem dX2_sign_41 : decode cX2_sign 41 = .ok (.aload_n 0, 1) := by decide +kernel
theorem dX2_sign_42 : decode cX2_sign 42 = .ok (.getfield 7, 3) := by decide +kernel
theorem dX2_sign_45 : decode cX2_sign 45 = .ok (.iload_n 1, 1) := by decide +kernel
theorem dX2_sign_46 : decode cX2_sign 46 = .ok (.iaload, 1) := by decide +kernel
theorem dX2_sign_47 : decode cX2_sign 47 = .ok (.aload_n 0, 1) := by decide +kernel
theorem dX2_sign_48 : decode cX2_sign 48 = .ok (.getfield 7, 3) := by decide +kernel
theorem dX2_sign_51 : decode cX2_sign 51 = .ok (.iload_n 1, 1) := by decide +kernel
theorem dX2_sign_52 : decode cX2_sign 52 = .ok (.iaload, 1) := by decide +kernel
theorem dX2_sign_53 : decode cX2_sign 53 = .ok (.aload_n 0, 1) := by decide +kernel
theorem dX2_sign_54 : decode cX2_sign 54 = .ok (.getfield 13, 3) := by decide +kernel
theorem dX2_sign_57 : decode cX2_sign 57 = .ok (.iload_n 1, 1) := by decide +kernel
theorem dX2_sign_58 : decode cX2_sign 58 = .ok (.laload, 1) := by decide +kernel
theorem dX2_sign_59 : decode cX2_sign 59 = .ok (.invokestatic 162, 3) := by decide +kernel
theorem dX2_sign_62 : decode cX2_sign 62 = .ok (.aload_n 0, 1) := by decide +kernel
theorem dX2_sign_63 : decode cX2_sign 63 = .ok (.getfield 7, 3) := by decide +kernel
theorem dX2_sign_66 : decode cX2_sign 66 = .ok (.iload_n 1, 1) := by decide +kernel
theorem dX2_sign_67 : decode cX2_sign 67 = .ok (.iaload, 1) := by decide +kernel
theorem dX2_sign_68 : decode cX2_sign 68 = .ok (.aload_n 0, 1) := by decide +kernel
theorem dX2_sign_69 : decode cX2_sign 69 = .ok (.getfield 17, 3) := by decide +kernel
theorem dX2_sign_72 : decode cX2_sign 72 = .ok (.iload_n 1, 1) := by decide +kernel
theorem dX2_sign_73 : decode cX2_sign 73 = .ok (.laload, 1) := by decide +kernel
theorem dX2_sign_74 : decode cX2_sign 74 = .ok (.invokestatic 162, 3) := by decide +kernel
theorem dX2_sign_77 : decode cX2_sign 77 = .ok (.invokevirtual 124, 3) := by decide +kernel
theorem dX2_sign_80 : decode cX2_sign 80 = .ok (.ireturn, 1) := by decide +kernel
set_option maxRecDepth 20000 in
theorem ggX2_lend_X2_whyNot : GoodIn wsX2_lend wsX2_whyNot := goodIn_r _ [8, 1, 9, 10, 7, 11, 55, 56, 57, 58, 59, 60, 61, 62, 63, 64, 65, 66] (by decide +kernel) (by decide +kernel)
set_option maxRecDepth 20000 in
theorem gX2_lend_X2_whyNot : GoodIn wsX2_lend (wsV RX2 135 RX2 yX2_whyNot wsX2_whyNot) := goodIn_app (goodIn_of _ (by decide +kernel)) ggX2_lend_X2_whyNot
set_option maxRecDepth 20000 in
theorem ggX2_lend_X2_isBroken : GoodIn wsX2_lend wsX2_isBroken := goodIn_r _ [14] (by decide +kernel) (by decide +kernel)
set_option maxRecDepth 20000 in
theorem gX2_lend_X2_isBroken : GoodIn wsX2_lend (va_wsS RX2 63 yX2_isBroken wsX2_isBroken) := goodIn_app (goodIn_of _ (by decide +kernel)) ggX2_lend_X2_isBroken
set_option maxRecDepth 20000 in
theorem ggX2_lend_X2_refuses : GoodIn wsX2_lend wsX2_refuses := goodIn_r _ [18, 19, 20, 55, 56, 57, 58, 59, 60, 61, 62, 63, 64, 65, 66] (by decide +kernel) (by decide +kernel)
set_option maxRecDepth 20000 in
theorem gX2_lend_X2_refuses : GoodIn wsX2_lend (wsV RX2 128 RX2 yX2_refuses wsX2_refuses) := goodIn_app (goodIn_of _ (by decide +kernel)) ggX2_lend_X2_refuses
set_option maxRecDepth 20000 in
theorem ggX2_lend_X2_magnitude : GoodIn wsX2_lend wsX2_magnitude := goodIn_r _ [23, 24, 25] (by decide +kernel) (by decide +kernel)
set_option maxRecDepth 20000 in
theorem gX2_lend_X2_magnitude : GoodIn wsX2_lend (va_wsS RX2 66 yX2_magnitude wsX2_magnitude) := goodIn_app (goodIn_of _ (by decide +kernel)) ggX2_lend_X2_magnitude
set_option maxRecDepth 20000 in
theorem ggX2_lend_X2_signed : GoodIn wsX2_lend wsX2_signed := goodIn_r _ [28, 29, 30] (by decide +kernel) (by decide +kernel)
set_option maxRecDepth 20000 in
theorem gX2_lend_X2_signed : GoodIn wsX2_lend (va_wsS RX2 84 yX2_signed wsX2_signed) := goodIn_app (goodIn_of _ (by decide +kernel)) ggX2_lend_X2_signed
set_option maxRecDepth 20000 in
theorem ggX2_lend_X2_ordered : GoodIn wsX2_lend wsX2_ordered := goodIn_r _ [34, 35, 36, 7, 37, 38, 39, 40, 41, 42, 43, 24, 25, 12, 13, 14, 44, 45, 46, 47, 48, 49, 50, 1, 2, 3, 51, 52, 53, 54, 19, 55, 56, 57, 58, 59, 60, 61, 62, 63, 64, 65, 66] (by decide +kernel) (by decide +kernel)
set_option maxRecDepth 20000 in
theorem gX2_lend_X2_ordered : GoodIn wsX2_lend (wsV RX2 155 RX2 yX2_ordered wsX2_ordered) := goodIn_app (goodIn_of _ (by decide +kernel)) ggX2_lend_X2_ordered
theorem dX2_lend_0 : decode cX2_lend 0 = .ok (.aload_n 0, 1) := by decide +kernel
theorem dX2_lend_1 : decode cX2_lend 1 = .ok (.iload_n 1, 1) := by decide +kernel
theorem dX2_lend_2 : decode cX2_lend 2 = .ok (.iload_n 2, 1) := by decide +kernel
theorem dX2_lend_3 : decode cX2_lend 3 = .ok (.iload_n 3, 1) := by decide +kernel
theorem dX2_lend_4 : decode cX2_lend 4 = .ok (.invokevirtual 135, 3) := by decide +kernel
theorem dX2_lend_7 : decode cX2_lend 7 = .ok (.istore 4, 2) := by decide +kernel
theorem dX2_lend_9 : decode cX2_lend 9 = .ok (.iload 4, 2) := by decide +kernel
theorem dX2_lend_11 : decode cX2_lend 11 = .ok (.ifCond .ne 34, 3) := by decide +kernel
theorem dX2_lend_14 : decode cX2_lend 14 = .ok (.aload_n 0, 1) := by decide +kernel
theorem dX2_lend_15 : decode cX2_lend 15 = .ok (.getfield 7, 3) := by decide +kernel
theorem dX2_lend_18 : decode cX2_lend 18 = .ok (.iload_n 1, 1) := by decide +kernel
theorem dX2_lend_19 : decode cX2_lend 19 = .ok (.iaload, 1) := by decide +kernel
theorem dX2_lend_20 : decode cX2_lend 20 = .ok (.invokestatic 63, 3) := by decide +kernel
theorem dX2_lend_23 : decode cX2_lend 23 = .ok (.ifCond .eq 18, 3) := by decide +kernel
theorem dX2_lend_26 : decode cX2_lend 26 = .ok (.aload_n 0, 1) := by decide +kernel
theorem dX2_lend_27 : decode cX2_lend 27 = .ok (.getfield 7, 3) := by decide +kernel
theorem dX2_lend_30 : decode cX2_lend 30 = .ok (.iload_n 1, 1) := by decide +kernel
theorem dX2_lend_31 : decode cX2_lend 31 = .ok (.iaload, 1) := by decide +kernel
theorem dX2_lend_32 : decode cX2_lend 32 = .ok (.aload_n 0, 1) := by decide +kernel
theorem dX2_lend_33 : decode cX2_lend 33 = .ok (.getfield 7, 3) := by decide +kernel
theorem dX2_lend_36 : decode cX2_lend 36 = .ok (.iload_n 2, 1) := by decide +kernel
theorem dX2_lend_37 : decode cX2_lend 37 = .ok (.iaload, 1) := by decide +kernel
theorem dX2_lend_38 : decode cX2_lend 38 = .ok (.if_icmp .eq 7, 3) := by decide +kernel
theorem dX2_lend_41 : decode cX2_lend 41 = .ok (.bipush (-4), 2) := by decide +kernel
theorem dX2_lend_43 : decode cX2_lend 43 = .ok (.istore 4, 2) := by decide +kernel
theorem dX2_lend_45 : decode cX2_lend 45 = .ok (.iload 4, 2) := by decide +kernel
theorem dX2_lend_47 : decode cX2_lend 47 = .ok (.ifCond .ge 10, 3) := by decide +kernel
theorem dX2_lend_50 : decode cX2_lend 50 = .ok (.aload_n 0, 1) := by decide +kernel
theorem dX2_lend_51 : decode cX2_lend 51 = .ok (.iload 4, 2) := by decide +kernel
theorem dX2_lend_53 : decode cX2_lend 53 = .ok (.invokevirtual 128, 3) := by decide +kernel
theorem dX2_lend_56 : decode cX2_lend 56 = .ok (.ireturn, 1) := by decide +kernel
theorem dX2_lend_57 : decode cX2_lend 57 = .ok (.aload_n 0, 1) := by decide +kernel
theorem dX2_lend_58 : decode cX2_lend 58 = .ok (.getfield 7, 3) := by decide +kernel
theorem dX2_lend_61 : decode cX2_lend 61 = .ok (.iload_n 1, 1) := by decide +kernel
theorem dX2_lend_62 : decode cX2_lend 62 = .ok (.iaload, 1) := by decide +kernel
theorem dX2_lend_63 : decode cX2_lend 63 = .ok (.istore 5, 2) := by decide +kernel
theorem dX2_lend_65 : decode cX2_lend 65 = .ok (.aload_n 0, 1) := by decide +kernel
theorem dX2_lend_66 : decode cX2_lend 66 = .ok (.iload_n 3, 1) := by decide +kernel
theorem dX2_lend_67 : decode cX2_lend 67 = .ok (.iload 5, 2) := by decide +kernel
theorem dX2_lend_69 : decode cX2_lend 69 = .ok (.iload 5, 2) := by decide +kernel
theorem dX2_lend_71 : decode cX2_lend 71 = .ok (.iload 5, 2) := by decide +kernel
theorem dX2_lend_73 : decode cX2_lend 73 = .ok (.aload_n 0, 1) := by decide +kernel
theorem dX2_lend_74 : decode cX2_lend 74 = .ok (.getfield 13, 3) := by decide +kernel
theorem dX2_lend_77 : decode cX2_lend 77 = .ok (.iload_n 1, 1) := by decide +kernel
theorem dX2_lend_78 : decode cX2_lend 78 = .ok (.laload, 1) := by decide +kernel
theorem dX2_lend_79 : decode cX2_lend 79 = .ok (.invokestatic 66, 3) := by decide +kernel
theorem dX2_lend_82 : decode cX2_lend 82 = .ok (.aload_n 0, 1) := by decide +kernel
theorem dX2_lend_83 : decode cX2_lend 83 = .ok (.getfield 13, 3) := by decide +kernel
theorem dX2_lend_86 : decode cX2_lend 86 = .ok (.iload_n 2, 1) := by decide +kernel
theorem dX2_lend_87 : decode cX2_lend 87 = .ok (.laload, 1) := by decide +kernel
theorem dX2_lend_88 : decode cX2_lend 88 = .ok (.lconst 0, 1) := by decide +kernel
theorem dX2_lend_89 : decode cX2_lend 89 = .ok (.lcmp, 1) := by decide +kernel
theorem dX2_lend_90 : decode cX2_lend 90 = .ok (.ifCond .ge 7, 3) := by decide +kernel
theorem dX2_lend_93 : decode cX2_lend 93 = .ok (.iconst 1, 1) := by decide +kernel
theorem dX2_lend_94 : decode cX2_lend 94 = .ok (.goto 4, 3) := by decide +kernel
theorem dX2_lend_97 : decode cX2_lend 97 = .ok (.iconst 0, 1) := by decide +kernel
theorem dX2_lend_98 : decode cX2_lend 98 = .ok (.invokestatic 84, 3) := by decide +kernel
theorem dX2_lend_101 : decode cX2_lend 101 = .ok (.iload 5, 2) := by decide +kernel
theorem dX2_lend_103 : decode cX2_lend 103 = .ok (.iload 5, 2) := by decide +kernel
theorem dX2_lend_105 : decode cX2_lend 105 = .ok (.aload_n 0, 1) := by decide +kernel
theorem dX2_lend_106 : decode cX2_lend 106 = .ok (.getfield 17, 3) := by decide +kernel
theorem dX2_lend_109 : decode cX2_lend 109 = .ok (.iload_n 1, 1) := by decide +kernel
theorem dX2_lend_110 : decode cX2_lend 110 = .ok (.laload, 1) := by decide +kernel
theorem dX2_lend_111 : decode cX2_lend 111 = .ok (.invokestatic 66, 3) := by decide +kernel
theorem dX2_lend_114 : decode cX2_lend 114 = .ok (.aload_n 0, 1) := by decide +kernel
theorem dX2_lend_115 : decode cX2_lend 115 = .ok (.getfield 17, 3) := by decide +kernel
theorem dX2_lend_118 : decode cX2_lend 118 = .ok (.iload_n 2, 1) := by decide +kernel
theorem dX2_lend_119 : decode cX2_lend 119 = .ok (.laload, 1) := by decide +kernel
theorem dX2_lend_120 : decode cX2_lend 120 = .ok (.lconst 0, 1) := by decide +kernel
theorem dX2_lend_121 : decode cX2_lend 121 = .ok (.lcmp, 1) := by decide +kernel
theorem dX2_lend_122 : decode cX2_lend 122 = .ok (.ifCond .ge 7, 3) := by decide +kernel
theorem dX2_lend_125 : decode cX2_lend 125 = .ok (.iconst 1, 1) := by decide +kernel
theorem dX2_lend_126 : decode cX2_lend 126 = .ok (.goto 4, 3) := by decide +kernel
theorem dX2_lend_129 : decode cX2_lend 129 = .ok (.iconst 0, 1) := by decide +kernel
theorem dX2_lend_130 : decode cX2_lend 130 = .ok (.invokestatic 84, 3) := by decide +kernel
theorem dX2_lend_133 : decode cX2_lend 133 = .ok (.invokevirtual 155, 3) := by decide +kernel
theorem dX2_lend_136 : decode cX2_lend 136 = .ok (.ireturn, 1) := by decide +kernel
set_option maxRecDepth 20000 in
theorem ggX2_turn_X2_whyNot : GoodIn wsX2_turn wsX2_whyNot := goodIn_r _ [8, 1, 9, 10, 7, 11, 61, 62, 63, 64, 65, 66, 67, 68, 69, 70, 71, 72] (by decide +kernel) (by decide +kernel)
set_option maxRecDepth 20000 in
theorem gX2_turn_X2_whyNot : GoodIn wsX2_turn (wsV RX2 135 RX2 yX2_whyNot wsX2_whyNot) := goodIn_app (goodIn_of _ (by decide +kernel)) ggX2_turn_X2_whyNot
set_option maxRecDepth 20000 in
theorem ggX2_turn_X2_refuses : GoodIn wsX2_turn wsX2_refuses := goodIn_r _ [15, 16, 17, 61, 62, 63, 64, 65, 66, 67, 68, 69, 70, 71, 72] (by decide +kernel) (by decide +kernel)
set_option maxRecDepth 20000 in
theorem gX2_turn_X2_refuses : GoodIn wsX2_turn (wsV RX2 128 RX2 yX2_refuses wsX2_refuses) := goodIn_app (goodIn_of _ (by decide +kernel)) ggX2_turn_X2_refuses
set_option maxRecDepth 20000 in
theorem ggX2_turn_X2_turned : GoodIn wsX2_turn wsX2_turned := goodIn_r _ [20, 21, 22, 7, 23, 24, 25, 26, 27, 28, 29, 30, 31, 32, 33, 34, 35, 36] (by decide +kernel) (by decide +kernel)
set_option maxRecDepth 20000 in
theorem gX2_turn_X2_turned : GoodIn wsX2_turn (va_wsS RX2 165 yX2_turned wsX2_turned) := goodIn_app (goodIn_of _ (by decide +kernel)) ggX2_turn_X2_turned
set_option maxRecDepth 20000 in
theorem ggX2_turn_X2_ordered : GoodIn wsX2_turn wsX2_ordered := goodIn_r _ [40, 41, 42, 7, 43, 44, 45, 46, 47, 48, 49, 27, 28, 21, 22, 23, 50, 51, 52, 53, 54, 55, 56, 1, 2, 3, 57, 58, 59, 60, 16, 61, 62, 63, 64, 65, 66, 67, 68, 69, 70, 71, 72] (by decide +kernel) (by decide +kernel)
set_option maxRecDepth 20000 in
theorem gX2_turn_X2_ordered : GoodIn wsX2_turn (wsV RX2 155 RX2 yX2_ordered wsX2_ordered) := goodIn_app (goodIn_of _ (by decide +kernel)) ggX2_turn_X2_ordered
theorem dX2_turn_0 : decode cX2_turn 0 = .ok (.aload_n 0, 1) := by decide +kernel
theorem dX2_turn_1 : decode cX2_turn 1 = .ok (.iload_n 1, 1) := by decide +kernel
theorem dX2_turn_2 : decode cX2_turn 2 = .ok (.iload_n 1, 1) := by decide +kernel
theorem dX2_turn_3 : decode cX2_turn 3 = .ok (.iload_n 2, 1) := by decide +kernel
theorem dX2_turn_4 : decode cX2_turn 4 = .ok (.invokevirtual 135, 3) := by decide +kernel
theorem dX2_turn_7 : decode cX2_turn 7 = .ok (.istore_n 3, 1) := by decide +kernel
theorem dX2_turn_8 : decode cX2_turn 8 = .ok (.iload_n 3, 1) := by decide +kernel
theorem dX2_turn_9 : decode cX2_turn 9 = .ok (.ifCond .ge 11, 3) := by decide +kernel
theorem dX2_turn_12 : decode cX2_turn 12 = .ok (.aload_n 0, 1) := by decide +kernel
theorem dX2_turn_13 : decode cX2_turn 13 = .ok (.iload_n 3, 1) := by decide +kernel
theorem dX2_turn_14 : decode cX2_turn 14 = .ok (.invokevirtual 128, 3) := by decide +kernel
theorem dX2_turn_17 : decode cX2_turn 17 = .ok (.goto 44, 3) := by decide +kernel
theorem dX2_turn_20 : decode cX2_turn 20 = .ok (.aload_n 0, 1) := by decide +kernel
theorem dX2_turn_21 : decode cX2_turn 21 = .ok (.iload_n 2, 1) := by decide +kernel
theorem dX2_turn_22 : decode cX2_turn 22 = .ok (.aload_n 0, 1) := by decide +kernel
theorem dX2_turn_23 : decode cX2_turn 23 = .ok (.getfield 7, 3) := by decide +kernel
theorem dX2_turn_26 : decode cX2_turn 26 = .ok (.iload_n 1, 1) := by decide +kernel
theorem dX2_turn_27 : decode cX2_turn 27 = .ok (.iaload, 1) := by decide +kernel
theorem dX2_turn_28 : decode cX2_turn 28 = .ok (.aload_n 0, 1) := by decide +kernel
theorem dX2_turn_29 : decode cX2_turn 29 = .ok (.getfield 7, 3) := by decide +kernel
theorem dX2_turn_32 : decode cX2_turn 32 = .ok (.iload_n 1, 1) := by decide +kernel
theorem dX2_turn_33 : decode cX2_turn 33 = .ok (.iaload, 1) := by decide +kernel
theorem dX2_turn_34 : decode cX2_turn 34 = .ok (.aload_n 0, 1) := by decide +kernel
theorem dX2_turn_35 : decode cX2_turn 35 = .ok (.getfield 13, 3) := by decide +kernel
theorem dX2_turn_38 : decode cX2_turn 38 = .ok (.iload_n 1, 1) := by decide +kernel
theorem dX2_turn_39 : decode cX2_turn 39 = .ok (.laload, 1) := by decide +kernel
theorem dX2_turn_40 : decode cX2_turn 40 = .ok (.invokestatic 165, 3) := by decide +kernel
theorem dX2_turn_43 : decode cX2_turn 43 = .ok (.aload_n 0, 1) := by decide +kernel
theorem dX2_turn_44 : decode cX2_turn 44 = .ok (.getfield 7, 3) := by decide +kernel
theorem dX2_turn_47 : decode cX2_turn 47 = .ok (.iload_n 1, 1) := by decide +kernel
theorem dX2_turn_48 : decode cX2_turn 48 = .ok (.iaload, 1) := by decide +kernel
theorem dX2_turn_49 : decode cX2_turn 49 = .ok (.aload_n 0, 1) := by decide +kernel
theorem dX2_turn_50 : decode cX2_turn 50 = .ok (.getfield 17, 3) := by decide +kernel
theorem dX2_turn_53 : decode cX2_turn 53 = .ok (.iload_n 1, 1) := by decide +kernel
theorem dX2_turn_54 : decode cX2_turn 54 = .ok (.laload, 1) := by decide +kernel
theorem dX2_turn_55 : decode cX2_turn 55 = .ok (.invokestatic 165, 3) := by decide +kernel
theorem dX2_turn_58 : decode cX2_turn 58 = .ok (.invokevirtual 155, 3) := by decide +kernel
theorem dX2_turn_61 : decode cX2_turn 61 = .ok (.ireturn, 1) := by decide +kernel
set_option maxRecDepth 20000 in
theorem ggX2_as_X2_whyNot : GoodIn wsX2_as wsX2_whyNot := goodIn_r _ [8, 1, 9, 10, 7, 11, 83, 84, 85, 86, 87, 88, 89, 90, 91, 92, 93, 94] (by decide +kernel) (by decide +kernel)
set_option maxRecDepth 20000 in
theorem gX2_as_X2_whyNot : GoodIn wsX2_as (wsV RX2 135 RX2 yX2_whyNot wsX2_whyNot) := goodIn_app (goodIn_of _ (by decide +kernel)) ggX2_as_X2_whyNot
set_option maxRecDepth 20000 in
theorem ggX2_as_X2_refuses : GoodIn wsX2_as wsX2_refuses := goodIn_r _ [15, 16, 17, 83, 84, 85, 86, 87, 88, 89, 90, 91, 92, 93, 94] (by decide +kernel) (by decide +kernel)
set_option maxRecDepth 20000 in
theorem gX2_as_X2_refuses : GoodIn wsX2_as (wsV RX2 128 RX2 yX2_refuses wsX2_refuses) := goodIn_app (goodIn_of _ (by decide +kernel)) ggX2_as_X2_refuses
set_option maxRecDepth 20000 in
theorem ggX2_as_X2_made : GoodIn wsX2_as wsX2_made := goodIn_r _ [20, 21, 22, 23, 24, 25, 26, 27, 28, 29, 30, 7, 31, 32, 33, 34, 35, 36, 37, 38, 39, 40, 41, 42, 43, 44, 45, 46, 47, 48, 49, 50, 51, 52, 53, 54, 55, 56] (by decide +kernel) (by decide +kernel)
set_option maxRecDepth 20000 in
theorem gX2_as_X2_made : GoodIn wsX2_as (va_wsS RX2 168 yX2_made wsX2_made) := goodIn_app (goodIn_of _ (by decide +kernel)) ggX2_as_X2_made
set_option maxRecDepth 20000 in
theorem ggX2_as_X2_ordered : GoodIn wsX2_as wsX2_ordered := goodIn_r _ [60, 61, 62, 7, 63, 64, 65, 66, 67, 68, 69, 70, 71, 29, 30, 31, 72, 73, 74, 75, 76, 77, 78, 1, 2, 3, 79, 80, 81, 82, 16, 83, 84, 85, 86, 87, 88, 89, 90, 91, 92, 93, 94] (by decide +kernel) (by decide +kernel)
set_option maxRecDepth 20000 in
theorem gX2_as_X2_ordered : GoodIn wsX2_as (wsV RX2 155 RX2 yX2_ordered wsX2_ordered) := goodIn_app (goodIn_of _ (by decide +kernel)) ggX2_as_X2_ordered
theorem dX2_as_0 : decode cX2_as 0 = .ok (.aload_n 0, 1) := by decide +kernel
theorem dX2_as_1 : decode cX2_as 1 = .ok (.iload_n 1, 1) := by decide +kernel
theorem dX2_as_2 : decode cX2_as 2 = .ok (.iload_n 1, 1) := by decide +kernel
theorem dX2_as_3 : decode cX2_as 3 = .ok (.iload_n 3, 1) := by decide +kernel
theorem dX2_as_4 : decode cX2_as 4 = .ok (.invokevirtual 135, 3) := by decide +kernel
theorem dX2_as_7 : decode cX2_as 7 = .ok (.istore 4, 2) := by decide +kernel
theorem dX2_as_9 : decode cX2_as 9 = .ok (.iload 4, 2) := by decide +kernel
theorem dX2_as_11 : decode cX2_as 11 = .ok (.ifCond .ne 16, 3) := by decide +kernel
theorem dX2_as_14 : decode cX2_as 14 = .ok (.iload_n 2, 1) := by decide +kernel
theorem dX2_as_15 : decode cX2_as 15 = .ok (.ifCond .lt 8, 3) := by decide +kernel
theorem dX2_as_18 : decode cX2_as 18 = .ok (.iload_n 2, 1) := by decide +kernel
theorem dX2_as_19 : decode cX2_as 19 = .ok (.iconst 3, 1) := by decide +kernel
theorem dX2_as_20 : decode cX2_as 20 = .ok (.if_icmp .le 7, 3) := by decide +kernel
theorem dX2_as_23 : decode cX2_as 23 = .ok (.bipush (-4), 2) := by decide +kernel
theorem dX2_as_25 : decode cX2_as 25 = .ok (.istore 4, 2) := by decide +kernel
theorem dX2_as_27 : decode cX2_as 27 = .ok (.iload 4, 2) := by decide +kernel
theorem dX2_as_29 : decode cX2_as 29 = .ok (.ifCond .ge 12, 3) := by decide +kernel
theorem dX2_as_32 : decode cX2_as 32 = .ok (.aload_n 0, 1) := by decide +kernel
theorem dX2_as_33 : decode cX2_as 33 = .ok (.iload 4, 2) := by decide +kernel
theorem dX2_as_35 : decode cX2_as 35 = .ok (.invokevirtual 128, 3) := by decide +kernel
theorem dX2_as_38 : decode cX2_as 38 = .ok (.goto 41, 3) := by decide +kernel
theorem dX2_as_41 : decode cX2_as 41 = .ok (.aload_n 0, 1) := by decide +kernel
theorem dX2_as_42 : decode cX2_as 42 = .ok (.iload_n 3, 1) := by decide +kernel
theorem dX2_as_43 : decode cX2_as 43 = .ok (.iload_n 2, 1) := by decide +kernel
theorem dX2_as_44 : decode cX2_as 44 = .ok (.aload_n 0, 1) := by decide +kernel
theorem dX2_as_45 : decode cX2_as 45 = .ok (.getfield 7, 3) := by decide +kernel
theorem dX2_as_48 : decode cX2_as 48 = .ok (.iload_n 1, 1) := by decide +kernel
theorem dX2_as_49 : decode cX2_as 49 = .ok (.iaload, 1) := by decide +kernel
theorem dX2_as_50 : decode cX2_as 50 = .ok (.iload_n 2, 1) := by decide +kernel
theorem dX2_as_51 : decode cX2_as 51 = .ok (.aload_n 0, 1) := by decide +kernel
theorem dX2_as_52 : decode cX2_as 52 = .ok (.getfield 13, 3) := by decide +kernel
theorem dX2_as_55 : decode cX2_as 55 = .ok (.iload_n 1, 1) := by decide +kernel
theorem dX2_as_56 : decode cX2_as 56 = .ok (.laload, 1) := by decide +kernel
theorem dX2_as_57 : decode cX2_as 57 = .ok (.invokestatic 168, 3) := by decide +kernel
theorem dX2_as_60 : decode cX2_as 60 = .ok (.aload_n 0, 1) := by decide +kernel
theorem dX2_as_61 : decode cX2_as 61 = .ok (.getfield 7, 3) := by decide +kernel
theorem dX2_as_64 : decode cX2_as 64 = .ok (.iload_n 1, 1) := by decide +kernel
theorem dX2_as_65 : decode cX2_as 65 = .ok (.iaload, 1) := by decide +kernel
theorem dX2_as_66 : decode cX2_as 66 = .ok (.iload_n 2, 1) := by decide +kernel
theorem dX2_as_67 : decode cX2_as 67 = .ok (.aload_n 0, 1) := by decide +kernel
theorem dX2_as_68 : decode cX2_as 68 = .ok (.getfield 17, 3) := by decide +kernel
theorem dX2_as_71 : decode cX2_as 71 = .ok (.iload_n 1, 1) := by decide +kernel
theorem dX2_as_72 : decode cX2_as 72 = .ok (.laload, 1) := by decide +kernel
theorem dX2_as_73 : decode cX2_as 73 = .ok (.invokestatic 168, 3) := by decide +kernel
theorem dX2_as_76 : decode cX2_as 76 = .ok (.invokevirtual 155, 3) := by decide +kernel
theorem dX2_as_79 : decode cX2_as 79 = .ok (.ireturn, 1) := by decide +kernel
set_option maxRecDepth 20000 in
theorem ggX2_near_X2_whyNot : GoodIn wsX2_near wsX2_whyNot := goodIn_r _ [9, 1, 10, 11, 8, 12, 49, 50, 51, 52, 53, 54, 55, 56, 57, 58, 59, 60] (by decide +kernel) (by decide +kernel)
set_option maxRecDepth 20000 in
theorem gX2_near_X2_whyNot : GoodIn wsX2_near (wsV RX2 135 RX2 yX2_whyNot wsX2_whyNot) := goodIn_app (goodIn_of _ (by decide +kernel)) ggX2_near_X2_whyNot
set_option maxRecDepth 20000 in
theorem ggX2_near_X2_taken : GoodIn wsX2_near wsX2_taken := goodIn_r _ [15] (by decide +kernel) (by decide +kernel)
set_option maxRecDepth 20000 in
theorem gX2_near_X2_taken : GoodIn wsX2_near (va_wsS RX2 81 yX2_taken wsX2_taken) := goodIn_app (goodIn_of _ (by decide +kernel)) ggX2_near_X2_taken
set_option maxRecDepth 20000 in
theorem ggX2_near_X2_isNumber : GoodIn wsX2_near wsX2_isNumber := goodIn_r _ [18, 19, 20, 8, 21, 22, 23, 24, 25, 26, 27, 28, 29, 30, 31] (by decide +kernel) (by decide +kernel)
set_option maxRecDepth 20000 in
theorem gX2_near_X2_isNumber : GoodIn wsX2_near (va_wsS RX2 131 yX2_isNumber wsX2_isNumber) := goodIn_app (goodIn_of _ (by decide +kernel)) ggX2_near_X2_isNumber
set_option maxRecDepth 20000 in
theorem ggX2_near_X2_refuses : GoodIn wsX2_near wsX2_refuses := goodIn_r _ [35, 2, 36, 49, 50, 51, 52, 53, 54, 55, 56, 57, 58, 59, 60] (by decide +kernel) (by decide +kernel)
set_option maxRecDepth 20000 in
theorem gX2_near_X2_refuses : GoodIn wsX2_near (wsV RX2 128 RX2 yX2_refuses wsX2_refuses) := goodIn_app (goodIn_of _ (by decide +kernel)) ggX2_near_X2_refuses
set_option maxRecDepth 20000 in
theorem ggX2_near_X2_greater : GoodIn wsX2_near wsX2_greater := goodIn_r _ [39, 40, 41, 8, 42, 43, 44, 45, 25, 26, 19, 20, 21] (by decide +kernel) (by decide +kernel)
set_option maxRecDepth 20000 in
theorem gX2_near_X2_greater : GoodIn wsX2_near (va_wsS RX2 121 yX2_greater wsX2_greater) := goodIn_app (goodIn_of _ (by decide +kernel)) ggX2_near_X2_greater
set_option maxRecDepth 20000 in
theorem ggX2_near_X2_lesser : GoodIn wsX2_near wsX2_lesser := goodIn_r _ [48, 40, 41, 8, 42, 43, 44, 45, 25, 26, 19, 20, 21] (by decide +kernel) (by decide +kernel)
set_option maxRecDepth 20000 in
theorem gX2_near_X2_lesser : GoodIn wsX2_near (va_wsS RX2 117 yX2_lesser wsX2_lesser) := goodIn_app (goodIn_of _ (by decide +kernel)) ggX2_near_X2_lesser
theorem dX2_near_0 : decode cX2_near 0 = .ok (.aload_n 0, 1) := by decide +kernel
theorem dX2_near_1 : decode cX2_near 1 = .ok (.iload_n 1, 1) := by decide +kernel
theorem dX2_near_2 : decode cX2_near 2 = .ok (.iload_n 1, 1) := by decide +kernel
theorem dX2_near_3 : decode cX2_near 3 = .ok (.iload_n 1, 1) := by decide +kernel
theorem dX2_near_4 : decode cX2_near 4 = .ok (.invokevirtual 135, 3) := by decide +kernel
theorem dX2_near_7 : decode cX2_near 7 = .ok (.istore 4, 2) := by decide +kernel
theorem dX2_near_9 : decode cX2_near 9 = .ok (.iload 4, 2) := by decide +kernel
theorem dX2_near_11 : decode cX2_near 11 = .ok (.ifCond .ne 16, 3) := by decide +kernel
theorem dX2_near_14 : decode cX2_near 14 = .ok (.aload_n 0, 1) := by decide +kernel
theorem dX2_near_15 : decode cX2_near 15 = .ok (.getfield 7, 3) := by decide +kernel
theorem dX2_near_18 : decode cX2_near 18 = .ok (.iload_n 1, 1) := by decide +kernel
theorem dX2_near_19 : decode cX2_near 19 = .ok (.iaload, 1) := by decide +kernel
theorem dX2_near_20 : decode cX2_near 20 = .ok (.lload_n 2, 1) := by decide +kernel
theorem dX2_near_21 : decode cX2_near 21 = .ok (.invokestatic 81, 3) := by decide +kernel
theorem dX2_near_24 : decode cX2_near 24 = .ok (.goto 4, 3) := by decide +kernel
theorem dX2_near_27 : decode cX2_near 27 = .ok (.lconst 0, 1) := by decide +kernel
theorem dX2_near_28 : decode cX2_near 28 = .ok (.lstore 5, 2) := by decide +kernel
theorem dX2_near_30 : decode cX2_near 30 = .ok (.iload 4, 2) := by decide +kernel
theorem dX2_near_32 : decode cX2_near 32 = .ok (.ifCond .ne 21, 3) := by decide +kernel
theorem dX2_near_35 : decode cX2_near 35 = .ok (.aload_n 0, 1) := by decide +kernel
theorem dX2_near_36 : decode cX2_near 36 = .ok (.getfield 7, 3) := by decide +kernel
theorem dX2_near_39 : decode cX2_near 39 = .ok (.iload_n 1, 1) := by decide +kernel
theorem dX2_near_40 : decode cX2_near 40 = .ok (.iaload, 1) := by decide +kernel
theorem dX2_near_41 : decode cX2_near 41 = .ok (.lload 5, 2) := by decide +kernel
theorem dX2_near_43 : decode cX2_near 43 = .ok (.invokestatic 131, 3) := by decide +kernel
theorem dX2_near_46 : decode cX2_near 46 = .ok (.ifCond .ne 7, 3) := by decide +kernel
theorem dX2_near_49 : decode cX2_near 49 = .ok (.bipush (-4), 2) := by decide +kernel
theorem dX2_near_51 : decode cX2_near 51 = .ok (.istore 4, 2) := by decide +kernel
theorem dX2_near_53 : decode cX2_near 53 = .ok (.iload 4, 2) := by decide +kernel
theorem dX2_near_55 : decode cX2_near 55 = .ok (.ifCond .ge 13, 3) := by decide +kernel
theorem dX2_near_58 : decode cX2_near 58 = .ok (.aload_n 0, 1) := by decide +kernel
theorem dX2_near_59 : decode cX2_near 59 = .ok (.iload 4, 2) := by decide +kernel
theorem dX2_near_61 : decode cX2_near 61 = .ok (.invokevirtual 128, 3) := by decide +kernel
theorem dX2_near_64 : decode cX2_near 64 = .ok (.istore 4, 2) := by decide +kernel
theorem dX2_near_66 : decode cX2_near 66 = .ok (.lconst 0, 1) := by decide +kernel
theorem dX2_near_67 : decode cX2_near 67 = .ok (.lreturn, 1) := by decide +kernel
theorem dX2_near_68 : decode cX2_near 68 = .ok (.aload_n 0, 1) := by decide +kernel
theorem dX2_near_69 : decode cX2_near 69 = .ok (.iconst 0, 1) := by decide +kernel
theorem dX2_near_70 : decode cX2_near 70 = .ok (.putfield 36, 3) := by decide +kernel
theorem dX2_near_73 : decode cX2_near 73 = .ok (.aload_n 0, 1) := by decide +kernel
theorem dX2_near_74 : decode cX2_near 74 = .ok (.getfield 7, 3) := by decide +kernel
theorem dX2_near_77 : decode cX2_near 77 = .ok (.iload_n 1, 1) := by decide +kernel
theorem dX2_near_78 : decode cX2_near 78 = .ok (.iaload, 1) := by decide +kernel
theorem dX2_near_79 : decode cX2_near 79 = .ok (.aload_n 0, 1) := by decide +kernel
theorem dX2_near_80 : decode cX2_near 80 = .ok (.getfield 7, 3) := by decide +kernel
theorem dX2_near_83 : decode cX2_near 83 = .ok (.iload_n 1, 1) := by decide +kernel
theorem dX2_near_84 : decode cX2_near 84 = .ok (.iaload, 1) := by decide +kernel
theorem dX2_near_85 : decode cX2_near 85 = .ok (.lload 5, 2) := by decide +kernel
theorem dX2_near_87 : decode cX2_near 87 = .ok (.aload_n 0, 1) := by decide +kernel
theorem dX2_near_88 : decode cX2_near 88 = .ok (.getfield 13, 3) := by decide +kernel
theorem dX2_near_91 : decode cX2_near 91 = .ok (.iload_n 1, 1) := by decide +kernel
theorem dX2_near_92 : decode cX2_near 92 = .ok (.laload, 1) := by decide +kernel
theorem dX2_near_93 : decode cX2_near 93 = .ok (.invokestatic 121, 3) := by decide +kernel
theorem dX2_near_96 : decode cX2_near 96 = .ok (.aload_n 0, 1) := by decide +kernel
theorem dX2_near_97 : decode cX2_near 97 = .ok (.getfield 17, 3) := by decide +kernel
theorem dX2_near_100 : decode cX2_near 100 = .ok (.iload_n 1, 1) := by decide +kernel
theorem dX2_near_101 : decode cX2_near 101 = .ok (.laload, 1) := by decide +kernel
theorem dX2_near_102 : decode cX2_near 102 = .ok (.invokestatic 117, 3) := by decide +kernel
theorem dX2_near_105 : decode cX2_near 105 = .ok (.lreturn, 1) := by decide +kernel
set_option maxRecDepth 20000 in
theorem ggX2_has_X2_whyNot : GoodIn wsX2_has wsX2_whyNot := goodIn_r _ [8, 1, 9, 10, 7, 11, 47, 48, 49, 50, 51, 52, 53, 54, 55, 56, 57, 58] (by decide +kernel) (by decide +kernel)
set_option maxRecDepth 20000 in
theorem gX2_has_X2_whyNot : GoodIn wsX2_has (wsV RX2 135 RX2 yX2_whyNot wsX2_whyNot) := goodIn_app (goodIn_of _ (by decide +kernel)) ggX2_has_X2_whyNot
set_option maxRecDepth 20000 in
theorem ggX2_has_X2_taken : GoodIn wsX2_has wsX2_taken := goodIn_r _ [14] (by decide +kernel) (by decide +kernel)
set_option maxRecDepth 20000 in
theorem gX2_has_X2_taken : GoodIn wsX2_has (va_wsS RX2 81 yX2_taken wsX2_taken) := goodIn_app (goodIn_of _ (by decide +kernel)) ggX2_has_X2_taken
set_option maxRecDepth 20000 in
theorem ggX2_has_X2_isNumber : GoodIn wsX2_has wsX2_isNumber := goodIn_r _ [17, 18, 19, 7, 20, 21, 22, 23, 24, 25, 26, 27, 28, 29, 30] (by decide +kernel) (by decide +kernel)
set_option maxRecDepth 20000 in
theorem gX2_has_X2_isNumber : GoodIn wsX2_has (va_wsS RX2 131 yX2_isNumber wsX2_isNumber) := goodIn_app (goodIn_of _ (by decide +kernel)) ggX2_has_X2_isNumber
set_option maxRecDepth 20000 in
theorem ggX2_has_X2_refuses : GoodIn wsX2_has wsX2_refuses := goodIn_r _ [34, 35, 36, 47, 48, 49, 50, 51, 52, 53, 54, 55, 56, 57, 58] (by decide +kernel) (by decide +kernel)
set_option maxRecDepth 20000 in
theorem gX2_has_X2_refuses : GoodIn wsX2_has (wsV RX2 128 RX2 yX2_refuses wsX2_refuses) := goodIn_app (goodIn_of _ (by decide +kernel)) ggX2_has_X2_refuses
set_option maxRecDepth 20000 in
theorem ggX2_has_X2_isAbove : GoodIn wsX2_has wsX2_isAbove := goodIn_r _ [39, 40, 41, 7, 42, 24, 25, 18, 19, 20] (by decide +kernel) (by decide +kernel)
set_option maxRecDepth 20000 in
theorem gX2_has_X2_isAbove : GoodIn wsX2_has (va_wsS RX2 77 yX2_isAbove wsX2_isAbove) := goodIn_app (goodIn_of _ (by decide +kernel)) ggX2_has_X2_isAbove
set_option maxRecDepth 20000 in
theorem ggX2_has_X2_says : GoodIn wsX2_has wsX2_says := goodIn_r _ [46, 35, 47, 48, 49, 50, 51, 52, 53, 54, 55, 56, 57, 58] (by decide +kernel) (by decide +kernel)
set_option maxRecDepth 20000 in
theorem gX2_has_X2_says : GoodIn wsX2_has (wsV RX2 113 RX2 yX2_says wsX2_says) := goodIn_app (goodIn_of _ (by decide +kernel)) ggX2_has_X2_says
theorem dX2_has_0 : decode cX2_has 0 = .ok (.aload_n 0, 1) := by decide +kernel
theorem dX2_has_1 : decode cX2_has 1 = .ok (.iload_n 1, 1) := by decide +kernel
theorem dX2_has_2 : decode cX2_has 2 = .ok (.iload_n 1, 1) := by decide +kernel
theorem dX2_has_3 : decode cX2_has 3 = .ok (.iload_n 1, 1) := by decide +kernel
theorem dX2_has_4 : decode cX2_has 4 = .ok (.invokevirtual 135, 3) := by decide +kernel
theorem dX2_has_7 : decode cX2_has 7 = .ok (.istore 4, 2) := by decide +kernel
theorem dX2_has_9 : decode cX2_has 9 = .ok (.iload 4, 2) := by decide +kernel
theorem dX2_has_11 : decode cX2_has 11 = .ok (.ifCond .ne 16, 3) := by decide +kernel
theorem dX2_has_14 : decode cX2_has 14 = .ok (.aload_n 0, 1) := by decide +kernel
theorem dX2_has_15 : decode cX2_has 15 = .ok (.getfield 7, 3) := by decide +kernel
theorem dX2_has_18 : decode cX2_has 18 = .ok (.iload_n 1, 1) := by decide +kernel
theorem dX2_has_19 : decode cX2_has 19 = .ok (.iaload, 1) := by decide +kernel
theorem dX2_has_20 : decode cX2_has 20 = .ok (.lload_n 2, 1) := by decide +kernel
theorem dX2_has_21 : decode cX2_has 21 = .ok (.invokestatic 81, 3) := by decide +kernel
theorem dX2_has_24 : decode cX2_has 24 = .ok (.goto 4, 3) := by decide +kernel
theorem dX2_has_27 : decode cX2_has 27 = .ok (.lconst 0, 1) := by decide +kernel
theorem dX2_has_28 : decode cX2_has 28 = .ok (.lstore 5, 2) := by decide +kernel
theorem dX2_has_30 : decode cX2_has 30 = .ok (.iload 4, 2) := by decide +kernel
theorem dX2_has_32 : decode cX2_has 32 = .ok (.ifCond .ne 21, 3) := by decide +kernel
theorem dX2_has_35 : decode cX2_has 35 = .ok (.aload_n 0, 1) := by decide +kernel
theorem dX2_has_36 : decode cX2_has 36 = .ok (.getfield 7, 3) := by decide +kernel
theorem dX2_has_39 : decode cX2_has 39 = .ok (.iload_n 1, 1) := by decide +kernel
theorem dX2_has_40 : decode cX2_has 40 = .ok (.iaload, 1) := by decide +kernel
theorem dX2_has_41 : decode cX2_has 41 = .ok (.lload 5, 2) := by decide +kernel
theorem dX2_has_43 : decode cX2_has 43 = .ok (.invokestatic 131, 3) := by decide +kernel
theorem dX2_has_46 : decode cX2_has 46 = .ok (.ifCond .ne 7, 3) := by decide +kernel
theorem dX2_has_49 : decode cX2_has 49 = .ok (.bipush (-4), 2) := by decide +kernel
theorem dX2_has_51 : decode cX2_has 51 = .ok (.istore 4, 2) := by decide +kernel
theorem dX2_has_53 : decode cX2_has 53 = .ok (.iload 4, 2) := by decide +kernel
theorem dX2_has_55 : decode cX2_has 55 = .ok (.ifCond .ge 10, 3) := by decide +kernel
theorem dX2_has_58 : decode cX2_has 58 = .ok (.aload_n 0, 1) := by decide +kernel
theorem dX2_has_59 : decode cX2_has 59 = .ok (.iload 4, 2) := by decide +kernel
theorem dX2_has_61 : decode cX2_has 61 = .ok (.invokevirtual 128, 3) := by decide +kernel
theorem dX2_has_64 : decode cX2_has 64 = .ok (.ireturn, 1) := by decide +kernel
theorem dX2_has_65 : decode cX2_has 65 = .ok (.aload_n 0, 1) := by decide +kernel
theorem dX2_has_66 : decode cX2_has 66 = .ok (.aload_n 0, 1) := by decide +kernel
theorem dX2_has_67 : decode cX2_has 67 = .ok (.getfield 7, 3) := by decide +kernel
theorem dX2_has_70 : decode cX2_has 70 = .ok (.iload_n 1, 1) := by decide +kernel
theorem dX2_has_71 : decode cX2_has 71 = .ok (.iaload, 1) := by decide +kernel
theorem dX2_has_72 : decode cX2_has 72 = .ok (.aload_n 0, 1) := by decide +kernel
theorem dX2_has_73 : decode cX2_has 73 = .ok (.getfield 13, 3) := by decide +kernel
theorem dX2_has_76 : decode cX2_has 76 = .ok (.iload_n 1, 1) := by decide +kernel
theorem dX2_has_77 : decode cX2_has 77 = .ok (.laload, 1) := by decide +kernel
theorem dX2_has_78 : decode cX2_has 78 = .ok (.lload 5, 2) := by decide +kernel
theorem dX2_has_80 : decode cX2_has 80 = .ok (.invokestatic 77, 3) := by decide +kernel
theorem dX2_has_83 : decode cX2_has 83 = .ok (.ifCond .ne 23, 3) := by decide +kernel
theorem dX2_has_86 : decode cX2_has 86 = .ok (.aload_n 0, 1) := by decide +kernel
theorem dX2_has_87 : decode cX2_has 87 = .ok (.getfield 7, 3) := by decide +kernel
theorem dX2_has_90 : decode cX2_has 90 = .ok (.iload_n 1, 1) := by decide +kernel
theorem dX2_has_91 : decode cX2_has 91 = .ok (.iaload, 1) := by decide +kernel
theorem dX2_has_92 : decode cX2_has 92 = .ok (.lload 5, 2) := by decide +kernel
theorem dX2_has_94 : decode cX2_has 94 = .ok (.aload_n 0, 1) := by decide +kernel
theorem dX2_has_95 : decode cX2_has 95 = .ok (.getfield 17, 3) := by decide +kernel
theorem dX2_has_98 : decode cX2_has 98 = .ok (.iload_n 1, 1) := by decide +kernel
theorem dX2_has_99 : decode cX2_has 99 = .ok (.laload, 1) := by decide +kernel
theorem dX2_has_100 : decode cX2_has 100 = .ok (.invokestatic 77, 3) := by decide +kernel
theorem dX2_has_103 : decode cX2_has 103 = .ok (.ifCond .eq 7, 3) := by decide +kernel
theorem dX2_has_106 : decode cX2_has 106 = .ok (.iconst 0, 1) := by decide +kernel
theorem dX2_has_107 : decode cX2_has 107 = .ok (.goto 4, 3) := by decide +kernel
theorem dX2_has_110 : decode cX2_has 110 = .ok (.iconst 1, 1) := by decide +kernel
theorem dX2_has_111 : decode cX2_has 111 = .ok (.invokevirtual 113, 3) := by decide +kernel
theorem dX2_has_114 : decode cX2_has 114 = .ok (.ireturn, 1) := by decide +kernel
set_option maxRecDepth 20000 in
theorem ggX2_alike_X2_whyNot : GoodIn wsX2_alike wsX2_whyNot := goodIn_r _ [8, 1, 9, 10, 7, 11, 22, 23, 24, 25, 26, 27, 28, 29, 30, 31, 32, 33] (by decide +kernel) (by decide +kernel)
set_option maxRecDepth 20000 in
theorem gX2_alike_X2_whyNot : GoodIn wsX2_alike (wsV RX2 135 RX2 yX2_whyNot wsX2_whyNot) := goodIn_app (goodIn_of _ (by decide +kernel)) ggX2_alike_X2_whyNot
set_option maxRecDepth 20000 in
theorem ggX2_alike_X2_refuses : GoodIn wsX2_alike wsX2_refuses := goodIn_r _ [15, 16, 17, 22, 23, 24, 25, 26, 27, 28, 29, 30, 31, 32, 33] (by decide +kernel) (by decide +kernel)
set_option maxRecDepth 20000 in
theorem gX2_alike_X2_refuses : GoodIn wsX2_alike (wsV RX2 128 RX2 yX2_refuses wsX2_refuses) := goodIn_app (goodIn_of _ (by decide +kernel)) ggX2_alike_X2_refuses
set_option maxRecDepth 20000 in
theorem ggX2_alike_X2_says : GoodIn wsX2_alike wsX2_says := goodIn_r _ [21, 16, 22, 23, 24, 25, 26, 27, 28, 29, 30, 31, 32, 33] (by decide +kernel) (by decide +kernel)
set_option maxRecDepth 20000 in
theorem gX2_alike_X2_says : GoodIn wsX2_alike (wsV RX2 113 RX2 yX2_says wsX2_says) := goodIn_app (goodIn_of _ (by decide +kernel)) ggX2_alike_X2_says
theorem dX2_alike_0 : decode cX2_alike 0 = .ok (.aload_n 0, 1) := by decide +kernel
theorem dX2_alike_1 : decode cX2_alike 1 = .ok (.iload_n 1, 1) := by decide +kernel
theorem dX2_alike_2 : decode cX2_alike 2 = .ok (.iload_n 2, 1) := by decide +kernel
theorem dX2_alike_3 : decode cX2_alike 3 = .ok (.iload_n 1, 1) := by decide +kernel
theorem dX2_alike_4 : decode cX2_alike 4 = .ok (.invokevirtual 135, 3) := by decide +kernel
theorem dX2_alike_7 : decode cX2_alike 7 = .ok (.istore_n 3, 1) := by decide +kernel
theorem dX2_alike_8 : decode cX2_alike 8 = .ok (.iload_n 3, 1) := by decide +kernel
theorem dX2_alike_9 : decode cX2_alike 9 = .ok (.ifCond .ge 9, 3) := by decide +kernel
theorem dX2_alike_12 : decode cX2_alike 12 = .ok (.aload_n 0, 1) := by decide +kernel
theorem dX2_alike_13 : decode cX2_alike 13 = .ok (.iload_n 3, 1) := by decide +kernel
theorem dX2_alike_14 : decode cX2_alike 14 = .ok (.invokevirtual 128, 3) := by decide +kernel
theorem dX2_alike_17 : decode cX2_alike 17 = .ok (.ireturn, 1) := by decide +kernel
theorem dX2_alike_18 : decode cX2_alike 18 = .ok (.aload_n 0, 1) := by decide +kernel
theorem dX2_alike_19 : decode cX2_alike 19 = .ok (.aload_n 0, 1) := by decide +kernel
theorem dX2_alike_20 : decode cX2_alike 20 = .ok (.getfield 7, 3) := by decide +kernel
theorem dX2_alike_23 : decode cX2_alike 23 = .ok (.iload_n 1, 1) := by decide +kernel
theorem dX2_alike_24 : decode cX2_alike 24 = .ok (.iaload, 1) := by decide +kernel
theorem dX2_alike_25 : decode cX2_alike 25 = .ok (.aload_n 0, 1) := by decide +kernel
theorem dX2_alike_26 : decode cX2_alike 26 = .ok (.getfield 7, 3) := by decide +kernel
theorem dX2_alike_29 : decode cX2_alike 29 = .ok (.iload_n 2, 1) := by decide +kernel
theorem dX2_alike_30 : decode cX2_alike 30 = .ok (.iaload, 1) := by decide +kernel
theorem dX2_alike_31 : decode cX2_alike 31 = .ok (.if_icmp .ne 39, 3) := by decide +kernel
theorem dX2_alike_34 : decode cX2_alike 34 = .ok (.aload_n 0, 1) := by decide +kernel
theorem dX2_alike_35 : decode cX2_alike 35 = .ok (.getfield 13, 3) := by decide +kernel
theorem dX2_alike_38 : decode cX2_alike 38 = .ok (.iload_n 1, 1) := by decide +kernel
theorem dX2_alike_39 : decode cX2_alike 39 = .ok (.laload, 1) := by decide +kernel
theorem dX2_alike_40 : decode cX2_alike 40 = .ok (.aload_n 0, 1) := by decide +kernel
theorem dX2_alike_41 : decode cX2_alike 41 = .ok (.getfield 13, 3) := by decide +kernel
theorem dX2_alike_44 : decode cX2_alike 44 = .ok (.iload_n 2, 1) := by decide +kernel
theorem dX2_alike_45 : decode cX2_alike 45 = .ok (.laload, 1) := by decide +kernel
theorem dX2_alike_46 : decode cX2_alike 46 = .ok (.lcmp, 1) := by decide +kernel
theorem dX2_alike_47 : decode cX2_alike 47 = .ok (.ifCond .ne 23, 3) := by decide +kernel
theorem dX2_alike_50 : decode cX2_alike 50 = .ok (.aload_n 0, 1) := by decide +kernel
theorem dX2_alike_51 : decode cX2_alike 51 = .ok (.getfield 17, 3) := by decide +kernel
theorem dX2_alike_54 : decode cX2_alike 54 = .ok (.iload_n 1, 1) := by decide +kernel
theorem dX2_alike_55 : decode cX2_alike 55 = .ok (.laload, 1) := by decide +kernel
theorem dX2_alike_56 : decode cX2_alike 56 = .ok (.aload_n 0, 1) := by decide +kernel
theorem dX2_alike_57 : decode cX2_alike 57 = .ok (.getfield 17, 3) := by decide +kernel
theorem dX2_alike_60 : decode cX2_alike 60 = .ok (.iload_n 2, 1) := by decide +kernel
theorem dX2_alike_61 : decode cX2_alike 61 = .ok (.laload, 1) := by decide +kernel
theorem dX2_alike_62 : decode cX2_alike 62 = .ok (.lcmp, 1) := by decide +kernel
theorem dX2_alike_63 : decode cX2_alike 63 = .ok (.ifCond .ne 7, 3) := by decide +kernel
theorem dX2_alike_66 : decode cX2_alike 66 = .ok (.iconst 1, 1) := by decide +kernel
theorem dX2_alike_67 : decode cX2_alike 67 = .ok (.goto 4, 3) := by decide +kernel
theorem dX2_alike_70 : decode cX2_alike 70 = .ok (.iconst 0, 1) := by decide +kernel
theorem dX2_alike_71 : decode cX2_alike 71 = .ok (.invokevirtual 113, 3) := by decide +kernel
theorem dX2_alike_74 : decode cX2_alike 74 = .ok (.ireturn, 1) := by decide +kernel
set_option maxRecDepth 20000 in
theorem ggX2_step_X2_isSlot : GoodIn wsX2_step wsX2_isSlot := goodIn_r _ [9] (by decide +kernel) (by decide +kernel)
set_option maxRecDepth 20000 in
theorem gX2_step_X2_isSlot : GoodIn wsX2_step (va_wsS RX2 43 yX2_isSlot wsX2_isSlot) := goodIn_app (goodIn_of _ (by decide +kernel)) ggX2_step_X2_isSlot
set_option maxRecDepth 20000 in
theorem ggX2_step_X2_refuses : GoodIn wsX2_step wsX2_refuses := goodIn_r _ [13, 14, 15, 20, 21, 22, 23, 24, 25, 26, 27, 28, 29, 30, 31] (by decide +kernel) (by decide +kernel)
set_option maxRecDepth 20000 in
theorem gX2_step_X2_refuses : GoodIn wsX2_step (wsV RX2 128 RX2 yX2_refuses wsX2_refuses) := goodIn_app (goodIn_of _ (by decide +kernel)) ggX2_step_X2_refuses
set_option maxRecDepth 20000 in
theorem ggX2_step_X2_says : GoodIn wsX2_step wsX2_says := goodIn_r _ [19, 14, 20, 21, 22, 23, 24, 25, 26, 27, 28, 29, 30, 31] (by decide +kernel) (by decide +kernel)
set_option maxRecDepth 20000 in
theorem gX2_step_X2_says : GoodIn wsX2_step (wsV RX2 113 RX2 yX2_says wsX2_says) := goodIn_app (goodIn_of _ (by decide +kernel)) ggX2_step_X2_says
theorem dX2_step_0 : decode cX2_step 0 = .ok (.iload_n 2, 1) := by decide +kernel
theorem dX2_step_1 : decode cX2_step 1 = .ok (.ifCond .eq 13, 3) := by decide +kernel
theorem dX2_step_4 : decode cX2_step 4 = .ok (.iload_n 2, 1) := by decide +kernel
theorem dX2_step_5 : decode cX2_step 5 = .ok (.iconst 1, 1) := by decide +kernel
theorem dX2_step_6 : decode cX2_step 6 = .ok (.if_icmp .eq 8, 3) := by decide +kernel
theorem dX2_step_9 : decode cX2_step 9 = .ok (.iload_n 2, 1) := by decide +kernel
theorem dX2_step_10 : decode cX2_step 10 = .ok (.iconst 5, 1) := by decide +kernel
theorem dX2_step_11 : decode cX2_step 11 = .ok (.if_icmp .ne 7, 3) := by decide +kernel
theorem dX2_step_14 : decode cX2_step 14 = .ok (.iconst 1, 1) := by decide +kernel
theorem dX2_step_15 : decode cX2_step 15 = .ok (.goto 4, 3) := by decide +kernel
theorem dX2_step_18 : decode cX2_step 18 = .ok (.iconst 0, 1) := by decide +kernel
theorem dX2_step_19 : decode cX2_step 19 = .ok (.istore 6, 2) := by decide +kernel
theorem dX2_step_21 : decode cX2_step 21 = .ok (.iload_n 3, 1) := by decide +kernel
theorem dX2_step_22 : decode cX2_step 22 = .ok (.invokestatic 43, 3) := by decide +kernel
theorem dX2_step_25 : decode cX2_step 25 = .ok (.ifCond .eq 24, 3) := by decide +kernel
theorem dX2_step_28 : decode cX2_step 28 = .ok (.iload 5, 2) := by decide +kernel
theorem dX2_step_30 : decode cX2_step 30 = .ok (.invokestatic 43, 3) := by decide +kernel
theorem dX2_step_33 : decode cX2_step 33 = .ok (.ifCond .eq 16, 3) := by decide +kernel
theorem dX2_step_36 : decode cX2_step 36 = .ok (.iload 6, 2) := by decide +kernel
theorem dX2_step_38 : decode cX2_step 38 = .ok (.ifCond .eq 18, 3) := by decide +kernel
theorem dX2_step_41 : decode cX2_step 41 = .ok (.iload 4, 2) := by decide +kernel
theorem dX2_step_43 : decode cX2_step 43 = .ok (.invokestatic 43, 3) := by decide +kernel
theorem dX2_step_46 : decode cX2_step 46 = .ok (.ifCond .ne 10, 3) := by decide +kernel
theorem dX2_step_49 : decode cX2_step 49 = .ok (.aload_n 0, 1) := by decide +kernel
theorem dX2_step_50 : decode cX2_step 50 = .ok (.bipush (-2), 2) := by decide +kernel
theorem dX2_step_52 : decode cX2_step 52 = .ok (.invokevirtual 128, 3) := by decide +kernel
theorem dX2_step_55 : decode cX2_step 55 = .ok (.ireturn, 1) := by decide +kernel
theorem dX2_step_56 : decode cX2_step 56 = .ok (.iload_n 1, 1) := by decide +kernel
theorem dX2_step_57 : decode cX2_step 57 = .ok (.ifCond .lt 19, 3) := by decide +kernel
theorem dX2_step_60 : decode cX2_step 60 = .ok (.iload_n 1, 1) := by decide +kernel
theorem dX2_step_61 : decode cX2_step 61 = .ok (.bipush 12, 2) := by decide +kernel
theorem dX2_step_63 : decode cX2_step 63 = .ok (.if_icmp .ge 13, 3) := by decide +kernel
theorem dX2_step_66 : decode cX2_step 66 = .ok (.iload_n 2, 1) := by decide +kernel
theorem dX2_step_67 : decode cX2_step 67 = .ok (.ifCond .lt 9, 3) := by decide +kernel
theorem dX2_step_70 : decode cX2_step 70 = .ok (.iload_n 2, 1) := by decide +kernel
theorem dX2_step_71 : decode cX2_step 71 = .ok (.bipush 7, 2) := by decide +kernel
theorem dX2_step_73 : decode cX2_step 73 = .ok (.if_icmp .le 10, 3) := by decide +kernel
theorem dX2_step_76 : decode cX2_step 76 = .ok (.aload_n 0, 1) := by decide +kernel
theorem dX2_step_77 : decode cX2_step 77 = .ok (.bipush (-5), 2) := by decide +kernel
theorem dX2_step_79 : decode cX2_step 79 = .ok (.invokevirtual 128, 3) := by decide +kernel
theorem dX2_step_82 : decode cX2_step 82 = .ok (.ireturn, 1) := by decide +kernel
theorem dX2_step_83 : decode cX2_step 83 = .ok (.aload_n 0, 1) := by decide +kernel
theorem dX2_step_84 : decode cX2_step 84 = .ok (.getfield 20, 3) := by decide +kernel
theorem dX2_step_87 : decode cX2_step 87 = .ok (.iload_n 1, 1) := by decide +kernel
theorem dX2_step_88 : decode cX2_step 88 = .ok (.iconst 1, 1) := by decide +kernel
theorem dX2_step_89 : decode cX2_step 89 = .ok (.bastore, 1) := by decide +kernel
theorem dX2_step_90 : decode cX2_step 90 = .ok (.aload_n 0, 1) := by decide +kernel
theorem dX2_step_91 : decode cX2_step 91 = .ok (.getfield 24, 3) := by decide +kernel
theorem dX2_step_94 : decode cX2_step 94 = .ok (.iload_n 1, 1) := by decide +kernel
theorem dX2_step_95 : decode cX2_step 95 = .ok (.iload_n 2, 1) := by decide +kernel
theorem dX2_step_96 : decode cX2_step 96 = .ok (.iastore, 1) := by decide +kernel
theorem dX2_step_97 : decode cX2_step 97 = .ok (.aload_n 0, 1) := by decide +kernel
theorem dX2_step_98 : decode cX2_step 98 = .ok (.getfield 27, 3) := by decide +kernel
theorem dX2_step_101 : decode cX2_step 101 = .ok (.iload_n 1, 1) := by decide +kernel
theorem dX2_step_102 : decode cX2_step 102 = .ok (.iload_n 3, 1) := by decide +kernel
theorem dX2_step_103 : decode cX2_step 103 = .ok (.iastore, 1) := by decide +kernel
theorem dX2_step_104 : decode cX2_step 104 = .ok (.aload_n 0, 1) := by decide +kernel
theorem dX2_step_105 : decode cX2_step 105 = .ok (.getfield 30, 3) := by decide +kernel
theorem dX2_step_108 : decode cX2_step 108 = .ok (.iload_n 1, 1) := by decide +kernel
theorem dX2_step_109 : decode cX2_step 109 = .ok (.iload 4, 2) := by decide +kernel
theorem dX2_step_111 : decode cX2_step 111 = .ok (.iastore, 1) := by decide +kernel
theorem dX2_step_112 : decode cX2_step 112 = .ok (.aload_n 0, 1) := by decide +kernel
theorem dX2_step_113 : decode cX2_step 113 = .ok (.getfield 33, 3) := by decide +kernel
theorem dX2_step_116 : decode cX2_step 116 = .ok (.iload_n 1, 1) := by decide +kernel
theorem dX2_step_117 : decode cX2_step 117 = .ok (.iload 5, 2) := by decide +kernel
theorem dX2_step_119 : decode cX2_step 119 = .ok (.iastore, 1) := by decide +kernel
theorem dX2_step_120 : decode cX2_step 120 = .ok (.aload_n 0, 1) := by decide +kernel
theorem dX2_step_121 : decode cX2_step 121 = .ok (.iconst 1, 1) := by decide +kernel
theorem dX2_step_122 : decode cX2_step 122 = .ok (.invokevirtual 113, 3) := by decide +kernel
theorem dX2_step_125 : decode cX2_step 125 = .ok (.ireturn, 1) := by decide +kernel
set_option maxRecDepth 20000 in
theorem ggX2_does_X2_hull : GoodIn wsX2_does wsX2_hull := goodIn_r _ [9, 10, 11, 12, 13, 14, 15, 8, 16, 17, 18, 19, 20, 21, 22, 23, 24, 25, 26, 27, 28, 29, 30, 31, 32, 33, 34, 35, 36, 37, 38, 39, 40, 41, 42, 43, 44, 45, 46, 47, 48, 49, 50, 152, 153, 154, 155, 156, 157, 158, 159, 160, 161, 162, 163] (by decide +kernel) (by decide +kernel)
set_option maxRecDepth 20000 in
theorem gX2_does_X2_hull : GoodIn wsX2_does (wsV RX2 172 RX2 yX2_hull wsX2_hull) := goodIn_app (goodIn_of _ (by decide +kernel)) ggX2_does_X2_hull
set_option maxRecDepth 20000 in
theorem ggX2_does_X2_meet : GoodIn wsX2_does wsX2_meet := goodIn_r _ [54, 10, 11, 12, 13, 14, 15, 8, 16, 17, 18, 19, 20, 21, 22, 23, 24, 25, 40, 41, 42, 29, 30, 31, 32, 33, 34, 35, 36, 37, 38, 39, 26, 27, 28, 55, 56, 57, 58, 47, 48, 49, 50, 43, 44, 45, 46, 152, 153, 154, 155, 156, 157, 158, 159, 160, 161, 162, 163] (by decide +kernel) (by decide +kernel)
set_option maxRecDepth 20000 in
theorem gX2_does_X2_meet : GoodIn wsX2_does (wsV RX2 175 RX2 yX2_meet wsX2_meet) := goodIn_app (goodIn_of _ (by decide +kernel)) ggX2_does_X2_meet
set_option maxRecDepth 20000 in
theorem ggX2_does_X2_size : GoodIn wsX2_does wsX2_size := goodIn_r _ [62, 10, 11, 12, 13, 14, 15, 8, 16, 17, 18, 19, 20, 21, 22, 23, 24, 25, 63, 64, 65, 37, 38, 39, 66, 67, 68, 35, 36, 69, 70, 71, 72, 73, 74, 40, 41, 42, 29, 30, 31, 32, 33, 34, 75, 76, 77, 78, 26, 27, 28, 43, 44, 45, 46, 47, 48, 49, 50, 152, 153, 154, 155, 156, 157, 158, 159, 160, 161, 162, 163] (by decide +kernel) (by decide +kernel)
set_option maxRecDepth 20000 in
theorem gX2_does_X2_size : GoodIn wsX2_does (wsV RX2 178 RX2 yX2_size wsX2_size) := goodIn_app (goodIn_of _ (by decide +kernel)) ggX2_does_X2_size
set_option maxRecDepth 20000 in
theorem ggX2_does_X2_round : GoodIn wsX2_does wsX2_round := goodIn_r _ [82, 10, 11, 12, 13, 14, 15, 8, 16, 17, 18, 19, 37, 38, 39, 20, 21, 22, 23, 24, 25, 83, 84, 85, 86, 66, 67, 68, 35, 36, 87, 88, 89, 90, 91, 92, 93, 94, 95, 96, 29, 30, 31, 32, 33, 34, 55, 56, 57, 58, 47, 48, 49, 50, 43, 44, 45, 46, 152, 153, 154, 155, 156, 157, 158, 159, 160, 161, 162, 163] (by decide +kernel) (by decide +kernel)
set_option maxRecDepth 20000 in
theorem gX2_does_X2_round : GoodIn wsX2_does (wsV RX2 182 RX2 yX2_round wsX2_round) := goodIn_app (goodIn_of _ (by decide +kernel)) ggX2_does_X2_round
set_option maxRecDepth 20000 in
theorem ggX2_does_X2_sign : GoodIn wsX2_does wsX2_sign := goodIn_r _ [100, 10, 11, 12, 13, 14, 15, 8, 16, 17, 18, 19, 37, 38, 39, 20, 21, 22, 23, 24, 25, 101, 102, 103, 63, 64, 65, 66, 67, 68, 35, 36, 87, 88, 89, 90, 91, 92, 93, 94, 95, 96, 43, 44, 45, 46, 47, 48, 49, 50, 152, 153, 154, 155, 156, 157, 158, 159, 160, 161, 162, 163] (by decide +kernel) (by decide +kernel)
set_option maxRecDepth 20000 in
theorem gX2_does_X2_sign : GoodIn wsX2_does (wsV RX2 185 RX2 yX2_sign wsX2_sign) := goodIn_app (goodIn_of _ (by decide +kernel)) ggX2_does_X2_sign
set_option maxRecDepth 20000 in
theorem ggX2_does_X2_lend : GoodIn wsX2_does wsX2_lend := goodIn_r _ [107, 10, 11, 12, 13, 14, 15, 8, 16, 17, 18, 19, 37, 38, 39, 20, 21, 22, 23, 24, 25, 66, 67, 68, 35, 36, 92, 93, 94, 95, 96, 75, 76, 77, 78, 26, 27, 28, 29, 30, 31, 32, 33, 34, 40, 41, 42, 43, 44, 45, 46, 47, 48, 49, 50, 152, 153, 154, 155, 156, 157, 158, 159, 160, 161, 162, 163] (by decide +kernel) (by decide +kernel)
set_option maxRecDepth 20000 in
theorem gX2_does_X2_lend : GoodIn wsX2_does (wsV RX2 188 RX2 yX2_lend wsX2_lend) := goodIn_app (goodIn_of _ (by decide +kernel)) ggX2_does_X2_lend
set_option maxRecDepth 20000 in
theorem ggX2_does_X2_turn : GoodIn wsX2_does wsX2_turn := goodIn_r _ [111, 10, 11, 12, 13, 14, 15, 8, 16, 17, 18, 19, 20, 21, 22, 23, 24, 25, 112, 113, 114, 37, 38, 39, 66, 67, 68, 35, 36, 92, 93, 94, 95, 96, 72, 73, 74, 75, 76, 77, 78, 26, 27, 28, 29, 30, 31, 32, 33, 34, 40, 41, 42, 43, 44, 45, 46, 47, 48, 49, 50, 152, 153, 154, 155, 156, 157, 158, 159, 160, 161, 162, 163] (by decide +kernel) (by decide +kernel)
set_option maxRecDepth 20000 in
theorem gX2_does_X2_turn : GoodIn wsX2_does (wsV RX2 191 RX2 yX2_turn wsX2_turn) := goodIn_app (goodIn_of _ (by decide +kernel)) ggX2_does_X2_turn
set_option maxRecDepth 20000 in
theorem ggX2_does_X2_as : GoodIn wsX2_does wsX2_as := goodIn_r _ [118, 10, 11, 12, 13, 14, 15, 8, 16, 17, 18, 19, 20, 21, 22, 23, 24, 25, 119, 120, 121, 122, 123, 124, 125, 126, 127, 128, 129, 37, 38, 39, 72, 73, 74, 130, 131, 132, 133, 134, 135, 136, 137, 138, 139, 140, 141, 142, 143, 144, 145, 146, 147, 148, 149, 150, 151, 75, 76, 77, 78, 26, 27, 28, 29, 30, 31, 32, 33, 34, 35, 36, 40, 41, 42, 43, 44, 45, 46, 47, 48, 49, 50, 152, 153, 154, 155, 156, 157, 158, 159, 160, 161, 162, 163] (by decide +kernel) (by decide +kernel)
set_option maxRecDepth 20000 in
theorem gX2_does_X2_as : GoodIn wsX2_does (wsV RX2 194 RX2 yX2_as wsX2_as) := goodIn_app (goodIn_of _ (by decide +kernel)) ggX2_does_X2_as
theorem dX2_does_0 : decode cX2_does 0 = .ok (.aload_n 0, 1) := by decide +kernel
theorem dX2_does_1 : decode cX2_does 1 = .ok (.getfield 27, 3) := by decide +kernel
theorem dX2_does_4 : decode cX2_does 4 = .ok (.iload_n 1, 1) := by decide +kernel
theorem dX2_does_5 : decode cX2_does 5 = .ok (.iaload, 1) := by decide +kernel
theorem dX2_does_6 : decode cX2_does 6 = .ok (.istore_n 2, 1) := by decide +kernel
theorem dX2_does_7 : decode cX2_does 7 = .ok (.aload_n 0, 1) := by decide +kernel
theorem dX2_does_8 : decode cX2_does 8 = .ok (.getfield 30, 3) := by decide +kernel
theorem dX2_does_11 : decode cX2_does 11 = .ok (.iload_n 1, 1) := by decide +kernel
theorem dX2_does_12 : decode cX2_does 12 = .ok (.iaload, 1) := by decide +kernel
theorem dX2_does_13 : decode cX2_does 13 = .ok (.istore_n 3, 1) := by decide +kernel
theorem dX2_does_14 : decode cX2_does 14 = .ok (.aload_n 0, 1) := by decide +kernel
theorem dX2_does_15 : decode cX2_does 15 = .ok (.getfield 24, 3) := by decide +kernel
theorem dX2_does_18 : decode cX2_does 18 = .ok (.iload_n 1, 1) := by decide +kernel
theorem dX2_does_19 : decode cX2_does 19 = .ok (.iaload, 1) := by decide +kernel
theorem dX2_does_20 : decode cX2_does 20 = .ok (.tableswitch 132 0 6 #[44, 57, 70, 82, 95, 107, 120], 44) := by decide +kernel
theorem dX2_does_64 : decode cX2_does 64 = .ok (.aload_n 0, 1) := by decide +kernel
theorem dX2_does_65 : decode cX2_does 65 = .ok (.iload_n 2, 1) := by decide +kernel
theorem dX2_does_66 : decode cX2_does 66 = .ok (.iload_n 3, 1) := by decide +kernel
theorem dX2_does_67 : decode cX2_does 67 = .ok (.aload_n 0, 1) := by decide +kernel
theorem dX2_does_68 : decode cX2_does 68 = .ok (.getfield 33, 3) := by decide +kernel
theorem dX2_does_71 : decode cX2_does 71 = .ok (.iload_n 1, 1) := by decide +kernel
theorem dX2_does_72 : decode cX2_does 72 = .ok (.iaload, 1) := by decide +kernel
theorem dX2_does_73 : decode cX2_does 73 = .ok (.invokevirtual 172, 3) := by decide +kernel
theorem dX2_does_76 : decode cX2_does 76 = .ok (.ireturn, 1) := by decide +kernel
theorem dX2_does_77 : decode cX2_does 77 = .ok (.aload_n 0, 1) := by decide +kernel
theorem dX2_does_78 : decode cX2_does 78 = .ok (.iload_n 2, 1) := by decide +kernel
theorem dX2_does_79 : decode cX2_does 79 = .ok (.iload_n 3, 1) := by decide +kernel
theorem dX2_does_80 : decode cX2_does 80 = .ok (.aload_n 0, 1) := by decide +kernel
theorem dX2_does_81 : decode cX2_does 81 = .ok (.getfield 33, 3) := by decide +kernel
theorem dX2_does_84 : decode cX2_does 84 = .ok (.iload_n 1, 1) := by decide +kernel
theorem dX2_does_85 : decode cX2_does 85 = .ok (.iaload, 1) := by decide +kernel
theorem dX2_does_86 : decode cX2_does 86 = .ok (.invokevirtual 175, 3) := by decide +kernel
theorem dX2_does_89 : decode cX2_does 89 = .ok (.ireturn, 1) := by decide +kernel
theorem dX2_does_90 : decode cX2_does 90 = .ok (.aload_n 0, 1) := by decide +kernel
theorem dX2_does_91 : decode cX2_does 91 = .ok (.iload_n 2, 1) := by decide +kernel
theorem dX2_does_92 : decode cX2_does 92 = .ok (.aload_n 0, 1) := by decide +kernel
theorem dX2_does_93 : decode cX2_does 93 = .ok (.getfield 33, 3) := by decide +kernel
theorem dX2_does_96 : decode cX2_does 96 = .ok (.iload_n 1, 1) := by decide +kernel
theorem dX2_does_97 : decode cX2_does 97 = .ok (.iaload, 1) := by decide +kernel
theorem dX2_does_98 : decode cX2_does 98 = .ok (.invokevirtual 178, 3) := by decide +kernel
theorem dX2_does_101 : decode cX2_does 101 = .ok (.ireturn, 1) := by decide +kernel
theorem dX2_does_102 : decode cX2_does 102 = .ok (.aload_n 0, 1) := by decide +kernel
theorem dX2_does_103 : decode cX2_does 103 = .ok (.iload_n 2, 1) := by decide +kernel
theorem dX2_does_104 : decode cX2_does 104 = .ok (.iload_n 3, 1) := by decide +kernel
theorem dX2_does_105 : decode cX2_does 105 = .ok (.aload_n 0, 1) := by decide +kernel
theorem dX2_does_106 : decode cX2_does 106 = .ok (.getfield 33, 3) := by decide +kernel
theorem dX2_does_109 : decode cX2_does 109 = .ok (.iload_n 1, 1) := by decide +kernel
theorem dX2_does_110 : decode cX2_does 110 = .ok (.iaload, 1) := by decide +kernel
theorem dX2_does_111 : decode cX2_does 111 = .ok (.invokevirtual 182, 3) := by decide +kernel
theorem dX2_does_114 : decode cX2_does 114 = .ok (.ireturn, 1) := by decide +kernel
theorem dX2_does_115 : decode cX2_does 115 = .ok (.aload_n 0, 1) := by decide +kernel
theorem dX2_does_116 : decode cX2_does 116 = .ok (.iload_n 2, 1) := by decide +kernel
theorem dX2_does_117 : decode cX2_does 117 = .ok (.aload_n 0, 1) := by decide +kernel
theorem dX2_does_118 : decode cX2_does 118 = .ok (.getfield 33, 3) := by decide +kernel
theorem dX2_does_121 : decode cX2_does 121 = .ok (.iload_n 1, 1) := by decide +kernel
theorem dX2_does_122 : decode cX2_does 122 = .ok (.iaload, 1) := by decide +kernel
theorem dX2_does_123 : decode cX2_does 123 = .ok (.invokevirtual 185, 3) := by decide +kernel
theorem dX2_does_126 : decode cX2_does 126 = .ok (.ireturn, 1) := by decide +kernel
theorem dX2_does_127 : decode cX2_does 127 = .ok (.aload_n 0, 1) := by decide +kernel
theorem dX2_does_128 : decode cX2_does 128 = .ok (.iload_n 2, 1) := by decide +kernel
theorem dX2_does_129 : decode cX2_does 129 = .ok (.iload_n 3, 1) := by decide +kernel
theorem dX2_does_130 : decode cX2_does 130 = .ok (.aload_n 0, 1) := by decide +kernel
theorem dX2_does_131 : decode cX2_does 131 = .ok (.getfield 33, 3) := by decide +kernel
theorem dX2_does_134 : decode cX2_does 134 = .ok (.iload_n 1, 1) := by decide +kernel
theorem dX2_does_135 : decode cX2_does 135 = .ok (.iaload, 1) := by decide +kernel
theorem dX2_does_136 : decode cX2_does 136 = .ok (.invokevirtual 188, 3) := by decide +kernel
theorem dX2_does_139 : decode cX2_does 139 = .ok (.ireturn, 1) := by decide +kernel
theorem dX2_does_140 : decode cX2_does 140 = .ok (.aload_n 0, 1) := by decide +kernel
theorem dX2_does_141 : decode cX2_does 141 = .ok (.iload_n 2, 1) := by decide +kernel
theorem dX2_does_142 : decode cX2_does 142 = .ok (.aload_n 0, 1) := by decide +kernel
theorem dX2_does_143 : decode cX2_does 143 = .ok (.getfield 33, 3) := by decide +kernel
theorem dX2_does_146 : decode cX2_does 146 = .ok (.iload_n 1, 1) := by decide +kernel
theorem dX2_does_147 : decode cX2_does 147 = .ok (.iaload, 1) := by decide +kernel
theorem dX2_does_148 : decode cX2_does 148 = .ok (.invokevirtual 191, 3) := by decide +kernel
theorem dX2_does_151 : decode cX2_does 151 = .ok (.ireturn, 1) := by decide +kernel
theorem dX2_does_152 : decode cX2_does 152 = .ok (.aload_n 0, 1) := by decide +kernel
theorem dX2_does_153 : decode cX2_does 153 = .ok (.iload_n 2, 1) := by decide +kernel
theorem dX2_does_154 : decode cX2_does 154 = .ok (.iload_n 3, 1) := by decide +kernel
theorem dX2_does_155 : decode cX2_does 155 = .ok (.aload_n 0, 1) := by decide +kernel
theorem dX2_does_156 : decode cX2_does 156 = .ok (.getfield 33, 3) := by decide +kernel
theorem dX2_does_159 : decode cX2_does 159 = .ok (.iload_n 1, 1) := by decide +kernel
theorem dX2_does_160 : decode cX2_does 160 = .ok (.iaload, 1) := by decide +kernel
theorem dX2_does_161 : decode cX2_does 161 = .ok (.invokevirtual 194, 3) := by decide +kernel
theorem dX2_does_164 : decode cX2_does 164 = .ok (.ireturn, 1) := by decide +kernel
set_option maxRecDepth 20000 in
theorem ggX2_run_X2_refuses : GoodIn wsX2_run wsX2_refuses := goodIn_r _ [8, 1, 9, 158, 159, 160, 161, 162, 163, 164, 165, 166, 167, 168, 169] (by decide +kernel) (by decide +kernel)
set_option maxRecDepth 20000 in
theorem gX2_run_X2_refuses : GoodIn wsX2_run (wsV RX2 128 RX2 yX2_refuses wsX2_refuses) := goodIn_app (goodIn_of _ (by decide +kernel)) ggX2_run_X2_refuses
set_option maxRecDepth 20000 in
theorem ggX2_run_X2_does : GoodIn wsX2_run wsX2_does := goodIn_r _ [13, 14, 15, 16, 17, 18, 19, 20, 7, 21, 22, 23, 24, 25, 26, 27, 28, 29, 30, 31, 4, 5, 6, 8, 1, 9, 32, 33, 34, 35, 36, 37, 38, 39, 40, 41, 42, 43, 44, 45, 46, 47, 48, 49, 50, 51, 52, 53, 54, 55, 56, 57, 58, 59, 60, 61, 62, 63, 64, 65, 66, 67, 68, 69, 70, 71, 72, 73, 74, 75, 76, 77, 78, 79, 80, 81, 82, 83, 84, 85, 86, 87, 88, 89, 90, 91, 92, 93, 94, 95, 96, 97, 98, 99, 100, 101, 102, 103, 104, 105, 106, 107, 108, 109, 110, 111, 112, 113, 114, 115, 116, 117, 118, 119, 120, 121, 122, 123, 124, 125, 126, 127, 128, 129, 130, 131, 132, 133, 134, 135, 136, 137, 138, 139, 140, 141, 142, 143, 144, 145, 146, 147, 148, 149, 150, 151, 152, 153, 154, 155, 156, 157, 158, 159, 160, 161, 162, 163, 164, 165, 166, 167, 168, 169] (by decide +kernel) (by decide +kernel)
set_option maxRecDepth 20000 in
theorem gX2_run_X2_does : GoodIn wsX2_run (wsV RX2 197 RX2 yX2_does wsX2_does) := goodIn_app (goodIn_of _ (by decide +kernel)) ggX2_run_X2_does
theorem dX2_run_0 : decode cX2_run 0 = .ok (.iload_n 1, 1) := by decide +kernel
theorem dX2_run_1 : decode cX2_run 1 = .ok (.ifCond .lt 19, 3) := by decide +kernel
theorem dX2_run_4 : decode cX2_run 4 = .ok (.iload_n 1, 1) := by decide +kernel
theorem dX2_run_5 : decode cX2_run 5 = .ok (.bipush 12, 2) := by decide +kernel
theorem dX2_run_7 : decode cX2_run 7 = .ok (.if_icmp .ge 13, 3) := by decide +kernel
theorem dX2_run_10 : decode cX2_run 10 = .ok (.iload_n 2, 1) := by decide +kernel
theorem dX2_run_11 : decode cX2_run 11 = .ok (.ifCond .lt 9, 3) := by decide +kernel
theorem dX2_run_14 : decode cX2_run 14 = .ok (.iload_n 2, 1) := by decide +kernel
theorem dX2_run_15 : decode cX2_run 15 = .ok (.bipush 12, 2) := by decide +kernel
theorem dX2_run_17 : decode cX2_run 17 = .ok (.if_icmp .le 10, 3) := by decide +kernel
theorem dX2_run_20 : decode cX2_run 20 = .ok (.aload_n 0, 1) := by decide +kernel
theorem dX2_run_21 : decode cX2_run 21 = .ok (.bipush (-5), 2) := by decide +kernel
theorem dX2_run_23 : decode cX2_run 23 = .ok (.invokevirtual 128, 3) := by decide +kernel
theorem dX2_run_26 : decode cX2_run 26 = .ok (.ireturn, 1) := by decide +kernel
theorem dX2_run_27 : decode cX2_run 27 = .ok (.aload_n 0, 1) := by decide +kernel
theorem dX2_run_28 : decode cX2_run 28 = .ok (.iconst 0, 1) := by decide +kernel
theorem dX2_run_29 : decode cX2_run 29 = .ok (.putfield 36, 3) := by decide +kernel
theorem dX2_run_32 : decode cX2_run 32 = .ok (.iconst 0, 1) := by decide +kernel
theorem dX2_run_33 : decode cX2_run 33 = .ok (.istore_n 3, 1) := by decide +kernel
theorem dX2_run_34 : decode cX2_run 34 = .ok (.iload_n 1, 1) := by decide +kernel
theorem dX2_run_35 : decode cX2_run 35 = .ok (.istore 4, 2) := by decide +kernel
theorem dX2_run_37 : decode cX2_run 37 = .ok (.iload 4, 2) := by decide +kernel
theorem dX2_run_39 : decode cX2_run 39 = .ok (.bipush 12, 2) := by decide +kernel
theorem dX2_run_41 : decode cX2_run 41 = .ok (.if_icmp .ge 49, 3) := by decide +kernel
theorem dX2_run_44 : decode cX2_run 44 = .ok (.iload_n 3, 1) := by decide +kernel
theorem dX2_run_45 : decode cX2_run 45 = .ok (.iload_n 2, 1) := by decide +kernel
theorem dX2_run_46 : decode cX2_run 46 = .ok (.if_icmp .ge 44, 3) := by decide +kernel
theorem dX2_run_49 : decode cX2_run 49 = .ok (.aload_n 0, 1) := by decide +kernel
theorem dX2_run_50 : decode cX2_run 50 = .ok (.getfield 20, 3) := by decide +kernel
theorem dX2_run_53 : decode cX2_run 53 = .ok (.iload 4, 2) := by decide +kernel
theorem dX2_run_55 : decode cX2_run 55 = .ok (.baload, 1) := by decide +kernel
theorem dX2_run_56 : decode cX2_run 56 = .ok (.ifCond .eq 34, 3) := by decide +kernel
theorem dX2_run_59 : decode cX2_run 59 = .ok (.aload_n 0, 1) := by decide +kernel
theorem dX2_run_60 : decode cX2_run 60 = .ok (.iload 4, 2) := by decide +kernel
theorem dX2_run_62 : decode cX2_run 62 = .ok (.invokevirtual 197, 3) := by decide +kernel
theorem dX2_run_65 : decode cX2_run 65 = .ok (.ifCond .ge 6, 3) := by decide +kernel
theorem dX2_run_68 : decode cX2_run 68 = .ok (.goto 22, 3) := by decide +kernel
theorem dX2_run_71 : decode cX2_run 71 = .ok (.iinc 3 1, 3) := by decide +kernel
theorem dX2_run_74 : decode cX2_run 74 = .ok (.aload_n 0, 1) := by decide +kernel
theorem dX2_run_75 : decode cX2_run 75 = .ok (.dup, 1) := by decide +kernel
theorem dX2_run_76 : decode cX2_run 76 = .ok (.getfield 200, 3) := by decide +kernel
theorem dX2_run_79 : decode cX2_run 79 = .ok (.iconst 1, 1) := by decide +kernel
theorem dX2_run_80 : decode cX2_run 80 = .ok (.iadd, 1) := by decide +kernel
theorem dX2_run_81 : decode cX2_run 81 = .ok (.putfield 200, 3) := by decide +kernel
theorem dX2_run_84 : decode cX2_run 84 = .ok (.iinc 4 1, 3) := by decide +kernel
theorem dX2_run_87 : decode cX2_run 87 = .ok (.goto (-50), 3) := by decide +kernel
theorem dX2_run_90 : decode cX2_run 90 = .ok (.iload_n 3, 1) := by decide +kernel
theorem dX2_run_91 : decode cX2_run 91 = .ok (.ireturn, 1) := by decide +kernel
theorem dX2_state_0 : decode cX2_state 0 = .ok (.aload_n 0, 1) := by decide +kernel
theorem dX2_state_1 : decode cX2_state 1 = .ok (.getfield 36, 3) := by decide +kernel
theorem dX2_state_4 : decode cX2_state 4 = .ok (.ireturn, 1) := by decide +kernel
theorem dX2_about_0 : decode cX2_about 0 = .ok (.iconst 0, 1) := by decide +kernel
theorem dX2_about_1 : decode cX2_about 1 = .ok (.istore_n 2, 1) := by decide +kernel
theorem dX2_about_2 : decode cX2_about 2 = .ok (.iconst 0, 1) := by decide +kernel
theorem dX2_about_3 : decode cX2_about 3 = .ok (.istore_n 3, 1) := by decide +kernel
theorem dX2_about_4 : decode cX2_about 4 = .ok (.iload_n 3, 1) := by decide +kernel
theorem dX2_about_5 : decode cX2_about 5 = .ok (.bipush 16, 2) := by decide +kernel
theorem dX2_about_7 : decode cX2_about 7 = .ok (.if_icmp .ge 31, 3) := by decide +kernel
theorem dX2_about_10 : decode cX2_about 10 = .ok (.iload_n 1, 1) := by decide +kernel
theorem dX2_about_11 : decode cX2_about 11 = .ok (.ifCond .ne 27, 3) := by decide +kernel
theorem dX2_about_14 : decode cX2_about 14 = .ok (.iload_n 2, 1) := by decide +kernel
theorem dX2_about_15 : decode cX2_about 15 = .ok (.aload_n 0, 1) := by decide +kernel
theorem dX2_about_16 : decode cX2_about 16 = .ok (.getfield 7, 3) := by decide +kernel
theorem dX2_about_19 : decode cX2_about 19 = .ok (.iload_n 3, 1) := by decide +kernel
theorem dX2_about_20 : decode cX2_about 20 = .ok (.iaload, 1) := by decide +kernel
theorem dX2_about_21 : decode cX2_about 21 = .ok (.iconst (-1), 1) := by decide +kernel
theorem dX2_about_22 : decode cX2_about 22 = .ok (.if_icmp .ne 7, 3) := by decide +kernel
theorem dX2_about_25 : decode cX2_about 25 = .ok (.iconst 0, 1) := by decide +kernel
theorem dX2_about_26 : decode cX2_about 26 = .ok (.goto 4, 3) := by decide +kernel
theorem dX2_about_29 : decode cX2_about 29 = .ok (.iconst 1, 1) := by decide +kernel
end
section
theorem dX2_about_30 : decode cX2_about 30 = .ok (.iadd, 1) := by decide +kernel
theorem dX2_about_31 : decode cX2_about 31 = .ok (.istore_n 2, 1) := by decide +kernel
theorem dX2_about_32 : decode cX2_about 32 = .ok (.iinc 3 1, 3) := by decide +kernel
theorem dX2_about_35 : decode cX2_about 35 = .ok (.goto (-31), 3) := by decide +kernel
theorem dX2_about_38 : decode cX2_about 38 = .ok (.iconst 0, 1) := by decide +kernel
theorem dX2_about_39 : decode cX2_about 39 = .ok (.istore_n 3, 1) := by decide +kernel
theorem dX2_about_40 : decode cX2_about 40 = .ok (.iload_n 3, 1) := by decide +kernel
theorem dX2_about_41 : decode cX2_about 41 = .ok (.bipush 12, 2) := by decide +kernel
theorem dX2_about_43 : decode cX2_about 43 = .ok (.if_icmp .ge 31, 3) := by decide +kernel
theorem dX2_about_46 : decode cX2_about 46 = .ok (.iload_n 1, 1) := by decide +kernel
theorem dX2_about_47 : decode cX2_about 47 = .ok (.iconst 1, 1) := by decide +kernel
theorem dX2_about_48 : decode cX2_about 48 = .ok (.if_icmp .ne 26, 3) := by decide +kernel
theorem dX2_about_51 : decode cX2_about 51 = .ok (.iload_n 2, 1) := by decide +kernel
theorem dX2_about_52 : decode cX2_about 52 = .ok (.aload_n 0, 1) := by decide +kernel
theorem dX2_about_53 : decode cX2_about 53 = .ok (.getfield 20, 3) := by decide +kernel
theorem dX2_about_56 : decode cX2_about 56 = .ok (.iload_n 3, 1) := by decide +kernel
theorem dX2_about_57 : decode cX2_about 57 = .ok (.baload, 1) := by decide +kernel
theorem dX2_about_58 : decode cX2_about 58 = .ok (.ifCond .eq 7, 3) := by decide +kernel
theorem dX2_about_61 : decode cX2_about 61 = .ok (.iconst 1, 1) := by decide +kernel
theorem dX2_about_62 : decode cX2_about 62 = .ok (.goto 4, 3) := by decide +kernel
theorem dX2_about_65 : decode cX2_about 65 = .ok (.iconst 0, 1) := by decide +kernel
theorem dX2_about_66 : decode cX2_about 66 = .ok (.iadd, 1) := by decide +kernel
theorem dX2_about_67 : decode cX2_about 67 = .ok (.istore_n 2, 1) := by decide +kernel
theorem dX2_about_68 : decode cX2_about 68 = .ok (.iinc 3 1, 3) := by decide +kernel
theorem dX2_about_71 : decode cX2_about 71 = .ok (.goto (-31), 3) := by decide +kernel
theorem dX2_about_74 : decode cX2_about 74 = .ok (.iload_n 1, 1) := by decide +kernel
theorem dX2_about_75 : decode cX2_about 75 = .ok (.tableswitch 50 0 4 #[33, 33, 35, 40, 45], 33) := by decide +kernel
theorem dX2_about_108 : decode cX2_about 108 = .ok (.iload_n 2, 1) := by decide +kernel
theorem dX2_about_109 : decode cX2_about 109 = .ok (.ireturn, 1) := by decide +kernel
theorem dX2_about_110 : decode cX2_about 110 = .ok (.aload_n 0, 1) := by decide +kernel
theorem dX2_about_111 : decode cX2_about 111 = .ok (.getfield 40, 3) := by decide +kernel
theorem dX2_about_114 : decode cX2_about 114 = .ok (.ireturn, 1) := by decide +kernel
theorem dX2_about_115 : decode cX2_about 115 = .ok (.aload_n 0, 1) := by decide +kernel
theorem dX2_about_116 : decode cX2_about 116 = .ok (.getfield 139, 3) := by decide +kernel
theorem dX2_about_119 : decode cX2_about 119 = .ok (.ireturn, 1) := by decide +kernel
theorem dX2_about_120 : decode cX2_about 120 = .ok (.aload_n 0, 1) := by decide +kernel
theorem dX2_about_121 : decode cX2_about 121 = .ok (.getfield 200, 3) := by decide +kernel
theorem dX2_about_124 : decode cX2_about 124 = .ok (.ireturn, 1) := by decide +kernel
theorem dX2_about_125 : decode cX2_about 125 = .ok (.iconst (-1), 1) := by decide +kernel
theorem dX2_about_126 : decode cX2_about 126 = .ok (.ireturn, 1) := by decide +kernel
theorem dJxe99ae_isNaN_b9ae7_0 : decode cJxe99ae_isNaN_b9ae7 0 = .ok (.dload_n 0, 1) := by decide +kernel
theorem dJxe99ae_isNaN_b9ae7_1 : decode cJxe99ae_isNaN_b9ae7 1 = .ok (.dload_n 0, 1) := by decide +kernel
theorem dJxe99ae_isNaN_b9ae7_2 : decode cJxe99ae_isNaN_b9ae7 2 = .ok (.dcmp .l, 1) := by decide +kernel
theorem dJxe99ae_isNaN_b9ae7_3 : decode cJxe99ae_isNaN_b9ae7 3 = .ok (.ifCond .eq 7, 3) := by decide +kernel
theorem dJxe99ae_isNaN_b9ae7_6 : decode cJxe99ae_isNaN_b9ae7 6 = .ok (.iconst 1, 1) := by decide +kernel
theorem dJxe99ae_isNaN_b9ae7_7 : decode cJxe99ae_isNaN_b9ae7 7 = .ok (.goto 4, 3) := by decide +kernel
theorem dJxe99ae_isNaN_b9ae7_10 : decode cJxe99ae_isNaN_b9ae7 10 = .ok (.iconst 0, 1) := by decide +kernel
theorem dJxe99ae_isNaN_b9ae7_11 : decode cJxe99ae_isNaN_b9ae7 11 = .ok (.ireturn, 1) := by decide +kernel
set_option maxRecDepth 20000 in
theorem ggJxe99ae_doubleToLongBits_ccdee_Jxe99ae_isNaN_b9ae7 : GoodIn wsJxe99ae_doubleToLongBits_ccdee wsJxe99ae_isNaN_b9ae7 := goodIn_r _ [9] (by decide +kernel) (by decide +kernel)
set_option maxRecDepth 20000 in
theorem gJxe99ae_doubleToLongBits_ccdee_Jxe99ae_isNaN_b9ae7 : GoodIn wsJxe99ae_doubleToLongBits_ccdee (va_wsS RJxe99ae 122 yJxe99ae_isNaN_b9ae7 wsJxe99ae_isNaN_b9ae7) := goodIn_app (goodIn_of _ (by decide +kernel)) ggJxe99ae_doubleToLongBits_ccdee_Jxe99ae_isNaN_b9ae7
theorem dJxe99ae_doubleToLongBits_ccdee_0 : decode cJxe99ae_doubleToLongBits_ccdee 0 = .ok (.dload_n 0, 1) := by decide +kernel
theorem dJxe99ae_doubleToLongBits_ccdee_1 : decode cJxe99ae_doubleToLongBits_ccdee 1 = .ok (.invokestatic 122, 3) := by decide +kernel
theorem dJxe99ae_doubleToLongBits_ccdee_4 : decode cJxe99ae_doubleToLongBits_ccdee 4 = .ok (.ifCond .ne 8, 3) := by decide +kernel
theorem dJxe99ae_doubleToLongBits_ccdee_7 : decode cJxe99ae_doubleToLongBits_ccdee 7 = .ok (.dload_n 0, 1) := by decide +kernel
theorem dJxe99ae_doubleToLongBits_ccdee_8 : decode cJxe99ae_doubleToLongBits_ccdee 8 = .ok (.invokestatic 134, 3) := by decide +kernel
theorem dJxe99ae_doubleToLongBits_ccdee_11 : decode cJxe99ae_doubleToLongBits_ccdee 11 = .ok (.lreturn, 1) := by decide +kernel
theorem dJxe99ae_doubleToLongBits_ccdee_12 : decode cJxe99ae_doubleToLongBits_ccdee 12 = .ok (.ldc2_w 137, 3) := by decide +kernel
theorem dJxe99ae_doubleToLongBits_ccdee_15 : decode cJxe99ae_doubleToLongBits_ccdee 15 = .ok (.lreturn, 1) := by decide +kernel
theorem dJxf58ca_isNaN_12338_0 : decode cJxf58ca_isNaN_12338 0 = .ok (.fload_n 0, 1) := by decide +kernel
theorem dJxf58ca_isNaN_12338_1 : decode cJxf58ca_isNaN_12338 1 = .ok (.fload_n 0, 1) := by decide +kernel
theorem dJxf58ca_isNaN_12338_2 : decode cJxf58ca_isNaN_12338 2 = .ok (.fcmp .l, 1) := by decide +kernel
theorem dJxf58ca_isNaN_12338_3 : decode cJxf58ca_isNaN_12338 3 = .ok (.ifCond .eq 7, 3) := by decide +kernel
theorem dJxf58ca_isNaN_12338_6 : decode cJxf58ca_isNaN_12338 6 = .ok (.iconst 1, 1) := by decide +kernel
theorem dJxf58ca_isNaN_12338_7 : decode cJxf58ca_isNaN_12338 7 = .ok (.goto 4, 3) := by decide +kernel
theorem dJxf58ca_isNaN_12338_10 : decode cJxf58ca_isNaN_12338 10 = .ok (.iconst 0, 1) := by decide +kernel
theorem dJxf58ca_isNaN_12338_11 : decode cJxf58ca_isNaN_12338 11 = .ok (.ireturn, 1) := by decide +kernel
set_option maxRecDepth 20000 in
theorem ggJxf58ca_floatToIntBits_5c35a_Jxf58ca_isNaN_12338 : GoodIn wsJxf58ca_floatToIntBits_5c35a wsJxf58ca_isNaN_12338 := goodIn_r _ [9] (by decide +kernel) (by decide +kernel)
set_option maxRecDepth 20000 in
theorem gJxf58ca_floatToIntBits_5c35a_Jxf58ca_isNaN_12338 : GoodIn wsJxf58ca_floatToIntBits_5c35a (va_wsS RJxf58ca 59 yJxf58ca_isNaN_12338 wsJxf58ca_isNaN_12338) := goodIn_app (goodIn_of _ (by decide +kernel)) ggJxf58ca_floatToIntBits_5c35a_Jxf58ca_isNaN_12338
theorem dJxf58ca_floatToIntBits_5c35a_0 : decode cJxf58ca_floatToIntBits_5c35a 0 = .ok (.fload_n 0, 1) := by decide +kernel
theorem dJxf58ca_floatToIntBits_5c35a_1 : decode cJxf58ca_floatToIntBits_5c35a 1 = .ok (.invokestatic 59, 3) := by decide +kernel
theorem dJxf58ca_floatToIntBits_5c35a_4 : decode cJxf58ca_floatToIntBits_5c35a 4 = .ok (.ifCond .ne 8, 3) := by decide +kernel
theorem dJxf58ca_floatToIntBits_5c35a_7 : decode cJxf58ca_floatToIntBits_5c35a 7 = .ok (.fload_n 0, 1) := by decide +kernel
theorem dJxf58ca_floatToIntBits_5c35a_8 : decode cJxf58ca_floatToIntBits_5c35a 8 = .ok (.invokestatic 74, 3) := by decide +kernel
theorem dJxf58ca_floatToIntBits_5c35a_11 : decode cJxf58ca_floatToIntBits_5c35a 11 = .ok (.ireturn, 1) := by decide +kernel
theorem dJxf58ca_floatToIntBits_5c35a_12 : decode cJxf58ca_floatToIntBits_5c35a 12 = .ok (.ldc 77, 2) := by decide +kernel
theorem dJxf58ca_floatToIntBits_5c35a_14 : decode cJxf58ca_floatToIntBits_5c35a 14 = .ok (.ireturn, 1) := by decide +kernel
set_option maxRecDepth 20000 in
theorem ggL_law_X1_init : GoodIn wsL_law wsX1_init := goodIn_r _ [9, 10, 11, 12, 13, 14, 15, 16, 17, 18, 19, 20, 21, 533, 534, 535, 536, 537, 538, 539, 540, 541, 542, 543] (by decide +kernel) (by decide +kernel)
set_option maxRecDepth 20000 in
theorem gL_law_X1_init : GoodIn wsL_law (wsX1_init) := ggL_law_X1_init
set_option maxRecDepth 20000 in
theorem ggL_law_X2_init : GoodIn wsL_law wsX2_init := goodIn_r _ [24, 25, 11, 12, 13, 26, 15, 27, 28, 29, 30, 31, 32, 33, 34, 544, 545, 546, 547, 548, 549, 550, 551, 552, 553, 554, 555] (by decide +kernel) (by decide +kernel)
set_option maxRecDepth 20000 in
theorem gL_law_X2_init : GoodIn wsL_law (wsX2_init) := ggL_law_X2_init
set_option maxRecDepth 20000 in
theorem ggL_law_X1_set : GoodIn wsL_law wsX1_set := goodIn_r _ [38, 39, 40, 41, 2, 42, 43, 44, 45, 46, 47, 48, 49, 50, 51, 52, 53, 54, 55, 56, 57, 58, 59, 60, 61, 62, 63, 64, 65, 66, 67, 68, 69, 70, 71, 72, 73, 74, 75, 76, 77, 78, 79, 80, 81, 82, 83, 84, 85, 86, 87, 88, 14, 16, 17, 89, 90, 91, 92, 93, 94, 533, 534, 535, 536, 537, 538, 539, 540, 541, 542, 543] (by decide +kernel) (by decide +kernel)
set_option maxRecDepth 20000 in
theorem gL_law_X1_set : GoodIn wsL_law (wsV RL 15 RX1 yX1_set wsX1_set) := goodIn_app (goodIn_of _ (by decide +kernel)) ggL_law_X1_set
set_option maxRecDepth 20000 in
theorem ggL_law_X2_set : GoodIn wsL_law wsX2_set := goodIn_r _ [98, 99, 100, 5, 101, 102, 103, 104, 105, 106, 107, 108, 109, 110, 111, 112, 113, 114, 115, 116, 117, 118, 119, 120, 121, 122, 123, 124, 125, 126, 127, 128, 129, 130, 131, 132, 133, 134, 135, 136, 26, 27, 28, 137, 138, 139, 140, 544, 545, 546, 547, 548, 549, 550, 551, 552, 553, 554, 555] (by decide +kernel) (by decide +kernel)
set_option maxRecDepth 20000 in
theorem gL_law_X2_set : GoodIn wsL_law (wsV RL 19 RX2 yX2_set wsX2_set) := goodIn_app (goodIn_of _ (by decide +kernel)) ggL_law_X2_set
set_option maxRecDepth 20000 in
theorem ggL_law_X1_clear : GoodIn wsL_law wsX1_clear := goodIn_r _ [144, 14, 43, 44, 2, 45, 89, 90, 91, 92, 93, 94, 533, 534, 535, 536, 537, 538, 539, 540, 541, 542, 543] (by decide +kernel) (by decide +kernel)
set_option maxRecDepth 20000 in
theorem gL_law_X1_clear : GoodIn wsL_law (wsV RL 20 RX1 yX1_clear wsX1_clear) := goodIn_app (goodIn_of _ (by decide +kernel)) ggL_law_X1_clear
set_option maxRecDepth 20000 in
theorem ggL_law_X2_clear : GoodIn wsL_law wsX2_clear := goodIn_r _ [148, 26, 99, 100, 5, 101, 102, 103, 104, 105, 106, 107, 137, 138, 139, 140, 544, 545, 546, 547, 548, 549, 550, 551, 552, 553, 554, 555] (by decide +kernel) (by decide +kernel)
set_option maxRecDepth 20000 in
theorem gL_law_X2_clear : GoodIn wsL_law (wsV RL 24 RX2 yX2_clear wsX2_clear) := goodIn_app (goodIn_of _ (by decide +kernel)) ggL_law_X2_clear
set_option maxRecDepth 20000 in
theorem ggL_law_X1_sort : GoodIn wsL_law wsX1_sort := goodIn_r _ [152, 14, 153, 154, 155, 2, 156, 43, 44, 45, 89, 90, 91, 92, 93, 94, 533, 534, 535, 536, 537, 538, 539, 540, 541, 542, 543] (by decide +kernel) (by decide +kernel)
set_option maxRecDepth 20000 in
theorem gL_law_X1_sort : GoodIn wsL_law (wsV RL 25 RX1 yX1_sort wsX1_sort) := goodIn_app (goodIn_of _ (by decide +kernel)) ggL_law_X1_sort
set_option maxRecDepth 20000 in
theorem ggL_law_X2_sort : GoodIn wsL_law wsX2_sort := goodIn_r _ [160, 26, 161, 162, 163, 5, 164, 99, 100, 101, 102, 103, 104, 105, 106, 107, 137, 138, 139, 140, 544, 545, 546, 547, 548, 549, 550, 551, 552, 553, 554, 555] (by decide +kernel) (by decide +kernel)
set_option maxRecDepth 20000 in
theorem gL_law_X2_sort : GoodIn wsL_law (wsV RL 28 RX2 yX2_sort wsX2_sort) := goodIn_app (goodIn_of _ (by decide +kernel)) ggL_law_X2_sort
set_option maxRecDepth 20000 in
theorem ggL_law_X1_low : GoodIn wsL_law wsX1_low := goodIn_r _ [168, 169, 16, 153, 154, 155, 2, 156, 14, 43, 44, 45, 89, 90, 91, 92, 93, 94, 533, 534, 535, 536, 537, 538, 539, 540, 541, 542, 543] (by decide +kernel) (by decide +kernel)
set_option maxRecDepth 20000 in
theorem gL_law_X1_low : GoodIn wsL_law (wsV RL 29 RX1 yX1_low wsX1_low) := goodIn_app (goodIn_of _ (by decide +kernel)) ggL_law_X1_low
set_option maxRecDepth 20000 in
theorem ggL_law_X2_low : GoodIn wsL_law wsX2_low := goodIn_r _ [173, 174, 175, 176, 5, 177, 106, 178, 28, 27, 161, 162, 163, 164, 26, 99, 100, 101, 102, 103, 104, 105, 107, 544, 545, 546, 547, 548, 549, 550, 551, 552, 553, 554, 555] (by decide +kernel) (by decide +kernel)
set_option maxRecDepth 20000 in
theorem gL_law_X2_low : GoodIn wsL_law (wsV RL 33 RX2 yX2_low wsX2_low) := goodIn_app (goodIn_of _ (by decide +kernel)) ggL_law_X2_low
set_option maxRecDepth 20000 in
theorem ggL_law_X1_high : GoodIn wsL_law wsX1_high := goodIn_r _ [182, 169, 17, 153, 154, 155, 2, 156, 14, 43, 44, 45, 89, 90, 91, 92, 93, 94, 533, 534, 535, 536, 537, 538, 539, 540, 541, 542, 543] (by decide +kernel) (by decide +kernel)
set_option maxRecDepth 20000 in
theorem gL_law_X1_high : GoodIn wsL_law (wsV RL 34 RX1 yX1_high wsX1_high) := goodIn_app (goodIn_of _ (by decide +kernel)) ggL_law_X1_high
set_option maxRecDepth 20000 in
theorem ggL_law_X2_high : GoodIn wsL_law wsX2_high := goodIn_r _ [186, 174, 175, 176, 5, 177, 106, 178, 28, 27, 161, 162, 163, 164, 26, 99, 100, 101, 102, 103, 104, 105, 107, 544, 545, 546, 547, 548, 549, 550, 551, 552, 553, 554, 555] (by decide +kernel) (by decide +kernel)
set_option maxRecDepth 20000 in
theorem gL_law_X2_high : GoodIn wsL_law (wsV RL 37 RX2 yX2_high wsX2_high) := goodIn_app (goodIn_of _ (by decide +kernel)) ggL_law_X2_high
set_option maxRecDepth 20000 in
theorem ggL_law_X1_hull : GoodIn wsL_law wsX1_hull := goodIn_r _ [190, 191, 192, 193, 2, 194, 195, 196, 197, 198, 14, 199, 200, 201, 43, 44, 45, 202, 203, 204, 205, 206, 207, 208, 16, 17, 209, 210, 51, 211, 212, 79, 80, 53, 54, 55, 81, 82, 83, 84, 213, 214, 215, 85, 86, 87, 88, 216, 217, 218, 219, 220, 221, 222, 223, 78, 224, 225, 226, 227, 228, 229, 230, 231, 232, 233, 63, 64, 65, 66, 67, 56, 57, 58, 234, 235, 236, 237, 238, 239, 59, 60, 61, 62, 240, 241, 242, 243, 244, 245, 246, 247, 248, 249, 250, 251, 252, 253, 254, 255, 256, 257, 258, 259, 260, 74, 75, 76, 71, 72, 73, 261, 262, 263, 264, 265, 266, 267, 268, 269, 270, 271, 272, 273, 274, 275, 276, 277, 278, 279, 280, 281, 282, 283, 284, 285, 286, 287, 288, 289, 290, 291, 292, 293, 46, 47, 48, 294, 295, 296, 297, 298, 299, 300, 301, 302, 303, 304, 305, 306, 307, 308, 309, 310, 311, 312, 313, 314, 315, 316, 68, 69, 70, 317, 318, 319, 89, 90, 91, 92, 93, 94, 533, 534, 535, 536, 537, 538, 539, 540, 541, 542, 543] (by decide +kernel) (by decide +kernel)
set_option maxRecDepth 20000 in
theorem gL_law_X1_hull : GoodIn wsL_law (wsV RL 38 RX1 yX1_hull wsX1_hull) := goodIn_app (goodIn_of _ (by decide +kernel)) ggL_law_X1_hull
set_option maxRecDepth 20000 in
theorem ggL_law_X2_hull : GoodIn wsL_law wsX2_hull := goodIn_r _ [323, 26, 27, 28, 161, 162, 163, 5, 164, 99, 100, 101, 102, 103, 104, 105, 106, 107, 324, 325, 326, 127, 128, 129, 130, 131, 132, 120, 121, 114, 115, 116, 327, 328, 329, 133, 134, 135, 136, 137, 138, 139, 140, 544, 545, 546, 547, 548, 549, 550, 551, 552, 553, 554, 555] (by decide +kernel) (by decide +kernel)
set_option maxRecDepth 20000 in
theorem gL_law_X2_hull : GoodIn wsL_law (wsV RL 42 RX2 yX2_hull wsX2_hull) := goodIn_app (goodIn_of _ (by decide +kernel)) ggL_law_X2_hull
set_option maxRecDepth 20000 in
theorem ggL_law_X1_meet : GoodIn wsL_law wsX1_meet := goodIn_r _ [333, 191, 192, 193, 2, 194, 195, 196, 197, 198, 14, 199, 200, 201, 43, 44, 45, 202, 203, 204, 205, 206, 207, 208, 16, 17, 209, 210, 51, 211, 212, 79, 80, 53, 54, 55, 81, 82, 83, 84, 213, 214, 215, 85, 86, 87, 88, 216, 217, 218, 219, 220, 221, 222, 223, 78, 224, 225, 226, 227, 228, 229, 230, 231, 232, 233, 63, 64, 65, 66, 67, 56, 57, 58, 234, 235, 236, 237, 238, 239, 59, 60, 61, 62, 240, 241, 242, 243, 244, 245, 246, 247, 248, 249, 250, 251, 252, 253, 254, 255, 256, 257, 258, 259, 260, 74, 75, 76, 71, 72, 73, 261, 262, 263, 264, 265, 266, 267, 268, 269, 270, 271, 272, 273, 274, 275, 276, 277, 278, 279, 280, 281, 282, 283, 284, 285, 286, 287, 288, 289, 290, 291, 292, 293, 46, 47, 48, 294, 295, 296, 297, 298, 299, 300, 301, 302, 303, 304, 305, 306, 307, 308, 309, 310, 311, 312, 313, 314, 315, 316, 68, 69, 70, 317, 318, 319, 89, 90, 91, 92, 93, 94, 533, 534, 535, 536, 537, 538, 539, 540, 541, 542, 543] (by decide +kernel) (by decide +kernel)
set_option maxRecDepth 20000 in
theorem gL_law_X1_meet : GoodIn wsL_law (wsV RL 43 RX1 yX1_meet wsX1_meet) := goodIn_app (goodIn_of _ (by decide +kernel)) ggL_law_X1_meet
set_option maxRecDepth 20000 in
theorem ggL_law_X2_meet : GoodIn wsL_law wsX2_meet := goodIn_r _ [337, 26, 27, 28, 161, 162, 163, 5, 164, 99, 100, 101, 102, 103, 104, 105, 106, 107, 327, 328, 329, 127, 128, 129, 130, 131, 132, 120, 121, 114, 115, 116, 324, 325, 326, 338, 339, 340, 341, 137, 138, 139, 140, 133, 134, 135, 136, 544, 545, 546, 547, 548, 549, 550, 551, 552, 553, 554, 555] (by decide +kernel) (by decide +kernel)
set_option maxRecDepth 20000 in
theorem gL_law_X2_meet : GoodIn wsL_law (wsV RL 46 RX2 yX2_meet wsX2_meet) := goodIn_app (goodIn_of _ (by decide +kernel)) ggL_law_X2_meet
set_option maxRecDepth 20000 in
theorem ggL_law_X1_size : GoodIn wsL_law wsX1_size := goodIn_r _ [345, 191, 192, 193, 2, 194, 195, 196, 197, 198, 14, 199, 200, 201, 43, 44, 45, 202, 203, 204, 205, 206, 207, 208, 16, 17, 209, 210, 51, 211, 212, 79, 80, 53, 54, 55, 81, 82, 83, 84, 213, 214, 215, 85, 86, 87, 88, 216, 217, 218, 219, 220, 221, 222, 223, 78, 224, 225, 226, 227, 228, 229, 230, 231, 232, 233, 63, 64, 65, 66, 67, 56, 57, 58, 234, 235, 236, 237, 238, 239, 59, 60, 61, 62, 240, 241, 242, 243, 244, 245, 246, 247, 248, 249, 250, 251, 252, 253, 254, 255, 256, 257, 258, 259, 260, 74, 75, 76, 71, 72, 73, 261, 262, 263, 264, 265, 266, 267, 268, 269, 270, 271, 272, 273, 274, 275, 276, 277, 278, 279, 280, 281, 282, 283, 284, 285, 286, 287, 288, 289, 290, 291, 292, 293, 46, 47, 48, 294, 295, 296, 297, 298, 299, 300, 301, 302, 303, 304, 305, 306, 307, 308, 309, 310, 311, 312, 313, 314, 315, 316, 68, 69, 70, 317, 318, 319, 89, 90, 91, 92, 93, 94, 533, 534, 535, 536, 537, 538, 539, 540, 541, 542, 543] (by decide +kernel) (by decide +kernel)
set_option maxRecDepth 20000 in
theorem gL_law_X1_size : GoodIn wsL_law (wsV RL 47 RX1 yX1_size wsX1_size) := goodIn_app (goodIn_of _ (by decide +kernel)) ggL_law_X1_size
set_option maxRecDepth 20000 in
theorem ggL_law_X2_size : GoodIn wsL_law wsX2_size := goodIn_r _ [349, 26, 27, 28, 161, 162, 163, 5, 164, 99, 100, 101, 102, 103, 104, 105, 106, 107, 350, 351, 352, 114, 115, 116, 117, 118, 119, 120, 121, 353, 354, 355, 108, 109, 110, 327, 328, 329, 127, 128, 129, 130, 131, 132, 356, 357, 358, 359, 324, 325, 326, 133, 134, 135, 136, 137, 138, 139, 140, 544, 545, 546, 547, 548, 549, 550, 551, 552, 553, 554, 555] (by decide +kernel) (by decide +kernel)
set_option maxRecDepth 20000 in
theorem gL_law_X2_size : GoodIn wsL_law (wsV RL 51 RX2 yX2_size wsX2_size) := goodIn_app (goodIn_of _ (by decide +kernel)) ggL_law_X2_size
set_option maxRecDepth 20000 in
theorem ggL_law_X1_round : GoodIn wsL_law wsX1_round := goodIn_r _ [363, 191, 192, 193, 2, 194, 195, 196, 197, 198, 14, 199, 200, 201, 43, 44, 45, 202, 203, 204, 205, 206, 207, 208, 16, 17, 209, 210, 51, 211, 212, 79, 80, 53, 54, 55, 81, 82, 83, 84, 213, 214, 215, 85, 86, 87, 88, 216, 217, 218, 219, 220, 221, 222, 223, 78, 224, 225, 226, 227, 228, 229, 230, 231, 232, 233, 63, 64, 65, 66, 67, 56, 57, 58, 234, 235, 236, 237, 238, 239, 59, 60, 61, 62, 240, 241, 242, 243, 244, 245, 246, 247, 248, 249, 250, 251, 252, 253, 254, 255, 256, 257, 258, 259, 260, 74, 75, 76, 71, 72, 73, 261, 262, 263, 264, 265, 266, 267, 268, 269, 270, 271, 272, 273, 274, 275, 276, 277, 278, 279, 280, 281, 282, 283, 284, 285, 286, 287, 288, 289, 290, 291, 292, 293, 46, 47, 48, 294, 295, 296, 297, 298, 299, 300, 301, 302, 303, 304, 305, 306, 307, 308, 309, 310, 311, 312, 313, 314, 315, 316, 68, 69, 70, 317, 318, 319, 89, 90, 91, 92, 93, 94, 533, 534, 535, 536, 537, 538, 539, 540, 541, 542, 543] (by decide +kernel) (by decide +kernel)
set_option maxRecDepth 20000 in
theorem gL_law_X1_round : GoodIn wsL_law (wsV RL 52 RX1 yX1_round wsX1_round) := goodIn_app (goodIn_of _ (by decide +kernel)) ggL_law_X1_round
set_option maxRecDepth 20000 in
theorem ggL_law_X2_round : GoodIn wsL_law wsX2_round := goodIn_r _ [367, 26, 27, 28, 161, 162, 163, 5, 164, 99, 100, 101, 114, 115, 116, 102, 103, 104, 105, 106, 107, 368, 369, 370, 371, 117, 118, 119, 120, 121, 372, 373, 374, 375, 376, 377, 378, 379, 380, 381, 127, 128, 129, 130, 131, 132, 338, 339, 340, 341, 137, 138, 139, 140, 133, 134, 135, 136, 544, 545, 546, 547, 548, 549, 550, 551, 552, 553, 554, 555] (by decide +kernel) (by decide +kernel)
set_option maxRecDepth 20000 in
theorem gL_law_X2_round : GoodIn wsL_law (wsV RL 55 RX2 yX2_round wsX2_round) := goodIn_app (goodIn_of _ (by decide +kernel)) ggL_law_X2_round
set_option maxRecDepth 20000 in
theorem ggL_law_X1_sign : GoodIn wsL_law wsX1_sign := goodIn_r _ [385, 191, 192, 193, 2, 194, 195, 196, 197, 198, 14, 199, 200, 201, 43, 44, 45, 202, 203, 204, 205, 206, 207, 208, 16, 17, 209, 210, 51, 211, 212, 79, 80, 53, 54, 55, 81, 82, 83, 84, 213, 214, 215, 85, 86, 87, 88, 216, 217, 218, 219, 220, 221, 222, 223, 78, 224, 225, 226, 227, 228, 229, 230, 231, 232, 233, 63, 64, 65, 66, 67, 56, 57, 58, 234, 235, 236, 237, 238, 239, 59, 60, 61, 62, 240, 241, 242, 243, 244, 245, 246, 247, 248, 249, 250, 251, 252, 253, 254, 255, 256, 257, 258, 259, 260, 74, 75, 76, 71, 72, 73, 261, 262, 263, 264, 265, 266, 267, 268, 269, 270, 271, 272, 273, 274, 275, 276, 277, 278, 279, 280, 281, 282, 283, 284, 285, 286, 287, 288, 289, 290, 291, 292, 293, 46, 47, 48, 294, 295, 296, 297, 298, 299, 300, 301, 302, 303, 304, 305, 306, 307, 308, 309, 310, 311, 312, 313, 314, 315, 316, 68, 69, 70, 317, 318, 319, 89, 90, 91, 92, 93, 94, 533, 534, 535, 536, 537, 538, 539, 540, 541, 542, 543] (by decide +kernel) (by decide +kernel)
set_option maxRecDepth 20000 in
theorem gL_law_X1_sign : GoodIn wsL_law (wsV RL 56 RX1 yX1_sign wsX1_sign) := goodIn_app (goodIn_of _ (by decide +kernel)) ggL_law_X1_sign
set_option maxRecDepth 20000 in
theorem ggL_law_X2_sign : GoodIn wsL_law wsX2_sign := goodIn_r _ [389, 26, 27, 28, 161, 162, 163, 5, 164, 99, 100, 101, 114, 115, 116, 102, 103, 104, 105, 106, 107, 390, 391, 392, 350, 351, 352, 117, 118, 119, 120, 121, 372, 373, 374, 375, 376, 377, 378, 379, 380, 381, 133, 134, 135, 136, 137, 138, 139, 140, 544, 545, 546, 547, 548, 549, 550, 551, 552, 553, 554, 555] (by decide +kernel) (by decide +kernel)
set_option maxRecDepth 20000 in
theorem gL_law_X2_sign : GoodIn wsL_law (wsV RL 59 RX2 yX2_sign wsX2_sign) := goodIn_app (goodIn_of _ (by decide +kernel)) ggL_law_X2_sign
set_option maxRecDepth 20000 in
theorem ggL_law_X1_lend : GoodIn wsL_law wsX1_lend := goodIn_r _ [396, 191, 192, 193, 2, 194, 195, 196, 197, 198, 14, 199, 200, 201, 43, 44, 45, 202, 203, 204, 205, 206, 207, 208, 16, 17, 209, 210, 51, 211, 212, 79, 80, 53, 54, 55, 81, 82, 83, 84, 213, 214, 215, 85, 86, 87, 88, 216, 217, 218, 219, 220, 221, 222, 223, 78, 224, 225, 226, 227, 228, 229, 230, 231, 232, 233, 63, 64, 65, 66, 67, 56, 57, 58, 234, 235, 236, 237, 238, 239, 59, 60, 61, 62, 240, 241, 242, 243, 244, 245, 246, 247, 248, 249, 250, 251, 252, 253, 254, 255, 256, 257, 258, 259, 260, 74, 75, 76, 71, 72, 73, 261, 262, 263, 264, 265, 266, 267, 268, 269, 270, 271, 272, 273, 274, 275, 276, 277, 278, 279, 280, 281, 282, 283, 284, 285, 286, 287, 288, 289, 290, 291, 292, 293, 46, 47, 48, 294, 295, 296, 297, 298, 299, 300, 301, 302, 303, 304, 305, 306, 307, 308, 309, 310, 311, 312, 313, 314, 315, 316, 68, 69, 70, 317, 318, 319, 89, 90, 91, 92, 93, 94, 533, 534, 535, 536, 537, 538, 539, 540, 541, 542, 543] (by decide +kernel) (by decide +kernel)
set_option maxRecDepth 20000 in
theorem gL_law_X1_lend : GoodIn wsL_law (wsV RL 60 RX1 yX1_lend wsX1_lend) := goodIn_app (goodIn_of _ (by decide +kernel)) ggL_law_X1_lend
set_option maxRecDepth 20000 in
theorem ggL_law_X2_lend : GoodIn wsL_law wsX2_lend := goodIn_r _ [400, 26, 27, 28, 161, 162, 163, 5, 164, 99, 100, 101, 114, 115, 116, 102, 103, 104, 105, 106, 107, 117, 118, 119, 120, 121, 377, 378, 379, 380, 381, 356, 357, 358, 359, 324, 325, 326, 127, 128, 129, 130, 131, 132, 327, 328, 329, 133, 134, 135, 136, 137, 138, 139, 140, 544, 545, 546, 547, 548, 549, 550, 551, 552, 553, 554, 555] (by decide +kernel) (by decide +kernel)
set_option maxRecDepth 20000 in
theorem gL_law_X2_lend : GoodIn wsL_law (wsV RL 63 RX2 yX2_lend wsX2_lend) := goodIn_app (goodIn_of _ (by decide +kernel)) ggL_law_X2_lend
set_option maxRecDepth 20000 in
theorem ggL_law_X1_turn : GoodIn wsL_law wsX1_turn := goodIn_r _ [404, 191, 192, 193, 2, 194, 195, 196, 197, 198, 14, 199, 200, 201, 43, 44, 45, 202, 203, 204, 205, 206, 207, 208, 16, 17, 209, 210, 51, 211, 212, 79, 80, 53, 54, 55, 81, 82, 83, 84, 213, 214, 215, 85, 86, 87, 88, 216, 217, 218, 219, 220, 221, 222, 223, 78, 224, 225, 226, 227, 228, 229, 230, 231, 232, 233, 63, 64, 65, 66, 67, 56, 57, 58, 234, 235, 236, 237, 238, 239, 59, 60, 61, 62, 240, 241, 242, 243, 244, 245, 246, 247, 248, 249, 250, 251, 252, 253, 254, 255, 256, 257, 258, 259, 260, 74, 75, 76, 71, 72, 73, 261, 262, 263, 264, 265, 266, 267, 268, 269, 270, 271, 272, 273, 274, 275, 276, 277, 278, 279, 280, 281, 282, 283, 284, 285, 286, 287, 288, 289, 290, 291, 292, 293, 46, 47, 48, 294, 295, 296, 297, 298, 299, 300, 301, 302, 303, 304, 305, 306, 307, 308, 309, 310, 311, 312, 313, 314, 315, 316, 68, 69, 70, 317, 318, 319, 89, 90, 91, 92, 93, 94, 533, 534, 535, 536, 537, 538, 539, 540, 541, 542, 543] (by decide +kernel) (by decide +kernel)
set_option maxRecDepth 20000 in
theorem gL_law_X1_turn : GoodIn wsL_law (wsV RL 64 RX1 yX1_turn wsX1_turn) := goodIn_app (goodIn_of _ (by decide +kernel)) ggL_law_X1_turn
set_option maxRecDepth 20000 in
theorem ggL_law_X2_turn : GoodIn wsL_law wsX2_turn := goodIn_r _ [408, 26, 27, 28, 161, 162, 163, 5, 164, 99, 100, 101, 102, 103, 104, 105, 106, 107, 409, 410, 411, 114, 115, 116, 117, 118, 119, 120, 121, 377, 378, 379, 380, 381, 108, 109, 110, 356, 357, 358, 359, 324, 325, 326, 127, 128, 129, 130, 131, 132, 327, 328, 329, 133, 134, 135, 136, 137, 138, 139, 140, 544, 545, 546, 547, 548, 549, 550, 551, 552, 553, 554, 555] (by decide +kernel) (by decide +kernel)
set_option maxRecDepth 20000 in
theorem gL_law_X2_turn : GoodIn wsL_law (wsV RL 67 RX2 yX2_turn wsX2_turn) := goodIn_app (goodIn_of _ (by decide +kernel)) ggL_law_X2_turn
set_option maxRecDepth 20000 in
theorem ggL_law_X1_as : GoodIn wsL_law wsX1_as := goodIn_r _ [415, 191, 192, 193, 2, 194, 195, 196, 197, 198, 14, 199, 200, 201, 43, 44, 45, 202, 203, 204, 205, 206, 207, 208, 16, 17, 209, 210, 51, 211, 212, 79, 80, 53, 54, 55, 81, 82, 83, 84, 213, 214, 215, 85, 86, 87, 88, 216, 217, 218, 219, 220, 221, 222, 223, 78, 224, 225, 226, 227, 228, 229, 230, 231, 232, 233, 63, 64, 65, 66, 67, 56, 57, 58, 234, 235, 236, 237, 238, 239, 59, 60, 61, 62, 240, 241, 242, 243, 244, 245, 246, 247, 248, 249, 250, 251, 252, 253, 254, 255, 256, 257, 258, 259, 260, 74, 75, 76, 71, 72, 73, 261, 262, 263, 264, 265, 266, 267, 268, 269, 270, 271, 272, 273, 274, 275, 276, 277, 278, 279, 280, 281, 282, 283, 284, 285, 286, 287, 288, 289, 290, 291, 292, 293, 46, 47, 48, 294, 295, 296, 297, 298, 299, 300, 301, 302, 303, 304, 305, 306, 307, 308, 309, 310, 311, 312, 313, 314, 315, 316, 68, 69, 70, 317, 318, 319, 89, 90, 91, 92, 93, 94, 533, 534, 535, 536, 537, 538, 539, 540, 541, 542, 543] (by decide +kernel) (by decide +kernel)
set_option maxRecDepth 20000 in
theorem gL_law_X1_as : GoodIn wsL_law (wsV RL 68 RX1 yX1_as wsX1_as) := goodIn_app (goodIn_of _ (by decide +kernel)) ggL_law_X1_as
set_option maxRecDepth 20000 in
theorem ggL_law_X2_as : GoodIn wsL_law wsX2_as := goodIn_r _ [419, 26, 27, 28, 161, 162, 163, 5, 164, 99, 100, 101, 102, 103, 104, 105, 106, 107, 420, 421, 422, 423, 424, 425, 426, 427, 428, 429, 430, 114, 115, 116, 108, 109, 110, 431, 432, 433, 434, 435, 436, 437, 438, 439, 440, 441, 442, 443, 444, 445, 446, 447, 448, 449, 450, 451, 452, 356, 357, 358, 359, 324, 325, 326, 127, 128, 129, 130, 131, 132, 120, 121, 327, 328, 329, 133, 134, 135, 136, 137, 138, 139, 140, 544, 545, 546, 547, 548, 549, 550, 551, 552, 553, 554, 555] (by decide +kernel) (by decide +kernel)
set_option maxRecDepth 20000 in
theorem gL_law_X2_as : GoodIn wsL_law (wsV RL 71 RX2 yX2_as wsX2_as) := goodIn_app (goodIn_of _ (by decide +kernel)) ggL_law_X2_as
set_option maxRecDepth 20000 in
theorem ggL_law_X1_near : GoodIn wsL_law wsX1_near := goodIn_r _ [456, 14, 16, 17, 457, 458, 459, 2, 460, 153, 154, 155, 156, 43, 44, 45, 49, 50, 51, 52, 53, 54, 55, 56, 57, 58, 59, 60, 61, 62, 63, 64, 65, 66, 67, 68, 69, 70, 71, 72, 73, 74, 75, 76, 89, 90, 91, 92, 93, 94, 77, 213, 214, 215, 212, 79, 80, 81, 82, 83, 84, 209, 210, 211, 533, 534, 535, 536, 537, 538, 539, 540, 541, 542, 543] (by decide +kernel) (by decide +kernel)
set_option maxRecDepth 20000 in
theorem gL_law_X1_near : GoodIn wsL_law (wsV RL 72 RX1 yX1_near wsX1_near) := goodIn_app (goodIn_of _ (by decide +kernel)) ggL_law_X1_near
set_option maxRecDepth 20000 in
theorem ggL_law_X2_near : GoodIn wsL_law wsX2_near := goodIn_r _ [464, 26, 106, 27, 28, 161, 162, 163, 5, 164, 99, 100, 101, 108, 109, 110, 111, 112, 113, 114, 115, 116, 117, 118, 119, 120, 121, 122, 123, 124, 125, 126, 102, 103, 104, 105, 107, 327, 328, 329, 127, 128, 129, 130, 131, 132, 324, 325, 326, 544, 545, 546, 547, 548, 549, 550, 551, 552, 553, 554, 555] (by decide +kernel) (by decide +kernel)
set_option maxRecDepth 20000 in
theorem gL_law_X2_near : GoodIn wsL_law (wsV RL 76 RX2 yX2_near wsX2_near) := goodIn_app (goodIn_of _ (by decide +kernel)) ggL_law_X2_near
set_option maxRecDepth 20000 in
theorem ggL_law_X1_has : GoodIn wsL_law wsX1_has := goodIn_r _ [468, 14, 16, 17, 457, 458, 459, 2, 460, 153, 154, 155, 156, 43, 44, 45, 49, 50, 51, 52, 53, 54, 55, 56, 57, 58, 59, 60, 61, 62, 63, 64, 65, 66, 67, 68, 69, 70, 71, 72, 73, 74, 75, 76, 89, 90, 91, 92, 93, 94, 77, 78, 79, 80, 81, 82, 83, 84, 533, 534, 535, 536, 537, 538, 539, 540, 541, 542, 543] (by decide +kernel) (by decide +kernel)
set_option maxRecDepth 20000 in
theorem gL_law_X1_has : GoodIn wsL_law (wsV RL 77 RX1 yX1_has wsX1_has) := goodIn_app (goodIn_of _ (by decide +kernel)) ggL_law_X1_has
set_option maxRecDepth 20000 in
theorem ggL_law_X2_has : GoodIn wsL_law wsX2_has := goodIn_r _ [472, 26, 27, 28, 161, 162, 163, 5, 164, 99, 100, 101, 108, 109, 110, 111, 112, 113, 114, 115, 116, 117, 118, 119, 120, 121, 122, 123, 124, 125, 126, 102, 103, 104, 105, 106, 107, 127, 128, 129, 130, 131, 132, 137, 138, 139, 140, 544, 545, 546, 547, 548, 549, 550, 551, 552, 553, 554, 555] (by decide +kernel) (by decide +kernel)
set_option maxRecDepth 20000 in
theorem gL_law_X2_has : GoodIn wsL_law (wsV RL 81 RX2 yX2_has wsX2_has) := goodIn_app (goodIn_of _ (by decide +kernel)) ggL_law_X2_has
set_option maxRecDepth 20000 in
theorem ggL_law_X1_alike : GoodIn wsL_law wsX1_alike := goodIn_r _ [476, 14, 16, 17, 43, 44, 2, 45, 89, 90, 91, 92, 93, 94, 533, 534, 535, 536, 537, 538, 539, 540, 541, 542, 543] (by decide +kernel) (by decide +kernel)
set_option maxRecDepth 20000 in
theorem gL_law_X1_alike : GoodIn wsL_law (wsV RL 82 RX1 yX1_alike wsX1_alike) := goodIn_app (goodIn_of _ (by decide +kernel)) ggL_law_X1_alike
set_option maxRecDepth 20000 in
theorem ggL_law_X2_alike : GoodIn wsL_law wsX2_alike := goodIn_r _ [480, 26, 27, 28, 161, 162, 163, 5, 164, 99, 100, 101, 102, 103, 104, 105, 106, 107, 137, 138, 139, 140, 544, 545, 546, 547, 548, 549, 550, 551, 552, 553, 554, 555] (by decide +kernel) (by decide +kernel)
set_option maxRecDepth 20000 in
theorem gL_law_X2_alike : GoodIn wsL_law (wsV RL 85 RX2 yX2_alike wsX2_alike) := goodIn_app (goodIn_of _ (by decide +kernel)) ggL_law_X2_alike
set_option maxRecDepth 20000 in
theorem ggL_law_X1_step : GoodIn wsL_law wsX1_step := goodIn_r _ [484, 18, 19, 20, 21, 199, 200, 2, 201, 43, 44, 45, 202, 203, 204, 89, 90, 91, 92, 93, 94, 485, 486, 487, 533, 534, 535, 536, 537, 538, 539, 540, 541, 542, 543] (by decide +kernel) (by decide +kernel)
set_option maxRecDepth 20000 in
theorem gL_law_X1_step : GoodIn wsL_law (wsV RL 86 RX1 yX1_step wsX1_step) := goodIn_app (goodIn_of _ (by decide +kernel)) ggL_law_X1_step
set_option maxRecDepth 20000 in
theorem ggL_law_X2_step : GoodIn wsL_law wsX2_step := goodIn_r _ [491, 30, 31, 32, 33, 34, 99, 100, 5, 101, 102, 103, 104, 105, 106, 107, 137, 138, 139, 140, 544, 545, 546, 547, 548, 549, 550, 551, 552, 553, 554, 555] (by decide +kernel) (by decide +kernel)
set_option maxRecDepth 20000 in
theorem gL_law_X2_step : GoodIn wsL_law (wsV RL 90 RX2 yX2_step wsX2_step) := goodIn_app (goodIn_of _ (by decide +kernel)) ggL_law_X2_step
set_option maxRecDepth 20000 in
theorem ggL_law_X1_run : GoodIn wsL_law wsX1_run := goodIn_r _ [495, 93, 18, 19, 20, 21, 496, 485, 486, 2, 487, 89, 90, 91, 92, 94, 191, 192, 193, 194, 195, 196, 197, 198, 14, 199, 200, 201, 43, 44, 45, 202, 203, 204, 205, 206, 207, 208, 16, 17, 209, 210, 51, 211, 212, 79, 80, 53, 54, 55, 81, 82, 83, 84, 213, 214, 215, 85, 86, 87, 88, 216, 217, 218, 219, 220, 221, 222, 223, 78, 224, 225, 226, 227, 228, 229, 230, 231, 232, 233, 63, 64, 65, 66, 67, 56, 57, 58, 234, 235, 236, 237, 238, 239, 59, 60, 61, 62, 240, 241, 242, 243, 244, 245, 246, 247, 248, 249, 250, 251, 252, 253, 254, 255, 256, 257, 258, 259, 260, 74, 75, 76, 71, 72, 73, 261, 262, 263, 264, 265, 266, 267, 268, 269, 270, 271, 272, 273, 274, 275, 276, 277, 278, 279, 280, 281, 282, 283, 284, 285, 286, 287, 288, 289, 290, 291, 292, 293, 46, 47, 48, 294, 295, 296, 297, 298, 299, 300, 301, 302, 303, 304, 305, 306, 307, 308, 309, 310, 311, 312, 313, 314, 315, 316, 68, 69, 70, 317, 318, 319, 533, 534, 535, 536, 537, 538, 539, 540, 541, 542, 543] (by decide +kernel) (by decide +kernel)
set_option maxRecDepth 20000 in
theorem gL_law_X1_run : GoodIn wsL_law (wsV RL 91 RX1 yX1_run wsX1_run) := goodIn_app (goodIn_of _ (by decide +kernel)) ggL_law_X1_run
set_option maxRecDepth 20000 in
theorem ggL_law_X2_run : GoodIn wsL_law wsX2_run := goodIn_r _ [500, 106, 30, 501, 102, 103, 104, 5, 105, 107, 502, 503, 504, 505, 32, 33, 31, 34, 506, 321, 322, 323, 26, 27, 28, 161, 162, 163, 164, 99, 100, 101, 324, 325, 326, 127, 128, 129, 130, 131, 132, 120, 121, 114, 115, 116, 327, 328, 329, 133, 134, 135, 136, 137, 138, 139, 140, 507, 335, 336, 337, 338, 339, 340, 341, 508, 347, 348, 349, 350, 351, 352, 117, 118, 119, 353, 354, 355, 108, 109, 110, 356, 357, 358, 359, 509, 365, 366, 367, 368, 369, 370, 371, 372, 373, 374, 375, 376, 377, 378, 379, 380, 381, 510, 387, 388, 389, 390, 391, 392, 511, 398, 399, 400, 512, 406, 407, 408, 409, 410, 411, 513, 417, 418, 419, 420, 421, 422, 423, 424, 425, 426, 427, 428, 429, 430, 431, 432, 433, 434, 435, 436, 437, 438, 439, 440, 441, 442, 443, 444, 445, 446, 447, 448, 449, 450, 451, 452, 544, 545, 546, 547, 548, 549, 550, 551, 552, 553, 554, 555] (by decide +kernel) (by decide +kernel)
set_option maxRecDepth 20000 in
theorem gL_law_X2_run : GoodIn wsL_law (wsV RL 94 RX2 yX2_run wsX2_run) := goodIn_app (goodIn_of _ (by decide +kernel)) ggL_law_X2_run
set_option maxRecDepth 20000 in
theorem ggL_law_X1_state : GoodIn wsL_law wsX1_state := goodIn_r _ [517, 93, 533, 534, 535, 536, 537, 538, 539, 540, 541, 542, 543] (by decide +kernel) (by decide +kernel)
set_option maxRecDepth 20000 in
theorem gL_law_X1_state : GoodIn wsL_law (wsV RL 95 RX1 yX1_state wsX1_state) := goodIn_app (goodIn_of _ (by decide +kernel)) ggL_law_X1_state
set_option maxRecDepth 20000 in
theorem ggL_law_X2_state : GoodIn wsL_law wsX2_state := goodIn_r _ [521, 106, 544, 545, 546, 547, 548, 549, 550, 551, 552, 553, 554, 555] (by decide +kernel) (by decide +kernel)
set_option maxRecDepth 20000 in
theorem gL_law_X2_state : GoodIn wsL_law (wsV RL 99 RX2 yX2_state wsX2_state) := goodIn_app (goodIn_of _ (by decide +kernel)) ggL_law_X2_state
set_option maxRecDepth 20000 in
theorem ggL_law_X1_about : GoodIn wsL_law wsX1_about := goodIn_r _ [525, 14, 18, 94, 169, 496, 526, 527, 2, 528, 533, 534, 535, 536, 537, 538, 539, 540, 541, 542, 543] (by decide +kernel) (by decide +kernel)
set_option maxRecDepth 20000 in
theorem gL_law_X1_about : GoodIn wsL_law (wsV RL 100 RX1 yX1_about wsX1_about) := goodIn_app (goodIn_of _ (by decide +kernel)) ggL_law_X1_about
set_option maxRecDepth 20000 in
theorem ggL_law_X2_about : GoodIn wsL_law wsX2_about := goodIn_r _ [532, 26, 30, 107, 178, 501, 544, 545, 546, 547, 548, 549, 550, 551, 552, 553, 554, 555] (by decide +kernel) (by decide +kernel)
set_option maxRecDepth 20000 in
theorem gL_law_X2_about : GoodIn wsL_law (wsV RL 103 RX2 yX2_about wsX2_about) := goodIn_app (goodIn_of _ (by decide +kernel)) ggL_law_X2_about
theorem dL_law_0 : decode cL_law 0 = .ok (.new 7, 3) := by decide +kernel
theorem dL_law_3 : decode cL_law 3 = .ok (.dup, 1) := by decide +kernel
theorem dL_law_4 : decode cL_law 4 = .ok (.invokespecial 9, 3) := by decide +kernel
theorem dL_law_7 : decode cL_law 7 = .ok (.astore_n 1, 1) := by decide +kernel
theorem dL_law_8 : decode cL_law 8 = .ok (.new 10, 3) := by decide +kernel
theorem dL_law_11 : decode cL_law 11 = .ok (.dup, 1) := by decide +kernel
theorem dL_law_12 : decode cL_law 12 = .ok (.invokespecial 12, 3) := by decide +kernel
theorem dL_law_15 : decode cL_law 15 = .ok (.astore_n 2, 1) := by decide +kernel
theorem dL_law_16 : decode cL_law 16 = .ok (.iconst 0, 1) := by decide +kernel
theorem dL_law_17 : decode cL_law 17 = .ok (.istore_n 3, 1) := by decide +kernel
theorem dL_law_18 : decode cL_law 18 = .ok (.iload_n 3, 1) := by decide +kernel
theorem dL_law_19 : decode cL_law 19 = .ok (.aload_n 0, 1) := by decide +kernel
theorem dL_law_20 : decode cL_law 20 = .ok (.arraylength, 1) := by decide +kernel
theorem dL_law_21 : decode cL_law 21 = .ok (.bipush 7, 2) := by decide +kernel
theorem dL_law_23 : decode cL_law 23 = .ok (.isub, 1) := by decide +kernel
theorem dL_law_24 : decode cL_law 24 = .ok (.if_icmp .gt 925, 3) := by decide +kernel
theorem dL_law_27 : decode cL_law 27 = .ok (.aload_n 0, 1) := by decide +kernel
theorem dL_law_28 : decode cL_law 28 = .ok (.iload_n 3, 1) := by decide +kernel
theorem dL_law_29 : decode cL_law 29 = .ok (.iaload, 1) := by decide +kernel
theorem dL_law_30 : decode cL_law 30 = .ok (.bipush 31, 2) := by decide +kernel
theorem dL_law_32 : decode cL_law 32 = .ok (.iand, 1) := by decide +kernel
theorem dL_law_33 : decode cL_law 33 = .ok (.tableswitch 910 0 19 #[95, 210, 233, 256, 280, 304, 347, 390, 423, 466, 499, 542, 575, 618, 682, 745, 778, 841, 874, 887], 95) := by decide +kernel
theorem dL_law_128 : decode cL_law 128 = .ok (.aload_n 1, 1) := by decide +kernel
theorem dL_law_129 : decode cL_law 129 = .ok (.aload_n 0, 1) := by decide +kernel
theorem dL_law_130 : decode cL_law 130 = .ok (.iload_n 3, 1) := by decide +kernel
theorem dL_law_131 : decode cL_law 131 = .ok (.iconst 1, 1) := by decide +kernel
theorem dL_law_132 : decode cL_law 132 = .ok (.iadd, 1) := by decide +kernel
theorem dL_law_133 : decode cL_law 133 = .ok (.iaload, 1) := by decide +kernel
theorem dL_law_134 : decode cL_law 134 = .ok (.aload_n 0, 1) := by decide +kernel
theorem dL_law_135 : decode cL_law 135 = .ok (.iload_n 3, 1) := by decide +kernel
theorem dL_law_136 : decode cL_law 136 = .ok (.iconst 2, 1) := by decide +kernel
theorem dL_law_137 : decode cL_law 137 = .ok (.iadd, 1) := by decide +kernel
theorem dL_law_138 : decode cL_law 138 = .ok (.iaload, 1) := by decide +kernel
theorem dL_law_139 : decode cL_law 139 = .ok (.aload_n 0, 1) := by decide +kernel
theorem dL_law_140 : decode cL_law 140 = .ok (.iload_n 3, 1) := by decide +kernel
theorem dL_law_141 : decode cL_law 141 = .ok (.iconst 3, 1) := by decide +kernel
theorem dL_law_142 : decode cL_law 142 = .ok (.iadd, 1) := by decide +kernel
theorem dL_law_143 : decode cL_law 143 = .ok (.iaload, 1) := by decide +kernel
theorem dL_law_144 : decode cL_law 144 = .ok (.i2l, 1) := by decide +kernel
theorem dL_law_145 : decode cL_law 145 = .ok (.bipush 32, 2) := by decide +kernel
theorem dL_law_147 : decode cL_law 147 = .ok (.lshl, 1) := by decide +kernel
theorem dL_law_148 : decode cL_law 148 = .ok (.aload_n 0, 1) := by decide +kernel
theorem dL_law_149 : decode cL_law 149 = .ok (.iload_n 3, 1) := by decide +kernel
theorem dL_law_150 : decode cL_law 150 = .ok (.iconst 4, 1) := by decide +kernel
theorem dL_law_151 : decode cL_law 151 = .ok (.iadd, 1) := by decide +kernel
theorem dL_law_152 : decode cL_law 152 = .ok (.iaload, 1) := by decide +kernel
theorem dL_law_153 : decode cL_law 153 = .ok (.i2l, 1) := by decide +kernel
theorem dL_law_154 : decode cL_law 154 = .ok (.ldc2_w 13, 3) := by decide +kernel
theorem dL_law_157 : decode cL_law 157 = .ok (.land, 1) := by decide +kernel
theorem dL_law_158 : decode cL_law 158 = .ok (.lor, 1) := by decide +kernel
theorem dL_law_159 : decode cL_law 159 = .ok (.aload_n 0, 1) := by decide +kernel
theorem dL_law_160 : decode cL_law 160 = .ok (.iload_n 3, 1) := by decide +kernel
theorem dL_law_161 : decode cL_law 161 = .ok (.iconst 5, 1) := by decide +kernel
theorem dL_law_162 : decode cL_law 162 = .ok (.iadd, 1) := by decide +kernel
theorem dL_law_163 : decode cL_law 163 = .ok (.iaload, 1) := by decide +kernel
theorem dL_law_164 : decode cL_law 164 = .ok (.i2l, 1) := by decide +kernel
theorem dL_law_165 : decode cL_law 165 = .ok (.bipush 32, 2) := by decide +kernel
theorem dL_law_167 : decode cL_law 167 = .ok (.lshl, 1) := by decide +kernel
theorem dL_law_168 : decode cL_law 168 = .ok (.aload_n 0, 1) := by decide +kernel
theorem dL_law_169 : decode cL_law 169 = .ok (.iload_n 3, 1) := by decide +kernel
theorem dL_law_170 : decode cL_law 170 = .ok (.bipush 6, 2) := by decide +kernel
theorem dL_law_172 : decode cL_law 172 = .ok (.iadd, 1) := by decide +kernel
theorem dL_law_173 : decode cL_law 173 = .ok (.iaload, 1) := by decide +kernel
theorem dL_law_174 : decode cL_law 174 = .ok (.i2l, 1) := by decide +kernel
theorem dL_law_175 : decode cL_law 175 = .ok (.ldc2_w 13, 3) := by decide +kernel
theorem dL_law_178 : decode cL_law 178 = .ok (.land, 1) := by decide +kernel
theorem dL_law_179 : decode cL_law 179 = .ok (.lor, 1) := by decide +kernel
theorem dL_law_180 : decode cL_law 180 = .ok (.invokevirtual 15, 3) := by decide +kernel
theorem dL_law_183 : decode cL_law 183 = .ok (.aload_n 2, 1) := by decide +kernel
theorem dL_law_184 : decode cL_law 184 = .ok (.aload_n 0, 1) := by decide +kernel
theorem dL_law_185 : decode cL_law 185 = .ok (.iload_n 3, 1) := by decide +kernel
theorem dL_law_186 : decode cL_law 186 = .ok (.iconst 1, 1) := by decide +kernel
theorem dL_law_187 : decode cL_law 187 = .ok (.iadd, 1) := by decide +kernel
theorem dL_law_188 : decode cL_law 188 = .ok (.iaload, 1) := by decide +kernel
theorem dL_law_189 : decode cL_law 189 = .ok (.aload_n 0, 1) := by decide +kernel
theorem dL_law_190 : decode cL_law 190 = .ok (.iload_n 3, 1) := by decide +kernel
theorem dL_law_191 : decode cL_law 191 = .ok (.iconst 2, 1) := by decide +kernel
theorem dL_law_192 : decode cL_law 192 = .ok (.iadd, 1) := by decide +kernel
theorem dL_law_193 : decode cL_law 193 = .ok (.iaload, 1) := by decide +kernel
theorem dL_law_194 : decode cL_law 194 = .ok (.aload_n 0, 1) := by decide +kernel
theorem dL_law_195 : decode cL_law 195 = .ok (.iload_n 3, 1) := by decide +kernel
theorem dL_law_196 : decode cL_law 196 = .ok (.iconst 3, 1) := by decide +kernel
theorem dL_law_197 : decode cL_law 197 = .ok (.iadd, 1) := by decide +kernel
theorem dL_law_198 : decode cL_law 198 = .ok (.iaload, 1) := by decide +kernel
theorem dL_law_199 : decode cL_law 199 = .ok (.i2l, 1) := by decide +kernel
theorem dL_law_200 : decode cL_law 200 = .ok (.bipush 32, 2) := by decide +kernel
theorem dL_law_202 : decode cL_law 202 = .ok (.lshl, 1) := by decide +kernel
theorem dL_law_203 : decode cL_law 203 = .ok (.aload_n 0, 1) := by decide +kernel
theorem dL_law_204 : decode cL_law 204 = .ok (.iload_n 3, 1) := by decide +kernel
theorem dL_law_205 : decode cL_law 205 = .ok (.iconst 4, 1) := by decide +kernel
theorem dL_law_206 : decode cL_law 206 = .ok (.iadd, 1) := by decide +kernel
theorem dL_law_207 : decode cL_law 207 = .ok (.iaload, 1) := by decide +kernel
theorem dL_law_208 : decode cL_law 208 = .ok (.i2l, 1) := by decide +kernel
theorem dL_law_209 : decode cL_law 209 = .ok (.ldc2_w 13, 3) := by decide +kernel
theorem dL_law_212 : decode cL_law 212 = .ok (.land, 1) := by decide +kernel
theorem dL_law_213 : decode cL_law 213 = .ok (.lor, 1) := by decide +kernel
theorem dL_law_214 : decode cL_law 214 = .ok (.aload_n 0, 1) := by decide +kernel
theorem dL_law_215 : decode cL_law 215 = .ok (.iload_n 3, 1) := by decide +kernel
theorem dL_law_216 : decode cL_law 216 = .ok (.iconst 5, 1) := by decide +kernel
theorem dL_law_217 : decode cL_law 217 = .ok (.iadd, 1) := by decide +kernel
theorem dL_law_218 : decode cL_law 218 = .ok (.iaload, 1) := by decide +kernel
theorem dL_law_219 : decode cL_law 219 = .ok (.i2l, 1) := by decide +kernel
theorem dL_law_220 : decode cL_law 220 = .ok (.bipush 32, 2) := by decide +kernel
theorem dL_law_222 : decode cL_law 222 = .ok (.lshl, 1) := by decide +kernel
theorem dL_law_223 : decode cL_law 223 = .ok (.aload_n 0, 1) := by decide +kernel
theorem dL_law_224 : decode cL_law 224 = .ok (.iload_n 3, 1) := by decide +kernel
theorem dL_law_225 : decode cL_law 225 = .ok (.bipush 6, 2) := by decide +kernel
theorem dL_law_227 : decode cL_law 227 = .ok (.iadd, 1) := by decide +kernel
theorem dL_law_228 : decode cL_law 228 = .ok (.iaload, 1) := by decide +kernel
theorem dL_law_229 : decode cL_law 229 = .ok (.i2l, 1) := by decide +kernel
theorem dL_law_230 : decode cL_law 230 = .ok (.ldc2_w 13, 3) := by decide +kernel
theorem dL_law_233 : decode cL_law 233 = .ok (.land, 1) := by decide +kernel
theorem dL_law_234 : decode cL_law 234 = .ok (.lor, 1) := by decide +kernel
theorem dL_law_235 : decode cL_law 235 = .ok (.invokevirtual 19, 3) := by decide +kernel
theorem dL_law_238 : decode cL_law 238 = .ok (.if_icmp .eq 705, 3) := by decide +kernel
theorem dL_law_241 : decode cL_law 241 = .ok (.iconst 0, 1) := by decide +kernel
theorem dL_law_242 : decode cL_law 242 = .ok (.ireturn, 1) := by decide +kernel
theorem dL_law_243 : decode cL_law 243 = .ok (.aload_n 1, 1) := by decide +kernel
theorem dL_law_244 : decode cL_law 244 = .ok (.aload_n 0, 1) := by decide +kernel
theorem dL_law_245 : decode cL_law 245 = .ok (.iload_n 3, 1) := by decide +kernel
theorem dL_law_246 : decode cL_law 246 = .ok (.iconst 1, 1) := by decide +kernel
theorem dL_law_247 : decode cL_law 247 = .ok (.iadd, 1) := by decide +kernel
theorem dL_law_248 : decode cL_law 248 = .ok (.iaload, 1) := by decide +kernel
theorem dL_law_249 : decode cL_law 249 = .ok (.invokevirtual 20, 3) := by decide +kernel
theorem dL_law_252 : decode cL_law 252 = .ok (.aload_n 2, 1) := by decide +kernel
theorem dL_law_253 : decode cL_law 253 = .ok (.aload_n 0, 1) := by decide +kernel
theorem dL_law_254 : decode cL_law 254 = .ok (.iload_n 3, 1) := by decide +kernel
theorem dL_law_255 : decode cL_law 255 = .ok (.iconst 1, 1) := by decide +kernel
theorem dL_law_256 : decode cL_law 256 = .ok (.iadd, 1) := by decide +kernel
theorem dL_law_257 : decode cL_law 257 = .ok (.iaload, 1) := by decide +kernel
theorem dL_law_258 : decode cL_law 258 = .ok (.invokevirtual 24, 3) := by decide +kernel
theorem dL_law_261 : decode cL_law 261 = .ok (.if_icmp .eq 682, 3) := by decide +kernel
theorem dL_law_264 : decode cL_law 264 = .ok (.iconst 0, 1) := by decide +kernel
theorem dL_law_265 : decode cL_law 265 = .ok (.ireturn, 1) := by decide +kernel
theorem dL_law_266 : decode cL_law 266 = .ok (.aload_n 1, 1) := by decide +kernel
theorem dL_law_267 : decode cL_law 267 = .ok (.aload_n 0, 1) := by decide +kernel
theorem dL_law_268 : decode cL_law 268 = .ok (.iload_n 3, 1) := by decide +kernel
theorem dL_law_269 : decode cL_law 269 = .ok (.iconst 1, 1) := by decide +kernel
theorem dL_law_270 : decode cL_law 270 = .ok (.iadd, 1) := by decide +kernel
theorem dL_law_271 : decode cL_law 271 = .ok (.iaload, 1) := by decide +kernel
theorem dL_law_272 : decode cL_law 272 = .ok (.invokevirtual 25, 3) := by decide +kernel
theorem dL_law_275 : decode cL_law 275 = .ok (.aload_n 2, 1) := by decide +kernel
theorem dL_law_276 : decode cL_law 276 = .ok (.aload_n 0, 1) := by decide +kernel
theorem dL_law_277 : decode cL_law 277 = .ok (.iload_n 3, 1) := by decide +kernel
theorem dL_law_278 : decode cL_law 278 = .ok (.iconst 1, 1) := by decide +kernel
theorem dL_law_279 : decode cL_law 279 = .ok (.iadd, 1) := by decide +kernel
theorem dL_law_280 : decode cL_law 280 = .ok (.iaload, 1) := by decide +kernel
theorem dL_law_281 : decode cL_law 281 = .ok (.invokevirtual 28, 3) := by decide +kernel
theorem dL_law_284 : decode cL_law 284 = .ok (.if_icmp .eq 659, 3) := by decide +kernel
theorem dL_law_287 : decode cL_law 287 = .ok (.iconst 0, 1) := by decide +kernel
theorem dL_law_288 : decode cL_law 288 = .ok (.ireturn, 1) := by decide +kernel
theorem dL_law_289 : decode cL_law 289 = .ok (.aload_n 1, 1) := by decide +kernel
theorem dL_law_290 : decode cL_law 290 = .ok (.aload_n 0, 1) := by decide +kernel
theorem dL_law_291 : decode cL_law 291 = .ok (.iload_n 3, 1) := by decide +kernel
theorem dL_law_292 : decode cL_law 292 = .ok (.iconst 1, 1) := by decide +kernel
theorem dL_law_293 : decode cL_law 293 = .ok (.iadd, 1) := by decide +kernel
theorem dL_law_294 : decode cL_law 294 = .ok (.iaload, 1) := by decide +kernel
theorem dL_law_295 : decode cL_law 295 = .ok (.invokevirtual 29, 3) := by decide +kernel
theorem dL_law_298 : decode cL_law 298 = .ok (.aload_n 2, 1) := by decide +kernel
theorem dL_law_299 : decode cL_law 299 = .ok (.aload_n 0, 1) := by decide +kernel
theorem dL_law_300 : decode cL_law 300 = .ok (.iload_n 3, 1) := by decide +kernel
theorem dL_law_301 : decode cL_law 301 = .ok (.iconst 1, 1) := by decide +kernel
theorem dL_law_302 : decode cL_law 302 = .ok (.iadd, 1) := by decide +kernel
theorem dL_law_303 : decode cL_law 303 = .ok (.iaload, 1) := by decide +kernel
theorem dL_law_304 : decode cL_law 304 = .ok (.invokevirtual 33, 3) := by decide +kernel
theorem dL_law_307 : decode cL_law 307 = .ok (.lcmp, 1) := by decide +kernel
theorem dL_law_308 : decode cL_law 308 = .ok (.ifCond .eq 635, 3) := by decide +kernel
theorem dL_law_311 : decode cL_law 311 = .ok (.iconst 0, 1) := by decide +kernel
theorem dL_law_312 : decode cL_law 312 = .ok (.ireturn, 1) := by decide +kernel
theorem dL_law_313 : decode cL_law 313 = .ok (.aload_n 1, 1) := by decide +kernel
theorem dL_law_314 : decode cL_law 314 = .ok (.aload_n 0, 1) := by decide +kernel
theorem dL_law_315 : decode cL_law 315 = .ok (.iload_n 3, 1) := by decide +kernel
theorem dL_law_316 : decode cL_law 316 = .ok (.iconst 1, 1) := by decide +kernel
theorem dL_law_317 : decode cL_law 317 = .ok (.iadd, 1) := by decide +kernel
theorem dL_law_318 : decode cL_law 318 = .ok (.iaload, 1) := by decide +kernel
theorem dL_law_319 : decode cL_law 319 = .ok (.invokevirtual 34, 3) := by decide +kernel
theorem dL_law_322 : decode cL_law 322 = .ok (.aload_n 2, 1) := by decide +kernel
theorem dL_law_323 : decode cL_law 323 = .ok (.aload_n 0, 1) := by decide +kernel
theorem dL_law_324 : decode cL_law 324 = .ok (.iload_n 3, 1) := by decide +kernel
theorem dL_law_325 : decode cL_law 325 = .ok (.iconst 1, 1) := by decide +kernel
theorem dL_law_326 : decode cL_law 326 = .ok (.iadd, 1) := by decide +kernel
theorem dL_law_327 : decode cL_law 327 = .ok (.iaload, 1) := by decide +kernel
theorem dL_law_328 : decode cL_law 328 = .ok (.invokevirtual 37, 3) := by decide +kernel
theorem dL_law_331 : decode cL_law 331 = .ok (.lcmp, 1) := by decide +kernel
theorem dL_law_332 : decode cL_law 332 = .ok (.ifCond .eq 611, 3) := by decide +kernel
theorem dL_law_335 : decode cL_law 335 = .ok (.iconst 0, 1) := by decide +kernel
theorem dL_law_336 : decode cL_law 336 = .ok (.ireturn, 1) := by decide +kernel
theorem dL_law_337 : decode cL_law 337 = .ok (.aload_n 1, 1) := by decide +kernel
theorem dL_law_338 : decode cL_law 338 = .ok (.aload_n 0, 1) := by decide +kernel
theorem dL_law_339 : decode cL_law 339 = .ok (.iload_n 3, 1) := by decide +kernel
theorem dL_law_340 : decode cL_law 340 = .ok (.iconst 1, 1) := by decide +kernel
theorem dL_law_341 : decode cL_law 341 = .ok (.iadd, 1) := by decide +kernel
theorem dL_law_342 : decode cL_law 342 = .ok (.iaload, 1) := by decide +kernel
theorem dL_law_343 : decode cL_law 343 = .ok (.aload_n 0, 1) := by decide +kernel
theorem dL_law_344 : decode cL_law 344 = .ok (.iload_n 3, 1) := by decide +kernel
theorem dL_law_345 : decode cL_law 345 = .ok (.iconst 2, 1) := by decide +kernel
theorem dL_law_346 : decode cL_law 346 = .ok (.iadd, 1) := by decide +kernel
theorem dL_law_347 : decode cL_law 347 = .ok (.iaload, 1) := by decide +kernel
theorem dL_law_348 : decode cL_law 348 = .ok (.aload_n 0, 1) := by decide +kernel
theorem dL_law_349 : decode cL_law 349 = .ok (.iload_n 3, 1) := by decide +kernel
theorem dL_law_350 : decode cL_law 350 = .ok (.iconst 3, 1) := by decide +kernel
theorem dL_law_351 : decode cL_law 351 = .ok (.iadd, 1) := by decide +kernel
theorem dL_law_352 : decode cL_law 352 = .ok (.iaload, 1) := by decide +kernel
theorem dL_law_353 : decode cL_law 353 = .ok (.invokevirtual 38, 3) := by decide +kernel
theorem dL_law_356 : decode cL_law 356 = .ok (.aload_n 2, 1) := by decide +kernel
theorem dL_law_357 : decode cL_law 357 = .ok (.aload_n 0, 1) := by decide +kernel
theorem dL_law_358 : decode cL_law 358 = .ok (.iload_n 3, 1) := by decide +kernel
theorem dL_law_359 : decode cL_law 359 = .ok (.iconst 1, 1) := by decide +kernel
theorem dL_law_360 : decode cL_law 360 = .ok (.iadd, 1) := by decide +kernel
theorem dL_law_361 : decode cL_law 361 = .ok (.iaload, 1) := by decide +kernel
theorem dL_law_362 : decode cL_law 362 = .ok (.aload_n 0, 1) := by decide +kernel
theorem dL_law_363 : decode cL_law 363 = .ok (.iload_n 3, 1) := by decide +kernel
theorem dL_law_364 : decode cL_law 364 = .ok (.iconst 2, 1) := by decide +kernel
theorem dL_law_365 : decode cL_law 365 = .ok (.iadd, 1) := by decide +kernel
theorem dL_law_366 : decode cL_law 366 = .ok (.iaload, 1) := by decide +kernel
theorem dL_law_367 : decode cL_law 367 = .ok (.aload_n 0, 1) := by decide +kernel
theorem dL_law_368 : decode cL_law 368 = .ok (.iload_n 3, 1) := by decide +kernel
theorem dL_law_369 : decode cL_law 369 = .ok (.iconst 3, 1) := by decide +kernel
theorem dL_law_370 : decode cL_law 370 = .ok (.iadd, 1) := by decide +kernel
theorem dL_law_371 : decode cL_law 371 = .ok (.iaload, 1) := by decide +kernel
theorem dL_law_372 : decode cL_law 372 = .ok (.invokevirtual 42, 3) := by decide +kernel
theorem dL_law_375 : decode cL_law 375 = .ok (.if_icmp .eq 568, 3) := by decide +kernel
theorem dL_law_378 : decode cL_law 378 = .ok (.iconst 0, 1) := by decide +kernel
theorem dL_law_379 : decode cL_law 379 = .ok (.ireturn, 1) := by decide +kernel
theorem dL_law_380 : decode cL_law 380 = .ok (.aload_n 1, 1) := by decide +kernel
theorem dL_law_381 : decode cL_law 381 = .ok (.aload_n 0, 1) := by decide +kernel
theorem dL_law_382 : decode cL_law 382 = .ok (.iload_n 3, 1) := by decide +kernel
theorem dL_law_383 : decode cL_law 383 = .ok (.iconst 1, 1) := by decide +kernel
theorem dL_law_384 : decode cL_law 384 = .ok (.iadd, 1) := by decide +kernel
theorem dL_law_385 : decode cL_law 385 = .ok (.iaload, 1) := by decide +kernel
theorem dL_law_386 : decode cL_law 386 = .ok (.aload_n 0, 1) := by decide +kernel
theorem dL_law_387 : decode cL_law 387 = .ok (.iload_n 3, 1) := by decide +kernel
theorem dL_law_388 : decode cL_law 388 = .ok (.iconst 2, 1) := by decide +kernel
theorem dL_law_389 : decode cL_law 389 = .ok (.iadd, 1) := by decide +kernel
theorem dL_law_390 : decode cL_law 390 = .ok (.iaload, 1) := by decide +kernel
theorem dL_law_391 : decode cL_law 391 = .ok (.aload_n 0, 1) := by decide +kernel
theorem dL_law_392 : decode cL_law 392 = .ok (.iload_n 3, 1) := by decide +kernel
theorem dL_law_393 : decode cL_law 393 = .ok (.iconst 3, 1) := by decide +kernel
theorem dL_law_394 : decode cL_law 394 = .ok (.iadd, 1) := by decide +kernel
theorem dL_law_395 : decode cL_law 395 = .ok (.iaload, 1) := by decide +kernel
theorem dL_law_396 : decode cL_law 396 = .ok (.invokevirtual 43, 3) := by decide +kernel
theorem dL_law_399 : decode cL_law 399 = .ok (.aload_n 2, 1) := by decide +kernel
theorem dL_law_400 : decode cL_law 400 = .ok (.aload_n 0, 1) := by decide +kernel
theorem dL_law_401 : decode cL_law 401 = .ok (.iload_n 3, 1) := by decide +kernel
theorem dL_law_402 : decode cL_law 402 = .ok (.iconst 1, 1) := by decide +kernel
theorem dL_law_403 : decode cL_law 403 = .ok (.iadd, 1) := by decide +kernel
theorem dL_law_404 : decode cL_law 404 = .ok (.iaload, 1) := by decide +kernel
theorem dL_law_405 : decode cL_law 405 = .ok (.aload_n 0, 1) := by decide +kernel
theorem dL_law_406 : decode cL_law 406 = .ok (.iload_n 3, 1) := by decide +kernel
theorem dL_law_407 : decode cL_law 407 = .ok (.iconst 2, 1) := by decide +kernel
theorem dL_law_408 : decode cL_law 408 = .ok (.iadd, 1) := by decide +kernel
theorem dL_law_409 : decode cL_law 409 = .ok (.iaload, 1) := by decide +kernel
theorem dL_law_410 : decode cL_law 410 = .ok (.aload_n 0, 1) := by decide +kernel
theorem dL_law_411 : decode cL_law 411 = .ok (.iload_n 3, 1) := by decide +kernel
theorem dL_law_412 : decode cL_law 412 = .ok (.iconst 3, 1) := by decide +kernel
theorem dL_law_413 : decode cL_law 413 = .ok (.iadd, 1) := by decide +kernel
theorem dL_law_414 : decode cL_law 414 = .ok (.iaload, 1) := by decide +kernel
theorem dL_law_415 : decode cL_law 415 = .ok (.invokevirtual 46, 3) := by decide +kernel
theorem dL_law_418 : decode cL_law 418 = .ok (.if_icmp .eq 525, 3) := by decide +kernel
theorem dL_law_421 : decode cL_law 421 = .ok (.iconst 0, 1) := by decide +kernel
theorem dL_law_422 : decode cL_law 422 = .ok (.ireturn, 1) := by decide +kernel
theorem dL_law_423 : decode cL_law 423 = .ok (.aload_n 1, 1) := by decide +kernel
theorem dL_law_424 : decode cL_law 424 = .ok (.aload_n 0, 1) := by decide +kernel
theorem dL_law_425 : decode cL_law 425 = .ok (.iload_n 3, 1) := by decide +kernel
theorem dL_law_426 : decode cL_law 426 = .ok (.iconst 1, 1) := by decide +kernel
theorem dL_law_427 : decode cL_law 427 = .ok (.iadd, 1) := by decide +kernel
theorem dL_law_428 : decode cL_law 428 = .ok (.iaload, 1) := by decide +kernel
theorem dL_law_429 : decode cL_law 429 = .ok (.aload_n 0, 1) := by decide +kernel
theorem dL_law_430 : decode cL_law 430 = .ok (.iload_n 3, 1) := by decide +kernel
theorem dL_law_431 : decode cL_law 431 = .ok (.iconst 2, 1) := by decide +kernel
theorem dL_law_432 : decode cL_law 432 = .ok (.iadd, 1) := by decide +kernel
theorem dL_law_433 : decode cL_law 433 = .ok (.iaload, 1) := by decide +kernel
theorem dL_law_434 : decode cL_law 434 = .ok (.invokevirtual 47, 3) := by decide +kernel
theorem dL_law_437 : decode cL_law 437 = .ok (.aload_n 2, 1) := by decide +kernel
theorem dL_law_438 : decode cL_law 438 = .ok (.aload_n 0, 1) := by decide +kernel
theorem dL_law_439 : decode cL_law 439 = .ok (.iload_n 3, 1) := by decide +kernel
theorem dL_law_440 : decode cL_law 440 = .ok (.iconst 1, 1) := by decide +kernel
theorem dL_law_441 : decode cL_law 441 = .ok (.iadd, 1) := by decide +kernel
theorem dL_law_442 : decode cL_law 442 = .ok (.iaload, 1) := by decide +kernel
theorem dL_law_443 : decode cL_law 443 = .ok (.aload_n 0, 1) := by decide +kernel
theorem dL_law_444 : decode cL_law 444 = .ok (.iload_n 3, 1) := by decide +kernel
theorem dL_law_445 : decode cL_law 445 = .ok (.iconst 2, 1) := by decide +kernel
theorem dL_law_446 : decode cL_law 446 = .ok (.iadd, 1) := by decide +kernel
theorem dL_law_447 : decode cL_law 447 = .ok (.iaload, 1) := by decide +kernel
theorem dL_law_448 : decode cL_law 448 = .ok (.invokevirtual 51, 3) := by decide +kernel
theorem dL_law_451 : decode cL_law 451 = .ok (.if_icmp .eq 492, 3) := by decide +kernel
theorem dL_law_454 : decode cL_law 454 = .ok (.iconst 0, 1) := by decide +kernel
theorem dL_law_455 : decode cL_law 455 = .ok (.ireturn, 1) := by decide +kernel
theorem dL_law_456 : decode cL_law 456 = .ok (.aload_n 1, 1) := by decide +kernel
theorem dL_law_457 : decode cL_law 457 = .ok (.aload_n 0, 1) := by decide +kernel
theorem dL_law_458 : decode cL_law 458 = .ok (.iload_n 3, 1) := by decide +kernel
theorem dL_law_459 : decode cL_law 459 = .ok (.iconst 1, 1) := by decide +kernel
theorem dL_law_460 : decode cL_law 460 = .ok (.iadd, 1) := by decide +kernel
theorem dL_law_461 : decode cL_law 461 = .ok (.iaload, 1) := by decide +kernel
theorem dL_law_462 : decode cL_law 462 = .ok (.aload_n 0, 1) := by decide +kernel
theorem dL_law_463 : decode cL_law 463 = .ok (.iload_n 3, 1) := by decide +kernel
theorem dL_law_464 : decode cL_law 464 = .ok (.iconst 2, 1) := by decide +kernel
theorem dL_law_465 : decode cL_law 465 = .ok (.iadd, 1) := by decide +kernel
theorem dL_law_466 : decode cL_law 466 = .ok (.iaload, 1) := by decide +kernel
theorem dL_law_467 : decode cL_law 467 = .ok (.aload_n 0, 1) := by decide +kernel
theorem dL_law_468 : decode cL_law 468 = .ok (.iload_n 3, 1) := by decide +kernel
theorem dL_law_469 : decode cL_law 469 = .ok (.iconst 3, 1) := by decide +kernel
theorem dL_law_470 : decode cL_law 470 = .ok (.iadd, 1) := by decide +kernel
theorem dL_law_471 : decode cL_law 471 = .ok (.iaload, 1) := by decide +kernel
theorem dL_law_472 : decode cL_law 472 = .ok (.invokevirtual 52, 3) := by decide +kernel
theorem dL_law_475 : decode cL_law 475 = .ok (.aload_n 2, 1) := by decide +kernel
theorem dL_law_476 : decode cL_law 476 = .ok (.aload_n 0, 1) := by decide +kernel
theorem dL_law_477 : decode cL_law 477 = .ok (.iload_n 3, 1) := by decide +kernel
theorem dL_law_478 : decode cL_law 478 = .ok (.iconst 1, 1) := by decide +kernel
theorem dL_law_479 : decode cL_law 479 = .ok (.iadd, 1) := by decide +kernel
theorem dL_law_480 : decode cL_law 480 = .ok (.iaload, 1) := by decide +kernel
theorem dL_law_481 : decode cL_law 481 = .ok (.aload_n 0, 1) := by decide +kernel
theorem dL_law_482 : decode cL_law 482 = .ok (.iload_n 3, 1) := by decide +kernel
theorem dL_law_483 : decode cL_law 483 = .ok (.iconst 2, 1) := by decide +kernel
theorem dL_law_484 : decode cL_law 484 = .ok (.iadd, 1) := by decide +kernel
theorem dL_law_485 : decode cL_law 485 = .ok (.iaload, 1) := by decide +kernel
theorem dL_law_486 : decode cL_law 486 = .ok (.aload_n 0, 1) := by decide +kernel
theorem dL_law_487 : decode cL_law 487 = .ok (.iload_n 3, 1) := by decide +kernel
theorem dL_law_488 : decode cL_law 488 = .ok (.iconst 3, 1) := by decide +kernel
theorem dL_law_489 : decode cL_law 489 = .ok (.iadd, 1) := by decide +kernel
theorem dL_law_490 : decode cL_law 490 = .ok (.iaload, 1) := by decide +kernel
theorem dL_law_491 : decode cL_law 491 = .ok (.invokevirtual 55, 3) := by decide +kernel
theorem dL_law_494 : decode cL_law 494 = .ok (.if_icmp .eq 449, 3) := by decide +kernel
theorem dL_law_497 : decode cL_law 497 = .ok (.iconst 0, 1) := by decide +kernel
theorem dL_law_498 : decode cL_law 498 = .ok (.ireturn, 1) := by decide +kernel
theorem dL_law_499 : decode cL_law 499 = .ok (.aload_n 1, 1) := by decide +kernel
theorem dL_law_500 : decode cL_law 500 = .ok (.aload_n 0, 1) := by decide +kernel
theorem dL_law_501 : decode cL_law 501 = .ok (.iload_n 3, 1) := by decide +kernel
theorem dL_law_502 : decode cL_law 502 = .ok (.iconst 1, 1) := by decide +kernel
theorem dL_law_503 : decode cL_law 503 = .ok (.iadd, 1) := by decide +kernel
theorem dL_law_504 : decode cL_law 504 = .ok (.iaload, 1) := by decide +kernel
theorem dL_law_505 : decode cL_law 505 = .ok (.aload_n 0, 1) := by decide +kernel
theorem dL_law_506 : decode cL_law 506 = .ok (.iload_n 3, 1) := by decide +kernel
theorem dL_law_507 : decode cL_law 507 = .ok (.iconst 2, 1) := by decide +kernel
theorem dL_law_508 : decode cL_law 508 = .ok (.iadd, 1) := by decide +kernel
theorem dL_law_509 : decode cL_law 509 = .ok (.iaload, 1) := by decide +kernel
theorem dL_law_510 : decode cL_law 510 = .ok (.invokevirtual 56, 3) := by decide +kernel
theorem dL_law_513 : decode cL_law 513 = .ok (.aload_n 2, 1) := by decide +kernel
theorem dL_law_514 : decode cL_law 514 = .ok (.aload_n 0, 1) := by decide +kernel
theorem dL_law_515 : decode cL_law 515 = .ok (.iload_n 3, 1) := by decide +kernel
theorem dL_law_516 : decode cL_law 516 = .ok (.iconst 1, 1) := by decide +kernel
theorem dL_law_517 : decode cL_law 517 = .ok (.iadd, 1) := by decide +kernel
theorem dL_law_518 : decode cL_law 518 = .ok (.iaload, 1) := by decide +kernel
theorem dL_law_519 : decode cL_law 519 = .ok (.aload_n 0, 1) := by decide +kernel
theorem dL_law_520 : decode cL_law 520 = .ok (.iload_n 3, 1) := by decide +kernel
theorem dL_law_521 : decode cL_law 521 = .ok (.iconst 2, 1) := by decide +kernel
theorem dL_law_522 : decode cL_law 522 = .ok (.iadd, 1) := by decide +kernel
theorem dL_law_523 : decode cL_law 523 = .ok (.iaload, 1) := by decide +kernel
theorem dL_law_524 : decode cL_law 524 = .ok (.invokevirtual 59, 3) := by decide +kernel
theorem dL_law_527 : decode cL_law 527 = .ok (.if_icmp .eq 416, 3) := by decide +kernel
theorem dL_law_530 : decode cL_law 530 = .ok (.iconst 0, 1) := by decide +kernel
theorem dL_law_531 : decode cL_law 531 = .ok (.ireturn, 1) := by decide +kernel
theorem dL_law_532 : decode cL_law 532 = .ok (.aload_n 1, 1) := by decide +kernel
theorem dL_law_533 : decode cL_law 533 = .ok (.aload_n 0, 1) := by decide +kernel
theorem dL_law_534 : decode cL_law 534 = .ok (.iload_n 3, 1) := by decide +kernel
theorem dL_law_535 : decode cL_law 535 = .ok (.iconst 1, 1) := by decide +kernel
theorem dL_law_536 : decode cL_law 536 = .ok (.iadd, 1) := by decide +kernel
theorem dL_law_537 : decode cL_law 537 = .ok (.iaload, 1) := by decide +kernel
theorem dL_law_538 : decode cL_law 538 = .ok (.aload_n 0, 1) := by decide +kernel
theorem dL_law_539 : decode cL_law 539 = .ok (.iload_n 3, 1) := by decide +kernel
theorem dL_law_540 : decode cL_law 540 = .ok (.iconst 2, 1) := by decide +kernel
theorem dL_law_541 : decode cL_law 541 = .ok (.iadd, 1) := by decide +kernel
theorem dL_law_542 : decode cL_law 542 = .ok (.iaload, 1) := by decide +kernel
theorem dL_law_543 : decode cL_law 543 = .ok (.aload_n 0, 1) := by decide +kernel
theorem dL_law_544 : decode cL_law 544 = .ok (.iload_n 3, 1) := by decide +kernel
theorem dL_law_545 : decode cL_law 545 = .ok (.iconst 3, 1) := by decide +kernel
theorem dL_law_546 : decode cL_law 546 = .ok (.iadd, 1) := by decide +kernel
theorem dL_law_547 : decode cL_law 547 = .ok (.iaload, 1) := by decide +kernel
theorem dL_law_548 : decode cL_law 548 = .ok (.invokevirtual 60, 3) := by decide +kernel
theorem dL_law_551 : decode cL_law 551 = .ok (.aload_n 2, 1) := by decide +kernel
theorem dL_law_552 : decode cL_law 552 = .ok (.aload_n 0, 1) := by decide +kernel
theorem dL_law_553 : decode cL_law 553 = .ok (.iload_n 3, 1) := by decide +kernel
theorem dL_law_554 : decode cL_law 554 = .ok (.iconst 1, 1) := by decide +kernel
theorem dL_law_555 : decode cL_law 555 = .ok (.iadd, 1) := by decide +kernel
theorem dL_law_556 : decode cL_law 556 = .ok (.iaload, 1) := by decide +kernel
theorem dL_law_557 : decode cL_law 557 = .ok (.aload_n 0, 1) := by decide +kernel
theorem dL_law_558 : decode cL_law 558 = .ok (.iload_n 3, 1) := by decide +kernel
theorem dL_law_559 : decode cL_law 559 = .ok (.iconst 2, 1) := by decide +kernel
theorem dL_law_560 : decode cL_law 560 = .ok (.iadd, 1) := by decide +kernel
theorem dL_law_561 : decode cL_law 561 = .ok (.iaload, 1) := by decide +kernel
theorem dL_law_562 : decode cL_law 562 = .ok (.aload_n 0, 1) := by decide +kernel
theorem dL_law_563 : decode cL_law 563 = .ok (.iload_n 3, 1) := by decide +kernel
theorem dL_law_564 : decode cL_law 564 = .ok (.iconst 3, 1) := by decide +kernel
theorem dL_law_565 : decode cL_law 565 = .ok (.iadd, 1) := by decide +kernel
theorem dL_law_566 : decode cL_law 566 = .ok (.iaload, 1) := by decide +kernel
theorem dL_law_567 : decode cL_law 567 = .ok (.invokevirtual 63, 3) := by decide +kernel
theorem dL_law_570 : decode cL_law 570 = .ok (.if_icmp .eq 373, 3) := by decide +kernel
theorem dL_law_573 : decode cL_law 573 = .ok (.iconst 0, 1) := by decide +kernel
theorem dL_law_574 : decode cL_law 574 = .ok (.ireturn, 1) := by decide +kernel
theorem dL_law_575 : decode cL_law 575 = .ok (.aload_n 1, 1) := by decide +kernel
theorem dL_law_576 : decode cL_law 576 = .ok (.aload_n 0, 1) := by decide +kernel
theorem dL_law_577 : decode cL_law 577 = .ok (.iload_n 3, 1) := by decide +kernel
theorem dL_law_578 : decode cL_law 578 = .ok (.iconst 1, 1) := by decide +kernel
theorem dL_law_579 : decode cL_law 579 = .ok (.iadd, 1) := by decide +kernel
theorem dL_law_580 : decode cL_law 580 = .ok (.iaload, 1) := by decide +kernel
theorem dL_law_581 : decode cL_law 581 = .ok (.aload_n 0, 1) := by decide +kernel
theorem dL_law_582 : decode cL_law 582 = .ok (.iload_n 3, 1) := by decide +kernel
theorem dL_law_583 : decode cL_law 583 = .ok (.iconst 2, 1) := by decide +kernel
theorem dL_law_584 : decode cL_law 584 = .ok (.iadd, 1) := by decide +kernel
theorem dL_law_585 : decode cL_law 585 = .ok (.iaload, 1) := by decide +kernel
theorem dL_law_586 : decode cL_law 586 = .ok (.invokevirtual 64, 3) := by decide +kernel
theorem dL_law_589 : decode cL_law 589 = .ok (.aload_n 2, 1) := by decide +kernel
theorem dL_law_590 : decode cL_law 590 = .ok (.aload_n 0, 1) := by decide +kernel
theorem dL_law_591 : decode cL_law 591 = .ok (.iload_n 3, 1) := by decide +kernel
theorem dL_law_592 : decode cL_law 592 = .ok (.iconst 1, 1) := by decide +kernel
theorem dL_law_593 : decode cL_law 593 = .ok (.iadd, 1) := by decide +kernel
theorem dL_law_594 : decode cL_law 594 = .ok (.iaload, 1) := by decide +kernel
theorem dL_law_595 : decode cL_law 595 = .ok (.aload_n 0, 1) := by decide +kernel
theorem dL_law_596 : decode cL_law 596 = .ok (.iload_n 3, 1) := by decide +kernel
theorem dL_law_597 : decode cL_law 597 = .ok (.iconst 2, 1) := by decide +kernel
theorem dL_law_598 : decode cL_law 598 = .ok (.iadd, 1) := by decide +kernel
theorem dL_law_599 : decode cL_law 599 = .ok (.iaload, 1) := by decide +kernel
theorem dL_law_600 : decode cL_law 600 = .ok (.invokevirtual 67, 3) := by decide +kernel
theorem dL_law_603 : decode cL_law 603 = .ok (.if_icmp .eq 340, 3) := by decide +kernel
theorem dL_law_606 : decode cL_law 606 = .ok (.iconst 0, 1) := by decide +kernel
theorem dL_law_607 : decode cL_law 607 = .ok (.ireturn, 1) := by decide +kernel
theorem dL_law_608 : decode cL_law 608 = .ok (.aload_n 1, 1) := by decide +kernel
theorem dL_law_609 : decode cL_law 609 = .ok (.aload_n 0, 1) := by decide +kernel
theorem dL_law_610 : decode cL_law 610 = .ok (.iload_n 3, 1) := by decide +kernel
theorem dL_law_611 : decode cL_law 611 = .ok (.iconst 1, 1) := by decide +kernel
theorem dL_law_612 : decode cL_law 612 = .ok (.iadd, 1) := by decide +kernel
theorem dL_law_613 : decode cL_law 613 = .ok (.iaload, 1) := by decide +kernel
theorem dL_law_614 : decode cL_law 614 = .ok (.aload_n 0, 1) := by decide +kernel
theorem dL_law_615 : decode cL_law 615 = .ok (.iload_n 3, 1) := by decide +kernel
theorem dL_law_616 : decode cL_law 616 = .ok (.iconst 2, 1) := by decide +kernel
theorem dL_law_617 : decode cL_law 617 = .ok (.iadd, 1) := by decide +kernel
theorem dL_law_618 : decode cL_law 618 = .ok (.iaload, 1) := by decide +kernel
theorem dL_law_619 : decode cL_law 619 = .ok (.aload_n 0, 1) := by decide +kernel
theorem dL_law_620 : decode cL_law 620 = .ok (.iload_n 3, 1) := by decide +kernel
theorem dL_law_621 : decode cL_law 621 = .ok (.iconst 3, 1) := by decide +kernel
theorem dL_law_622 : decode cL_law 622 = .ok (.iadd, 1) := by decide +kernel
theorem dL_law_623 : decode cL_law 623 = .ok (.iaload, 1) := by decide +kernel
theorem dL_law_624 : decode cL_law 624 = .ok (.invokevirtual 68, 3) := by decide +kernel
theorem dL_law_627 : decode cL_law 627 = .ok (.aload_n 2, 1) := by decide +kernel
theorem dL_law_628 : decode cL_law 628 = .ok (.aload_n 0, 1) := by decide +kernel
theorem dL_law_629 : decode cL_law 629 = .ok (.iload_n 3, 1) := by decide +kernel
theorem dL_law_630 : decode cL_law 630 = .ok (.iconst 1, 1) := by decide +kernel
theorem dL_law_631 : decode cL_law 631 = .ok (.iadd, 1) := by decide +kernel
theorem dL_law_632 : decode cL_law 632 = .ok (.iaload, 1) := by decide +kernel
theorem dL_law_633 : decode cL_law 633 = .ok (.aload_n 0, 1) := by decide +kernel
theorem dL_law_634 : decode cL_law 634 = .ok (.iload_n 3, 1) := by decide +kernel
theorem dL_law_635 : decode cL_law 635 = .ok (.iconst 2, 1) := by decide +kernel
theorem dL_law_636 : decode cL_law 636 = .ok (.iadd, 1) := by decide +kernel
theorem dL_law_637 : decode cL_law 637 = .ok (.iaload, 1) := by decide +kernel
theorem dL_law_638 : decode cL_law 638 = .ok (.aload_n 0, 1) := by decide +kernel
theorem dL_law_639 : decode cL_law 639 = .ok (.iload_n 3, 1) := by decide +kernel
theorem dL_law_640 : decode cL_law 640 = .ok (.iconst 3, 1) := by decide +kernel
theorem dL_law_641 : decode cL_law 641 = .ok (.iadd, 1) := by decide +kernel
theorem dL_law_642 : decode cL_law 642 = .ok (.iaload, 1) := by decide +kernel
theorem dL_law_643 : decode cL_law 643 = .ok (.invokevirtual 71, 3) := by decide +kernel
theorem dL_law_646 : decode cL_law 646 = .ok (.if_icmp .eq 297, 3) := by decide +kernel
theorem dL_law_649 : decode cL_law 649 = .ok (.iconst 0, 1) := by decide +kernel
theorem dL_law_650 : decode cL_law 650 = .ok (.ireturn, 1) := by decide +kernel
theorem dL_law_651 : decode cL_law 651 = .ok (.aload_n 1, 1) := by decide +kernel
theorem dL_law_652 : decode cL_law 652 = .ok (.aload_n 0, 1) := by decide +kernel
theorem dL_law_653 : decode cL_law 653 = .ok (.iload_n 3, 1) := by decide +kernel
theorem dL_law_654 : decode cL_law 654 = .ok (.iconst 1, 1) := by decide +kernel
theorem dL_law_655 : decode cL_law 655 = .ok (.iadd, 1) := by decide +kernel
theorem dL_law_656 : decode cL_law 656 = .ok (.iaload, 1) := by decide +kernel
theorem dL_law_657 : decode cL_law 657 = .ok (.aload_n 0, 1) := by decide +kernel
theorem dL_law_658 : decode cL_law 658 = .ok (.iload_n 3, 1) := by decide +kernel
theorem dL_law_659 : decode cL_law 659 = .ok (.iconst 2, 1) := by decide +kernel
theorem dL_law_660 : decode cL_law 660 = .ok (.iadd, 1) := by decide +kernel
theorem dL_law_661 : decode cL_law 661 = .ok (.iaload, 1) := by decide +kernel
theorem dL_law_662 : decode cL_law 662 = .ok (.i2l, 1) := by decide +kernel
theorem dL_law_663 : decode cL_law 663 = .ok (.bipush 32, 2) := by decide +kernel
theorem dL_law_665 : decode cL_law 665 = .ok (.lshl, 1) := by decide +kernel
theorem dL_law_666 : decode cL_law 666 = .ok (.aload_n 0, 1) := by decide +kernel
theorem dL_law_667 : decode cL_law 667 = .ok (.iload_n 3, 1) := by decide +kernel
theorem dL_law_668 : decode cL_law 668 = .ok (.iconst 3, 1) := by decide +kernel
theorem dL_law_669 : decode cL_law 669 = .ok (.iadd, 1) := by decide +kernel
theorem dL_law_670 : decode cL_law 670 = .ok (.iaload, 1) := by decide +kernel
theorem dL_law_671 : decode cL_law 671 = .ok (.i2l, 1) := by decide +kernel
theorem dL_law_672 : decode cL_law 672 = .ok (.ldc2_w 13, 3) := by decide +kernel
theorem dL_law_675 : decode cL_law 675 = .ok (.land, 1) := by decide +kernel
theorem dL_law_676 : decode cL_law 676 = .ok (.lor, 1) := by decide +kernel
theorem dL_law_677 : decode cL_law 677 = .ok (.invokevirtual 72, 3) := by decide +kernel
theorem dL_law_680 : decode cL_law 680 = .ok (.aload_n 2, 1) := by decide +kernel
theorem dL_law_681 : decode cL_law 681 = .ok (.aload_n 0, 1) := by decide +kernel
theorem dL_law_682 : decode cL_law 682 = .ok (.iload_n 3, 1) := by decide +kernel
theorem dL_law_683 : decode cL_law 683 = .ok (.iconst 1, 1) := by decide +kernel
theorem dL_law_684 : decode cL_law 684 = .ok (.iadd, 1) := by decide +kernel
theorem dL_law_685 : decode cL_law 685 = .ok (.iaload, 1) := by decide +kernel
theorem dL_law_686 : decode cL_law 686 = .ok (.aload_n 0, 1) := by decide +kernel
theorem dL_law_687 : decode cL_law 687 = .ok (.iload_n 3, 1) := by decide +kernel
theorem dL_law_688 : decode cL_law 688 = .ok (.iconst 2, 1) := by decide +kernel
theorem dL_law_689 : decode cL_law 689 = .ok (.iadd, 1) := by decide +kernel
theorem dL_law_690 : decode cL_law 690 = .ok (.iaload, 1) := by decide +kernel
theorem dL_law_691 : decode cL_law 691 = .ok (.i2l, 1) := by decide +kernel
theorem dL_law_692 : decode cL_law 692 = .ok (.bipush 32, 2) := by decide +kernel
theorem dL_law_694 : decode cL_law 694 = .ok (.lshl, 1) := by decide +kernel
theorem dL_law_695 : decode cL_law 695 = .ok (.aload_n 0, 1) := by decide +kernel
theorem dL_law_696 : decode cL_law 696 = .ok (.iload_n 3, 1) := by decide +kernel
theorem dL_law_697 : decode cL_law 697 = .ok (.iconst 3, 1) := by decide +kernel
theorem dL_law_698 : decode cL_law 698 = .ok (.iadd, 1) := by decide +kernel
theorem dL_law_699 : decode cL_law 699 = .ok (.iaload, 1) := by decide +kernel
theorem dL_law_700 : decode cL_law 700 = .ok (.i2l, 1) := by decide +kernel
theorem dL_law_701 : decode cL_law 701 = .ok (.ldc2_w 13, 3) := by decide +kernel
theorem dL_law_704 : decode cL_law 704 = .ok (.land, 1) := by decide +kernel
theorem dL_law_705 : decode cL_law 705 = .ok (.lor, 1) := by decide +kernel
theorem dL_law_706 : decode cL_law 706 = .ok (.invokevirtual 76, 3) := by decide +kernel
theorem dL_law_709 : decode cL_law 709 = .ok (.lcmp, 1) := by decide +kernel
theorem dL_law_710 : decode cL_law 710 = .ok (.ifCond .eq 233, 3) := by decide +kernel
theorem dL_law_713 : decode cL_law 713 = .ok (.iconst 0, 1) := by decide +kernel
theorem dL_law_714 : decode cL_law 714 = .ok (.ireturn, 1) := by decide +kernel
theorem dL_law_715 : decode cL_law 715 = .ok (.aload_n 1, 1) := by decide +kernel
theorem dL_law_716 : decode cL_law 716 = .ok (.aload_n 0, 1) := by decide +kernel
theorem dL_law_717 : decode cL_law 717 = .ok (.iload_n 3, 1) := by decide +kernel
theorem dL_law_718 : decode cL_law 718 = .ok (.iconst 1, 1) := by decide +kernel
theorem dL_law_719 : decode cL_law 719 = .ok (.iadd, 1) := by decide +kernel
theorem dL_law_720 : decode cL_law 720 = .ok (.iaload, 1) := by decide +kernel
theorem dL_law_721 : decode cL_law 721 = .ok (.aload_n 0, 1) := by decide +kernel
theorem dL_law_722 : decode cL_law 722 = .ok (.iload_n 3, 1) := by decide +kernel
theorem dL_law_723 : decode cL_law 723 = .ok (.iconst 2, 1) := by decide +kernel
theorem dL_law_724 : decode cL_law 724 = .ok (.iadd, 1) := by decide +kernel
theorem dL_law_725 : decode cL_law 725 = .ok (.iaload, 1) := by decide +kernel
theorem dL_law_726 : decode cL_law 726 = .ok (.i2l, 1) := by decide +kernel
theorem dL_law_727 : decode cL_law 727 = .ok (.bipush 32, 2) := by decide +kernel
theorem dL_law_729 : decode cL_law 729 = .ok (.lshl, 1) := by decide +kernel
theorem dL_law_730 : decode cL_law 730 = .ok (.aload_n 0, 1) := by decide +kernel
theorem dL_law_731 : decode cL_law 731 = .ok (.iload_n 3, 1) := by decide +kernel
theorem dL_law_732 : decode cL_law 732 = .ok (.iconst 3, 1) := by decide +kernel
theorem dL_law_733 : decode cL_law 733 = .ok (.iadd, 1) := by decide +kernel
theorem dL_law_734 : decode cL_law 734 = .ok (.iaload, 1) := by decide +kernel
theorem dL_law_735 : decode cL_law 735 = .ok (.i2l, 1) := by decide +kernel
theorem dL_law_736 : decode cL_law 736 = .ok (.ldc2_w 13, 3) := by decide +kernel
theorem dL_law_739 : decode cL_law 739 = .ok (.land, 1) := by decide +kernel
theorem dL_law_740 : decode cL_law 740 = .ok (.lor, 1) := by decide +kernel
theorem dL_law_741 : decode cL_law 741 = .ok (.invokevirtual 77, 3) := by decide +kernel
theorem dL_law_744 : decode cL_law 744 = .ok (.aload_n 2, 1) := by decide +kernel
theorem dL_law_745 : decode cL_law 745 = .ok (.aload_n 0, 1) := by decide +kernel
theorem dL_law_746 : decode cL_law 746 = .ok (.iload_n 3, 1) := by decide +kernel
theorem dL_law_747 : decode cL_law 747 = .ok (.iconst 1, 1) := by decide +kernel
theorem dL_law_748 : decode cL_law 748 = .ok (.iadd, 1) := by decide +kernel
theorem dL_law_749 : decode cL_law 749 = .ok (.iaload, 1) := by decide +kernel
theorem dL_law_750 : decode cL_law 750 = .ok (.aload_n 0, 1) := by decide +kernel
theorem dL_law_751 : decode cL_law 751 = .ok (.iload_n 3, 1) := by decide +kernel
theorem dL_law_752 : decode cL_law 752 = .ok (.iconst 2, 1) := by decide +kernel
theorem dL_law_753 : decode cL_law 753 = .ok (.iadd, 1) := by decide +kernel
theorem dL_law_754 : decode cL_law 754 = .ok (.iaload, 1) := by decide +kernel
theorem dL_law_755 : decode cL_law 755 = .ok (.i2l, 1) := by decide +kernel
theorem dL_law_756 : decode cL_law 756 = .ok (.bipush 32, 2) := by decide +kernel
theorem dL_law_758 : decode cL_law 758 = .ok (.lshl, 1) := by decide +kernel
theorem dL_law_759 : decode cL_law 759 = .ok (.aload_n 0, 1) := by decide +kernel
theorem dL_law_760 : decode cL_law 760 = .ok (.iload_n 3, 1) := by decide +kernel
theorem dL_law_761 : decode cL_law 761 = .ok (.iconst 3, 1) := by decide +kernel
theorem dL_law_762 : decode cL_law 762 = .ok (.iadd, 1) := by decide +kernel
theorem dL_law_763 : decode cL_law 763 = .ok (.iaload, 1) := by decide +kernel
theorem dL_law_764 : decode cL_law 764 = .ok (.i2l, 1) := by decide +kernel
theorem dL_law_765 : decode cL_law 765 = .ok (.ldc2_w 13, 3) := by decide +kernel
theorem dL_law_768 : decode cL_law 768 = .ok (.land, 1) := by decide +kernel
theorem dL_law_769 : decode cL_law 769 = .ok (.lor, 1) := by decide +kernel
theorem dL_law_770 : decode cL_law 770 = .ok (.invokevirtual 81, 3) := by decide +kernel
theorem dL_law_773 : decode cL_law 773 = .ok (.if_icmp .eq 170, 3) := by decide +kernel
theorem dL_law_776 : decode cL_law 776 = .ok (.iconst 0, 1) := by decide +kernel
theorem dL_law_777 : decode cL_law 777 = .ok (.ireturn, 1) := by decide +kernel
theorem dL_law_778 : decode cL_law 778 = .ok (.aload_n 1, 1) := by decide +kernel
theorem dL_law_779 : decode cL_law 779 = .ok (.aload_n 0, 1) := by decide +kernel
theorem dL_law_780 : decode cL_law 780 = .ok (.iload_n 3, 1) := by decide +kernel
theorem dL_law_781 : decode cL_law 781 = .ok (.iconst 1, 1) := by decide +kernel
theorem dL_law_782 : decode cL_law 782 = .ok (.iadd, 1) := by decide +kernel
theorem dL_law_783 : decode cL_law 783 = .ok (.iaload, 1) := by decide +kernel
theorem dL_law_784 : decode cL_law 784 = .ok (.aload_n 0, 1) := by decide +kernel
theorem dL_law_785 : decode cL_law 785 = .ok (.iload_n 3, 1) := by decide +kernel
theorem dL_law_786 : decode cL_law 786 = .ok (.iconst 2, 1) := by decide +kernel
theorem dL_law_787 : decode cL_law 787 = .ok (.iadd, 1) := by decide +kernel
theorem dL_law_788 : decode cL_law 788 = .ok (.iaload, 1) := by decide +kernel
theorem dL_law_789 : decode cL_law 789 = .ok (.invokevirtual 82, 3) := by decide +kernel
theorem dL_law_792 : decode cL_law 792 = .ok (.aload_n 2, 1) := by decide +kernel
theorem dL_law_793 : decode cL_law 793 = .ok (.aload_n 0, 1) := by decide +kernel
theorem dL_law_794 : decode cL_law 794 = .ok (.iload_n 3, 1) := by decide +kernel
theorem dL_law_795 : decode cL_law 795 = .ok (.iconst 1, 1) := by decide +kernel
theorem dL_law_796 : decode cL_law 796 = .ok (.iadd, 1) := by decide +kernel
theorem dL_law_797 : decode cL_law 797 = .ok (.iaload, 1) := by decide +kernel
theorem dL_law_798 : decode cL_law 798 = .ok (.aload_n 0, 1) := by decide +kernel
theorem dL_law_799 : decode cL_law 799 = .ok (.iload_n 3, 1) := by decide +kernel
theorem dL_law_800 : decode cL_law 800 = .ok (.iconst 2, 1) := by decide +kernel
theorem dL_law_801 : decode cL_law 801 = .ok (.iadd, 1) := by decide +kernel
theorem dL_law_802 : decode cL_law 802 = .ok (.iaload, 1) := by decide +kernel
theorem dL_law_803 : decode cL_law 803 = .ok (.invokevirtual 85, 3) := by decide +kernel
theorem dL_law_806 : decode cL_law 806 = .ok (.if_icmp .eq 137, 3) := by decide +kernel
theorem dL_law_809 : decode cL_law 809 = .ok (.iconst 0, 1) := by decide +kernel
theorem dL_law_810 : decode cL_law 810 = .ok (.ireturn, 1) := by decide +kernel
theorem dL_law_811 : decode cL_law 811 = .ok (.aload_n 1, 1) := by decide +kernel
theorem dL_law_812 : decode cL_law 812 = .ok (.aload_n 0, 1) := by decide +kernel
theorem dL_law_813 : decode cL_law 813 = .ok (.iload_n 3, 1) := by decide +kernel
theorem dL_law_814 : decode cL_law 814 = .ok (.iconst 1, 1) := by decide +kernel
theorem dL_law_815 : decode cL_law 815 = .ok (.iadd, 1) := by decide +kernel
theorem dL_law_816 : decode cL_law 816 = .ok (.iaload, 1) := by decide +kernel
theorem dL_law_817 : decode cL_law 817 = .ok (.aload_n 0, 1) := by decide +kernel
theorem dL_law_818 : decode cL_law 818 = .ok (.iload_n 3, 1) := by decide +kernel
theorem dL_law_819 : decode cL_law 819 = .ok (.iconst 2, 1) := by decide +kernel
theorem dL_law_820 : decode cL_law 820 = .ok (.iadd, 1) := by decide +kernel
theorem dL_law_821 : decode cL_law 821 = .ok (.iaload, 1) := by decide +kernel
theorem dL_law_822 : decode cL_law 822 = .ok (.aload_n 0, 1) := by decide +kernel
theorem dL_law_823 : decode cL_law 823 = .ok (.iload_n 3, 1) := by decide +kernel
theorem dL_law_824 : decode cL_law 824 = .ok (.iconst 3, 1) := by decide +kernel
theorem dL_law_825 : decode cL_law 825 = .ok (.iadd, 1) := by decide +kernel
theorem dL_law_826 : decode cL_law 826 = .ok (.iaload, 1) := by decide +kernel
theorem dL_law_827 : decode cL_law 827 = .ok (.aload_n 0, 1) := by decide +kernel
theorem dL_law_828 : decode cL_law 828 = .ok (.iload_n 3, 1) := by decide +kernel
theorem dL_law_829 : decode cL_law 829 = .ok (.iconst 4, 1) := by decide +kernel
theorem dL_law_830 : decode cL_law 830 = .ok (.iadd, 1) := by decide +kernel
theorem dL_law_831 : decode cL_law 831 = .ok (.iaload, 1) := by decide +kernel
theorem dL_law_832 : decode cL_law 832 = .ok (.aload_n 0, 1) := by decide +kernel
theorem dL_law_833 : decode cL_law 833 = .ok (.iload_n 3, 1) := by decide +kernel
theorem dL_law_834 : decode cL_law 834 = .ok (.iconst 5, 1) := by decide +kernel
theorem dL_law_835 : decode cL_law 835 = .ok (.iadd, 1) := by decide +kernel
theorem dL_law_836 : decode cL_law 836 = .ok (.iaload, 1) := by decide +kernel
theorem dL_law_837 : decode cL_law 837 = .ok (.invokevirtual 86, 3) := by decide +kernel
theorem dL_law_840 : decode cL_law 840 = .ok (.aload_n 2, 1) := by decide +kernel
theorem dL_law_841 : decode cL_law 841 = .ok (.aload_n 0, 1) := by decide +kernel
theorem dL_law_842 : decode cL_law 842 = .ok (.iload_n 3, 1) := by decide +kernel
theorem dL_law_843 : decode cL_law 843 = .ok (.iconst 1, 1) := by decide +kernel
theorem dL_law_844 : decode cL_law 844 = .ok (.iadd, 1) := by decide +kernel
theorem dL_law_845 : decode cL_law 845 = .ok (.iaload, 1) := by decide +kernel
theorem dL_law_846 : decode cL_law 846 = .ok (.aload_n 0, 1) := by decide +kernel
theorem dL_law_847 : decode cL_law 847 = .ok (.iload_n 3, 1) := by decide +kernel
theorem dL_law_848 : decode cL_law 848 = .ok (.iconst 2, 1) := by decide +kernel
theorem dL_law_849 : decode cL_law 849 = .ok (.iadd, 1) := by decide +kernel
theorem dL_law_850 : decode cL_law 850 = .ok (.iaload, 1) := by decide +kernel
theorem dL_law_851 : decode cL_law 851 = .ok (.aload_n 0, 1) := by decide +kernel
theorem dL_law_852 : decode cL_law 852 = .ok (.iload_n 3, 1) := by decide +kernel
theorem dL_law_853 : decode cL_law 853 = .ok (.iconst 3, 1) := by decide +kernel
theorem dL_law_854 : decode cL_law 854 = .ok (.iadd, 1) := by decide +kernel
theorem dL_law_855 : decode cL_law 855 = .ok (.iaload, 1) := by decide +kernel
theorem dL_law_856 : decode cL_law 856 = .ok (.aload_n 0, 1) := by decide +kernel
theorem dL_law_857 : decode cL_law 857 = .ok (.iload_n 3, 1) := by decide +kernel
theorem dL_law_858 : decode cL_law 858 = .ok (.iconst 4, 1) := by decide +kernel
theorem dL_law_859 : decode cL_law 859 = .ok (.iadd, 1) := by decide +kernel
theorem dL_law_860 : decode cL_law 860 = .ok (.iaload, 1) := by decide +kernel
theorem dL_law_861 : decode cL_law 861 = .ok (.aload_n 0, 1) := by decide +kernel
theorem dL_law_862 : decode cL_law 862 = .ok (.iload_n 3, 1) := by decide +kernel
theorem dL_law_863 : decode cL_law 863 = .ok (.iconst 5, 1) := by decide +kernel
theorem dL_law_864 : decode cL_law 864 = .ok (.iadd, 1) := by decide +kernel
theorem dL_law_865 : decode cL_law 865 = .ok (.iaload, 1) := by decide +kernel
theorem dL_law_866 : decode cL_law 866 = .ok (.invokevirtual 90, 3) := by decide +kernel
theorem dL_law_869 : decode cL_law 869 = .ok (.if_icmp .eq 74, 3) := by decide +kernel
theorem dL_law_872 : decode cL_law 872 = .ok (.iconst 0, 1) := by decide +kernel
theorem dL_law_873 : decode cL_law 873 = .ok (.ireturn, 1) := by decide +kernel
theorem dL_law_874 : decode cL_law 874 = .ok (.aload_n 1, 1) := by decide +kernel
theorem dL_law_875 : decode cL_law 875 = .ok (.aload_n 0, 1) := by decide +kernel
theorem dL_law_876 : decode cL_law 876 = .ok (.iload_n 3, 1) := by decide +kernel
theorem dL_law_877 : decode cL_law 877 = .ok (.iconst 1, 1) := by decide +kernel
theorem dL_law_878 : decode cL_law 878 = .ok (.iadd, 1) := by decide +kernel
theorem dL_law_879 : decode cL_law 879 = .ok (.iaload, 1) := by decide +kernel
theorem dL_law_880 : decode cL_law 880 = .ok (.aload_n 0, 1) := by decide +kernel
theorem dL_law_881 : decode cL_law 881 = .ok (.iload_n 3, 1) := by decide +kernel
theorem dL_law_882 : decode cL_law 882 = .ok (.iconst 2, 1) := by decide +kernel
theorem dL_law_883 : decode cL_law 883 = .ok (.iadd, 1) := by decide +kernel
theorem dL_law_884 : decode cL_law 884 = .ok (.iaload, 1) := by decide +kernel
theorem dL_law_885 : decode cL_law 885 = .ok (.invokevirtual 91, 3) := by decide +kernel
end
section
theorem dL_law_888 : decode cL_law 888 = .ok (.aload_n 2, 1) := by decide +kernel
theorem dL_law_889 : decode cL_law 889 = .ok (.aload_n 0, 1) := by decide +kernel
theorem dL_law_890 : decode cL_law 890 = .ok (.iload_n 3, 1) := by decide +kernel
theorem dL_law_891 : decode cL_law 891 = .ok (.iconst 1, 1) := by decide +kernel
theorem dL_law_892 : decode cL_law 892 = .ok (.iadd, 1) := by decide +kernel
theorem dL_law_893 : decode cL_law 893 = .ok (.iaload, 1) := by decide +kernel
theorem dL_law_894 : decode cL_law 894 = .ok (.aload_n 0, 1) := by decide +kernel
theorem dL_law_895 : decode cL_law 895 = .ok (.iload_n 3, 1) := by decide +kernel
theorem dL_law_896 : decode cL_law 896 = .ok (.iconst 2, 1) := by decide +kernel
theorem dL_law_897 : decode cL_law 897 = .ok (.iadd, 1) := by decide +kernel
theorem dL_law_898 : decode cL_law 898 = .ok (.iaload, 1) := by decide +kernel
theorem dL_law_899 : decode cL_law 899 = .ok (.invokevirtual 94, 3) := by decide +kernel
theorem dL_law_902 : decode cL_law 902 = .ok (.if_icmp .eq 41, 3) := by decide +kernel
theorem dL_law_905 : decode cL_law 905 = .ok (.iconst 0, 1) := by decide +kernel
theorem dL_law_906 : decode cL_law 906 = .ok (.ireturn, 1) := by decide +kernel
theorem dL_law_907 : decode cL_law 907 = .ok (.aload_n 1, 1) := by decide +kernel
theorem dL_law_908 : decode cL_law 908 = .ok (.invokevirtual 95, 3) := by decide +kernel
theorem dL_law_911 : decode cL_law 911 = .ok (.aload_n 2, 1) := by decide +kernel
theorem dL_law_912 : decode cL_law 912 = .ok (.invokevirtual 99, 3) := by decide +kernel
theorem dL_law_915 : decode cL_law 915 = .ok (.if_icmp .eq 28, 3) := by decide +kernel
theorem dL_law_918 : decode cL_law 918 = .ok (.iconst 0, 1) := by decide +kernel
theorem dL_law_919 : decode cL_law 919 = .ok (.ireturn, 1) := by decide +kernel
theorem dL_law_920 : decode cL_law 920 = .ok (.aload_n 1, 1) := by decide +kernel
theorem dL_law_921 : decode cL_law 921 = .ok (.aload_n 0, 1) := by decide +kernel
theorem dL_law_922 : decode cL_law 922 = .ok (.iload_n 3, 1) := by decide +kernel
theorem dL_law_923 : decode cL_law 923 = .ok (.iconst 1, 1) := by decide +kernel
theorem dL_law_924 : decode cL_law 924 = .ok (.iadd, 1) := by decide +kernel
theorem dL_law_925 : decode cL_law 925 = .ok (.iaload, 1) := by decide +kernel
theorem dL_law_926 : decode cL_law 926 = .ok (.invokevirtual 100, 3) := by decide +kernel
theorem dL_law_929 : decode cL_law 929 = .ok (.aload_n 2, 1) := by decide +kernel
theorem dL_law_930 : decode cL_law 930 = .ok (.aload_n 0, 1) := by decide +kernel
theorem dL_law_931 : decode cL_law 931 = .ok (.iload_n 3, 1) := by decide +kernel
theorem dL_law_932 : decode cL_law 932 = .ok (.iconst 1, 1) := by decide +kernel
theorem dL_law_933 : decode cL_law 933 = .ok (.iadd, 1) := by decide +kernel
theorem dL_law_934 : decode cL_law 934 = .ok (.iaload, 1) := by decide +kernel
theorem dL_law_935 : decode cL_law 935 = .ok (.invokevirtual 103, 3) := by decide +kernel
theorem dL_law_938 : decode cL_law 938 = .ok (.if_icmp .eq 5, 3) := by decide +kernel
theorem dL_law_941 : decode cL_law 941 = .ok (.iconst 0, 1) := by decide +kernel
theorem dL_law_942 : decode cL_law 942 = .ok (.ireturn, 1) := by decide +kernel
theorem dL_law_943 : decode cL_law 943 = .ok (.iinc 3 7, 3) := by decide +kernel
theorem dL_law_946 : decode cL_law 946 = .ok (.goto (-928), 3) := by decide +kernel
theorem dL_law_949 : decode cL_law 949 = .ok (.iconst 1, 1) := by decide +kernel
theorem dL_law_950 : decode cL_law 950 = .ok (.ireturn, 1) := by decide +kernel
abbrev vwCl : List vw_C := [(RX1, TX1, 11), (RX2, TX2, 12)]
end
section
/-! rows of this claim's own: calls of pure static methods (PS), walks over one object's world (Gd), calls of its methods (OM) -/
def jshl (x : Int64) (y : Int32) : Int64 := x <<< (y.toInt64 &&& 63)
def jshr (x : Int64) (y : Int32) : Int64 := x >>> (y.toInt64 &&& 63)
def jushr (x : Int64) (y : Int32) : Int64 := (x.toUInt64 >>> (y.toInt64.toUInt64 &&& Int64.toUInt64 63)).toInt64
abbrev zSl (i : Int32) : Prop := 0 ≤ i ∧ i < 16
abbrev zSt (i : Int32) : Prop := 0 ≤ i ∧ i < 12
theorem zIn {i : Int32} (h : zSl i) : vp_in i 16 := by
  rw [vp_in_iff]
  have h1 := Int32.le_iff_toInt_le.mp h.1
  have h2 := Int32.lt_iff_toInt_lt.mp h.2
  rw [show (0 : Int32).toInt = 0 from by decide] at h1
  rw [show (16 : Int32).toInt = 16 from by decide] at h2
  exact ⟨h1, h2⟩
theorem zIn12 {i : Int32} (h : zSt i) : vp_in i 12 := by
  rw [vp_in_iff]
  have h1 := Int32.le_iff_toInt_le.mp h.1
  have h2 := Int32.lt_iff_toInt_lt.mp h.2
  rw [show (0 : Int32).toInt = 0 from by decide] at h1
  rw [show (12 : Int32).toInt = 12 from by decide] at h2
  exact ⟨h1, h2⟩
theorem zcmp_lt (x y : Int64) : lg_cmp x y < 0 ↔ x < y := by
  unfold lg_cmp
  by_cases h1 : x > y
  · rw [if_pos h1]
    exact ⟨fun q => absurd q (by decide), fun q => by simp only [gt_iff_lt, Int64.lt_iff_toInt_lt] at h1 q; omega⟩
  · rw [if_neg h1]
    by_cases h2 : x = y
    · rw [if_pos h2]
      exact ⟨fun q => absurd q (by decide), fun q => by subst h2; simp only [Int64.lt_iff_toInt_lt] at q; omega⟩
    · rw [if_neg h2]
      refine ⟨fun _ => ?_, fun _ => by decide⟩
      simp only [gt_iff_lt, Int64.lt_iff_toInt_lt, ← Int64.toInt_inj] at h1 h2 ⊢
      omega
theorem zcmp_eq (x y : Int64) : lg_cmp x y = 0 ↔ x = y := by
  unfold lg_cmp
  by_cases h1 : x > y
  · rw [if_pos h1]
    exact ⟨fun q => absurd q (by decide), fun q => by subst q; simp only [gt_iff_lt, Int64.lt_iff_toInt_lt] at h1; omega⟩
  · rw [if_neg h1]
    by_cases h2 : x = y
    · rw [if_pos h2]
      exact ⟨fun _ => h2, fun _ => rfl⟩
    · rw [if_neg h2]
      exact ⟨fun q => absurd q (by decide), fun q => absurd q h2⟩
theorem zcmp_gt (x y : Int64) : 0 < lg_cmp x y ↔ y < x := by
  unfold lg_cmp
  by_cases h1 : x > y
  · rw [if_pos h1]
    exact ⟨fun _ => h1, fun _ => by decide⟩
  · rw [if_neg h1]
    refine ⟨fun q => ?_, fun q => absurd q h1⟩
    by_cases h2 : x = y
    · rw [if_pos h2] at q; exact absurd q (by decide)
    · rw [if_neg h2] at q; exact absurd q (by decide)
theorem zcmp_ge (x y : Int64) : 0 ≤ lg_cmp x y ↔ y ≤ x := by
  have h := zcmp_lt x y
  simp only [Int32.lt_iff_toInt_lt, Int32.le_iff_toInt_le, Int64.lt_iff_toInt_lt, Int64.le_iff_toInt_le] at h ⊢
  omega
theorem zcmp_le (x y : Int64) : lg_cmp x y ≤ 0 ↔ x ≤ y := by
  have h := zcmp_gt x y
  simp only [Int32.lt_iff_toInt_lt, Int32.le_iff_toInt_le, Int64.lt_iff_toInt_lt, Int64.le_iff_toInt_le] at h ⊢
  omega
theorem znar {P : Prop} {dP : Decidable P} : narrow .boolean (.int (if P then 1 else 0)) = .int (if P then 1 else 0) := by
  by_cases h : P
  · rw [if_pos h]; decide
  · rw [if_neg h]; decide
section ZR
variable {p : Program} {l : Launch} {e : Env} {R : Room} {s : State} {m : MethodId} {args : Array Value} {below : List Frame} {meth : Method} {c : Code} {H : Heap} {locs : List Loc} {cells slots : Nat} {Q : State → Prop}
variable {cc : ByteArray} {pc nL : Nat} {ls : Array Slot} {rest : List Value} {Ts : List Cond} {own : String}
theorem zb_eq (hx : p.tables.exec = Jvm.exec) (hb : c.code = cc) {P : Prop} {dP : Decidable P} {off : Int} {tgt : Nat} (hdg : decode cc pc = .ok (.ifCond .eq off, 3)) (ht : (pc : Int) + off = (tgt : Int))
    (kt : ¬ P → W p l e R s m args below meth c H locs cells slots Q (F0 m tgt ls rest)) (kf : P → W p l e R s m args below meth c H locs cells slots Q (F0 m (pc + 3) ls rest)) : W p l e R s m args below meth c H locs cells slots Q (F0 m pc ls (.int (if P then 1 else 0) :: rest)) := by
  by_cases h : P
  · rw [if_pos h]
    exact lv_if_eq hx hb hdg ht (fun q => absurd q (by decide)) (fun _ => kf h)
  · rw [if_neg h]
    exact lv_if_eq hx hb hdg ht (fun _ => kt h) (fun q => absurd rfl q)
theorem zb_ne (hx : p.tables.exec = Jvm.exec) (hb : c.code = cc) {P : Prop} {dP : Decidable P} {off : Int} {tgt : Nat} (hdg : decode cc pc = .ok (.ifCond .ne off, 3)) (ht : (pc : Int) + off = (tgt : Int))
    (kt : P → W p l e R s m args below meth c H locs cells slots Q (F0 m tgt ls rest)) (kf : ¬ P → W p l e R s m args below meth c H locs cells slots Q (F0 m (pc + 3) ls rest)) : W p l e R s m args below meth c H locs cells slots Q (F0 m pc ls (.int (if P then 1 else 0) :: rest)) := by
  by_cases h : P
  · rw [if_pos h]
    exact lv_if_ne hx hb hdg ht (fun _ => kt h) (fun q => absurd q (by decide))
  · rw [if_neg h]
    exact lv_if_ne hx hb hdg ht (fun q => absurd rfl q) (fun _ => kf h)
theorem zl_lt (hx : p.tables.exec = Jvm.exec) (hb : c.code = cc) {x y : Int64} {off : Int} {tgt : Nat} (hd1 : decode cc pc = .ok (.lcmp, 1)) (hdg : decode cc (pc + 1) = .ok (.ifCond .lt off, 3)) (ht : ((pc + 1 : Nat) : Int) + off = (tgt : Int))
    (kt : x < y → W p l e R s m args below meth c H locs cells slots Q (F0 m tgt ls rest)) (kf : ¬ x < y → W p l e R s m args below meth c H locs cells slots Q (F0 m (pc + 1 + 3) ls rest)) : W p l e R s m args below meth c H locs cells slots Q (F0 m pc ls (.long y :: .long x :: rest)) :=
  W.lcmp hx hb hd1 (lv_if_lt hx hb hdg ht (fun q => kt ((zcmp_lt x y).mp q)) (fun q => kf (fun z => q ((zcmp_lt x y).mpr z))))
theorem zl_ge (hx : p.tables.exec = Jvm.exec) (hb : c.code = cc) {x y : Int64} {off : Int} {tgt : Nat} (hd1 : decode cc pc = .ok (.lcmp, 1)) (hdg : decode cc (pc + 1) = .ok (.ifCond .ge off, 3)) (ht : ((pc + 1 : Nat) : Int) + off = (tgt : Int))
    (kt : ¬ x < y → W p l e R s m args below meth c H locs cells slots Q (F0 m tgt ls rest)) (kf : x < y → W p l e R s m args below meth c H locs cells slots Q (F0 m (pc + 1 + 3) ls rest)) : W p l e R s m args below meth c H locs cells slots Q (F0 m pc ls (.long y :: .long x :: rest)) :=
  W.lcmp hx hb hd1 (lv_if_ge hx hb hdg ht (fun q => kt (fun z => by have h := (zcmp_ge x y).mp q; simp only [Int64.lt_iff_toInt_lt, Int64.le_iff_toInt_le] at h z; omega)) (fun q => kf (by have h := fun z => q ((zcmp_ge x y).mpr z); simp only [Int64.lt_iff_toInt_lt, Int64.le_iff_toInt_le] at h ⊢; omega)))
theorem zl_gt (hx : p.tables.exec = Jvm.exec) (hb : c.code = cc) {x y : Int64} {off : Int} {tgt : Nat} (hd1 : decode cc pc = .ok (.lcmp, 1)) (hdg : decode cc (pc + 1) = .ok (.ifCond .gt off, 3)) (ht : ((pc + 1 : Nat) : Int) + off = (tgt : Int))
    (kt : y < x → W p l e R s m args below meth c H locs cells slots Q (F0 m tgt ls rest)) (kf : ¬ y < x → W p l e R s m args below meth c H locs cells slots Q (F0 m (pc + 1 + 3) ls rest)) : W p l e R s m args below meth c H locs cells slots Q (F0 m pc ls (.long y :: .long x :: rest)) :=
  W.lcmp hx hb hd1 (lv_if_gt hx hb hdg ht (fun q => kt ((zcmp_gt x y).mp q)) (fun q => kf (fun z => q ((zcmp_gt x y).mpr z))))
theorem zl_le (hx : p.tables.exec = Jvm.exec) (hb : c.code = cc) {x y : Int64} {off : Int} {tgt : Nat} (hd1 : decode cc pc = .ok (.lcmp, 1)) (hdg : decode cc (pc + 1) = .ok (.ifCond .le off, 3)) (ht : ((pc + 1 : Nat) : Int) + off = (tgt : Int))
    (kt : ¬ y < x → W p l e R s m args below meth c H locs cells slots Q (F0 m tgt ls rest)) (kf : y < x → W p l e R s m args below meth c H locs cells slots Q (F0 m (pc + 1 + 3) ls rest)) : W p l e R s m args below meth c H locs cells slots Q (F0 m pc ls (.long y :: .long x :: rest)) :=
  W.lcmp hx hb hd1 (lv_if_le hx hb hdg ht (fun q => kt (fun z => by have h := (zcmp_le x y).mp q; simp only [Int64.lt_iff_toInt_lt, Int64.le_iff_toInt_le] at h z; omega)) (fun q => kf (by have h := fun z => q ((zcmp_le x y).mpr z); simp only [Int64.lt_iff_toInt_lt, Int64.le_iff_toInt_le] at h ⊢; omega)))
theorem zl_eq (hx : p.tables.exec = Jvm.exec) (hb : c.code = cc) {x y : Int64} {off : Int} {tgt : Nat} (hd1 : decode cc pc = .ok (.lcmp, 1)) (hdg : decode cc (pc + 1) = .ok (.ifCond .eq off, 3)) (ht : ((pc + 1 : Nat) : Int) + off = (tgt : Int))
    (kt : x = y → W p l e R s m args below meth c H locs cells slots Q (F0 m tgt ls rest)) (kf : ¬ x = y → W p l e R s m args below meth c H locs cells slots Q (F0 m (pc + 1 + 3) ls rest)) : W p l e R s m args below meth c H locs cells slots Q (F0 m pc ls (.long y :: .long x :: rest)) :=
  W.lcmp hx hb hd1 (lv_if_eq hx hb hdg ht (fun q => kt ((zcmp_eq x y).mp q)) (fun q => kf (fun z => q ((zcmp_eq x y).mpr z))))
theorem zl_ne (hx : p.tables.exec = Jvm.exec) (hb : c.code = cc) {x y : Int64} {off : Int} {tgt : Nat} (hd1 : decode cc pc = .ok (.lcmp, 1)) (hdg : decode cc (pc + 1) = .ok (.ifCond .ne off, 3)) (ht : ((pc + 1 : Nat) : Int) + off = (tgt : Int))
    (kt : ¬ x = y → W p l e R s m args below meth c H locs cells slots Q (F0 m tgt ls rest)) (kf : x = y → W p l e R s m args below meth c H locs cells slots Q (F0 m (pc + 1 + 3) ls rest)) : W p l e R s m args below meth c H locs cells slots Q (F0 m pc ls (.long y :: .long x :: rest)) :=
  W.lcmp hx hb hd1 (lv_if_ne hx hb hdg ht (fun q => kt (fun z => q ((zcmp_eq x y).mpr z))) (fun q => kf ((zcmp_eq x y).mp q)))
/-- what a pure static method promises: it answers r, the heap stays -/
def PS (l : Launch) (y : MethodName) (ws : List Cond) (fr lo : Nat) (As : List Value) (r : Value) : Prop := Met l y ws { frames := fr, cells := 0, slots := 0, locals := lo } (fun v _ => v = As.toArray) (k2_QcV r) 0 0 (fun _ => False)
theorem PS.of {l : Launch} {y : MethodName} {ws ws' : List Cond} {fr lo : Nat} {As : List Value} {r : Value} {cc : ByteArray} {maxL : Nat} {ret : Option FieldType} {own : String} (hy : plainName y.cls = true) (hw : ws = .code y cc maxL ret :: ws') (ho : y.cls = own) (hs : (lg_sl As).length ≤ maxL)
    (body : ∀ (p : Program) (e : Env) (s : State) (m : MethodId) (below : List Frame) (meth : Method) (c : Code) (ls : Array Slot), CallFix p m c cc maxL s As.toArray ws own → meth.sig.returnType = ret → meth.locks = false → lv_has ls maxL (lv_args 0 As) →
      W p l e { frames := fr, cells := 0, slots := 0, locals := lo } s m As.toArray below meth c s.heap [] 0 0 (MQ below (k2_QcV r) As.toArray s 0 0 (fun _ => False)) (F0 m 0 ls [])) : PS l y ws fr lo As r := by
  subst ho
  refine Met.ofW (cc := cc) (maxL := maxL) (ret := ret) hy hw ?_
  intro p e s m args below meth c s₁ B hml hv
  have hv : args = As.toArray := hv
  subst hv
  have hl := lv_entry As (n := maxL) hs
  rw [lg_entry_eq]
  exact body p e s m below meth c _ ⟨B.exec, B.bytes, hml, findClass_of_methodNamed B.named, atoms_spec (ws := ws) B.pre⟩ B.returns B.notSynchronized hl
theorem ps_call {y : MethodName} {bytes : ByteArray} {maxL index fr lo : Nat} {ret : Option FieldType} {ws ws' : List Cond} {As : List Value} {r : Value} {st : List Value} (S : CallFix p m c cc nL s args Ts own) (hM : PS l y ws fr lo As r) (hT : GoodIn Ts (va_wsS own index y ws)) (hw : ws = .code y bytes maxL ret :: ws')
    (hd : y.cls ≠ "java/lang/invoke/MethodHandle" ∧ y.cls ≠ "java/lang/invoke/VarHandle" ∧ (parseMethodDescriptor y.desc).map (fun d => d.parameters.length) = some As.length) (hR : fr + 1 ≤ R.frames ∧ 8 + (maxL + 11) + lo ≤ R.locals) (hcs : cells ≤ R.cells ∧ slots ≤ R.slots) (hsz : ls.size = nL) (hst : st = As.reverse ++ rest) (hW : (rest.map fun v => v.category).sum ≤ 8) (hdg : decode cc pc = .ok (.invokestatic index, 3))
    (k : W p l e R s m args below meth c H locs cells slots Q (F0 m (pc + 3) ls (r :: rest))) : W p l e R s m args below meth c H locs cells slots Q (F0 m pc ls st) := by
  subst hst
  exact W.callV (W.runS S hM (va_cwS As.length S.2.2.2.2 hT hw rfl rfl hd hR) preEq rfl rfl hsz rfl (lv_room hW) hdg hcs) k
theorem ps_iret {free : Addr → Prop} {v r : Int32} (S : CallFix p m c cc nL s args Ts own) (hr : meth.sig.returnType = some .int) (hlk : meth.locks = false) (hdg : decode cc pc = .ok (.ireturn, 1)) (hv : r = v) : W p l e R s m args below meth c s.heap [] 0 0 (MQ below (k2_QcV (.int r)) args s 0 0 free) (F0 m pc ls [.int v]) := by
  subst hv
  exact W.iret S.1 S.2.1 hr (fun t ht hW => ⟨rfl, ht⟩) (fun q hq => absurd hq List.not_mem_nil) hdg hlk
theorem ps_zret {free : Addr → Prop} {v r : Int32} (S : CallFix p m c cc nL s args Ts own) (hr : meth.sig.returnType = some .boolean) (hlk : meth.locks = false) (hdg : decode cc pc = .ok (.ireturn, 1)) (hn : narrow .boolean (.int v) = .int v) (hv : r = v) : W p l e R s m args below meth c s.heap [] 0 0 (MQ below (k2_QcV (.int r)) args s 0 0 free) (F0 m pc ls [.int v]) := by
  subst hv
  exact W.zret S.1 S.2.1 hr hn (fun t ht hW => ⟨rfl, ht⟩) (fun q hq => absurd hq List.not_mem_nil) hdg hlk
theorem ps_lret {free : Addr → Prop} {v r : Int64} (S : CallFix p m c cc nL s args Ts own) (hr : meth.sig.returnType = some .long) (hlk : meth.locks = false) (hdg : decode cc pc = .ok (.lreturn, 1)) (hv : r = v) : W p l e R s m args below meth c s.heap [] 0 0 (MQ below (k2_QcV (.long r)) args s 0 0 free) (F0 m pc ls [.long v]) := by
  subst hv
  exact W.lret S.1 S.2.1 hr (fun t ht hW => ⟨rfl, ht⟩) (fun q hq => absurd hq List.not_mem_nil) hdg hlk
/-- the walk's own world: the cells w, apart and in A; what was written since the start lies in A; nothing was made -/
def Gd (D : va_G) (tys : List (ClassId × FieldType)) (A : Nat → Prop) (s : State) (w : va_W) (H : Heap) (locs : List Loc) : Prop := va_P D vwCl w H ∧ va_D A w ∧ va_K D vwCl tys s ∧ va_S A s.heap H locs ∧ H.size = s.heap.size
def OMq (D : va_G) (A : Nat → Prop) (w' : va_W) (r : Option Value) : Array Value → State → Outcome → State → Prop := fun _ st oc t => oc = .returned r ∧ va_P D vwCl w' t.heap ∧ va_D A w' ∧ t.heap.size = st.heap.size ∧ ∀ q : Nat, ¬ A q → t.heap[q]? = st.heap[q]?
/-- what a method on an object promises: from the cells w it comes to the cells w', answers r, and changes nothing outside A -/
def OM (l : Launch) (D : va_G) (tys : List (ClassId × FieldType)) (A : Nat → Prop) (y : MethodName) (ws : List Cond) (fr lo : Nat) (As : List Value) (w w' : va_W) (r : Option Value) : Prop := Met l y ws { frames := fr, cells := 0, slots := 0, locals := lo } (fun v U => v = As.toArray ∧ va_P D vwCl w U.heap ∧ va_K D vwCl tys U ∧ va_D A w) (OMq D A w' r) 0 0 A
theorem OM.of {l : Launch} {D : va_G} {tys : List (ClassId × FieldType)} {A : Nat → Prop} {y : MethodName} {ws ws' : List Cond} {fr lo : Nat} {As : List Value} {w w' : va_W} {r : Option Value} {cc : ByteArray} {maxL : Nat} {ret : Option FieldType} {own : String} (hy : plainName y.cls = true) (hw : ws = .code y cc maxL ret :: ws') (ho : y.cls = own) (hs : (lg_sl As).length ≤ maxL)
    (body : ∀ (p : Program) (e : Env) (s : State) (m : MethodId) (below : List Frame) (meth : Method) (c : Code) (ls : Array Slot), CallFix p m c cc maxL s As.toArray ws own → meth.sig.returnType = ret → meth.locks = false → lv_has ls maxL (lv_args 0 As) → Gd D tys A s w s.heap [] →
      W p l e { frames := fr, cells := 0, slots := 0, locals := lo } s m As.toArray below meth c s.heap [] 0 0 (MQ below (OMq D A w' r) As.toArray s 0 0 A) (F0 m 0 ls [])) : OM l D tys A y ws fr lo As w w' r := by
  subst ho
  refine Met.ofW (cc := cc) (maxL := maxL) (ret := ret) hy hw ?_
  intro p e s m args below meth c s₁ B hml hv
  obtain ⟨rfl, hP, hK, hD⟩ := hv
  have hl := lv_entry As (n := maxL) hs
  rw [lg_entry_eq]
  exact body p e s m below meth c _ ⟨B.exec, B.bytes, hml, findClass_of_methodNamed B.named, atoms_spec (ws := ws) B.pre⟩ B.returns B.notSynchronized hl ⟨hP, hD, hK, va_S.rf, rfl⟩
variable {D : va_G} {tys : List (ClassId × FieldType)} {A : Nat → Prop} {w w1 : va_W}
theorem gd_next (hw : Gd D tys A s w H locs) {H1 : Heap} {L : List Loc} (hP : va_P D vwCl w1 H1) (hD : va_D A w1) (hz : H1.size = H.size) (hk : ∀ q : Nat, ¬ A q → H1[q]? = H[q]?) (hL : ∀ q ∈ L, A q.base) : Gd D tys A s w1 H1 (locs ++ L) := by
  obtain ⟨-, -, hK, hS, hz0⟩ := hw
  refine ⟨hP, hD, hK, ⟨by rw [hz]; exact hS.1, fun q h1 h2 => (hk q h2).trans (hS.2.1 q h1 h2), fun q hq => ?_⟩, hz.trans hz0⟩
  rcases List.mem_append.mp hq with h | h
  · exact hS.2.2 q h
  · exact hL q h
theorem gd_frame (hw : Gd D tys A s w H locs) : ∀ q : Nat, ¬ A q → H[q]? = s.heap[q]? := by
  intro q hq
  rcases Nat.lt_or_ge q s.heap.size with h | h
  · exact hw.2.2.2.1.2.1 q h hq
  · rw [Array.getElem?_eq_none h, Array.getElem?_eq_none (by rw [hw.2.2.2.2]; exact h)]
theorem io_blind {As : List Value} : FrameBlind (fun v U => v = As.toArray ∧ va_P D vwCl w U.heap ∧ va_K D vwCl tys U ∧ va_D A w) := fun a U g mk q => by
  obtain ⟨q1, qP, qK, qD⟩ := q
  exact ⟨q1, qP, va_K.moved (u := U) (U := U.calling g mk a) (Vm.Alike.refl U.vm) qK, qD⟩
theorem io_run {R : Room} {mc : Nat} {y : MethodName} {r : Value} {a : Array Value} {g : JFrame} (hw : Gd D tys A s w H locs) (hr : CallRun p l e R s m args below meth c H locs cells slots 0 0 g rest (OMq D A w1 (some r) a) A)
    (k : ∀ (H : Heap) (locs : List Loc), Gd D tys A s w1 H locs → W p l e R s m args below meth c H locs cells slots Q { g with pc := g.pc + 3, stack := r :: rest }) : W p l e R s m args below meth c H locs cells slots Q g := by
  intro T hT X
  obtain ⟨v, st₀, t, T', L, h0, X', hL, e1, ⟨hv, hP', hD', hz, hk⟩, stp⟩ := hr T hT X
  cases hv
  obtain ⟨t2, a1, b1⟩ := k T'.heap (locs ++ L) (gd_next hw (by rw [e1]; exact hP') hD' (by rw [e1, hz, h0]) (fun q hq => by rw [e1, hk q hq, h0]) hL) T' rfl X'
  exact ⟨t2, stp t2 a1, b1⟩
theorem io_call {y : MethodName} {bytes : ByteArray} {maxL index fr lo ci : Nat} {ret : Option FieldType} {ws ws' : List Cond} {b : Nat} {As : List Value} {r : Value} {st fs : List Value} {C : String} {cq : vw_C} (S : CallFix p m c cc nL s args Ts own) (hM : OM l D tys A y ws fr lo (.ref b :: As) w w1 (some r)) (hT : GoodIn Ts (wsV own index C y ws)) (hw : Gd D tys A s w H locs) (hws : ws = .code y bytes maxL ret :: ws')
    (hd : y.cls = C ∧ y.cls ≠ "java/lang/invoke/MethodHandle" ∧ y.cls ≠ "java/lang/invoke/VarHandle" ∧ (parseMethodDescriptor y.desc).map (fun d => d.parameters.length) = some As.length) (hR : fr + 1 ≤ R.frames ∧ 8 + (maxL + 11) + lo ≤ R.locals) (hcs : cells ≤ R.cells ∧ slots ≤ R.slots) (hc : vwCl[ci]? = some cq) (hcq : cq.1 = C) (he : w[0]? = some (b, .inr (ci, fs))) (hsz : ls.size = nL) (hst : st = As.reverse ++ .ref b :: rest) (hW : (rest.map fun v => v.category).sum ≤ 8) (hdg : decode cc pc = .ok (.invokevirtual index, 3))
    (k : ∀ (H : Heap) (locs : List Loc), Gd D tys A s w1 H locs → W p l e R s m args below meth c H locs cells slots Q (F0 m (pc + 3) ls (r :: rest))) : W p l e R s m args below meth c H locs cells slots Q (F0 m pc ls st) := by
  subst hst
  subst hcq
  exact io_run (mc := 0) (y := y) hw (W.runV S hM (cwV As.length S.2.2.2.2 hT hws rfl rfl hd hR) ⟨io_blind, va_recv hw.2.2.1 hw.1 hc he, fun U hU hW => ⟨rfl, by rw [hU]; exact hw.1, va_K.moved hW.alike hw.2.2.1, hw.2.1⟩⟩ rfl rfl hsz rfl (lv_room hW) hdg hcs) k
theorem io_callS {y : MethodName} {bytes : ByteArray} {maxL index fr lo : Nat} {ret : Option FieldType} {ws ws' : List Cond} {As : List Value} {r : Value} {st : List Value} (S : CallFix p m c cc nL s args Ts own) (hM : OM l D tys A y ws fr lo As w w1 (some r)) (hT : GoodIn Ts (va_wsS own index y ws)) (hw : Gd D tys A s w H locs) (hws : ws = .code y bytes maxL ret :: ws')
    (hd : y.cls ≠ "java/lang/invoke/MethodHandle" ∧ y.cls ≠ "java/lang/invoke/VarHandle" ∧ (parseMethodDescriptor y.desc).map (fun d => d.parameters.length) = some As.length) (hR : fr + 1 ≤ R.frames ∧ 8 + (maxL + 11) + lo ≤ R.locals) (hcs : cells ≤ R.cells ∧ slots ≤ R.slots) (hsz : ls.size = nL) (hst : st = As.reverse ++ rest) (hW : (rest.map fun v => v.category).sum ≤ 8) (hdg : decode cc pc = .ok (.invokestatic index, 3))
    (k : ∀ (H : Heap) (locs : List Loc), Gd D tys A s w1 H locs → W p l e R s m args below meth c H locs cells slots Q (F0 m (pc + 3) ls (r :: rest))) : W p l e R s m args below meth c H locs cells slots Q (F0 m pc ls st) := by
  subst hst
  exact io_run (mc := 0) (y := y) hw (W.runS S hM (va_cwS As.length S.2.2.2.2 hT hws rfl rfl hd hR) ⟨io_blind, fun U hU hW => ⟨rfl, by rw [hU]; exact hw.1, va_K.moved hW.alike hw.2.2.1, hw.2.1⟩⟩ rfl rfl hsz rfl (lv_room hW) hdg hcs) k
theorem io_iret {v : Int32} {r : Option Value} (S : CallFix p m c cc nL s args Ts own) (hr : meth.sig.returnType = some .int) (hlk : meth.locks = false) (hw : Gd D tys A s w H locs) (hdg : decode cc pc = .ok (.ireturn, 1)) (hv : r = some (.int v)) (hw1 : w1 = w) : W p l e R s m args below meth c H locs 0 0 (MQ below (OMq D A w1 r) args s 0 0 A) (F0 m pc ls [.int v]) := by
  subst hv
  subst hw1
  exact W.iret S.1 S.2.1 hr (fun t ht hW => ⟨rfl, by rw [ht]; exact hw.1, hw.2.1, by rw [ht]; exact hw.2.2.2.2, by rw [ht]; exact gd_frame hw⟩) hw.2.2.2.1.2.2 hdg hlk
theorem io_zret {v : Int32} {r : Option Value} (S : CallFix p m c cc nL s args Ts own) (hr : meth.sig.returnType = some .boolean) (hlk : meth.locks = false) (hw : Gd D tys A s w H locs) (hdg : decode cc pc = .ok (.ireturn, 1)) (hn : narrow .boolean (.int v) = .int v) (hv : r = some (.int v)) (hw1 : w1 = w) : W p l e R s m args below meth c H locs 0 0 (MQ below (OMq D A w1 r) args s 0 0 A) (F0 m pc ls [.int v]) := by
  subst hv
  subst hw1
  exact W.zret S.1 S.2.1 hr hn (fun t ht hW => ⟨rfl, by rw [ht]; exact hw.1, hw.2.1, by rw [ht]; exact hw.2.2.2.2, by rw [ht]; exact gd_frame hw⟩) hw.2.2.2.1.2.2 hdg hlk
theorem io_lret {v : Int64} {r : Option Value} (S : CallFix p m c cc nL s args Ts own) (hr : meth.sig.returnType = some .long) (hlk : meth.locks = false) (hw : Gd D tys A s w H locs) (hdg : decode cc pc = .ok (.lreturn, 1)) (hv : r = some (.long v)) (hw1 : w1 = w) : W p l e R s m args below meth c H locs 0 0 (MQ below (OMq D A w1 r) args s 0 0 A) (F0 m pc ls [.long v]) := by
  subst hv
  subst hw1
  exact W.lret S.1 S.2.1 hr (fun t ht hW => ⟨rfl, by rw [ht]; exact hw.1, hw.2.1, by rw [ht]; exact hw.2.2.2.2, by rw [ht]; exact gd_frame hw⟩) hw.2.2.2.1.2.2 hdg hlk
theorem gd_get {a ci N index : Nat} {ref C : String} {T : u_T} {fs : List Value} (S : CallFix p m c cc nL s args Ts own) (hin : ∀ w ∈ u_ws C T N, w ∈ Ts) (hw : Gd D tys A s w H locs) (he : w[0]? = some (a, .inr (ci, fs))) (hc : vwCl[ci]? = some (C, T, N)) (k : Nat) (hk : k < N) (hlink : (Cond.fieldLink own index ref (T k).2.1 (T k).2.2.1).before args s = true) (href : (T k).1 = ref) {v : Value} (hv : fs[k]? = some v) (hdg : decode cc pc = .ok (.getfield index, 3))
    (kk : W p l e R s m args below meth c H locs cells slots Q (F0 m (pc + 3) ls (v :: rest))) : W p l e R s m args below meth c H locs cells slots Q (F0 m pc ls (.ref a :: rest)) :=
  va_get (D := D) (ci := ci) (v := v) (C := C) (T := T) (N := N) S.1 S.2.1 S.2.2.2.2 hin S.2.2.2.1 hw.2.2.1 hw.1 0 he hc k hk hlink (fun _ h => by rw [← href]; exact h) hv hdg kk
theorem gd_put {a ci N index : Nat} {ref C : String} {T : u_T} {fs : List Value} (S : CallFix p m c cc nL s args Ts own) (hin : ∀ w ∈ u_ws C T N, w ∈ Ts) (ty0 : Nat → FieldType) (hty : ∀ k, k < N → parseFieldDescriptor (T k).2.2.1 = some (ty0 k)) (hnm : ∀ a, a < N → ∀ b, b < N → a ≠ b → (T a).2.1 ≠ (T b).2.1) (hw : Gd D tys A s w H locs) (he : w[0]? = some (a, .inr (ci, fs))) (hc : vwCl[ci]? = some (C, T, N)) (k : Nat) (hk : k < N) (hlink : (Cond.fieldLink own index ref (T k).2.1 (T k).2.2.1).before args s = true) (href : (T k).1 = ref) (hfin : (T k).2.2.2 = false) {v : Int32} (hd : parseFieldDescriptor (T k).2.2.1 = some .int) (hl : k < fs.length) (hs : w.set 0 (a, .inr (ci, fs.set k (.int v))) = w1) (hdg : decode cc pc = .ok (.putfield index, 3))
    (kk : ∀ (H : Heap) (locs : List Loc), Gd D tys A s w1 H locs → W p l e R s m args below meth c H locs cells slots Q (F0 m (pc + 3) ls rest)) : W p l e R s m args below meth c H locs cells slots Q (F0 m pc ls (.int v :: .ref a :: rest)) := by
  subst hs
  have hap := va_apart (own := own) S.2.2.2.2 hin ty0 hty hnm hw.2.2.1 hc
  obtain ⟨hP, hD, hK, hS0, hz⟩ := id hw
  obtain ⟨r, h1, cell, q1, q2, q3, q4⟩ := hP 0 _ he
  have hr : r = (C, T, N) := Option.some.inj (h1.symm.trans hc)
  subst hr
  obtain ⟨hS, hfc, kC, hkC, hkind⟩ := hK.1 ci _ hc
  obtain ⟨cf, kf, fi, f, hi, hsl⟩ := hS k hk
  have hlay := S.2.2.2.2 _ (hin _ (u_in_lay hk))
  unfold u_lay at hlay
  rw [if_neg (by rw [hfin]; decide)] at hlay
  have hst := (u_facts hfc hkC (u_lays S.2.2.2.2 hin hk) hi).1
  have h6 := u_store hfc hkC hkind hlay hi hd (v := .int v) rfl rfl
  refine W.putK S.1 S.2.1 (f := f) ⟨S.2.2.2.1, hlink, ⟨_, _, _, by rw [← href]; exact hi⟩, hst⟩ (by rw [q2]; exact h6) q1 q3 (by rw [hsl]; exact k2_hasslot (q4 k hk)) rfl rfl hdg fun H' e1 e2 e3 => ?_
  rw [hsl] at e1 ⊢
  refine kk H' _ (gd_next hw (hP.set hD he ⟨_, hc, t_OB.to (V := updV (vp_V fs) k (.int v)) ⟨_, e1, q2, q3, t_set q4 hap hk (.int v)⟩ (fun j _ => vp_updV_set hl (.int v) j)⟩ e3) (hD.set he) e2 (fun q hq => e3 q (fun z => hq (by rw [z]; exact hD.2 0 _ he))) (fun q hq => ?_))
  rw [List.mem_singleton.mp hq]
  exact hD.2 0 _ he
end ZR
end
