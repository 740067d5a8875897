theorem dX0_isBroken_0 : decode cX0_isBroken 0 = .ok (.iload_n 0, 1) := by decide +kernel
theorem dX0_isBroken_1 : decode cX0_isBroken 1 = .ok (.iconst 2, 1) := by decide +kernel
theorem dX0_isBroken_2 : decode cX0_isBroken 2 = .ok (.if_icmp .eq 8, 3) := by decide +kernel
theorem dX0_isBroken_5 : decode cX0_isBroken 5 = .ok (.iload_n 0, 1) := by decide +kernel
theorem dX0_isBroken_6 : decode cX0_isBroken 6 = .ok (.iconst 3, 1) := by decide +kernel
theorem dX0_isBroken_7 : decode cX0_isBroken 7 = .ok (.if_icmp .ne 7, 3) := by decide +kernel
theorem dX0_isBroken_10 : decode cX0_isBroken 10 = .ok (.iconst 1, 1) := by decide +kernel
theorem dX0_isBroken_11 : decode cX0_isBroken 11 = .ok (.goto 4, 3) := by decide +kernel
theorem dX0_isBroken_14 : decode cX0_isBroken 14 = .ok (.iconst 0, 1) := by decide +kernel
theorem dX0_isBroken_15 : decode cX0_isBroken 15 = .ok (.ireturn, 1) := by decide +kernel
set_option maxRecDepth 20000 in
theorem ggX0_isNumber_X0_isBroken : GoodIn wsX0_isNumber wsX0_isBroken := goodIn_r _ [4] (by decide +kernel) (by decide +kernel)
set_option maxRecDepth 20000 in
theorem gX0_isNumber_X0_isBroken : GoodIn wsX0_isNumber (va_wsS RX0 9 yX0_isBroken wsX0_isBroken) := goodIn_app (goodIn_of _ (by decide +kernel)) ggX0_isNumber_X0_isBroken
set_option maxRecDepth 20000 in
theorem ggX0_isNumber_X0_fitted : GoodIn wsX0_isNumber wsX0_fitted := goodIn_r _ [7] (by decide +kernel) (by decide +kernel)
set_option maxRecDepth 20000 in
theorem gX0_isNumber_X0_fitted : GoodIn wsX0_isNumber (va_wsS RX0 15 yX0_fitted wsX0_fitted) := goodIn_app (goodIn_of _ (by decide +kernel)) ggX0_isNumber_X0_fitted
set_option maxRecDepth 20000 in
theorem ggX0_isNumber_X0_magnitude : GoodIn wsX0_isNumber wsX0_magnitude := goodIn_r _ [10, 11, 12, 13, 3, 14, 15, 16] (by decide +kernel) (by decide +kernel)
set_option maxRecDepth 20000 in
theorem gX0_isNumber_X0_magnitude : GoodIn wsX0_isNumber (va_wsS RX0 19 yX0_magnitude wsX0_magnitude) := goodIn_app (goodIn_of _ (by decide +kernel)) ggX0_isNumber_X0_magnitude
set_option maxRecDepth 20000 in
theorem ggX0_isNumber_X0_infinity : GoodIn wsX0_isNumber wsX0_infinity := goodIn_r _ [19, 20, 21, 3, 22, 23, 24, 25] (by decide +kernel) (by decide +kernel)
set_option maxRecDepth 20000 in
theorem gX0_isNumber_X0_infinity : GoodIn wsX0_isNumber (va_wsS RX0 22 yX0_infinity wsX0_infinity) := goodIn_app (goodIn_of _ (by decide +kernel)) ggX0_isNumber_X0_infinity
theorem dX0_isNumber_0 : decode cX0_isNumber 0 = .ok (.iload_n 0, 1) := by decide +kernel
theorem dX0_isNumber_1 : decode cX0_isNumber 1 = .ok (.invokestatic 9, 3) := by decide +kernel
theorem dX0_isNumber_4 : decode cX0_isNumber 4 = .ok (.ifCond .eq 20, 3) := by decide +kernel
theorem dX0_isNumber_7 : decode cX0_isNumber 7 = .ok (.iload_n 0, 1) := by decide +kernel
theorem dX0_isNumber_8 : decode cX0_isNumber 8 = .ok (.iload_n 0, 1) := by decide +kernel
theorem dX0_isNumber_9 : decode cX0_isNumber 9 = .ok (.lload_n 1, 1) := by decide +kernel
theorem dX0_isNumber_10 : decode cX0_isNumber 10 = .ok (.invokestatic 15, 3) := by decide +kernel
theorem dX0_isNumber_13 : decode cX0_isNumber 13 = .ok (.invokestatic 19, 3) := by decide +kernel
theorem dX0_isNumber_16 : decode cX0_isNumber 16 = .ok (.iload_n 0, 1) := by decide +kernel
theorem dX0_isNumber_17 : decode cX0_isNumber 17 = .ok (.invokestatic 22, 3) := by decide +kernel
theorem dX0_isNumber_20 : decode cX0_isNumber 20 = .ok (.lcmp, 1) := by decide +kernel
theorem dX0_isNumber_21 : decode cX0_isNumber 21 = .ok (.ifCond .gt 7, 3) := by decide +kernel
theorem dX0_isNumber_24 : decode cX0_isNumber 24 = .ok (.iconst 1, 1) := by decide +kernel
theorem dX0_isNumber_25 : decode cX0_isNumber 25 = .ok (.goto 4, 3) := by decide +kernel
theorem dX0_isNumber_28 : decode cX0_isNumber 28 = .ok (.iconst 0, 1) := by decide +kernel
theorem dX0_isNumber_29 : decode cX0_isNumber 29 = .ok (.ireturn, 1) := by decide +kernel
theorem dX0_fitted_0 : decode cX0_fitted 0 = .ok (.iload_n 0, 1) := by decide +kernel
theorem dX0_fitted_1 : decode cX0_fitted 1 = .ok (.ifCond .eq 8, 3) := by decide +kernel
theorem dX0_fitted_4 : decode cX0_fitted 4 = .ok (.iload_n 0, 1) := by decide +kernel
theorem dX0_fitted_5 : decode cX0_fitted 5 = .ok (.iconst 2, 1) := by decide +kernel
theorem dX0_fitted_6 : decode cX0_fitted 6 = .ok (.if_icmp .ne 9, 3) := by decide +kernel
theorem dX0_fitted_9 : decode cX0_fitted 9 = .ok (.lload_n 1, 1) := by decide +kernel
theorem dX0_fitted_10 : decode cX0_fitted 10 = .ok (.l2i, 1) := by decide +kernel
theorem dX0_fitted_11 : decode cX0_fitted 11 = .ok (.i2l, 1) := by decide +kernel
theorem dX0_fitted_12 : decode cX0_fitted 12 = .ok (.goto 4, 3) := by decide +kernel
theorem dX0_fitted_15 : decode cX0_fitted 15 = .ok (.lload_n 1, 1) := by decide +kernel
theorem dX0_fitted_16 : decode cX0_fitted 16 = .ok (.lreturn, 1) := by decide +kernel
set_option maxRecDepth 20000 in
theorem ggX0_isLess_X0_isBroken : GoodIn wsX0_isLess wsX0_isBroken := goodIn_r _ [4] (by decide +kernel) (by decide +kernel)
set_option maxRecDepth 20000 in
theorem gX0_isLess_X0_isBroken : GoodIn wsX0_isLess (va_wsS RX0 9 yX0_isBroken wsX0_isBroken) := goodIn_app (goodIn_of _ (by decide +kernel)) ggX0_isLess_X0_isBroken
set_option maxRecDepth 20000 in
theorem ggX0_isLess_X0_brokenRank : GoodIn wsX0_isLess wsX0_brokenRank := goodIn_r _ [7, 8] (by decide +kernel) (by decide +kernel)
set_option maxRecDepth 20000 in
theorem gX0_isLess_X0_brokenRank : GoodIn wsX0_isLess (va_wsS RX0 26 yX0_brokenRank wsX0_brokenRank) := goodIn_app (goodIn_of _ (by decide +kernel)) ggX0_isLess_X0_brokenRank
theorem dX0_isLess_0 : decode cX0_isLess 0 = .ok (.iload_n 0, 1) := by decide +kernel
theorem dX0_isLess_1 : decode cX0_isLess 1 = .ok (.invokestatic 9, 3) := by decide +kernel
theorem dX0_isLess_4 : decode cX0_isLess 4 = .ok (.ifCond .eq 23, 3) := by decide +kernel
theorem dX0_isLess_7 : decode cX0_isLess 7 = .ok (.lload_n 1, 1) := by decide +kernel
theorem dX0_isLess_8 : decode cX0_isLess 8 = .ok (.invokestatic 26, 3) := by decide +kernel
theorem dX0_isLess_11 : decode cX0_isLess 11 = .ok (.lload_n 3, 1) := by decide +kernel
theorem dX0_isLess_12 : decode cX0_isLess 12 = .ok (.invokestatic 26, 3) := by decide +kernel
theorem dX0_isLess_15 : decode cX0_isLess 15 = .ok (.lcmp, 1) := by decide +kernel
theorem dX0_isLess_16 : decode cX0_isLess 16 = .ok (.ifCond .ge 7, 3) := by decide +kernel
theorem dX0_isLess_19 : decode cX0_isLess 19 = .ok (.iconst 1, 1) := by decide +kernel
theorem dX0_isLess_20 : decode cX0_isLess 20 = .ok (.goto 18, 3) := by decide +kernel
theorem dX0_isLess_23 : decode cX0_isLess 23 = .ok (.iconst 0, 1) := by decide +kernel
theorem dX0_isLess_24 : decode cX0_isLess 24 = .ok (.goto 14, 3) := by decide +kernel
theorem dX0_isLess_27 : decode cX0_isLess 27 = .ok (.lload_n 1, 1) := by decide +kernel
theorem dX0_isLess_28 : decode cX0_isLess 28 = .ok (.lload_n 3, 1) := by decide +kernel
theorem dX0_isLess_29 : decode cX0_isLess 29 = .ok (.lcmp, 1) := by decide +kernel
theorem dX0_isLess_30 : decode cX0_isLess 30 = .ok (.ifCond .ge 7, 3) := by decide +kernel
theorem dX0_isLess_33 : decode cX0_isLess 33 = .ok (.iconst 1, 1) := by decide +kernel
theorem dX0_isLess_34 : decode cX0_isLess 34 = .ok (.goto 4, 3) := by decide +kernel
theorem dX0_isLess_37 : decode cX0_isLess 37 = .ok (.iconst 0, 1) := by decide +kernel
theorem dX0_isLess_38 : decode cX0_isLess 38 = .ok (.ireturn, 1) := by decide +kernel
set_option maxRecDepth 20000 in
theorem ggX0_lesser_X0_isLess : GoodIn wsX0_lesser wsX0_isLess := goodIn_r _ [4, 5, 6, 3, 7, 8, 9, 10, 11] (by decide +kernel) (by decide +kernel)
set_option maxRecDepth 20000 in
theorem gX0_lesser_X0_isLess : GoodIn wsX0_lesser (va_wsS RX0 30 yX0_isLess wsX0_isLess) := goodIn_app (goodIn_of _ (by decide +kernel)) ggX0_lesser_X0_isLess
theorem dX0_lesser_0 : decode cX0_lesser 0 = .ok (.iload_n 0, 1) := by decide +kernel
theorem dX0_lesser_1 : decode cX0_lesser 1 = .ok (.lload_n 3, 1) := by decide +kernel
theorem dX0_lesser_2 : decode cX0_lesser 2 = .ok (.lload_n 1, 1) := by decide +kernel
theorem dX0_lesser_3 : decode cX0_lesser 3 = .ok (.invokestatic 30, 3) := by decide +kernel
theorem dX0_lesser_6 : decode cX0_lesser 6 = .ok (.ifCond .eq 7, 3) := by decide +kernel
theorem dX0_lesser_9 : decode cX0_lesser 9 = .ok (.lload_n 3, 1) := by decide +kernel
theorem dX0_lesser_10 : decode cX0_lesser 10 = .ok (.goto 4, 3) := by decide +kernel
theorem dX0_lesser_13 : decode cX0_lesser 13 = .ok (.lload_n 1, 1) := by decide +kernel
theorem dX0_lesser_14 : decode cX0_lesser 14 = .ok (.lreturn, 1) := by decide +kernel
set_option maxRecDepth 20000 in
theorem ggX0_greater_X0_isLess : GoodIn wsX0_greater wsX0_isLess := goodIn_r _ [4, 5, 6, 3, 7, 8, 9, 10, 11] (by decide +kernel) (by decide +kernel)
set_option maxRecDepth 20000 in
theorem gX0_greater_X0_isLess : GoodIn wsX0_greater (va_wsS RX0 30 yX0_isLess wsX0_isLess) := goodIn_app (goodIn_of _ (by decide +kernel)) ggX0_greater_X0_isLess
theorem dX0_greater_0 : decode cX0_greater 0 = .ok (.iload_n 0, 1) := by decide +kernel
theorem dX0_greater_1 : decode cX0_greater 1 = .ok (.lload_n 1, 1) := by decide +kernel
theorem dX0_greater_2 : decode cX0_greater 2 = .ok (.lload_n 3, 1) := by decide +kernel
theorem dX0_greater_3 : decode cX0_greater 3 = .ok (.invokestatic 30, 3) := by decide +kernel
theorem dX0_greater_6 : decode cX0_greater 6 = .ok (.ifCond .eq 7, 3) := by decide +kernel
theorem dX0_greater_9 : decode cX0_greater 9 = .ok (.lload_n 3, 1) := by decide +kernel
theorem dX0_greater_10 : decode cX0_greater 10 = .ok (.goto 4, 3) := by decide +kernel
theorem dX0_greater_13 : decode cX0_greater 13 = .ok (.lload_n 1, 1) := by decide +kernel
theorem dX0_greater_14 : decode cX0_greater 14 = .ok (.lreturn, 1) := by decide +kernel
set_option maxRecDepth 20000 in
theorem ggX0_isBelowZero_X0_isZero : GoodIn wsX0_isBelowZero wsX0_isZero := goodIn_r _ [4, 5, 6, 3, 7, 8, 9, 10, 11, 12, 13, 14, 15, 16] (by decide +kernel) (by decide +kernel)
set_option maxRecDepth 20000 in
theorem gX0_isBelowZero_X0_isZero : GoodIn wsX0_isBelowZero (va_wsS RX0 34 yX0_isZero wsX0_isZero) := goodIn_app (goodIn_of _ (by decide +kernel)) ggX0_isBelowZero_X0_isZero
theorem dX0_isBelowZero_0 : decode cX0_isBelowZero 0 = .ok (.lload_n 1, 1) := by decide +kernel
theorem dX0_isBelowZero_1 : decode cX0_isBelowZero 1 = .ok (.lconst 0, 1) := by decide +kernel
theorem dX0_isBelowZero_2 : decode cX0_isBelowZero 2 = .ok (.lcmp, 1) := by decide +kernel
theorem dX0_isBelowZero_3 : decode cX0_isBelowZero 3 = .ok (.ifCond .ge 15, 3) := by decide +kernel
theorem dX0_isBelowZero_6 : decode cX0_isBelowZero 6 = .ok (.iload_n 0, 1) := by decide +kernel
theorem dX0_isBelowZero_7 : decode cX0_isBelowZero 7 = .ok (.lload_n 1, 1) := by decide +kernel
theorem dX0_isBelowZero_8 : decode cX0_isBelowZero 8 = .ok (.invokestatic 34, 3) := by decide +kernel
theorem dX0_isBelowZero_11 : decode cX0_isBelowZero 11 = .ok (.ifCond .ne 7, 3) := by decide +kernel
theorem dX0_isBelowZero_14 : decode cX0_isBelowZero 14 = .ok (.iconst 1, 1) := by decide +kernel
theorem dX0_isBelowZero_15 : decode cX0_isBelowZero 15 = .ok (.goto 4, 3) := by decide +kernel
theorem dX0_isBelowZero_18 : decode cX0_isBelowZero 18 = .ok (.iconst 0, 1) := by decide +kernel
theorem dX0_isBelowZero_19 : decode cX0_isBelowZero 19 = .ok (.ireturn, 1) := by decide +kernel
theorem dX0_isAboveZero_0 : decode cX0_isAboveZero 0 = .ok (.lload_n 0, 1) := by decide +kernel
theorem dX0_isAboveZero_1 : decode cX0_isAboveZero 1 = .ok (.lconst 0, 1) := by decide +kernel
theorem dX0_isAboveZero_2 : decode cX0_isAboveZero 2 = .ok (.lcmp, 1) := by decide +kernel
theorem dX0_isAboveZero_3 : decode cX0_isAboveZero 3 = .ok (.ifCond .le 7, 3) := by decide +kernel
theorem dX0_isAboveZero_6 : decode cX0_isAboveZero 6 = .ok (.iconst 1, 1) := by decide +kernel
theorem dX0_isAboveZero_7 : decode cX0_isAboveZero 7 = .ok (.goto 4, 3) := by decide +kernel
theorem dX0_isAboveZero_10 : decode cX0_isAboveZero 10 = .ok (.iconst 0, 1) := by decide +kernel
theorem dX0_isAboveZero_11 : decode cX0_isAboveZero 11 = .ok (.ireturn, 1) := by decide +kernel
set_option maxRecDepth 20000 in
theorem ggX0_sizeOf_X0_negated : GoodIn wsX0_sizeOf wsX0_negated := goodIn_r _ [4, 5, 6, 3, 7, 8, 9, 10, 11, 12, 13, 14, 15] (by decide +kernel) (by decide +kernel)
set_option maxRecDepth 20000 in
theorem gX0_sizeOf_X0_negated : GoodIn wsX0_sizeOf (va_wsS RX0 38 yX0_negated wsX0_negated) := goodIn_app (goodIn_of _ (by decide +kernel)) ggX0_sizeOf_X0_negated
theorem dX0_sizeOf_0 : decode cX0_sizeOf 0 = .ok (.lload_n 1, 1) := by decide +kernel
theorem dX0_sizeOf_1 : decode cX0_sizeOf 1 = .ok (.lconst 0, 1) := by decide +kernel
theorem dX0_sizeOf_2 : decode cX0_sizeOf 2 = .ok (.lcmp, 1) := by decide +kernel
theorem dX0_sizeOf_3 : decode cX0_sizeOf 3 = .ok (.ifCond .ge 11, 3) := by decide +kernel
theorem dX0_sizeOf_6 : decode cX0_sizeOf 6 = .ok (.iload_n 0, 1) := by decide +kernel
theorem dX0_sizeOf_7 : decode cX0_sizeOf 7 = .ok (.lload_n 1, 1) := by decide +kernel
theorem dX0_sizeOf_8 : decode cX0_sizeOf 8 = .ok (.invokestatic 38, 3) := by decide +kernel
theorem dX0_sizeOf_11 : decode cX0_sizeOf 11 = .ok (.goto 4, 3) := by decide +kernel
theorem dX0_sizeOf_14 : decode cX0_sizeOf 14 = .ok (.lload_n 1, 1) := by decide +kernel
theorem dX0_sizeOf_15 : decode cX0_sizeOf 15 = .ok (.lreturn, 1) := by decide +kernel
set_option maxRecDepth 20000 in
theorem ggX0_negated_X0_isBroken : GoodIn wsX0_negated wsX0_isBroken := goodIn_r _ [4] (by decide +kernel) (by decide +kernel)
set_option maxRecDepth 20000 in
theorem gX0_negated_X0_isBroken : GoodIn wsX0_negated (va_wsS RX0 9 yX0_isBroken wsX0_isBroken) := goodIn_app (goodIn_of _ (by decide +kernel)) ggX0_negated_X0_isBroken
set_option maxRecDepth 20000 in
theorem ggX0_negated_X0_signMask : GoodIn wsX0_negated wsX0_signMask := goodIn_r _ [7, 8, 9] (by decide +kernel) (by decide +kernel)
set_option maxRecDepth 20000 in
theorem gX0_negated_X0_signMask : GoodIn wsX0_negated (va_wsS RX0 41 yX0_signMask wsX0_signMask) := goodIn_app (goodIn_of _ (by decide +kernel)) ggX0_negated_X0_signMask
set_option maxRecDepth 20000 in
theorem ggX0_negated_X0_fitted : GoodIn wsX0_negated wsX0_fitted := goodIn_r _ [12] (by decide +kernel) (by decide +kernel)
set_option maxRecDepth 20000 in
theorem gX0_negated_X0_fitted : GoodIn wsX0_negated (va_wsS RX0 15 yX0_fitted wsX0_fitted) := goodIn_app (goodIn_of _ (by decide +kernel)) ggX0_negated_X0_fitted
theorem dX0_negated_0 : decode cX0_negated 0 = .ok (.iload_n 0, 1) := by decide +kernel
theorem dX0_negated_1 : decode cX0_negated 1 = .ok (.invokestatic 9, 3) := by decide +kernel
theorem dX0_negated_4 : decode cX0_negated 4 = .ok (.ifCond .eq 12, 3) := by decide +kernel
theorem dX0_negated_7 : decode cX0_negated 7 = .ok (.lload_n 1, 1) := by decide +kernel
theorem dX0_negated_8 : decode cX0_negated 8 = .ok (.iload_n 0, 1) := by decide +kernel
theorem dX0_negated_9 : decode cX0_negated 9 = .ok (.invokestatic 41, 3) := by decide +kernel
theorem dX0_negated_12 : decode cX0_negated 12 = .ok (.lxor, 1) := by decide +kernel
theorem dX0_negated_13 : decode cX0_negated 13 = .ok (.goto 9, 3) := by decide +kernel
theorem dX0_negated_16 : decode cX0_negated 16 = .ok (.iload_n 0, 1) := by decide +kernel
theorem dX0_negated_17 : decode cX0_negated 17 = .ok (.lload_n 1, 1) := by decide +kernel
theorem dX0_negated_18 : decode cX0_negated 18 = .ok (.lneg, 1) := by decide +kernel
theorem dX0_negated_19 : decode cX0_negated 19 = .ok (.invokestatic 15, 3) := by decide +kernel
theorem dX0_negated_22 : decode cX0_negated 22 = .ok (.lreturn, 1) := by decide +kernel
set_option maxRecDepth 20000 in
theorem ggX0_withSign_X0_magnitude : GoodIn wsX0_withSign wsX0_magnitude := goodIn_r _ [4, 5, 6, 7, 3, 8, 9, 10] (by decide +kernel) (by decide +kernel)
set_option maxRecDepth 20000 in
theorem gX0_withSign_X0_magnitude : GoodIn wsX0_withSign (va_wsS RX0 19 yX0_magnitude wsX0_magnitude) := goodIn_app (goodIn_of _ (by decide +kernel)) ggX0_withSign_X0_magnitude
set_option maxRecDepth 20000 in
theorem ggX0_withSign_X0_signMask : GoodIn wsX0_withSign wsX0_signMask := goodIn_r _ [8, 9, 10] (by decide +kernel) (by decide +kernel)
set_option maxRecDepth 20000 in
theorem gX0_withSign_X0_signMask : GoodIn wsX0_withSign (va_wsS RX0 41 yX0_signMask wsX0_signMask) := goodIn_app (goodIn_of _ (by decide +kernel)) ggX0_withSign_X0_signMask
theorem dX0_withSign_0 : decode cX0_withSign 0 = .ok (.iload_n 0, 1) := by decide +kernel
theorem dX0_withSign_1 : decode cX0_withSign 1 = .ok (.lload_n 1, 1) := by decide +kernel
theorem dX0_withSign_2 : decode cX0_withSign 2 = .ok (.invokestatic 19, 3) := by decide +kernel
theorem dX0_withSign_5 : decode cX0_withSign 5 = .ok (.lload_n 3, 1) := by decide +kernel
theorem dX0_withSign_6 : decode cX0_withSign 6 = .ok (.iload_n 0, 1) := by decide +kernel
theorem dX0_withSign_7 : decode cX0_withSign 7 = .ok (.invokestatic 41, 3) := by decide +kernel
theorem dX0_withSign_10 : decode cX0_withSign 10 = .ok (.land, 1) := by decide +kernel
theorem dX0_withSign_11 : decode cX0_withSign 11 = .ok (.lor, 1) := by decide +kernel
theorem dX0_withSign_12 : decode cX0_withSign 12 = .ok (.lreturn, 1) := by decide +kernel
set_option maxRecDepth 20000 in
theorem ggX0_signOf_X0_isZero : GoodIn wsX0_signOf wsX0_isZero := goodIn_r _ [4, 5, 6, 3, 7, 8, 9, 10, 11, 12, 13, 14, 15, 16] (by decide +kernel) (by decide +kernel)
set_option maxRecDepth 20000 in
theorem gX0_signOf_X0_isZero : GoodIn wsX0_signOf (va_wsS RX0 34 yX0_isZero wsX0_isZero) := goodIn_app (goodIn_of _ (by decide +kernel)) ggX0_signOf_X0_isZero
set_option maxRecDepth 20000 in
theorem ggX0_signOf_X0_one : GoodIn wsX0_signOf wsX0_one := goodIn_r _ [19, 20, 21, 3, 22, 23, 24, 25] (by decide +kernel) (by decide +kernel)
set_option maxRecDepth 20000 in
theorem gX0_signOf_X0_one : GoodIn wsX0_signOf (va_wsS RX0 44 yX0_one wsX0_one) := goodIn_app (goodIn_of _ (by decide +kernel)) ggX0_signOf_X0_one
set_option maxRecDepth 20000 in
theorem ggX0_signOf_X0_withSign : GoodIn wsX0_signOf wsX0_withSign := goodIn_r _ [28, 8, 9, 3, 10, 11, 12, 13, 14, 15, 16] (by decide +kernel) (by decide +kernel)
set_option maxRecDepth 20000 in
theorem gX0_signOf_X0_withSign : GoodIn wsX0_signOf (va_wsS RX0 47 yX0_withSign wsX0_withSign) := goodIn_app (goodIn_of _ (by decide +kernel)) ggX0_signOf_X0_withSign
theorem dX0_signOf_0 : decode cX0_signOf 0 = .ok (.iload_n 0, 1) := by decide +kernel
theorem dX0_signOf_1 : decode cX0_signOf 1 = .ok (.lload_n 1, 1) := by decide +kernel
theorem dX0_signOf_2 : decode cX0_signOf 2 = .ok (.invokestatic 34, 3) := by decide +kernel
theorem dX0_signOf_5 : decode cX0_signOf 5 = .ok (.ifCond .eq 7, 3) := by decide +kernel
theorem dX0_signOf_8 : decode cX0_signOf 8 = .ok (.lload_n 1, 1) := by decide +kernel
theorem dX0_signOf_9 : decode cX0_signOf 9 = .ok (.goto 12, 3) := by decide +kernel
theorem dX0_signOf_12 : decode cX0_signOf 12 = .ok (.iload_n 0, 1) := by decide +kernel
theorem dX0_signOf_13 : decode cX0_signOf 13 = .ok (.iload_n 0, 1) := by decide +kernel
theorem dX0_signOf_14 : decode cX0_signOf 14 = .ok (.invokestatic 44, 3) := by decide +kernel
theorem dX0_signOf_17 : decode cX0_signOf 17 = .ok (.lload_n 1, 1) := by decide +kernel
theorem dX0_signOf_18 : decode cX0_signOf 18 = .ok (.invokestatic 47, 3) := by decide +kernel
theorem dX0_signOf_21 : decode cX0_signOf 21 = .ok (.lreturn, 1) := by decide +kernel
set_option maxRecDepth 20000 in
theorem ggX0_whole_X0_magnitude : GoodIn wsX0_whole wsX0_magnitude := goodIn_r _ [4, 5, 6, 7, 3, 8, 9, 10] (by decide +kernel) (by decide +kernel)
set_option maxRecDepth 20000 in
theorem gX0_whole_X0_magnitude : GoodIn wsX0_whole (va_wsS RX0 19 yX0_magnitude wsX0_magnitude) := goodIn_app (goodIn_of _ (by decide +kernel)) ggX0_whole_X0_magnitude
set_option maxRecDepth 20000 in
theorem ggX0_whole_X0_wholeMagnitude : GoodIn wsX0_whole wsX0_wholeMagnitude := goodIn_r _ [13, 14, 15, 3, 16, 17, 18, 19, 20, 21, 22, 23, 24, 25, 26, 27, 28, 29, 30, 31] (by decide +kernel) (by decide +kernel)
set_option maxRecDepth 20000 in
theorem gX0_whole_X0_wholeMagnitude : GoodIn wsX0_whole (va_wsS RX0 51 yX0_wholeMagnitude wsX0_wholeMagnitude) := goodIn_app (goodIn_of _ (by decide +kernel)) ggX0_whole_X0_wholeMagnitude
set_option maxRecDepth 20000 in
theorem ggX0_whole_X0_withSign : GoodIn wsX0_whole wsX0_withSign := goodIn_r _ [34, 1, 2, 3, 4, 5, 6, 7, 8, 9, 10] (by decide +kernel) (by decide +kernel)
set_option maxRecDepth 20000 in
theorem gX0_whole_X0_withSign : GoodIn wsX0_whole (va_wsS RX0 47 yX0_withSign wsX0_withSign) := goodIn_app (goodIn_of _ (by decide +kernel)) ggX0_whole_X0_withSign
theorem dX0_whole_0 : decode cX0_whole 0 = .ok (.lload_n 1, 1) := by decide +kernel
theorem dX0_whole_1 : decode cX0_whole 1 = .ok (.lconst 0, 1) := by decide +kernel
theorem dX0_whole_2 : decode cX0_whole 2 = .ok (.lcmp, 1) := by decide +kernel
theorem dX0_whole_3 : decode cX0_whole 3 = .ok (.ifCond .ge 15, 3) := by decide +kernel
theorem dX0_whole_6 : decode cX0_whole 6 = .ok (.iload_n 3, 1) := by decide +kernel
theorem dX0_whole_7 : decode cX0_whole 7 = .ok (.ifCond .ne 7, 3) := by decide +kernel
theorem dX0_whole_10 : decode cX0_whole 10 = .ok (.iconst 1, 1) := by decide +kernel
theorem dX0_whole_11 : decode cX0_whole 11 = .ok (.goto 17, 3) := by decide +kernel
theorem dX0_whole_14 : decode cX0_whole 14 = .ok (.iconst 0, 1) := by decide +kernel
theorem dX0_whole_15 : decode cX0_whole 15 = .ok (.goto 13, 3) := by decide +kernel
theorem dX0_whole_18 : decode cX0_whole 18 = .ok (.iload_n 3, 1) := by decide +kernel
theorem dX0_whole_19 : decode cX0_whole 19 = .ok (.iconst 1, 1) := by decide +kernel
theorem dX0_whole_20 : decode cX0_whole 20 = .ok (.if_icmp .ne 7, 3) := by decide +kernel
theorem dX0_whole_23 : decode cX0_whole 23 = .ok (.iconst 1, 1) := by decide +kernel
theorem dX0_whole_24 : decode cX0_whole 24 = .ok (.goto 4, 3) := by decide +kernel
theorem dX0_whole_27 : decode cX0_whole 27 = .ok (.iconst 0, 1) := by decide +kernel
theorem dX0_whole_28 : decode cX0_whole 28 = .ok (.istore 4, 2) := by decide +kernel
theorem dX0_whole_30 : decode cX0_whole 30 = .ok (.iload_n 0, 1) := by decide +kernel
theorem dX0_whole_31 : decode cX0_whole 31 = .ok (.iload_n 0, 1) := by decide +kernel
theorem dX0_whole_32 : decode cX0_whole 32 = .ok (.lload_n 1, 1) := by decide +kernel
theorem dX0_whole_33 : decode cX0_whole 33 = .ok (.invokestatic 19, 3) := by decide +kernel
theorem dX0_whole_36 : decode cX0_whole 36 = .ok (.iload_n 3, 1) := by decide +kernel
theorem dX0_whole_37 : decode cX0_whole 37 = .ok (.iconst 2, 1) := by decide +kernel
theorem dX0_whole_38 : decode cX0_whole 38 = .ok (.if_icmp .ne 7, 3) := by decide +kernel
theorem dX0_whole_41 : decode cX0_whole 41 = .ok (.iconst 1, 1) := by decide +kernel
theorem dX0_whole_42 : decode cX0_whole 42 = .ok (.goto 4, 3) := by decide +kernel
theorem dX0_whole_45 : decode cX0_whole 45 = .ok (.iconst 0, 1) := by decide +kernel
theorem dX0_whole_46 : decode cX0_whole 46 = .ok (.iload 4, 2) := by decide +kernel
theorem dX0_whole_48 : decode cX0_whole 48 = .ok (.invokestatic 51, 3) := by decide +kernel
theorem dX0_whole_51 : decode cX0_whole 51 = .ok (.lstore 5, 2) := by decide +kernel
theorem dX0_whole_53 : decode cX0_whole 53 = .ok (.iload_n 0, 1) := by decide +kernel
theorem dX0_whole_54 : decode cX0_whole 54 = .ok (.lload 5, 2) := by decide +kernel
theorem dX0_whole_56 : decode cX0_whole 56 = .ok (.lload_n 1, 1) := by decide +kernel
theorem dX0_whole_57 : decode cX0_whole 57 = .ok (.invokestatic 47, 3) := by decide +kernel
theorem dX0_whole_60 : decode cX0_whole 60 = .ok (.lreturn, 1) := by decide +kernel
set_option maxRecDepth 20000 in
theorem ggX0_ofSort_X0_isBroken : GoodIn wsX0_ofSort wsX0_isBroken := goodIn_r _ [4] (by decide +kernel) (by decide +kernel)
set_option maxRecDepth 20000 in
theorem gX0_ofSort_X0_isBroken : GoodIn wsX0_ofSort (va_wsS RX0 9 yX0_isBroken wsX0_isBroken) := goodIn_app (goodIn_of _ (by decide +kernel)) ggX0_ofSort_X0_isBroken
set_option maxRecDepth 20000 in
theorem ggX0_ofSort_X0_brokenToWhole : GoodIn wsX0_ofSort wsX0_brokenToWhole := goodIn_r _ [7, 8, 9, 3, 10, 11, 12, 13, 14, 15, 16, 17, 18, 19, 20, 21, 22, 23, 24, 25, 26, 27, 28, 29, 30, 31, 32, 33] (by decide +kernel) (by decide +kernel)
set_option maxRecDepth 20000 in
theorem gX0_ofSort_X0_brokenToWhole : GoodIn wsX0_ofSort (va_wsS RX0 55 yX0_brokenToWhole wsX0_brokenToWhole) := goodIn_app (goodIn_of _ (by decide +kernel)) ggX0_ofSort_X0_brokenToWhole
set_option maxRecDepth 20000 in
theorem ggX0_ofSort_X0_fitted : GoodIn wsX0_ofSort wsX0_fitted := goodIn_r _ [36] (by decide +kernel) (by decide +kernel)
set_option maxRecDepth 20000 in
theorem gX0_ofSort_X0_fitted : GoodIn wsX0_ofSort (va_wsS RX0 15 yX0_fitted wsX0_fitted) := goodIn_app (goodIn_of _ (by decide +kernel)) ggX0_ofSort_X0_fitted
set_option maxRecDepth 20000 in
theorem ggX0_ofSort_X0_wholeToBroken : GoodIn wsX0_ofSort wsX0_wholeToBroken := goodIn_r _ [39, 40, 41, 3, 42, 20, 21, 22, 43, 44, 45, 23, 24, 25, 12, 13, 14, 15, 16] (by decide +kernel) (by decide +kernel)
set_option maxRecDepth 20000 in
theorem gX0_ofSort_X0_wholeToBroken : GoodIn wsX0_ofSort (va_wsS RX0 59 yX0_wholeToBroken wsX0_wholeToBroken) := goodIn_app (goodIn_of _ (by decide +kernel)) ggX0_ofSort_X0_wholeToBroken
set_option maxRecDepth 20000 in
theorem ggX0_ofSort_X0_magnitude : GoodIn wsX0_ofSort wsX0_magnitude := goodIn_r _ [10, 11, 12, 13, 3, 14, 15, 16] (by decide +kernel) (by decide +kernel)
set_option maxRecDepth 20000 in
theorem gX0_ofSort_X0_magnitude : GoodIn wsX0_ofSort (va_wsS RX0 19 yX0_magnitude wsX0_magnitude) := goodIn_app (goodIn_of _ (by decide +kernel)) ggX0_ofSort_X0_magnitude
set_option maxRecDepth 20000 in
theorem ggX0_ofSort_X0_widened : GoodIn wsX0_ofSort wsX0_widened := goodIn_r _ [48, 49, 50, 51, 3, 52, 23, 24, 25, 20, 21, 22, 40, 41, 42] (by decide +kernel) (by decide +kernel)
set_option maxRecDepth 20000 in
theorem gX0_ofSort_X0_widened : GoodIn wsX0_ofSort (va_wsS RX0 63 yX0_widened wsX0_widened) := goodIn_app (goodIn_of _ (by decide +kernel)) ggX0_ofSort_X0_widened
set_option maxRecDepth 20000 in
theorem ggX0_ofSort_X0_narrowed : GoodIn wsX0_ofSort wsX0_narrowed := goodIn_r _ [55, 49, 17, 18, 3, 19, 20, 21, 22, 23, 24, 25, 50, 51, 52, 43, 44, 45, 31, 32, 33] (by decide +kernel) (by decide +kernel)
set_option maxRecDepth 20000 in
theorem gX0_ofSort_X0_narrowed : GoodIn wsX0_ofSort (va_wsS RX0 66 yX0_narrowed wsX0_narrowed) := goodIn_app (goodIn_of _ (by decide +kernel)) ggX0_ofSort_X0_narrowed
set_option maxRecDepth 20000 in
theorem ggX0_ofSort_X0_signMask : GoodIn wsX0_ofSort wsX0_signMask := goodIn_r _ [14, 15, 16] (by decide +kernel) (by decide +kernel)
set_option maxRecDepth 20000 in
theorem gX0_ofSort_X0_signMask : GoodIn wsX0_ofSort (va_wsS RX0 41 yX0_signMask wsX0_signMask) := goodIn_app (goodIn_of _ (by decide +kernel)) ggX0_ofSort_X0_signMask
theorem dX0_ofSort_0 : decode cX0_ofSort 0 = .ok (.iload_n 0, 1) := by decide +kernel
theorem dX0_ofSort_1 : decode cX0_ofSort 1 = .ok (.iload_n 3, 1) := by decide +kernel
theorem dX0_ofSort_2 : decode cX0_ofSort 2 = .ok (.if_icmp .ne 5, 3) := by decide +kernel
theorem dX0_ofSort_5 : decode cX0_ofSort 5 = .ok (.lload_n 1, 1) := by decide +kernel
theorem dX0_ofSort_6 : decode cX0_ofSort 6 = .ok (.lreturn, 1) := by decide +kernel
theorem dX0_ofSort_7 : decode cX0_ofSort 7 = .ok (.iload_n 3, 1) := by decide +kernel
theorem dX0_ofSort_8 : decode cX0_ofSort 8 = .ok (.invokestatic 9, 3) := by decide +kernel
theorem dX0_ofSort_11 : decode cX0_ofSort 11 = .ok (.ifCond .ne 25, 3) := by decide +kernel
theorem dX0_ofSort_14 : decode cX0_ofSort 14 = .ok (.iload_n 0, 1) := by decide +kernel
theorem dX0_ofSort_15 : decode cX0_ofSort 15 = .ok (.invokestatic 9, 3) := by decide +kernel
theorem dX0_ofSort_18 : decode cX0_ofSort 18 = .ok (.ifCond .eq 12, 3) := by decide +kernel
theorem dX0_ofSort_21 : decode cX0_ofSort 21 = .ok (.iload_n 0, 1) := by decide +kernel
theorem dX0_ofSort_22 : decode cX0_ofSort 22 = .ok (.lload_n 1, 1) := by decide +kernel
theorem dX0_ofSort_23 : decode cX0_ofSort 23 = .ok (.iload_n 3, 1) := by decide +kernel
theorem dX0_ofSort_24 : decode cX0_ofSort 24 = .ok (.invokestatic 55, 3) := by decide +kernel
theorem dX0_ofSort_27 : decode cX0_ofSort 27 = .ok (.goto 8, 3) := by decide +kernel
theorem dX0_ofSort_30 : decode cX0_ofSort 30 = .ok (.iload_n 3, 1) := by decide +kernel
theorem dX0_ofSort_31 : decode cX0_ofSort 31 = .ok (.lload_n 1, 1) := by decide +kernel
theorem dX0_ofSort_32 : decode cX0_ofSort 32 = .ok (.invokestatic 15, 3) := by decide +kernel
theorem dX0_ofSort_35 : decode cX0_ofSort 35 = .ok (.lreturn, 1) := by decide +kernel
theorem dX0_ofSort_36 : decode cX0_ofSort 36 = .ok (.iload_n 0, 1) := by decide +kernel
theorem dX0_ofSort_37 : decode cX0_ofSort 37 = .ok (.invokestatic 9, 3) := by decide +kernel
theorem dX0_ofSort_40 : decode cX0_ofSort 40 = .ok (.ifCond .ne 9, 3) := by decide +kernel
theorem dX0_ofSort_43 : decode cX0_ofSort 43 = .ok (.lload_n 1, 1) := by decide +kernel
theorem dX0_ofSort_44 : decode cX0_ofSort 44 = .ok (.iload_n 3, 1) := by decide +kernel
theorem dX0_ofSort_45 : decode cX0_ofSort 45 = .ok (.invokestatic 59, 3) := by decide +kernel
theorem dX0_ofSort_48 : decode cX0_ofSort 48 = .ok (.lreturn, 1) := by decide +kernel
theorem dX0_ofSort_49 : decode cX0_ofSort 49 = .ok (.iload_n 0, 1) := by decide +kernel
theorem dX0_ofSort_50 : decode cX0_ofSort 50 = .ok (.lload_n 1, 1) := by decide +kernel
theorem dX0_ofSort_51 : decode cX0_ofSort 51 = .ok (.invokestatic 19, 3) := by decide +kernel
theorem dX0_ofSort_54 : decode cX0_ofSort 54 = .ok (.lstore 4, 2) := by decide +kernel
theorem dX0_ofSort_56 : decode cX0_ofSort 56 = .ok (.iload_n 3, 1) := by decide +kernel
theorem dX0_ofSort_57 : decode cX0_ofSort 57 = .ok (.iconst 3, 1) := by decide +kernel
theorem dX0_ofSort_58 : decode cX0_ofSort 58 = .ok (.if_icmp .ne 11, 3) := by decide +kernel
theorem dX0_ofSort_61 : decode cX0_ofSort 61 = .ok (.lload 4, 2) := by decide +kernel
theorem dX0_ofSort_63 : decode cX0_ofSort 63 = .ok (.invokestatic 63, 3) := by decide +kernel
theorem dX0_ofSort_66 : decode cX0_ofSort 66 = .ok (.goto 8, 3) := by decide +kernel
theorem dX0_ofSort_69 : decode cX0_ofSort 69 = .ok (.lload 4, 2) := by decide +kernel
theorem dX0_ofSort_71 : decode cX0_ofSort 71 = .ok (.invokestatic 66, 3) := by decide +kernel
theorem dX0_ofSort_74 : decode cX0_ofSort 74 = .ok (.lstore 6, 2) := by decide +kernel
theorem dX0_ofSort_76 : decode cX0_ofSort 76 = .ok (.lload_n 1, 1) := by decide +kernel
theorem dX0_ofSort_77 : decode cX0_ofSort 77 = .ok (.lconst 0, 1) := by decide +kernel
theorem dX0_ofSort_78 : decode cX0_ofSort 78 = .ok (.lcmp, 1) := by decide +kernel
theorem dX0_ofSort_79 : decode cX0_ofSort 79 = .ok (.ifCond .ge 13, 3) := by decide +kernel
theorem dX0_ofSort_82 : decode cX0_ofSort 82 = .ok (.lload 6, 2) := by decide +kernel
theorem dX0_ofSort_84 : decode cX0_ofSort 84 = .ok (.iload_n 3, 1) := by decide +kernel
theorem dX0_ofSort_85 : decode cX0_ofSort 85 = .ok (.invokestatic 41, 3) := by decide +kernel
theorem dX0_ofSort_88 : decode cX0_ofSort 88 = .ok (.lor, 1) := by decide +kernel
theorem dX0_ofSort_89 : decode cX0_ofSort 89 = .ok (.goto 5, 3) := by decide +kernel
theorem dX0_ofSort_92 : decode cX0_ofSort 92 = .ok (.lload 6, 2) := by decide +kernel
theorem dX0_ofSort_94 : decode cX0_ofSort 94 = .ok (.lreturn, 1) := by decide +kernel
theorem dX0_brokenRank_0 : decode cX0_brokenRank 0 = .ok (.lload_n 0, 1) := by decide +kernel
theorem dX0_brokenRank_1 : decode cX0_brokenRank 1 = .ok (.lconst 0, 1) := by decide +kernel
theorem dX0_brokenRank_2 : decode cX0_brokenRank 2 = .ok (.lcmp, 1) := by decide +kernel
theorem dX0_brokenRank_3 : decode cX0_brokenRank 3 = .ok (.ifCond .ge 11, 3) := by decide +kernel
theorem dX0_brokenRank_6 : decode cX0_brokenRank 6 = .ok (.lload_n 0, 1) := by decide +kernel
theorem dX0_brokenRank_7 : decode cX0_brokenRank 7 = .ok (.ldc2_w 69, 3) := by decide +kernel
theorem dX0_brokenRank_10 : decode cX0_brokenRank 10 = .ok (.lxor, 1) := by decide +kernel
theorem dX0_brokenRank_11 : decode cX0_brokenRank 11 = .ok (.goto 4, 3) := by decide +kernel
theorem dX0_brokenRank_14 : decode cX0_brokenRank 14 = .ok (.lload_n 0, 1) := by decide +kernel
theorem dX0_brokenRank_15 : decode cX0_brokenRank 15 = .ok (.lreturn, 1) := by decide +kernel
set_option maxRecDepth 20000 in
theorem ggX0_isZero_X0_isBroken : GoodIn wsX0_isZero wsX0_isBroken := goodIn_r _ [4] (by decide +kernel) (by decide +kernel)
set_option maxRecDepth 20000 in
theorem gX0_isZero_X0_isBroken : GoodIn wsX0_isZero (va_wsS RX0 9 yX0_isBroken wsX0_isBroken) := goodIn_app (goodIn_of _ (by decide +kernel)) ggX0_isZero_X0_isBroken
set_option maxRecDepth 20000 in
theorem ggX0_isZero_X0_magnitude : GoodIn wsX0_isZero wsX0_magnitude := goodIn_r _ [7, 8, 9, 10, 3, 11, 12, 13] (by decide +kernel) (by decide +kernel)
set_option maxRecDepth 20000 in
theorem gX0_isZero_X0_magnitude : GoodIn wsX0_isZero (va_wsS RX0 19 yX0_magnitude wsX0_magnitude) := goodIn_app (goodIn_of _ (by decide +kernel)) ggX0_isZero_X0_magnitude
theorem dX0_isZero_0 : decode cX0_isZero 0 = .ok (.iload_n 0, 1) := by decide +kernel
theorem dX0_isZero_1 : decode cX0_isZero 1 = .ok (.invokestatic 9, 3) := by decide +kernel
theorem dX0_isZero_4 : decode cX0_isZero 4 = .ok (.ifCond .eq 21, 3) := by decide +kernel
theorem dX0_isZero_7 : decode cX0_isZero 7 = .ok (.iload_n 0, 1) := by decide +kernel
theorem dX0_isZero_8 : decode cX0_isZero 8 = .ok (.lload_n 1, 1) := by decide +kernel
theorem dX0_isZero_9 : decode cX0_isZero 9 = .ok (.invokestatic 19, 3) := by decide +kernel
theorem dX0_isZero_12 : decode cX0_isZero 12 = .ok (.lconst 0, 1) := by decide +kernel
theorem dX0_isZero_13 : decode cX0_isZero 13 = .ok (.lcmp, 1) := by decide +kernel
theorem dX0_isZero_14 : decode cX0_isZero 14 = .ok (.ifCond .ne 7, 3) := by decide +kernel
theorem dX0_isZero_17 : decode cX0_isZero 17 = .ok (.iconst 1, 1) := by decide +kernel
theorem dX0_isZero_18 : decode cX0_isZero 18 = .ok (.goto 18, 3) := by decide +kernel
theorem dX0_isZero_21 : decode cX0_isZero 21 = .ok (.iconst 0, 1) := by decide +kernel
theorem dX0_isZero_22 : decode cX0_isZero 22 = .ok (.goto 14, 3) := by decide +kernel
theorem dX0_isZero_25 : decode cX0_isZero 25 = .ok (.lload_n 1, 1) := by decide +kernel
theorem dX0_isZero_26 : decode cX0_isZero 26 = .ok (.lconst 0, 1) := by decide +kernel
theorem dX0_isZero_27 : decode cX0_isZero 27 = .ok (.lcmp, 1) := by decide +kernel
theorem dX0_isZero_28 : decode cX0_isZero 28 = .ok (.ifCond .ne 7, 3) := by decide +kernel
theorem dX0_isZero_31 : decode cX0_isZero 31 = .ok (.iconst 1, 1) := by decide +kernel
theorem dX0_isZero_32 : decode cX0_isZero 32 = .ok (.goto 4, 3) := by decide +kernel
theorem dX0_isZero_35 : decode cX0_isZero 35 = .ok (.iconst 0, 1) := by decide +kernel
theorem dX0_isZero_36 : decode cX0_isZero 36 = .ok (.ireturn, 1) := by decide +kernel
theorem dX0_signMask_0 : decode cX0_signMask 0 = .ok (.iload_n 0, 1) := by decide +kernel
theorem dX0_signMask_1 : decode cX0_signMask 1 = .ok (.iconst 2, 1) := by decide +kernel
theorem dX0_signMask_2 : decode cX0_signMask 2 = .ok (.if_icmp .ne 9, 3) := by decide +kernel
theorem dX0_signMask_5 : decode cX0_signMask 5 = .ok (.ldc2_w 71, 3) := by decide +kernel
theorem dX0_signMask_8 : decode cX0_signMask 8 = .ok (.goto 6, 3) := by decide +kernel
theorem dX0_signMask_11 : decode cX0_signMask 11 = .ok (.ldc2_w 73, 3) := by decide +kernel
theorem dX0_signMask_14 : decode cX0_signMask 14 = .ok (.lreturn, 1) := by decide +kernel
set_option maxRecDepth 20000 in
theorem ggX0_magnitude_X0_signMask : GoodIn wsX0_magnitude wsX0_signMask := goodIn_r _ [5, 6, 7] (by decide +kernel) (by decide +kernel)
set_option maxRecDepth 20000 in
theorem gX0_magnitude_X0_signMask : GoodIn wsX0_magnitude (va_wsS RX0 41 yX0_signMask wsX0_signMask) := goodIn_app (goodIn_of _ (by decide +kernel)) ggX0_magnitude_X0_signMask
theorem dX0_magnitude_0 : decode cX0_magnitude 0 = .ok (.lload_n 1, 1) := by decide +kernel
theorem dX0_magnitude_1 : decode cX0_magnitude 1 = .ok (.iload_n 0, 1) := by decide +kernel
theorem dX0_magnitude_2 : decode cX0_magnitude 2 = .ok (.invokestatic 41, 3) := by decide +kernel
theorem dX0_magnitude_5 : decode cX0_magnitude 5 = .ok (.ldc2_w 75, 3) := by decide +kernel
theorem dX0_magnitude_8 : decode cX0_magnitude 8 = .ok (.lxor, 1) := by decide +kernel
theorem dX0_magnitude_9 : decode cX0_magnitude 9 = .ok (.land, 1) := by decide +kernel
theorem dX0_magnitude_10 : decode cX0_magnitude 10 = .ok (.lreturn, 1) := by decide +kernel
theorem dX0_fractionBits_0 : decode cX0_fractionBits 0 = .ok (.iload_n 0, 1) := by decide +kernel
theorem dX0_fractionBits_1 : decode cX0_fractionBits 1 = .ok (.iconst 2, 1) := by decide +kernel
theorem dX0_fractionBits_2 : decode cX0_fractionBits 2 = .ok (.if_icmp .ne 8, 3) := by decide +kernel
theorem dX0_fractionBits_5 : decode cX0_fractionBits 5 = .ok (.bipush 23, 2) := by decide +kernel
theorem dX0_fractionBits_7 : decode cX0_fractionBits 7 = .ok (.goto 5, 3) := by decide +kernel
theorem dX0_fractionBits_10 : decode cX0_fractionBits 10 = .ok (.bipush 52, 2) := by decide +kernel
theorem dX0_fractionBits_12 : decode cX0_fractionBits 12 = .ok (.ireturn, 1) := by decide +kernel
theorem dX0_bias_0 : decode cX0_bias 0 = .ok (.iload_n 0, 1) := by decide +kernel
theorem dX0_bias_1 : decode cX0_bias 1 = .ok (.iconst 2, 1) := by decide +kernel
theorem dX0_bias_2 : decode cX0_bias 2 = .ok (.if_icmp .ne 8, 3) := by decide +kernel
theorem dX0_bias_5 : decode cX0_bias 5 = .ok (.bipush 127, 2) := by decide +kernel
theorem dX0_bias_7 : decode cX0_bias 7 = .ok (.goto 6, 3) := by decide +kernel
theorem dX0_bias_10 : decode cX0_bias 10 = .ok (.sipush 1023, 3) := by decide +kernel
theorem dX0_bias_13 : decode cX0_bias 13 = .ok (.ireturn, 1) := by decide +kernel
set_option maxRecDepth 20000 in
theorem ggX0_infinity_X0_bias : GoodIn wsX0_infinity wsX0_bias := goodIn_r _ [4] (by decide +kernel) (by decide +kernel)
set_option maxRecDepth 20000 in
theorem gX0_infinity_X0_bias : GoodIn wsX0_infinity (va_wsS RX0 77 yX0_bias wsX0_bias) := goodIn_app (goodIn_of _ (by decide +kernel)) ggX0_infinity_X0_bias
set_option maxRecDepth 20000 in
theorem ggX0_infinity_X0_fractionBits : GoodIn wsX0_infinity wsX0_fractionBits := goodIn_r _ [7] (by decide +kernel) (by decide +kernel)
set_option maxRecDepth 20000 in
theorem gX0_infinity_X0_fractionBits : GoodIn wsX0_infinity (va_wsS RX0 81 yX0_fractionBits wsX0_fractionBits) := goodIn_app (goodIn_of _ (by decide +kernel)) ggX0_infinity_X0_fractionBits
theorem dX0_infinity_0 : decode cX0_infinity 0 = .ok (.iconst 2, 1) := by decide +kernel
theorem dX0_infinity_1 : decode cX0_infinity 1 = .ok (.iload_n 0, 1) := by decide +kernel
theorem dX0_infinity_2 : decode cX0_infinity 2 = .ok (.invokestatic 77, 3) := by decide +kernel
theorem dX0_infinity_5 : decode cX0_infinity 5 = .ok (.imul, 1) := by decide +kernel
theorem dX0_infinity_6 : decode cX0_infinity 6 = .ok (.iconst 1, 1) := by decide +kernel
theorem dX0_infinity_7 : decode cX0_infinity 7 = .ok (.iadd, 1) := by decide +kernel
theorem dX0_infinity_8 : decode cX0_infinity 8 = .ok (.i2l, 1) := by decide +kernel
theorem dX0_infinity_9 : decode cX0_infinity 9 = .ok (.iload_n 0, 1) := by decide +kernel
theorem dX0_infinity_10 : decode cX0_infinity 10 = .ok (.invokestatic 81, 3) := by decide +kernel
theorem dX0_infinity_13 : decode cX0_infinity 13 = .ok (.lshl, 1) := by decide +kernel
theorem dX0_infinity_14 : decode cX0_infinity 14 = .ok (.lreturn, 1) := by decide +kernel
set_option maxRecDepth 20000 in
theorem ggX0_one_X0_bias : GoodIn wsX0_one wsX0_bias := goodIn_r _ [4] (by decide +kernel) (by decide +kernel)
set_option maxRecDepth 20000 in
theorem gX0_one_X0_bias : GoodIn wsX0_one (va_wsS RX0 77 yX0_bias wsX0_bias) := goodIn_app (goodIn_of _ (by decide +kernel)) ggX0_one_X0_bias
set_option maxRecDepth 20000 in
theorem ggX0_one_X0_fractionBits : GoodIn wsX0_one wsX0_fractionBits := goodIn_r _ [7] (by decide +kernel) (by decide +kernel)
set_option maxRecDepth 20000 in
theorem gX0_one_X0_fractionBits : GoodIn wsX0_one (va_wsS RX0 81 yX0_fractionBits wsX0_fractionBits) := goodIn_app (goodIn_of _ (by decide +kernel)) ggX0_one_X0_fractionBits
theorem dX0_one_0 : decode cX0_one 0 = .ok (.iload_n 0, 1) := by decide +kernel
theorem dX0_one_1 : decode cX0_one 1 = .ok (.invokestatic 77, 3) := by decide +kernel
theorem dX0_one_4 : decode cX0_one 4 = .ok (.i2l, 1) := by decide +kernel
theorem dX0_one_5 : decode cX0_one 5 = .ok (.iload_n 0, 1) := by decide +kernel
theorem dX0_one_6 : decode cX0_one 6 = .ok (.invokestatic 81, 3) := by decide +kernel
theorem dX0_one_9 : decode cX0_one 9 = .ok (.lshl, 1) := by decide +kernel
theorem dX0_one_10 : decode cX0_one 10 = .ok (.lreturn, 1) := by decide +kernel
set_option maxRecDepth 20000 in
theorem ggX0_half_X0_bias : GoodIn wsX0_half wsX0_bias := goodIn_r _ [4] (by decide +kernel) (by decide +kernel)
set_option maxRecDepth 20000 in
theorem gX0_half_X0_bias : GoodIn wsX0_half (va_wsS RX0 77 yX0_bias wsX0_bias) := goodIn_app (goodIn_of _ (by decide +kernel)) ggX0_half_X0_bias
set_option maxRecDepth 20000 in
theorem ggX0_half_X0_fractionBits : GoodIn wsX0_half wsX0_fractionBits := goodIn_r _ [7] (by decide +kernel) (by decide +kernel)
set_option maxRecDepth 20000 in
theorem gX0_half_X0_fractionBits : GoodIn wsX0_half (va_wsS RX0 81 yX0_fractionBits wsX0_fractionBits) := goodIn_app (goodIn_of _ (by decide +kernel)) ggX0_half_X0_fractionBits
theorem dX0_half_0 : decode cX0_half 0 = .ok (.iload_n 0, 1) := by decide +kernel
theorem dX0_half_1 : decode cX0_half 1 = .ok (.invokestatic 77, 3) := by decide +kernel
theorem dX0_half_4 : decode cX0_half 4 = .ok (.iconst 1, 1) := by decide +kernel
theorem dX0_half_5 : decode cX0_half 5 = .ok (.isub, 1) := by decide +kernel
theorem dX0_half_6 : decode cX0_half 6 = .ok (.i2l, 1) := by decide +kernel
theorem dX0_half_7 : decode cX0_half 7 = .ok (.iload_n 0, 1) := by decide +kernel
theorem dX0_half_8 : decode cX0_half 8 = .ok (.invokestatic 81, 3) := by decide +kernel
theorem dX0_half_11 : decode cX0_half 11 = .ok (.lshl, 1) := by decide +kernel
theorem dX0_half_12 : decode cX0_half 12 = .ok (.lreturn, 1) := by decide +kernel
set_option maxRecDepth 20000 in
theorem ggX0_power_X0_fractionBits : GoodIn wsX0_power wsX0_fractionBits := goodIn_r _ [4] (by decide +kernel) (by decide +kernel)
set_option maxRecDepth 20000 in
theorem gX0_power_X0_fractionBits : GoodIn wsX0_power (va_wsS RX0 81 yX0_fractionBits wsX0_fractionBits) := goodIn_app (goodIn_of _ (by decide +kernel)) ggX0_power_X0_fractionBits
set_option maxRecDepth 20000 in
theorem ggX0_power_X0_bias : GoodIn wsX0_power wsX0_bias := goodIn_r _ [7] (by decide +kernel) (by decide +kernel)
set_option maxRecDepth 20000 in
theorem gX0_power_X0_bias : GoodIn wsX0_power (va_wsS RX0 77 yX0_bias wsX0_bias) := goodIn_app (goodIn_of _ (by decide +kernel)) ggX0_power_X0_bias
theorem dX0_power_0 : decode cX0_power 0 = .ok (.lload_n 1, 1) := by decide +kernel
theorem dX0_power_1 : decode cX0_power 1 = .ok (.iload_n 0, 1) := by decide +kernel
theorem dX0_power_2 : decode cX0_power 2 = .ok (.invokestatic 81, 3) := by decide +kernel
theorem dX0_power_5 : decode cX0_power 5 = .ok (.lushr, 1) := by decide +kernel
theorem dX0_power_6 : decode cX0_power 6 = .ok (.l2i, 1) := by decide +kernel
theorem dX0_power_7 : decode cX0_power 7 = .ok (.iload_n 0, 1) := by decide +kernel
theorem dX0_power_8 : decode cX0_power 8 = .ok (.invokestatic 77, 3) := by decide +kernel
theorem dX0_power_11 : decode cX0_power 11 = .ok (.isub, 1) := by decide +kernel
theorem dX0_power_12 : decode cX0_power 12 = .ok (.ireturn, 1) := by decide +kernel
set_option maxRecDepth 20000 in
theorem ggX0_mantissa_X0_fractionBits : GoodIn wsX0_mantissa wsX0_fractionBits := goodIn_r _ [4] (by decide +kernel) (by decide +kernel)
set_option maxRecDepth 20000 in
theorem gX0_mantissa_X0_fractionBits : GoodIn wsX0_mantissa (va_wsS RX0 81 yX0_fractionBits wsX0_fractionBits) := goodIn_app (goodIn_of _ (by decide +kernel)) ggX0_mantissa_X0_fractionBits
theorem dX0_mantissa_0 : decode cX0_mantissa 0 = .ok (.lconst 1, 1) := by decide +kernel
theorem dX0_mantissa_1 : decode cX0_mantissa 1 = .ok (.iload_n 0, 1) := by decide +kernel
theorem dX0_mantissa_2 : decode cX0_mantissa 2 = .ok (.invokestatic 81, 3) := by decide +kernel
theorem dX0_mantissa_5 : decode cX0_mantissa 5 = .ok (.lshl, 1) := by decide +kernel
theorem dX0_mantissa_6 : decode cX0_mantissa 6 = .ok (.lstore_n 3, 1) := by decide +kernel
theorem dX0_mantissa_7 : decode cX0_mantissa 7 = .ok (.lload_n 1, 1) := by decide +kernel
theorem dX0_mantissa_8 : decode cX0_mantissa 8 = .ok (.lload_n 3, 1) := by decide +kernel
theorem dX0_mantissa_9 : decode cX0_mantissa 9 = .ok (.lconst 1, 1) := by decide +kernel
theorem dX0_mantissa_10 : decode cX0_mantissa 10 = .ok (.lsub, 1) := by decide +kernel
theorem dX0_mantissa_11 : decode cX0_mantissa 11 = .ok (.land, 1) := by decide +kernel
theorem dX0_mantissa_12 : decode cX0_mantissa 12 = .ok (.lload_n 3, 1) := by decide +kernel
theorem dX0_mantissa_13 : decode cX0_mantissa 13 = .ok (.lor, 1) := by decide +kernel
theorem dX0_mantissa_14 : decode cX0_mantissa 14 = .ok (.lreturn, 1) := by decide +kernel
set_option maxRecDepth 20000 in
theorem ggX0_wholeMagnitude_X0_power : GoodIn wsX0_wholeMagnitude wsX0_power := goodIn_r _ [4, 5, 6, 3, 7, 8, 9, 10] (by decide +kernel) (by decide +kernel)
set_option maxRecDepth 20000 in
theorem gX0_wholeMagnitude_X0_power : GoodIn wsX0_wholeMagnitude (va_wsS RX0 84 yX0_power wsX0_power) := goodIn_app (goodIn_of _ (by decide +kernel)) ggX0_wholeMagnitude_X0_power
set_option maxRecDepth 20000 in
theorem ggX0_wholeMagnitude_X0_fractionBits : GoodIn wsX0_wholeMagnitude wsX0_fractionBits := goodIn_r _ [7] (by decide +kernel) (by decide +kernel)
set_option maxRecDepth 20000 in
theorem gX0_wholeMagnitude_X0_fractionBits : GoodIn wsX0_wholeMagnitude (va_wsS RX0 81 yX0_fractionBits wsX0_fractionBits) := goodIn_app (goodIn_of _ (by decide +kernel)) ggX0_wholeMagnitude_X0_fractionBits
set_option maxRecDepth 20000 in
theorem ggX0_wholeMagnitude_X0_half : GoodIn wsX0_wholeMagnitude wsX0_half := goodIn_r _ [13, 8, 9, 3, 10, 5, 6, 7] (by decide +kernel) (by decide +kernel)
set_option maxRecDepth 20000 in
theorem gX0_wholeMagnitude_X0_half : GoodIn wsX0_wholeMagnitude (va_wsS RX0 88 yX0_half wsX0_half) := goodIn_app (goodIn_of _ (by decide +kernel)) ggX0_wholeMagnitude_X0_half
set_option maxRecDepth 20000 in
theorem ggX0_wholeMagnitude_X0_one : GoodIn wsX0_wholeMagnitude wsX0_one := goodIn_r _ [16, 8, 9, 3, 10, 5, 6, 7] (by decide +kernel) (by decide +kernel)
set_option maxRecDepth 20000 in
theorem gX0_wholeMagnitude_X0_one : GoodIn wsX0_wholeMagnitude (va_wsS RX0 44 yX0_one wsX0_one) := goodIn_app (goodIn_of _ (by decide +kernel)) ggX0_wholeMagnitude_X0_one
set_option maxRecDepth 20000 in
theorem ggX0_wholeMagnitude_X0_nearestShifted : GoodIn wsX0_wholeMagnitude wsX0_nearestShifted := goodIn_r _ [19] (by decide +kernel) (by decide +kernel)
set_option maxRecDepth 20000 in
theorem gX0_wholeMagnitude_X0_nearestShifted : GoodIn wsX0_wholeMagnitude (va_wsS RX0 91 yX0_nearestShifted wsX0_nearestShifted) := goodIn_app (goodIn_of _ (by decide +kernel)) ggX0_wholeMagnitude_X0_nearestShifted
theorem dX0_wholeMagnitude_0 : decode cX0_wholeMagnitude 0 = .ok (.iload_n 0, 1) := by decide +kernel
theorem dX0_wholeMagnitude_1 : decode cX0_wholeMagnitude 1 = .ok (.lload_n 1, 1) := by decide +kernel
theorem dX0_wholeMagnitude_2 : decode cX0_wholeMagnitude 2 = .ok (.invokestatic 84, 3) := by decide +kernel
theorem dX0_wholeMagnitude_5 : decode cX0_wholeMagnitude 5 = .ok (.istore 5, 2) := by decide +kernel
theorem dX0_wholeMagnitude_7 : decode cX0_wholeMagnitude 7 = .ok (.lload_n 1, 1) := by decide +kernel
theorem dX0_wholeMagnitude_8 : decode cX0_wholeMagnitude 8 = .ok (.lconst 0, 1) := by decide +kernel
theorem dX0_wholeMagnitude_9 : decode cX0_wholeMagnitude 9 = .ok (.lcmp, 1) := by decide +kernel
theorem dX0_wholeMagnitude_10 : decode cX0_wholeMagnitude 10 = .ok (.ifCond .eq 12, 3) := by decide +kernel
theorem dX0_wholeMagnitude_13 : decode cX0_wholeMagnitude 13 = .ok (.iload 5, 2) := by decide +kernel
theorem dX0_wholeMagnitude_15 : decode cX0_wholeMagnitude 15 = .ok (.iload_n 0, 1) := by decide +kernel
theorem dX0_wholeMagnitude_16 : decode cX0_wholeMagnitude 16 = .ok (.invokestatic 81, 3) := by decide +kernel
theorem dX0_wholeMagnitude_19 : decode cX0_wholeMagnitude 19 = .ok (.if_icmp .lt 5, 3) := by decide +kernel
theorem dX0_wholeMagnitude_22 : decode cX0_wholeMagnitude 22 = .ok (.lload_n 1, 1) := by decide +kernel
theorem dX0_wholeMagnitude_23 : decode cX0_wholeMagnitude 23 = .ok (.lreturn, 1) := by decide +kernel
theorem dX0_wholeMagnitude_24 : decode cX0_wholeMagnitude 24 = .ok (.iload 5, 2) := by decide +kernel
theorem dX0_wholeMagnitude_26 : decode cX0_wholeMagnitude 26 = .ok (.ifCond .ge 42, 3) := by decide +kernel
theorem dX0_wholeMagnitude_29 : decode cX0_wholeMagnitude 29 = .ok (.iload_n 3, 1) := by decide +kernel
theorem dX0_wholeMagnitude_30 : decode cX0_wholeMagnitude 30 = .ok (.ifCond .eq 20, 3) := by decide +kernel
theorem dX0_wholeMagnitude_33 : decode cX0_wholeMagnitude 33 = .ok (.lload_n 1, 1) := by decide +kernel
theorem dX0_wholeMagnitude_34 : decode cX0_wholeMagnitude 34 = .ok (.iload_n 0, 1) := by decide +kernel
theorem dX0_wholeMagnitude_35 : decode cX0_wholeMagnitude 35 = .ok (.invokestatic 88, 3) := by decide +kernel
theorem dX0_wholeMagnitude_38 : decode cX0_wholeMagnitude 38 = .ok (.lcmp, 1) := by decide +kernel
theorem dX0_wholeMagnitude_39 : decode cX0_wholeMagnitude 39 = .ok (.ifCond .le 7, 3) := by decide +kernel
theorem dX0_wholeMagnitude_42 : decode cX0_wholeMagnitude 42 = .ok (.iconst 1, 1) := by decide +kernel
theorem dX0_wholeMagnitude_43 : decode cX0_wholeMagnitude 43 = .ok (.goto 9, 3) := by decide +kernel
theorem dX0_wholeMagnitude_46 : decode cX0_wholeMagnitude 46 = .ok (.iconst 0, 1) := by decide +kernel
theorem dX0_wholeMagnitude_47 : decode cX0_wholeMagnitude 47 = .ok (.goto 5, 3) := by decide +kernel
theorem dX0_wholeMagnitude_50 : decode cX0_wholeMagnitude 50 = .ok (.iload 4, 2) := by decide +kernel
theorem dX0_wholeMagnitude_52 : decode cX0_wholeMagnitude 52 = .ok (.istore 6, 2) := by decide +kernel
theorem dX0_wholeMagnitude_54 : decode cX0_wholeMagnitude 54 = .ok (.iload 6, 2) := by decide +kernel
theorem dX0_wholeMagnitude_56 : decode cX0_wholeMagnitude 56 = .ok (.ifCond .eq 10, 3) := by decide +kernel
theorem dX0_wholeMagnitude_59 : decode cX0_wholeMagnitude 59 = .ok (.iload_n 0, 1) := by decide +kernel
theorem dX0_wholeMagnitude_60 : decode cX0_wholeMagnitude 60 = .ok (.invokestatic 44, 3) := by decide +kernel
theorem dX0_wholeMagnitude_63 : decode cX0_wholeMagnitude 63 = .ok (.goto 4, 3) := by decide +kernel
theorem dX0_wholeMagnitude_66 : decode cX0_wholeMagnitude 66 = .ok (.lconst 0, 1) := by decide +kernel
theorem dX0_wholeMagnitude_67 : decode cX0_wholeMagnitude 67 = .ok (.lreturn, 1) := by decide +kernel
theorem dX0_wholeMagnitude_68 : decode cX0_wholeMagnitude 68 = .ok (.iload_n 0, 1) := by decide +kernel
theorem dX0_wholeMagnitude_69 : decode cX0_wholeMagnitude 69 = .ok (.invokestatic 81, 3) := by decide +kernel
theorem dX0_wholeMagnitude_72 : decode cX0_wholeMagnitude 72 = .ok (.iload 5, 2) := by decide +kernel
theorem dX0_wholeMagnitude_74 : decode cX0_wholeMagnitude 74 = .ok (.isub, 1) := by decide +kernel
theorem dX0_wholeMagnitude_75 : decode cX0_wholeMagnitude 75 = .ok (.istore 6, 2) := by decide +kernel
theorem dX0_wholeMagnitude_77 : decode cX0_wholeMagnitude 77 = .ok (.iload_n 3, 1) := by decide +kernel
theorem dX0_wholeMagnitude_78 : decode cX0_wholeMagnitude 78 = .ok (.ifCond .eq 13, 3) := by decide +kernel
theorem dX0_wholeMagnitude_81 : decode cX0_wholeMagnitude 81 = .ok (.lload_n 1, 1) := by decide +kernel
theorem dX0_wholeMagnitude_82 : decode cX0_wholeMagnitude 82 = .ok (.iload 6, 2) := by decide +kernel
theorem dX0_wholeMagnitude_84 : decode cX0_wholeMagnitude 84 = .ok (.invokestatic 91, 3) := by decide +kernel
theorem dX0_wholeMagnitude_87 : decode cX0_wholeMagnitude 87 = .ok (.iload 6, 2) := by decide +kernel
theorem dX0_wholeMagnitude_89 : decode cX0_wholeMagnitude 89 = .ok (.lshl, 1) := by decide +kernel
theorem dX0_wholeMagnitude_90 : decode cX0_wholeMagnitude 90 = .ok (.lreturn, 1) := by decide +kernel
theorem dX0_wholeMagnitude_91 : decode cX0_wholeMagnitude 91 = .ok (.lconst 1, 1) := by decide +kernel
theorem dX0_wholeMagnitude_92 : decode cX0_wholeMagnitude 92 = .ok (.iload 6, 2) := by decide +kernel
theorem dX0_wholeMagnitude_94 : decode cX0_wholeMagnitude 94 = .ok (.lshl, 1) := by decide +kernel
theorem dX0_wholeMagnitude_95 : decode cX0_wholeMagnitude 95 = .ok (.lstore 7, 2) := by decide +kernel
theorem dX0_wholeMagnitude_97 : decode cX0_wholeMagnitude 97 = .ok (.lload_n 1, 1) := by decide +kernel
theorem dX0_wholeMagnitude_98 : decode cX0_wholeMagnitude 98 = .ok (.lload 7, 2) := by decide +kernel
theorem dX0_wholeMagnitude_100 : decode cX0_wholeMagnitude 100 = .ok (.lconst 1, 1) := by decide +kernel
theorem dX0_wholeMagnitude_101 : decode cX0_wholeMagnitude 101 = .ok (.lsub, 1) := by decide +kernel
theorem dX0_wholeMagnitude_102 : decode cX0_wholeMagnitude 102 = .ok (.land, 1) := by decide +kernel
theorem dX0_wholeMagnitude_103 : decode cX0_wholeMagnitude 103 = .ok (.lconst 0, 1) := by decide +kernel
theorem dX0_wholeMagnitude_104 : decode cX0_wholeMagnitude 104 = .ok (.lcmp, 1) := by decide +kernel
theorem dX0_wholeMagnitude_105 : decode cX0_wholeMagnitude 105 = .ok (.ifCond .eq 7, 3) := by decide +kernel
theorem dX0_wholeMagnitude_108 : decode cX0_wholeMagnitude 108 = .ok (.iconst 1, 1) := by decide +kernel
theorem dX0_wholeMagnitude_109 : decode cX0_wholeMagnitude 109 = .ok (.goto 4, 3) := by decide +kernel
theorem dX0_wholeMagnitude_112 : decode cX0_wholeMagnitude 112 = .ok (.iconst 0, 1) := by decide +kernel
theorem dX0_wholeMagnitude_113 : decode cX0_wholeMagnitude 113 = .ok (.istore 9, 2) := by decide +kernel
theorem dX0_wholeMagnitude_115 : decode cX0_wholeMagnitude 115 = .ok (.lload_n 1, 1) := by decide +kernel
theorem dX0_wholeMagnitude_116 : decode cX0_wholeMagnitude 116 = .ok (.lload 7, 2) := by decide +kernel
theorem dX0_wholeMagnitude_118 : decode cX0_wholeMagnitude 118 = .ok (.lneg, 1) := by decide +kernel
theorem dX0_wholeMagnitude_119 : decode cX0_wholeMagnitude 119 = .ok (.land, 1) := by decide +kernel
theorem dX0_wholeMagnitude_120 : decode cX0_wholeMagnitude 120 = .ok (.lstore 10, 2) := by decide +kernel
theorem dX0_wholeMagnitude_122 : decode cX0_wholeMagnitude 122 = .ok (.iload 9, 2) := by decide +kernel
theorem dX0_wholeMagnitude_124 : decode cX0_wholeMagnitude 124 = .ok (.ifCond .eq 16, 3) := by decide +kernel
theorem dX0_wholeMagnitude_127 : decode cX0_wholeMagnitude 127 = .ok (.iload 4, 2) := by decide +kernel
theorem dX0_wholeMagnitude_129 : decode cX0_wholeMagnitude 129 = .ok (.ifCond .eq 11, 3) := by decide +kernel
theorem dX0_wholeMagnitude_132 : decode cX0_wholeMagnitude 132 = .ok (.lload 10, 2) := by decide +kernel
theorem dX0_wholeMagnitude_134 : decode cX0_wholeMagnitude 134 = .ok (.lload 7, 2) := by decide +kernel
theorem dX0_wholeMagnitude_136 : decode cX0_wholeMagnitude 136 = .ok (.ladd, 1) := by decide +kernel
theorem dX0_wholeMagnitude_137 : decode cX0_wholeMagnitude 137 = .ok (.goto 5, 3) := by decide +kernel
theorem dX0_wholeMagnitude_140 : decode cX0_wholeMagnitude 140 = .ok (.lload 10, 2) := by decide +kernel
theorem dX0_wholeMagnitude_142 : decode cX0_wholeMagnitude 142 = .ok (.lreturn, 1) := by decide +kernel
theorem dX0_nearestShifted_0 : decode cX0_nearestShifted 0 = .ok (.lload_n 0, 1) := by decide +kernel
theorem dX0_nearestShifted_1 : decode cX0_nearestShifted 1 = .ok (.iload_n 2, 1) := by decide +kernel
theorem dX0_nearestShifted_2 : decode cX0_nearestShifted 2 = .ok (.lushr, 1) := by decide +kernel
theorem dX0_nearestShifted_3 : decode cX0_nearestShifted 3 = .ok (.lstore_n 3, 1) := by decide +kernel
theorem dX0_nearestShifted_4 : decode cX0_nearestShifted 4 = .ok (.lload_n 0, 1) := by decide +kernel
theorem dX0_nearestShifted_5 : decode cX0_nearestShifted 5 = .ok (.lconst 1, 1) := by decide +kernel
theorem dX0_nearestShifted_6 : decode cX0_nearestShifted 6 = .ok (.iload_n 2, 1) := by decide +kernel
theorem dX0_nearestShifted_7 : decode cX0_nearestShifted 7 = .ok (.lshl, 1) := by decide +kernel
theorem dX0_nearestShifted_8 : decode cX0_nearestShifted 8 = .ok (.lconst 1, 1) := by decide +kernel
theorem dX0_nearestShifted_9 : decode cX0_nearestShifted 9 = .ok (.lsub, 1) := by decide +kernel
theorem dX0_nearestShifted_10 : decode cX0_nearestShifted 10 = .ok (.land, 1) := by decide +kernel
theorem dX0_nearestShifted_11 : decode cX0_nearestShifted 11 = .ok (.lstore 5, 2) := by decide +kernel
theorem dX0_nearestShifted_13 : decode cX0_nearestShifted 13 = .ok (.lconst 1, 1) := by decide +kernel
theorem dX0_nearestShifted_14 : decode cX0_nearestShifted 14 = .ok (.iload_n 2, 1) := by decide +kernel
theorem dX0_nearestShifted_15 : decode cX0_nearestShifted 15 = .ok (.iconst 1, 1) := by decide +kernel
theorem dX0_nearestShifted_16 : decode cX0_nearestShifted 16 = .ok (.isub, 1) := by decide +kernel
theorem dX0_nearestShifted_17 : decode cX0_nearestShifted 17 = .ok (.lshl, 1) := by decide +kernel
theorem dX0_nearestShifted_18 : decode cX0_nearestShifted 18 = .ok (.lstore 7, 2) := by decide +kernel
theorem dX0_nearestShifted_20 : decode cX0_nearestShifted 20 = .ok (.lload 5, 2) := by decide +kernel
theorem dX0_nearestShifted_22 : decode cX0_nearestShifted 22 = .ok (.lload 7, 2) := by decide +kernel
theorem dX0_nearestShifted_24 : decode cX0_nearestShifted 24 = .ok (.lcmp, 1) := by decide +kernel
theorem dX0_nearestShifted_25 : decode cX0_nearestShifted 25 = .ok (.ifCond .gt 19, 3) := by decide +kernel
theorem dX0_nearestShifted_28 : decode cX0_nearestShifted 28 = .ok (.lload 5, 2) := by decide +kernel
theorem dX0_nearestShifted_30 : decode cX0_nearestShifted 30 = .ok (.lload 7, 2) := by decide +kernel
theorem dX0_nearestShifted_32 : decode cX0_nearestShifted 32 = .ok (.lcmp, 1) := by decide +kernel
theorem dX0_nearestShifted_33 : decode cX0_nearestShifted 33 = .ok (.ifCond .ne 15, 3) := by decide +kernel
theorem dX0_nearestShifted_36 : decode cX0_nearestShifted 36 = .ok (.lload_n 3, 1) := by decide +kernel
theorem dX0_nearestShifted_37 : decode cX0_nearestShifted 37 = .ok (.lconst 1, 1) := by decide +kernel
theorem dX0_nearestShifted_38 : decode cX0_nearestShifted 38 = .ok (.land, 1) := by decide +kernel
theorem dX0_nearestShifted_39 : decode cX0_nearestShifted 39 = .ok (.lconst 1, 1) := by decide +kernel
theorem dX0_nearestShifted_40 : decode cX0_nearestShifted 40 = .ok (.lcmp, 1) := by decide +kernel
theorem dX0_nearestShifted_41 : decode cX0_nearestShifted 41 = .ok (.ifCond .ne 7, 3) := by decide +kernel
theorem dX0_nearestShifted_44 : decode cX0_nearestShifted 44 = .ok (.iconst 1, 1) := by decide +kernel
theorem dX0_nearestShifted_45 : decode cX0_nearestShifted 45 = .ok (.goto 4, 3) := by decide +kernel
theorem dX0_nearestShifted_48 : decode cX0_nearestShifted 48 = .ok (.iconst 0, 1) := by decide +kernel
theorem dX0_nearestShifted_49 : decode cX0_nearestShifted 49 = .ok (.istore 9, 2) := by decide +kernel
theorem dX0_nearestShifted_51 : decode cX0_nearestShifted 51 = .ok (.iload 9, 2) := by decide +kernel
theorem dX0_nearestShifted_53 : decode cX0_nearestShifted 53 = .ok (.ifCond .eq 9, 3) := by decide +kernel
theorem dX0_nearestShifted_56 : decode cX0_nearestShifted 56 = .ok (.lload_n 3, 1) := by decide +kernel
theorem dX0_nearestShifted_57 : decode cX0_nearestShifted 57 = .ok (.lconst 1, 1) := by decide +kernel
theorem dX0_nearestShifted_58 : decode cX0_nearestShifted 58 = .ok (.ladd, 1) := by decide +kernel
theorem dX0_nearestShifted_59 : decode cX0_nearestShifted 59 = .ok (.goto 4, 3) := by decide +kernel
theorem dX0_nearestShifted_62 : decode cX0_nearestShifted 62 = .ok (.lload_n 3, 1) := by decide +kernel
theorem dX0_nearestShifted_63 : decode cX0_nearestShifted 63 = .ok (.lreturn, 1) := by decide +kernel
theorem dX0_highestBit_0 : decode cX0_highestBit 0 = .ok (.bipush 63, 2) := by decide +kernel
theorem dX0_highestBit_2 : decode cX0_highestBit 2 = .ok (.istore_n 2, 1) := by decide +kernel
theorem dX0_highestBit_3 : decode cX0_highestBit 3 = .ok (.iload_n 2, 1) := by decide +kernel
theorem dX0_highestBit_4 : decode cX0_highestBit 4 = .ok (.ifCond .le 19, 3) := by decide +kernel
theorem dX0_highestBit_7 : decode cX0_highestBit 7 = .ok (.lload_n 0, 1) := by decide +kernel
theorem dX0_highestBit_8 : decode cX0_highestBit 8 = .ok (.iload_n 2, 1) := by decide +kernel
theorem dX0_highestBit_9 : decode cX0_highestBit 9 = .ok (.lushr, 1) := by decide +kernel
theorem dX0_highestBit_10 : decode cX0_highestBit 10 = .ok (.lconst 0, 1) := by decide +kernel
theorem dX0_highestBit_11 : decode cX0_highestBit 11 = .ok (.lcmp, 1) := by decide +kernel
theorem dX0_highestBit_12 : decode cX0_highestBit 12 = .ok (.ifCond .eq 5, 3) := by decide +kernel
theorem dX0_highestBit_15 : decode cX0_highestBit 15 = .ok (.iload_n 2, 1) := by decide +kernel
theorem dX0_highestBit_16 : decode cX0_highestBit 16 = .ok (.ireturn, 1) := by decide +kernel
theorem dX0_highestBit_17 : decode cX0_highestBit 17 = .ok (.iinc 2 (-1), 3) := by decide +kernel
theorem dX0_highestBit_20 : decode cX0_highestBit 20 = .ok (.goto (-17), 3) := by decide +kernel
theorem dX0_highestBit_23 : decode cX0_highestBit 23 = .ok (.iconst 0, 1) := by decide +kernel
theorem dX0_highestBit_24 : decode cX0_highestBit 24 = .ok (.ireturn, 1) := by decide +kernel
set_option maxRecDepth 20000 in
theorem ggX0_wholeToBroken_X0_highestBit : GoodIn wsX0_wholeToBroken wsX0_highestBit := goodIn_r _ [4] (by decide +kernel) (by decide +kernel)
set_option maxRecDepth 20000 in
theorem gX0_wholeToBroken_X0_highestBit : GoodIn wsX0_wholeToBroken (va_wsS RX0 94 yX0_highestBit wsX0_highestBit) := goodIn_app (goodIn_of _ (by decide +kernel)) ggX0_wholeToBroken_X0_highestBit
set_option maxRecDepth 20000 in
theorem ggX0_wholeToBroken_X0_fractionBits : GoodIn wsX0_wholeToBroken wsX0_fractionBits := goodIn_r _ [7] (by decide +kernel) (by decide +kernel)
set_option maxRecDepth 20000 in
theorem gX0_wholeToBroken_X0_fractionBits : GoodIn wsX0_wholeToBroken (va_wsS RX0 81 yX0_fractionBits wsX0_fractionBits) := goodIn_app (goodIn_of _ (by decide +kernel)) ggX0_wholeToBroken_X0_fractionBits
set_option maxRecDepth 20000 in
theorem ggX0_wholeToBroken_X0_nearestShifted : GoodIn wsX0_wholeToBroken wsX0_nearestShifted := goodIn_r _ [10] (by decide +kernel) (by decide +kernel)
set_option maxRecDepth 20000 in
theorem gX0_wholeToBroken_X0_nearestShifted : GoodIn wsX0_wholeToBroken (va_wsS RX0 91 yX0_nearestShifted wsX0_nearestShifted) := goodIn_app (goodIn_of _ (by decide +kernel)) ggX0_wholeToBroken_X0_nearestShifted
set_option maxRecDepth 20000 in
theorem ggX0_wholeToBroken_X0_bias : GoodIn wsX0_wholeToBroken wsX0_bias := goodIn_r _ [13] (by decide +kernel) (by decide +kernel)
set_option maxRecDepth 20000 in
theorem gX0_wholeToBroken_X0_bias : GoodIn wsX0_wholeToBroken (va_wsS RX0 77 yX0_bias wsX0_bias) := goodIn_app (goodIn_of _ (by decide +kernel)) ggX0_wholeToBroken_X0_bias
set_option maxRecDepth 20000 in
theorem ggX0_wholeToBroken_X0_signMask : GoodIn wsX0_wholeToBroken wsX0_signMask := goodIn_r _ [16, 17, 18] (by decide +kernel) (by decide +kernel)
set_option maxRecDepth 20000 in
theorem gX0_wholeToBroken_X0_signMask : GoodIn wsX0_wholeToBroken (va_wsS RX0 41 yX0_signMask wsX0_signMask) := goodIn_app (goodIn_of _ (by decide +kernel)) ggX0_wholeToBroken_X0_signMask
theorem dX0_wholeToBroken_0 : decode cX0_wholeToBroken 0 = .ok (.lload_n 0, 1) := by decide +kernel
theorem dX0_wholeToBroken_1 : decode cX0_wholeToBroken 1 = .ok (.lconst 0, 1) := by decide +kernel
theorem dX0_wholeToBroken_2 : decode cX0_wholeToBroken 2 = .ok (.lcmp, 1) := by decide +kernel
theorem dX0_wholeToBroken_3 : decode cX0_wholeToBroken 3 = .ok (.ifCond .ne 5, 3) := by decide +kernel
theorem dX0_wholeToBroken_6 : decode cX0_wholeToBroken 6 = .ok (.lconst 0, 1) := by decide +kernel
theorem dX0_wholeToBroken_7 : decode cX0_wholeToBroken 7 = .ok (.lreturn, 1) := by decide +kernel
theorem dX0_wholeToBroken_8 : decode cX0_wholeToBroken 8 = .ok (.lload_n 0, 1) := by decide +kernel
theorem dX0_wholeToBroken_9 : decode cX0_wholeToBroken 9 = .ok (.lconst 0, 1) := by decide +kernel
theorem dX0_wholeToBroken_10 : decode cX0_wholeToBroken 10 = .ok (.lcmp, 1) := by decide +kernel
theorem dX0_wholeToBroken_11 : decode cX0_wholeToBroken 11 = .ok (.ifCond .ge 8, 3) := by decide +kernel
theorem dX0_wholeToBroken_14 : decode cX0_wholeToBroken 14 = .ok (.lload_n 0, 1) := by decide +kernel
theorem dX0_wholeToBroken_15 : decode cX0_wholeToBroken 15 = .ok (.lneg, 1) := by decide +kernel
theorem dX0_wholeToBroken_16 : decode cX0_wholeToBroken 16 = .ok (.goto 4, 3) := by decide +kernel
theorem dX0_wholeToBroken_19 : decode cX0_wholeToBroken 19 = .ok (.lload_n 0, 1) := by decide +kernel
theorem dX0_wholeToBroken_20 : decode cX0_wholeToBroken 20 = .ok (.lstore_n 3, 1) := by decide +kernel
theorem dX0_wholeToBroken_21 : decode cX0_wholeToBroken 21 = .ok (.lload_n 3, 1) := by decide +kernel
theorem dX0_wholeToBroken_22 : decode cX0_wholeToBroken 22 = .ok (.invokestatic 94, 3) := by decide +kernel
theorem dX0_wholeToBroken_25 : decode cX0_wholeToBroken 25 = .ok (.istore 5, 2) := by decide +kernel
theorem dX0_wholeToBroken_27 : decode cX0_wholeToBroken 27 = .ok (.iload_n 2, 1) := by decide +kernel
theorem dX0_wholeToBroken_28 : decode cX0_wholeToBroken 28 = .ok (.invokestatic 81, 3) := by decide +kernel
theorem dX0_wholeToBroken_31 : decode cX0_wholeToBroken 31 = .ok (.istore 6, 2) := by decide +kernel
theorem dX0_wholeToBroken_33 : decode cX0_wholeToBroken 33 = .ok (.iload 5, 2) := by decide +kernel
theorem dX0_wholeToBroken_35 : decode cX0_wholeToBroken 35 = .ok (.iload 6, 2) := by decide +kernel
theorem dX0_wholeToBroken_37 : decode cX0_wholeToBroken 37 = .ok (.if_icmp .gt 13, 3) := by decide +kernel
theorem dX0_wholeToBroken_40 : decode cX0_wholeToBroken 40 = .ok (.lload_n 3, 1) := by decide +kernel
theorem dX0_wholeToBroken_41 : decode cX0_wholeToBroken 41 = .ok (.iload 6, 2) := by decide +kernel
theorem dX0_wholeToBroken_43 : decode cX0_wholeToBroken 43 = .ok (.iload 5, 2) := by decide +kernel
theorem dX0_wholeToBroken_45 : decode cX0_wholeToBroken 45 = .ok (.isub, 1) := by decide +kernel
theorem dX0_wholeToBroken_46 : decode cX0_wholeToBroken 46 = .ok (.lshl, 1) := by decide +kernel
theorem dX0_wholeToBroken_47 : decode cX0_wholeToBroken 47 = .ok (.goto 12, 3) := by decide +kernel
theorem dX0_wholeToBroken_50 : decode cX0_wholeToBroken 50 = .ok (.lload_n 3, 1) := by decide +kernel
theorem dX0_wholeToBroken_51 : decode cX0_wholeToBroken 51 = .ok (.iload 5, 2) := by decide +kernel
theorem dX0_wholeToBroken_53 : decode cX0_wholeToBroken 53 = .ok (.iload 6, 2) := by decide +kernel
theorem dX0_wholeToBroken_55 : decode cX0_wholeToBroken 55 = .ok (.isub, 1) := by decide +kernel
theorem dX0_wholeToBroken_56 : decode cX0_wholeToBroken 56 = .ok (.invokestatic 91, 3) := by decide +kernel
theorem dX0_wholeToBroken_59 : decode cX0_wholeToBroken 59 = .ok (.lstore 7, 2) := by decide +kernel
theorem dX0_wholeToBroken_61 : decode cX0_wholeToBroken 61 = .ok (.iload 5, 2) := by decide +kernel
theorem dX0_wholeToBroken_63 : decode cX0_wholeToBroken 63 = .ok (.iload_n 2, 1) := by decide +kernel
theorem dX0_wholeToBroken_64 : decode cX0_wholeToBroken 64 = .ok (.invokestatic 77, 3) := by decide +kernel
theorem dX0_wholeToBroken_67 : decode cX0_wholeToBroken 67 = .ok (.iadd, 1) := by decide +kernel
theorem dX0_wholeToBroken_68 : decode cX0_wholeToBroken 68 = .ok (.iconst 1, 1) := by decide +kernel
theorem dX0_wholeToBroken_69 : decode cX0_wholeToBroken 69 = .ok (.isub, 1) := by decide +kernel
theorem dX0_wholeToBroken_70 : decode cX0_wholeToBroken 70 = .ok (.i2l, 1) := by decide +kernel
theorem dX0_wholeToBroken_71 : decode cX0_wholeToBroken 71 = .ok (.iload 6, 2) := by decide +kernel
theorem dX0_wholeToBroken_73 : decode cX0_wholeToBroken 73 = .ok (.lshl, 1) := by decide +kernel
theorem dX0_wholeToBroken_74 : decode cX0_wholeToBroken 74 = .ok (.lload 7, 2) := by decide +kernel
theorem dX0_wholeToBroken_76 : decode cX0_wholeToBroken 76 = .ok (.ladd, 1) := by decide +kernel
theorem dX0_wholeToBroken_77 : decode cX0_wholeToBroken 77 = .ok (.lstore 9, 2) := by decide +kernel
theorem dX0_wholeToBroken_79 : decode cX0_wholeToBroken 79 = .ok (.lload_n 0, 1) := by decide +kernel
theorem dX0_wholeToBroken_80 : decode cX0_wholeToBroken 80 = .ok (.lconst 0, 1) := by decide +kernel
theorem dX0_wholeToBroken_81 : decode cX0_wholeToBroken 81 = .ok (.lcmp, 1) := by decide +kernel
theorem dX0_wholeToBroken_82 : decode cX0_wholeToBroken 82 = .ok (.ifCond .ge 13, 3) := by decide +kernel
theorem dX0_wholeToBroken_85 : decode cX0_wholeToBroken 85 = .ok (.lload 9, 2) := by decide +kernel
theorem dX0_wholeToBroken_87 : decode cX0_wholeToBroken 87 = .ok (.iload_n 2, 1) := by decide +kernel
theorem dX0_wholeToBroken_88 : decode cX0_wholeToBroken 88 = .ok (.invokestatic 41, 3) := by decide +kernel
theorem dX0_wholeToBroken_91 : decode cX0_wholeToBroken 91 = .ok (.lor, 1) := by decide +kernel
theorem dX0_wholeToBroken_92 : decode cX0_wholeToBroken 92 = .ok (.goto 5, 3) := by decide +kernel
theorem dX0_wholeToBroken_95 : decode cX0_wholeToBroken 95 = .ok (.lload 9, 2) := by decide +kernel
theorem dX0_wholeToBroken_97 : decode cX0_wholeToBroken 97 = .ok (.lreturn, 1) := by decide +kernel
set_option maxRecDepth 20000 in
theorem ggX0_brokenToWhole_X0_magnitude : GoodIn wsX0_brokenToWhole wsX0_magnitude := goodIn_r _ [4, 5, 6, 7, 3, 8, 9, 10] (by decide +kernel) (by decide +kernel)
set_option maxRecDepth 20000 in
theorem gX0_brokenToWhole_X0_magnitude : GoodIn wsX0_brokenToWhole (va_wsS RX0 19 yX0_magnitude wsX0_magnitude) := goodIn_app (goodIn_of _ (by decide +kernel)) ggX0_brokenToWhole_X0_magnitude
set_option maxRecDepth 20000 in
theorem ggX0_brokenToWhole_X0_power : GoodIn wsX0_brokenToWhole wsX0_power := goodIn_r _ [13, 14, 15, 3, 16, 17, 18, 19] (by decide +kernel) (by decide +kernel)
set_option maxRecDepth 20000 in
theorem gX0_brokenToWhole_X0_power : GoodIn wsX0_brokenToWhole (va_wsS RX0 84 yX0_power wsX0_power) := goodIn_app (goodIn_of _ (by decide +kernel)) ggX0_brokenToWhole_X0_power
set_option maxRecDepth 20000 in
theorem ggX0_brokenToWhole_X0_extreme : GoodIn wsX0_brokenToWhole wsX0_extreme := goodIn_r _ [22, 9, 23, 10, 24] (by decide +kernel) (by decide +kernel)
set_option maxRecDepth 20000 in
theorem gX0_brokenToWhole_X0_extreme : GoodIn wsX0_brokenToWhole (va_wsS RX0 98 yX0_extreme wsX0_extreme) := goodIn_app (goodIn_of _ (by decide +kernel)) ggX0_brokenToWhole_X0_extreme
set_option maxRecDepth 20000 in
theorem ggX0_brokenToWhole_X0_fractionBits : GoodIn wsX0_brokenToWhole wsX0_fractionBits := goodIn_r _ [16] (by decide +kernel) (by decide +kernel)
set_option maxRecDepth 20000 in
theorem gX0_brokenToWhole_X0_fractionBits : GoodIn wsX0_brokenToWhole (va_wsS RX0 81 yX0_fractionBits wsX0_fractionBits) := goodIn_app (goodIn_of _ (by decide +kernel)) ggX0_brokenToWhole_X0_fractionBits
set_option maxRecDepth 20000 in
theorem ggX0_brokenToWhole_X0_mantissa : GoodIn wsX0_brokenToWhole wsX0_mantissa := goodIn_r _ [27, 14, 15, 3, 16] (by decide +kernel) (by decide +kernel)
set_option maxRecDepth 20000 in
theorem gX0_brokenToWhole_X0_mantissa : GoodIn wsX0_brokenToWhole (va_wsS RX0 102 yX0_mantissa wsX0_mantissa) := goodIn_app (goodIn_of _ (by decide +kernel)) ggX0_brokenToWhole_X0_mantissa
theorem dX0_brokenToWhole_0 : decode cX0_brokenToWhole 0 = .ok (.iload_n 0, 1) := by decide +kernel
theorem dX0_brokenToWhole_1 : decode cX0_brokenToWhole 1 = .ok (.lload_n 1, 1) := by decide +kernel
theorem dX0_brokenToWhole_2 : decode cX0_brokenToWhole 2 = .ok (.invokestatic 19, 3) := by decide +kernel
theorem dX0_brokenToWhole_5 : decode cX0_brokenToWhole 5 = .ok (.lstore 4, 2) := by decide +kernel
theorem dX0_brokenToWhole_7 : decode cX0_brokenToWhole 7 = .ok (.iload_n 0, 1) := by decide +kernel
theorem dX0_brokenToWhole_8 : decode cX0_brokenToWhole 8 = .ok (.lload 4, 2) := by decide +kernel
theorem dX0_brokenToWhole_10 : decode cX0_brokenToWhole 10 = .ok (.invokestatic 84, 3) := by decide +kernel
theorem dX0_brokenToWhole_13 : decode cX0_brokenToWhole 13 = .ok (.istore 6, 2) := by decide +kernel
theorem dX0_brokenToWhole_15 : decode cX0_brokenToWhole 15 = .ok (.iload 6, 2) := by decide +kernel
theorem dX0_brokenToWhole_17 : decode cX0_brokenToWhole 17 = .ok (.ifCond .ge 5, 3) := by decide +kernel
theorem dX0_brokenToWhole_20 : decode cX0_brokenToWhole 20 = .ok (.lconst 0, 1) := by decide +kernel
theorem dX0_brokenToWhole_21 : decode cX0_brokenToWhole 21 = .ok (.lreturn, 1) := by decide +kernel
theorem dX0_brokenToWhole_22 : decode cX0_brokenToWhole 22 = .ok (.iload 6, 2) := by decide +kernel
theorem dX0_brokenToWhole_24 : decode cX0_brokenToWhole 24 = .ok (.iload_n 3, 1) := by decide +kernel
theorem dX0_brokenToWhole_25 : decode cX0_brokenToWhole 25 = .ok (.iconst 1, 1) := by decide +kernel
theorem dX0_brokenToWhole_26 : decode cX0_brokenToWhole 26 = .ok (.if_icmp .ne 8, 3) := by decide +kernel
theorem dX0_brokenToWhole_29 : decode cX0_brokenToWhole 29 = .ok (.bipush 63, 2) := by decide +kernel
theorem dX0_brokenToWhole_31 : decode cX0_brokenToWhole 31 = .ok (.goto 5, 3) := by decide +kernel
theorem dX0_brokenToWhole_34 : decode cX0_brokenToWhole 34 = .ok (.bipush 31, 2) := by decide +kernel
theorem dX0_brokenToWhole_36 : decode cX0_brokenToWhole 36 = .ok (.if_icmp .lt 19, 3) := by decide +kernel
theorem dX0_brokenToWhole_39 : decode cX0_brokenToWhole 39 = .ok (.iload_n 3, 1) := by decide +kernel
theorem dX0_brokenToWhole_40 : decode cX0_brokenToWhole 40 = .ok (.lload_n 1, 1) := by decide +kernel
theorem dX0_brokenToWhole_41 : decode cX0_brokenToWhole 41 = .ok (.lconst 0, 1) := by decide +kernel
theorem dX0_brokenToWhole_42 : decode cX0_brokenToWhole 42 = .ok (.lcmp, 1) := by decide +kernel
theorem dX0_brokenToWhole_43 : decode cX0_brokenToWhole 43 = .ok (.ifCond .ge 7, 3) := by decide +kernel
theorem dX0_brokenToWhole_46 : decode cX0_brokenToWhole 46 = .ok (.iconst 1, 1) := by decide +kernel
theorem dX0_brokenToWhole_47 : decode cX0_brokenToWhole 47 = .ok (.goto 4, 3) := by decide +kernel
theorem dX0_brokenToWhole_50 : decode cX0_brokenToWhole 50 = .ok (.iconst 0, 1) := by decide +kernel
theorem dX0_brokenToWhole_51 : decode cX0_brokenToWhole 51 = .ok (.invokestatic 98, 3) := by decide +kernel
theorem dX0_brokenToWhole_54 : decode cX0_brokenToWhole 54 = .ok (.lreturn, 1) := by decide +kernel
theorem dX0_brokenToWhole_55 : decode cX0_brokenToWhole 55 = .ok (.iload_n 0, 1) := by decide +kernel
theorem dX0_brokenToWhole_56 : decode cX0_brokenToWhole 56 = .ok (.invokestatic 81, 3) := by decide +kernel
theorem dX0_brokenToWhole_59 : decode cX0_brokenToWhole 59 = .ok (.iload 6, 2) := by decide +kernel
theorem dX0_brokenToWhole_61 : decode cX0_brokenToWhole 61 = .ok (.isub, 1) := by decide +kernel
theorem dX0_brokenToWhole_62 : decode cX0_brokenToWhole 62 = .ok (.istore 7, 2) := by decide +kernel
theorem dX0_brokenToWhole_64 : decode cX0_brokenToWhole 64 = .ok (.iload_n 0, 1) := by decide +kernel
theorem dX0_brokenToWhole_65 : decode cX0_brokenToWhole 65 = .ok (.lload 4, 2) := by decide +kernel
theorem dX0_brokenToWhole_67 : decode cX0_brokenToWhole 67 = .ok (.invokestatic 102, 3) := by decide +kernel
theorem dX0_brokenToWhole_70 : decode cX0_brokenToWhole 70 = .ok (.lstore 8, 2) := by decide +kernel
theorem dX0_brokenToWhole_72 : decode cX0_brokenToWhole 72 = .ok (.iload 7, 2) := by decide +kernel
theorem dX0_brokenToWhole_74 : decode cX0_brokenToWhole 74 = .ok (.ifCond .lt 11, 3) := by decide +kernel
theorem dX0_brokenToWhole_77 : decode cX0_brokenToWhole 77 = .ok (.lload 8, 2) := by decide +kernel
theorem dX0_brokenToWhole_79 : decode cX0_brokenToWhole 79 = .ok (.iload 7, 2) := by decide +kernel
theorem dX0_brokenToWhole_81 : decode cX0_brokenToWhole 81 = .ok (.lushr, 1) := by decide +kernel
theorem dX0_brokenToWhole_82 : decode cX0_brokenToWhole 82 = .ok (.goto 9, 3) := by decide +kernel
theorem dX0_brokenToWhole_85 : decode cX0_brokenToWhole 85 = .ok (.lload 8, 2) := by decide +kernel
theorem dX0_brokenToWhole_87 : decode cX0_brokenToWhole 87 = .ok (.iload 7, 2) := by decide +kernel
theorem dX0_brokenToWhole_89 : decode cX0_brokenToWhole 89 = .ok (.ineg, 1) := by decide +kernel
theorem dX0_brokenToWhole_90 : decode cX0_brokenToWhole 90 = .ok (.lshl, 1) := by decide +kernel
theorem dX0_brokenToWhole_91 : decode cX0_brokenToWhole 91 = .ok (.lstore 10, 2) := by decide +kernel
theorem dX0_brokenToWhole_93 : decode cX0_brokenToWhole 93 = .ok (.lload_n 1, 1) := by decide +kernel
theorem dX0_brokenToWhole_94 : decode cX0_brokenToWhole 94 = .ok (.lconst 0, 1) := by decide +kernel
theorem dX0_brokenToWhole_95 : decode cX0_brokenToWhole 95 = .ok (.lcmp, 1) := by decide +kernel
theorem dX0_brokenToWhole_96 : decode cX0_brokenToWhole 96 = .ok (.ifCond .ge 9, 3) := by decide +kernel
theorem dX0_brokenToWhole_99 : decode cX0_brokenToWhole 99 = .ok (.lload 10, 2) := by decide +kernel
theorem dX0_brokenToWhole_101 : decode cX0_brokenToWhole 101 = .ok (.lneg, 1) := by decide +kernel
theorem dX0_brokenToWhole_102 : decode cX0_brokenToWhole 102 = .ok (.goto 5, 3) := by decide +kernel
theorem dX0_brokenToWhole_105 : decode cX0_brokenToWhole 105 = .ok (.lload 10, 2) := by decide +kernel
theorem dX0_brokenToWhole_107 : decode cX0_brokenToWhole 107 = .ok (.lreturn, 1) := by decide +kernel
theorem dX0_extreme_0 : decode cX0_extreme 0 = .ok (.iload_n 0, 1) := by decide +kernel
theorem dX0_extreme_1 : decode cX0_extreme 1 = .ok (.ifCond .ne 17, 3) := by decide +kernel
theorem dX0_extreme_4 : decode cX0_extreme 4 = .ok (.iload_n 1, 1) := by decide +kernel
theorem dX0_extreme_5 : decode cX0_extreme 5 = .ok (.ifCond .eq 9, 3) := by decide +kernel
theorem dX0_extreme_8 : decode cX0_extreme 8 = .ok (.ldc2_w 71, 3) := by decide +kernel
theorem dX0_extreme_11 : decode cX0_extreme 11 = .ok (.goto 6, 3) := by decide +kernel
theorem dX0_extreme_14 : decode cX0_extreme 14 = .ok (.ldc2_w 105, 3) := by decide +kernel
theorem dX0_extreme_17 : decode cX0_extreme 17 = .ok (.lreturn, 1) := by decide +kernel
theorem dX0_extreme_18 : decode cX0_extreme 18 = .ok (.iload_n 1, 1) := by decide +kernel
theorem dX0_extreme_19 : decode cX0_extreme 19 = .ok (.ifCond .eq 9, 3) := by decide +kernel
theorem dX0_extreme_22 : decode cX0_extreme 22 = .ok (.ldc2_w 73, 3) := by decide +kernel
theorem dX0_extreme_25 : decode cX0_extreme 25 = .ok (.goto 6, 3) := by decide +kernel
theorem dX0_extreme_28 : decode cX0_extreme 28 = .ok (.ldc2_w 69, 3) := by decide +kernel
theorem dX0_extreme_31 : decode cX0_extreme 31 = .ok (.lreturn, 1) := by decide +kernel
set_option maxRecDepth 20000 in
theorem ggX0_widened_X0_infinity : GoodIn wsX0_widened wsX0_infinity := goodIn_r _ [5, 6, 7, 4, 8, 9, 10, 11] (by decide +kernel) (by decide +kernel)
set_option maxRecDepth 20000 in
theorem gX0_widened_X0_infinity : GoodIn wsX0_widened (va_wsS RX0 22 yX0_infinity wsX0_infinity) := goodIn_app (goodIn_of _ (by decide +kernel)) ggX0_widened_X0_infinity
set_option maxRecDepth 20000 in
theorem ggX0_widened_X0_highestBit : GoodIn wsX0_widened wsX0_highestBit := goodIn_r _ [14] (by decide +kernel) (by decide +kernel)
set_option maxRecDepth 20000 in
theorem gX0_widened_X0_highestBit : GoodIn wsX0_widened (va_wsS RX0 94 yX0_highestBit wsX0_highestBit) := goodIn_app (goodIn_of _ (by decide +kernel)) ggX0_widened_X0_highestBit
theorem dX0_widened_0 : decode cX0_widened 0 = .ok (.lload_n 0, 1) := by decide +kernel
theorem dX0_widened_1 : decode cX0_widened 1 = .ok (.lconst 0, 1) := by decide +kernel
theorem dX0_widened_2 : decode cX0_widened 2 = .ok (.lcmp, 1) := by decide +kernel
theorem dX0_widened_3 : decode cX0_widened 3 = .ok (.ifCond .ne 5, 3) := by decide +kernel
theorem dX0_widened_6 : decode cX0_widened 6 = .ok (.lconst 0, 1) := by decide +kernel
theorem dX0_widened_7 : decode cX0_widened 7 = .ok (.lreturn, 1) := by decide +kernel
theorem dX0_widened_8 : decode cX0_widened 8 = .ok (.lload_n 0, 1) := by decide +kernel
theorem dX0_widened_9 : decode cX0_widened 9 = .ok (.iconst 2, 1) := by decide +kernel
theorem dX0_widened_10 : decode cX0_widened 10 = .ok (.invokestatic 22, 3) := by decide +kernel
theorem dX0_widened_13 : decode cX0_widened 13 = .ok (.lcmp, 1) := by decide +kernel
theorem dX0_widened_14 : decode cX0_widened 14 = .ok (.ifCond .ne 8, 3) := by decide +kernel
theorem dX0_widened_17 : decode cX0_widened 17 = .ok (.iconst 3, 1) := by decide +kernel
theorem dX0_widened_18 : decode cX0_widened 18 = .ok (.invokestatic 22, 3) := by decide +kernel
theorem dX0_widened_21 : decode cX0_widened 21 = .ok (.lreturn, 1) := by decide +kernel
theorem dX0_widened_22 : decode cX0_widened 22 = .ok (.lload_n 0, 1) := by decide +kernel
theorem dX0_widened_23 : decode cX0_widened 23 = .ok (.bipush 23, 2) := by decide +kernel
theorem dX0_widened_25 : decode cX0_widened 25 = .ok (.lushr, 1) := by decide +kernel
theorem dX0_widened_26 : decode cX0_widened 26 = .ok (.lconst 0, 1) := by decide +kernel
theorem dX0_widened_27 : decode cX0_widened 27 = .ok (.lcmp, 1) := by decide +kernel
theorem dX0_widened_28 : decode cX0_widened 28 = .ok (.ifCond .eq 14, 3) := by decide +kernel
theorem dX0_widened_31 : decode cX0_widened 31 = .ok (.lload_n 0, 1) := by decide +kernel
theorem dX0_widened_32 : decode cX0_widened 32 = .ok (.bipush 29, 2) := by decide +kernel
theorem dX0_widened_34 : decode cX0_widened 34 = .ok (.lshl, 1) := by decide +kernel
theorem dX0_widened_35 : decode cX0_widened 35 = .ok (.lstore_n 2, 1) := by decide +kernel
theorem dX0_widened_36 : decode cX0_widened 36 = .ok (.lload_n 2, 1) := by decide +kernel
theorem dX0_widened_37 : decode cX0_widened 37 = .ok (.ldc2_w 107, 3) := by decide +kernel
theorem dX0_widened_40 : decode cX0_widened 40 = .ok (.ladd, 1) := by decide +kernel
theorem dX0_widened_41 : decode cX0_widened 41 = .ok (.lreturn, 1) := by decide +kernel
theorem dX0_widened_42 : decode cX0_widened 42 = .ok (.lload_n 0, 1) := by decide +kernel
theorem dX0_widened_43 : decode cX0_widened 43 = .ok (.invokestatic 94, 3) := by decide +kernel
theorem dX0_widened_46 : decode cX0_widened 46 = .ok (.istore_n 2, 1) := by decide +kernel
theorem dX0_widened_47 : decode cX0_widened 47 = .ok (.iload_n 2, 1) := by decide +kernel
theorem dX0_widened_48 : decode cX0_widened 48 = .ok (.sipush (-149), 3) := by decide +kernel
theorem dX0_widened_51 : decode cX0_widened 51 = .ok (.iadd, 1) := by decide +kernel
theorem dX0_widened_52 : decode cX0_widened 52 = .ok (.sipush 1023, 3) := by decide +kernel
theorem dX0_widened_55 : decode cX0_widened 55 = .ok (.iadd, 1) := by decide +kernel
theorem dX0_widened_56 : decode cX0_widened 56 = .ok (.iconst 1, 1) := by decide +kernel
theorem dX0_widened_57 : decode cX0_widened 57 = .ok (.isub, 1) := by decide +kernel
theorem dX0_widened_58 : decode cX0_widened 58 = .ok (.i2l, 1) := by decide +kernel
theorem dX0_widened_59 : decode cX0_widened 59 = .ok (.lstore_n 3, 1) := by decide +kernel
theorem dX0_widened_60 : decode cX0_widened 60 = .ok (.lload_n 3, 1) := by decide +kernel
theorem dX0_widened_61 : decode cX0_widened 61 = .ok (.bipush 52, 2) := by decide +kernel
theorem dX0_widened_63 : decode cX0_widened 63 = .ok (.lshl, 1) := by decide +kernel
theorem dX0_widened_64 : decode cX0_widened 64 = .ok (.lload_n 0, 1) := by decide +kernel
theorem dX0_widened_65 : decode cX0_widened 65 = .ok (.bipush 52, 2) := by decide +kernel
theorem dX0_widened_67 : decode cX0_widened 67 = .ok (.iload_n 2, 1) := by decide +kernel
theorem dX0_widened_68 : decode cX0_widened 68 = .ok (.isub, 1) := by decide +kernel
theorem dX0_widened_69 : decode cX0_widened 69 = .ok (.lshl, 1) := by decide +kernel
theorem dX0_widened_70 : decode cX0_widened 70 = .ok (.ladd, 1) := by decide +kernel
theorem dX0_widened_71 : decode cX0_widened 71 = .ok (.lreturn, 1) := by decide +kernel
set_option maxRecDepth 20000 in
theorem ggX0_narrowed_X0_power : GoodIn wsX0_narrowed wsX0_power := goodIn_r _ [5, 6, 7, 4, 8, 9, 10, 11] (by decide +kernel) (by decide +kernel)
set_option maxRecDepth 20000 in
theorem gX0_narrowed_X0_power : GoodIn wsX0_narrowed (va_wsS RX0 84 yX0_power wsX0_power) := goodIn_app (goodIn_of _ (by decide +kernel)) ggX0_narrowed_X0_power
set_option maxRecDepth 20000 in
theorem ggX0_narrowed_X0_infinity : GoodIn wsX0_narrowed wsX0_infinity := goodIn_r _ [14, 9, 10, 4, 11, 6, 7, 8] (by decide +kernel) (by decide +kernel)
set_option maxRecDepth 20000 in
theorem gX0_narrowed_X0_infinity : GoodIn wsX0_narrowed (va_wsS RX0 22 yX0_infinity wsX0_infinity) := goodIn_app (goodIn_of _ (by decide +kernel)) ggX0_narrowed_X0_infinity
set_option maxRecDepth 20000 in
theorem ggX0_narrowed_X0_nearestShifted : GoodIn wsX0_narrowed wsX0_nearestShifted := goodIn_r _ [17] (by decide +kernel) (by decide +kernel)
set_option maxRecDepth 20000 in
theorem gX0_narrowed_X0_nearestShifted : GoodIn wsX0_narrowed (va_wsS RX0 91 yX0_nearestShifted wsX0_nearestShifted) := goodIn_app (goodIn_of _ (by decide +kernel)) ggX0_narrowed_X0_nearestShifted
set_option maxRecDepth 20000 in
theorem ggX0_narrowed_X0_mantissa : GoodIn wsX0_narrowed wsX0_mantissa := goodIn_r _ [20, 6, 7, 4, 8] (by decide +kernel) (by decide +kernel)
set_option maxRecDepth 20000 in
theorem gX0_narrowed_X0_mantissa : GoodIn wsX0_narrowed (va_wsS RX0 102 yX0_mantissa wsX0_mantissa) := goodIn_app (goodIn_of _ (by decide +kernel)) ggX0_narrowed_X0_mantissa
theorem dX0_narrowed_0 : decode cX0_narrowed 0 = .ok (.iconst 3, 1) := by decide +kernel
