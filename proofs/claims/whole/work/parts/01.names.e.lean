theorem dX2_isAbove_19 : decode cX2_isAbove 19 = .ok (.ireturn, 1) := by decide +kernel
set_option maxRecDepth 20000 in
theorem ggX2_greater_X2_isAbove : GoodIn wsX2_greater wsX2_isAbove := goodIn_r _ [4, 5, 6, 3, 7, 8, 9, 10, 11, 12] (by decide +kernel) (by decide +kernel)
set_option maxRecDepth 20000 in
theorem gX2_greater_X2_isAbove : GoodIn wsX2_greater (va_wsS RX2 77 yX2_isAbove wsX2_isAbove) := goodIn_app (goodIn_of _ (by decide +kernel)) ggX2_greater_X2_isAbove
theorem dX2_greater_0 : decode cX2_greater 0 = .ok (.iload_n 0, 1) := by decide +kernel
theorem dX2_greater_1 : decode cX2_greater 1 = .ok (.lload_n 1, 1) := by decide +kernel
theorem dX2_greater_2 : decode cX2_greater 2 = .ok (.lload_n 3, 1) := by decide +kernel
theorem dX2_greater_3 : decode cX2_greater 3 = .ok (.invokestatic 77, 3) := by decide +kernel
theorem dX2_greater_6 : decode cX2_greater 6 = .ok (.ifCond .eq 7, 3) := by decide +kernel
theorem dX2_greater_9 : decode cX2_greater 9 = .ok (.lload_n 1, 1) := by decide +kernel
theorem dX2_greater_10 : decode cX2_greater 10 = .ok (.goto 4, 3) := by decide +kernel
theorem dX2_greater_13 : decode cX2_greater 13 = .ok (.lload_n 3, 1) := by decide +kernel
theorem dX2_greater_14 : decode cX2_greater 14 = .ok (.lreturn, 1) := by decide +kernel
set_option maxRecDepth 20000 in
theorem ggX2_lesser_X2_isAbove : GoodIn wsX2_lesser wsX2_isAbove := goodIn_r _ [4, 5, 6, 3, 7, 8, 9, 10, 11, 12] (by decide +kernel) (by decide +kernel)
set_option maxRecDepth 20000 in
theorem gX2_lesser_X2_isAbove : GoodIn wsX2_lesser (va_wsS RX2 77 yX2_isAbove wsX2_isAbove) := goodIn_app (goodIn_of _ (by decide +kernel)) ggX2_lesser_X2_isAbove
theorem dX2_lesser_0 : decode cX2_lesser 0 = .ok (.iload_n 0, 1) := by decide +kernel
theorem dX2_lesser_1 : decode cX2_lesser 1 = .ok (.lload_n 1, 1) := by decide +kernel
theorem dX2_lesser_2 : decode cX2_lesser 2 = .ok (.lload_n 3, 1) := by decide +kernel
theorem dX2_lesser_3 : decode cX2_lesser 3 = .ok (.invokestatic 77, 3) := by decide +kernel
theorem dX2_lesser_6 : decode cX2_lesser 6 = .ok (.ifCond .eq 7, 3) := by decide +kernel
theorem dX2_lesser_9 : decode cX2_lesser 9 = .ok (.lload_n 3, 1) := by decide +kernel
theorem dX2_lesser_10 : decode cX2_lesser 10 = .ok (.goto 4, 3) := by decide +kernel
theorem dX2_lesser_13 : decode cX2_lesser 13 = .ok (.lload_n 1, 1) := by decide +kernel
theorem dX2_lesser_14 : decode cX2_lesser 14 = .ok (.lreturn, 1) := by decide +kernel
set_option maxRecDepth 20000 in
theorem ggX2_sizeOf_X2_isBroken : GoodIn wsX2_sizeOf wsX2_isBroken := goodIn_r _ [4] (by decide +kernel) (by decide +kernel)
set_option maxRecDepth 20000 in
theorem gX2_sizeOf_X2_isBroken : GoodIn wsX2_sizeOf (va_wsS RX2 63 yX2_isBroken wsX2_isBroken) := goodIn_app (goodIn_of _ (by decide +kernel)) ggX2_sizeOf_X2_isBroken
set_option maxRecDepth 20000 in
theorem ggX2_sizeOf_X2_magnitude : GoodIn wsX2_sizeOf wsX2_magnitude := goodIn_r _ [7, 8, 9] (by decide +kernel) (by decide +kernel)
set_option maxRecDepth 20000 in
theorem gX2_sizeOf_X2_magnitude : GoodIn wsX2_sizeOf (va_wsS RX2 66 yX2_magnitude wsX2_magnitude) := goodIn_app (goodIn_of _ (by decide +kernel)) ggX2_sizeOf_X2_magnitude
set_option maxRecDepth 20000 in
theorem ggX2_sizeOf_X2_taken : GoodIn wsX2_sizeOf wsX2_taken := goodIn_r _ [12] (by decide +kernel) (by decide +kernel)
set_option maxRecDepth 20000 in
theorem gX2_sizeOf_X2_taken : GoodIn wsX2_sizeOf (va_wsS RX2 81 yX2_taken wsX2_taken) := goodIn_app (goodIn_of _ (by decide +kernel)) ggX2_sizeOf_X2_taken
theorem dX2_sizeOf_0 : decode cX2_sizeOf 0 = .ok (.iload_n 0, 1) := by decide +kernel
theorem dX2_sizeOf_1 : decode cX2_sizeOf 1 = .ok (.invokestatic 63, 3) := by decide +kernel
theorem dX2_sizeOf_4 : decode cX2_sizeOf 4 = .ok (.ifCond .eq 9, 3) := by decide +kernel
theorem dX2_sizeOf_7 : decode cX2_sizeOf 7 = .ok (.iload_n 0, 1) := by decide +kernel
theorem dX2_sizeOf_8 : decode cX2_sizeOf 8 = .ok (.lload_n 1, 1) := by decide +kernel
theorem dX2_sizeOf_9 : decode cX2_sizeOf 9 = .ok (.invokestatic 66, 3) := by decide +kernel
theorem dX2_sizeOf_12 : decode cX2_sizeOf 12 = .ok (.lreturn, 1) := by decide +kernel
theorem dX2_sizeOf_13 : decode cX2_sizeOf 13 = .ok (.lload_n 1, 1) := by decide +kernel
theorem dX2_sizeOf_14 : decode cX2_sizeOf 14 = .ok (.lconst 0, 1) := by decide +kernel
theorem dX2_sizeOf_15 : decode cX2_sizeOf 15 = .ok (.lcmp, 1) := by decide +kernel
theorem dX2_sizeOf_16 : decode cX2_sizeOf 16 = .ok (.ifCond .ge 12, 3) := by decide +kernel
theorem dX2_sizeOf_19 : decode cX2_sizeOf 19 = .ok (.iload_n 0, 1) := by decide +kernel
theorem dX2_sizeOf_20 : decode cX2_sizeOf 20 = .ok (.lload_n 1, 1) := by decide +kernel
theorem dX2_sizeOf_21 : decode cX2_sizeOf 21 = .ok (.lneg, 1) := by decide +kernel
theorem dX2_sizeOf_22 : decode cX2_sizeOf 22 = .ok (.invokestatic 81, 3) := by decide +kernel
theorem dX2_sizeOf_25 : decode cX2_sizeOf 25 = .ok (.goto 4, 3) := by decide +kernel
theorem dX2_sizeOf_28 : decode cX2_sizeOf 28 = .ok (.lload_n 1, 1) := by decide +kernel
theorem dX2_sizeOf_29 : decode cX2_sizeOf 29 = .ok (.lreturn, 1) := by decide +kernel
set_option maxRecDepth 20000 in
theorem ggX2_turned_X2_isBroken : GoodIn wsX2_turned wsX2_isBroken := goodIn_r _ [4] (by decide +kernel) (by decide +kernel)
set_option maxRecDepth 20000 in
theorem gX2_turned_X2_isBroken : GoodIn wsX2_turned (va_wsS RX2 63 yX2_isBroken wsX2_isBroken) := goodIn_app (goodIn_of _ (by decide +kernel)) ggX2_turned_X2_isBroken
set_option maxRecDepth 20000 in
theorem ggX2_turned_X2_magnitude : GoodIn wsX2_turned wsX2_magnitude := goodIn_r _ [7, 8, 9] (by decide +kernel) (by decide +kernel)
set_option maxRecDepth 20000 in
theorem gX2_turned_X2_magnitude : GoodIn wsX2_turned (va_wsS RX2 66 yX2_magnitude wsX2_magnitude) := goodIn_app (goodIn_of _ (by decide +kernel)) ggX2_turned_X2_magnitude
set_option maxRecDepth 20000 in
theorem ggX2_turned_X2_signed : GoodIn wsX2_turned wsX2_signed := goodIn_r _ [12, 13, 14] (by decide +kernel) (by decide +kernel)
set_option maxRecDepth 20000 in
theorem gX2_turned_X2_signed : GoodIn wsX2_turned (va_wsS RX2 84 yX2_signed wsX2_signed) := goodIn_app (goodIn_of _ (by decide +kernel)) ggX2_turned_X2_signed
set_option maxRecDepth 20000 in
theorem ggX2_turned_X2_taken : GoodIn wsX2_turned wsX2_taken := goodIn_r _ [17] (by decide +kernel) (by decide +kernel)
set_option maxRecDepth 20000 in
theorem gX2_turned_X2_taken : GoodIn wsX2_turned (va_wsS RX2 81 yX2_taken wsX2_taken) := goodIn_app (goodIn_of _ (by decide +kernel)) ggX2_turned_X2_taken
theorem dX2_turned_0 : decode cX2_turned 0 = .ok (.iload_n 0, 1) := by decide +kernel
theorem dX2_turned_1 : decode cX2_turned 1 = .ok (.invokestatic 63, 3) := by decide +kernel
theorem dX2_turned_4 : decode cX2_turned 4 = .ok (.ifCond .eq 26, 3) := by decide +kernel
theorem dX2_turned_7 : decode cX2_turned 7 = .ok (.iload_n 0, 1) := by decide +kernel
theorem dX2_turned_8 : decode cX2_turned 8 = .ok (.iload_n 0, 1) := by decide +kernel
theorem dX2_turned_9 : decode cX2_turned 9 = .ok (.lload_n 1, 1) := by decide +kernel
theorem dX2_turned_10 : decode cX2_turned 10 = .ok (.invokestatic 66, 3) := by decide +kernel
theorem dX2_turned_13 : decode cX2_turned 13 = .ok (.lload_n 1, 1) := by decide +kernel
theorem dX2_turned_14 : decode cX2_turned 14 = .ok (.lconst 0, 1) := by decide +kernel
theorem dX2_turned_15 : decode cX2_turned 15 = .ok (.lcmp, 1) := by decide +kernel
theorem dX2_turned_16 : decode cX2_turned 16 = .ok (.ifCond .lt 7, 3) := by decide +kernel
theorem dX2_turned_19 : decode cX2_turned 19 = .ok (.iconst 1, 1) := by decide +kernel
theorem dX2_turned_20 : decode cX2_turned 20 = .ok (.goto 4, 3) := by decide +kernel
theorem dX2_turned_23 : decode cX2_turned 23 = .ok (.iconst 0, 1) := by decide +kernel
theorem dX2_turned_24 : decode cX2_turned 24 = .ok (.invokestatic 84, 3) := by decide +kernel
theorem dX2_turned_27 : decode cX2_turned 27 = .ok (.goto 9, 3) := by decide +kernel
theorem dX2_turned_30 : decode cX2_turned 30 = .ok (.iload_n 0, 1) := by decide +kernel
theorem dX2_turned_31 : decode cX2_turned 31 = .ok (.lload_n 1, 1) := by decide +kernel
theorem dX2_turned_32 : decode cX2_turned 32 = .ok (.lneg, 1) := by decide +kernel
theorem dX2_turned_33 : decode cX2_turned 33 = .ok (.invokestatic 81, 3) := by decide +kernel
theorem dX2_turned_36 : decode cX2_turned 36 = .ok (.lreturn, 1) := by decide +kernel
set_option maxRecDepth 20000 in
theorem ggX2_isZero_X2_isBroken : GoodIn wsX2_isZero wsX2_isBroken := goodIn_r _ [4] (by decide +kernel) (by decide +kernel)
set_option maxRecDepth 20000 in
theorem gX2_isZero_X2_isBroken : GoodIn wsX2_isZero (va_wsS RX2 63 yX2_isBroken wsX2_isBroken) := goodIn_app (goodIn_of _ (by decide +kernel)) ggX2_isZero_X2_isBroken
set_option maxRecDepth 20000 in
theorem ggX2_isZero_X2_magnitude : GoodIn wsX2_isZero wsX2_magnitude := goodIn_r _ [7, 8, 9] (by decide +kernel) (by decide +kernel)
set_option maxRecDepth 20000 in
theorem gX2_isZero_X2_magnitude : GoodIn wsX2_isZero (va_wsS RX2 66 yX2_magnitude wsX2_magnitude) := goodIn_app (goodIn_of _ (by decide +kernel)) ggX2_isZero_X2_magnitude
theorem dX2_isZero_0 : decode cX2_isZero 0 = .ok (.iload_n 0, 1) := by decide +kernel
theorem dX2_isZero_1 : decode cX2_isZero 1 = .ok (.invokestatic 63, 3) := by decide +kernel
theorem dX2_isZero_4 : decode cX2_isZero 4 = .ok (.ifCond .eq 21, 3) := by decide +kernel
theorem dX2_isZero_7 : decode cX2_isZero 7 = .ok (.iload_n 0, 1) := by decide +kernel
theorem dX2_isZero_8 : decode cX2_isZero 8 = .ok (.lload_n 1, 1) := by decide +kernel
theorem dX2_isZero_9 : decode cX2_isZero 9 = .ok (.invokestatic 66, 3) := by decide +kernel
theorem dX2_isZero_12 : decode cX2_isZero 12 = .ok (.lconst 0, 1) := by decide +kernel
theorem dX2_isZero_13 : decode cX2_isZero 13 = .ok (.lcmp, 1) := by decide +kernel
theorem dX2_isZero_14 : decode cX2_isZero 14 = .ok (.ifCond .ne 7, 3) := by decide +kernel
theorem dX2_isZero_17 : decode cX2_isZero 17 = .ok (.iconst 1, 1) := by decide +kernel
theorem dX2_isZero_18 : decode cX2_isZero 18 = .ok (.goto 18, 3) := by decide +kernel
theorem dX2_isZero_21 : decode cX2_isZero 21 = .ok (.iconst 0, 1) := by decide +kernel
theorem dX2_isZero_22 : decode cX2_isZero 22 = .ok (.goto 14, 3) := by decide +kernel
theorem dX2_isZero_25 : decode cX2_isZero 25 = .ok (.lload_n 1, 1) := by decide +kernel
theorem dX2_isZero_26 : decode cX2_isZero 26 = .ok (.lconst 0, 1) := by decide +kernel
theorem dX2_isZero_27 : decode cX2_isZero 27 = .ok (.lcmp, 1) := by decide +kernel
theorem dX2_isZero_28 : decode cX2_isZero 28 = .ok (.ifCond .ne 7, 3) := by decide +kernel
theorem dX2_isZero_31 : decode cX2_isZero 31 = .ok (.iconst 1, 1) := by decide +kernel
theorem dX2_isZero_32 : decode cX2_isZero 32 = .ok (.goto 4, 3) := by decide +kernel
theorem dX2_isZero_35 : decode cX2_isZero 35 = .ok (.iconst 0, 1) := by decide +kernel
theorem dX2_isZero_36 : decode cX2_isZero 36 = .ok (.ireturn, 1) := by decide +kernel
set_option maxRecDepth 20000 in
theorem ggX2_whole_X2_magnitude : GoodIn wsX2_whole wsX2_magnitude := goodIn_r _ [5, 6, 7] (by decide +kernel) (by decide +kernel)
set_option maxRecDepth 20000 in
theorem gX2_whole_X2_magnitude : GoodIn wsX2_whole (va_wsS RX2 66 yX2_magnitude wsX2_magnitude) := goodIn_app (goodIn_of _ (by decide +kernel)) ggX2_whole_X2_magnitude
set_option maxRecDepth 20000 in
theorem ggX2_whole_X2_one : GoodIn wsX2_whole wsX2_one := goodIn_r _ [10, 11, 12] (by decide +kernel) (by decide +kernel)
set_option maxRecDepth 20000 in
theorem gX2_whole_X2_one : GoodIn wsX2_whole (va_wsS RX2 88 yX2_one wsX2_one) := goodIn_app (goodIn_of _ (by decide +kernel)) ggX2_whole_X2_one
set_option maxRecDepth 20000 in
theorem ggX2_whole_X2_signed : GoodIn wsX2_whole wsX2_signed := goodIn_r _ [15, 16, 17] (by decide +kernel) (by decide +kernel)
set_option maxRecDepth 20000 in
theorem gX2_whole_X2_signed : GoodIn wsX2_whole (va_wsS RX2 84 yX2_signed wsX2_signed) := goodIn_app (goodIn_of _ (by decide +kernel)) ggX2_whole_X2_signed
theorem dX2_whole_0 : decode cX2_whole 0 = .ok (.iload_n 0, 1) := by decide +kernel
theorem dX2_whole_1 : decode cX2_whole 1 = .ok (.iconst 2, 1) := by decide +kernel
theorem dX2_whole_2 : decode cX2_whole 2 = .ok (.if_icmp .ne 8, 3) := by decide +kernel
theorem dX2_whole_5 : decode cX2_whole 5 = .ok (.bipush 23, 2) := by decide +kernel
theorem dX2_whole_7 : decode cX2_whole 7 = .ok (.goto 5, 3) := by decide +kernel
theorem dX2_whole_10 : decode cX2_whole 10 = .ok (.bipush 52, 2) := by decide +kernel
theorem dX2_whole_12 : decode cX2_whole 12 = .ok (.istore 4, 2) := by decide +kernel
theorem dX2_whole_14 : decode cX2_whole 14 = .ok (.iload_n 0, 1) := by decide +kernel
theorem dX2_whole_15 : decode cX2_whole 15 = .ok (.iconst 2, 1) := by decide +kernel
theorem dX2_whole_16 : decode cX2_whole 16 = .ok (.if_icmp .ne 8, 3) := by decide +kernel
theorem dX2_whole_19 : decode cX2_whole 19 = .ok (.bipush 127, 2) := by decide +kernel
theorem dX2_whole_21 : decode cX2_whole 21 = .ok (.goto 6, 3) := by decide +kernel
theorem dX2_whole_24 : decode cX2_whole 24 = .ok (.sipush 1023, 3) := by decide +kernel
theorem dX2_whole_27 : decode cX2_whole 27 = .ok (.istore 5, 2) := by decide +kernel
theorem dX2_whole_29 : decode cX2_whole 29 = .ok (.iload_n 0, 1) := by decide +kernel
theorem dX2_whole_30 : decode cX2_whole 30 = .ok (.lload_n 1, 1) := by decide +kernel
theorem dX2_whole_31 : decode cX2_whole 31 = .ok (.invokestatic 66, 3) := by decide +kernel
theorem dX2_whole_34 : decode cX2_whole 34 = .ok (.lstore 6, 2) := by decide +kernel
theorem dX2_whole_36 : decode cX2_whole 36 = .ok (.lload_n 1, 1) := by decide +kernel
theorem dX2_whole_37 : decode cX2_whole 37 = .ok (.lconst 0, 1) := by decide +kernel
theorem dX2_whole_38 : decode cX2_whole 38 = .ok (.lcmp, 1) := by decide +kernel
theorem dX2_whole_39 : decode cX2_whole 39 = .ok (.ifCond .ge 7, 3) := by decide +kernel
theorem dX2_whole_42 : decode cX2_whole 42 = .ok (.iconst 1, 1) := by decide +kernel
theorem dX2_whole_43 : decode cX2_whole 43 = .ok (.goto 4, 3) := by decide +kernel
theorem dX2_whole_46 : decode cX2_whole 46 = .ok (.iconst 0, 1) := by decide +kernel
theorem dX2_whole_47 : decode cX2_whole 47 = .ok (.istore 8, 2) := by decide +kernel
theorem dX2_whole_49 : decode cX2_whole 49 = .ok (.lload 6, 2) := by decide +kernel
theorem dX2_whole_51 : decode cX2_whole 51 = .ok (.iload 4, 2) := by decide +kernel
theorem dX2_whole_53 : decode cX2_whole 53 = .ok (.lshr, 1) := by decide +kernel
theorem dX2_whole_54 : decode cX2_whole 54 = .ok (.l2i, 1) := by decide +kernel
theorem dX2_whole_55 : decode cX2_whole 55 = .ok (.iload 5, 2) := by decide +kernel
theorem dX2_whole_57 : decode cX2_whole 57 = .ok (.isub, 1) := by decide +kernel
theorem dX2_whole_58 : decode cX2_whole 58 = .ok (.istore 9, 2) := by decide +kernel
theorem dX2_whole_60 : decode cX2_whole 60 = .ok (.iload 9, 2) := by decide +kernel
theorem dX2_whole_62 : decode cX2_whole 62 = .ok (.iload 4, 2) := by decide +kernel
theorem dX2_whole_64 : decode cX2_whole 64 = .ok (.if_icmp .ge 10, 3) := by decide +kernel
theorem dX2_whole_67 : decode cX2_whole 67 = .ok (.lload 6, 2) := by decide +kernel
theorem dX2_whole_69 : decode cX2_whole 69 = .ok (.lconst 0, 1) := by decide +kernel
theorem dX2_whole_70 : decode cX2_whole 70 = .ok (.lcmp, 1) := by decide +kernel
theorem dX2_whole_71 : decode cX2_whole 71 = .ok (.ifCond .ne 5, 3) := by decide +kernel
theorem dX2_whole_74 : decode cX2_whole 74 = .ok (.lload_n 1, 1) := by decide +kernel
theorem dX2_whole_75 : decode cX2_whole 75 = .ok (.lreturn, 1) := by decide +kernel
theorem dX2_whole_76 : decode cX2_whole 76 = .ok (.iload_n 3, 1) := by decide +kernel
theorem dX2_whole_77 : decode cX2_whole 77 = .ok (.ifCond .ne 8, 3) := by decide +kernel
theorem dX2_whole_80 : decode cX2_whole 80 = .ok (.iload 8, 2) := by decide +kernel
theorem dX2_whole_82 : decode cX2_whole 82 = .ok (.goto 18, 3) := by decide +kernel
theorem dX2_whole_85 : decode cX2_whole 85 = .ok (.iload_n 3, 1) := by decide +kernel
theorem dX2_whole_86 : decode cX2_whole 86 = .ok (.iconst 1, 1) := by decide +kernel
theorem dX2_whole_87 : decode cX2_whole 87 = .ok (.if_icmp .ne 12, 3) := by decide +kernel
theorem dX2_whole_90 : decode cX2_whole 90 = .ok (.iload 8, 2) := by decide +kernel
theorem dX2_whole_92 : decode cX2_whole 92 = .ok (.ifCond .ne 7, 3) := by decide +kernel
theorem dX2_whole_95 : decode cX2_whole 95 = .ok (.iconst 1, 1) := by decide +kernel
theorem dX2_whole_96 : decode cX2_whole 96 = .ok (.goto 4, 3) := by decide +kernel
theorem dX2_whole_99 : decode cX2_whole 99 = .ok (.iconst 0, 1) := by decide +kernel
theorem dX2_whole_100 : decode cX2_whole 100 = .ok (.istore 10, 2) := by decide +kernel
theorem dX2_whole_102 : decode cX2_whole 102 = .ok (.iload 9, 2) := by decide +kernel
theorem dX2_whole_104 : decode cX2_whole 104 = .ok (.ifCond .ge 49, 3) := by decide +kernel
theorem dX2_whole_107 : decode cX2_whole 107 = .ok (.iload_n 3, 1) := by decide +kernel
theorem dX2_whole_108 : decode cX2_whole 108 = .ok (.iconst 2, 1) := by decide +kernel
theorem dX2_whole_109 : decode cX2_whole 109 = .ok (.if_icmp .ne 24, 3) := by decide +kernel
theorem dX2_whole_112 : decode cX2_whole 112 = .ok (.lload 6, 2) := by decide +kernel
theorem dX2_whole_114 : decode cX2_whole 114 = .ok (.iload 5, 2) := by decide +kernel
theorem dX2_whole_116 : decode cX2_whole 116 = .ok (.i2l, 1) := by decide +kernel
theorem dX2_whole_117 : decode cX2_whole 117 = .ok (.lconst 1, 1) := by decide +kernel
theorem dX2_whole_118 : decode cX2_whole 118 = .ok (.lsub, 1) := by decide +kernel
theorem dX2_whole_119 : decode cX2_whole 119 = .ok (.iload 4, 2) := by decide +kernel
theorem dX2_whole_121 : decode cX2_whole 121 = .ok (.lshl, 1) := by decide +kernel
theorem dX2_whole_122 : decode cX2_whole 122 = .ok (.lcmp, 1) := by decide +kernel
theorem dX2_whole_123 : decode cX2_whole 123 = .ok (.ifCond .le 7, 3) := by decide +kernel
theorem dX2_whole_126 : decode cX2_whole 126 = .ok (.iconst 1, 1) := by decide +kernel
theorem dX2_whole_127 : decode cX2_whole 127 = .ok (.goto 4, 3) := by decide +kernel
theorem dX2_whole_130 : decode cX2_whole 130 = .ok (.iconst 0, 1) := by decide +kernel
theorem dX2_whole_131 : decode cX2_whole 131 = .ok (.istore 10, 2) := by decide +kernel
theorem dX2_whole_133 : decode cX2_whole 133 = .ok (.iload_n 0, 1) := by decide +kernel
theorem dX2_whole_134 : decode cX2_whole 134 = .ok (.iload 10, 2) := by decide +kernel
theorem dX2_whole_136 : decode cX2_whole 136 = .ok (.ifCond .eq 10, 3) := by decide +kernel
theorem dX2_whole_139 : decode cX2_whole 139 = .ok (.iload_n 0, 1) := by decide +kernel
theorem dX2_whole_140 : decode cX2_whole 140 = .ok (.invokestatic 88, 3) := by decide +kernel
theorem dX2_whole_143 : decode cX2_whole 143 = .ok (.goto 4, 3) := by decide +kernel
theorem dX2_whole_146 : decode cX2_whole 146 = .ok (.lconst 0, 1) := by decide +kernel
theorem dX2_whole_147 : decode cX2_whole 147 = .ok (.iload 8, 2) := by decide +kernel
theorem dX2_whole_149 : decode cX2_whole 149 = .ok (.invokestatic 84, 3) := by decide +kernel
theorem dX2_whole_152 : decode cX2_whole 152 = .ok (.lreturn, 1) := by decide +kernel
theorem dX2_whole_153 : decode cX2_whole 153 = .ok (.lconst 1, 1) := by decide +kernel
theorem dX2_whole_154 : decode cX2_whole 154 = .ok (.iload 4, 2) := by decide +kernel
theorem dX2_whole_156 : decode cX2_whole 156 = .ok (.iload 9, 2) := by decide +kernel
theorem dX2_whole_158 : decode cX2_whole 158 = .ok (.isub, 1) := by decide +kernel
theorem dX2_whole_159 : decode cX2_whole 159 = .ok (.lshl, 1) := by decide +kernel
theorem dX2_whole_160 : decode cX2_whole 160 = .ok (.lstore 11, 2) := by decide +kernel
theorem dX2_whole_162 : decode cX2_whole 162 = .ok (.lload 6, 2) := by decide +kernel
theorem dX2_whole_164 : decode cX2_whole 164 = .ok (.lload 11, 2) := by decide +kernel
theorem dX2_whole_166 : decode cX2_whole 166 = .ok (.lconst 1, 1) := by decide +kernel
theorem dX2_whole_167 : decode cX2_whole 167 = .ok (.lsub, 1) := by decide +kernel
theorem dX2_whole_168 : decode cX2_whole 168 = .ok (.land, 1) := by decide +kernel
theorem dX2_whole_169 : decode cX2_whole 169 = .ok (.lstore 13, 2) := by decide +kernel
theorem dX2_whole_171 : decode cX2_whole 171 = .ok (.lload 6, 2) := by decide +kernel
theorem dX2_whole_173 : decode cX2_whole 173 = .ok (.lload 13, 2) := by decide +kernel
theorem dX2_whole_175 : decode cX2_whole 175 = .ok (.lsub, 1) := by decide +kernel
theorem dX2_whole_176 : decode cX2_whole 176 = .ok (.lstore 15, 2) := by decide +kernel
theorem dX2_whole_178 : decode cX2_whole 178 = .ok (.lload 13, 2) := by decide +kernel
theorem dX2_whole_180 : decode cX2_whole 180 = .ok (.lconst 0, 1) := by decide +kernel
theorem dX2_whole_181 : decode cX2_whole 181 = .ok (.lcmp, 1) := by decide +kernel
theorem dX2_whole_182 : decode cX2_whole 182 = .ok (.ifCond .ne 5, 3) := by decide +kernel
theorem dX2_whole_185 : decode cX2_whole 185 = .ok (.lload_n 1, 1) := by decide +kernel
theorem dX2_whole_186 : decode cX2_whole 186 = .ok (.lreturn, 1) := by decide +kernel
theorem dX2_whole_187 : decode cX2_whole 187 = .ok (.iload_n 3, 1) := by decide +kernel
theorem dX2_whole_188 : decode cX2_whole 188 = .ok (.iconst 2, 1) := by decide +kernel
theorem dX2_whole_189 : decode cX2_whole 189 = .ok (.if_icmp .ne 44, 3) := by decide +kernel
theorem dX2_whole_192 : decode cX2_whole 192 = .ok (.lload 13, 2) := by decide +kernel
theorem dX2_whole_194 : decode cX2_whole 194 = .ok (.lload 11, 2) := by decide +kernel
theorem dX2_whole_196 : decode cX2_whole 196 = .ok (.ldc2_w 91, 3) := by decide +kernel
theorem dX2_whole_199 : decode cX2_whole 199 = .ok (.ldiv, 1) := by decide +kernel
theorem dX2_whole_200 : decode cX2_whole 200 = .ok (.lcmp, 1) := by decide +kernel
theorem dX2_whole_201 : decode cX2_whole 201 = .ok (.ifCond .gt 25, 3) := by decide +kernel
theorem dX2_whole_204 : decode cX2_whole 204 = .ok (.lload 13, 2) := by decide +kernel
theorem dX2_whole_206 : decode cX2_whole 206 = .ok (.lload 11, 2) := by decide +kernel
theorem dX2_whole_208 : decode cX2_whole 208 = .ok (.ldc2_w 91, 3) := by decide +kernel
theorem dX2_whole_211 : decode cX2_whole 211 = .ok (.ldiv, 1) := by decide +kernel
theorem dX2_whole_212 : decode cX2_whole 212 = .ok (.lcmp, 1) := by decide +kernel
theorem dX2_whole_213 : decode cX2_whole 213 = .ok (.ifCond .ne 17, 3) := by decide +kernel
theorem dX2_whole_216 : decode cX2_whole 216 = .ok (.lload 15, 2) := by decide +kernel
theorem dX2_whole_218 : decode cX2_whole 218 = .ok (.lload 11, 2) := by decide +kernel
theorem dX2_whole_220 : decode cX2_whole 220 = .ok (.land, 1) := by decide +kernel
theorem dX2_whole_221 : decode cX2_whole 221 = .ok (.lconst 0, 1) := by decide +kernel
theorem dX2_whole_222 : decode cX2_whole 222 = .ok (.lcmp, 1) := by decide +kernel
theorem dX2_whole_223 : decode cX2_whole 223 = .ok (.ifCond .eq 7, 3) := by decide +kernel
theorem dX2_whole_226 : decode cX2_whole 226 = .ok (.iconst 1, 1) := by decide +kernel
theorem dX2_whole_227 : decode cX2_whole 227 = .ok (.goto 4, 3) := by decide +kernel
theorem dX2_whole_230 : decode cX2_whole 230 = .ok (.iconst 0, 1) := by decide +kernel
theorem dX2_whole_231 : decode cX2_whole 231 = .ok (.istore 10, 2) := by decide +kernel
theorem dX2_whole_233 : decode cX2_whole 233 = .ok (.iload_n 0, 1) := by decide +kernel
theorem dX2_whole_234 : decode cX2_whole 234 = .ok (.iload 10, 2) := by decide +kernel
theorem dX2_whole_236 : decode cX2_whole 236 = .ok (.ifCond .eq 11, 3) := by decide +kernel
theorem dX2_whole_239 : decode cX2_whole 239 = .ok (.lload 15, 2) := by decide +kernel
theorem dX2_whole_241 : decode cX2_whole 241 = .ok (.lload 11, 2) := by decide +kernel
theorem dX2_whole_243 : decode cX2_whole 243 = .ok (.ladd, 1) := by decide +kernel
theorem dX2_whole_244 : decode cX2_whole 244 = .ok (.goto 5, 3) := by decide +kernel
theorem dX2_whole_247 : decode cX2_whole 247 = .ok (.lload 15, 2) := by decide +kernel
theorem dX2_whole_249 : decode cX2_whole 249 = .ok (.iload 8, 2) := by decide +kernel
theorem dX2_whole_251 : decode cX2_whole 251 = .ok (.invokestatic 84, 3) := by decide +kernel
theorem dX2_whole_254 : decode cX2_whole 254 = .ok (.lreturn, 1) := by decide +kernel
set_option maxRecDepth 20000 in
theorem ggX2_made_X2_isBroken : GoodIn wsX2_made wsX2_isBroken := goodIn_r _ [12] (by decide +kernel) (by decide +kernel)
set_option maxRecDepth 20000 in
theorem gX2_made_X2_isBroken : GoodIn wsX2_made (va_wsS RX2 63 yX2_isBroken wsX2_isBroken) := goodIn_app (goodIn_of _ (by decide +kernel)) ggX2_made_X2_isBroken
set_option maxRecDepth 20000 in
theorem ggX2_made_X2_taken : GoodIn wsX2_made wsX2_taken := goodIn_r _ [15] (by decide +kernel) (by decide +kernel)
set_option maxRecDepth 20000 in
theorem gX2_made_X2_taken : GoodIn wsX2_made (va_wsS RX2 81 yX2_taken wsX2_taken) := goodIn_app (goodIn_of _ (by decide +kernel)) ggX2_made_X2_taken
set_option maxRecDepth 20000 in
theorem ggX2_made_Jxf58ca_floatToIntBits_5c35a : GoodIn wsX2_made wsJxf58ca_floatToIntBits_5c35a := goodIn_r _ [19, 20, 21, 22, 4, 23, 24, 25, 18, 26] (by decide +kernel) (by decide +kernel)
set_option maxRecDepth 20000 in
theorem gX2_made_Jxf58ca_floatToIntBits_5c35a : GoodIn wsX2_made (va_wsS RX2 93 yJxf58ca_floatToIntBits_5c35a wsJxf58ca_floatToIntBits_5c35a) := goodIn_app (goodIn_of _ (by decide +kernel)) ggX2_made_Jxf58ca_floatToIntBits_5c35a
set_option maxRecDepth 20000 in
theorem ggX2_made_Jxe99ae_doubleToLongBits_ccdee : GoodIn wsX2_made wsJxe99ae_doubleToLongBits_ccdee := goodIn_r _ [30, 31, 32, 33, 8, 34, 35, 36, 29, 37] (by decide +kernel) (by decide +kernel)
set_option maxRecDepth 20000 in
theorem gX2_made_Jxe99ae_doubleToLongBits_ccdee : GoodIn wsX2_made (va_wsS RX2 99 yJxe99ae_doubleToLongBits_ccdee wsJxe99ae_doubleToLongBits_ccdee) := goodIn_app (goodIn_of _ (by decide +kernel)) ggX2_made_Jxe99ae_doubleToLongBits_ccdee
theorem dX2_made_0 : decode cX2_made 0 = .ok (.iload_n 0, 1) := by decide +kernel
theorem dX2_made_1 : decode cX2_made 1 = .ok (.iload_n 1, 1) := by decide +kernel
theorem dX2_made_2 : decode cX2_made 2 = .ok (.if_icmp .ne 5, 3) := by decide +kernel
theorem dX2_made_5 : decode cX2_made 5 = .ok (.lload_n 2, 1) := by decide +kernel
theorem dX2_made_6 : decode cX2_made 6 = .ok (.lreturn, 1) := by decide +kernel
theorem dX2_made_7 : decode cX2_made 7 = .ok (.iload_n 0, 1) := by decide +kernel
theorem dX2_made_8 : decode cX2_made 8 = .ok (.invokestatic 63, 3) := by decide +kernel
theorem dX2_made_11 : decode cX2_made 11 = .ok (.ifCond .ne 16, 3) := by decide +kernel
theorem dX2_made_14 : decode cX2_made 14 = .ok (.iload_n 1, 1) := by decide +kernel
theorem dX2_made_15 : decode cX2_made 15 = .ok (.invokestatic 63, 3) := by decide +kernel
theorem dX2_made_18 : decode cX2_made 18 = .ok (.ifCond .ne 9, 3) := by decide +kernel
theorem dX2_made_21 : decode cX2_made 21 = .ok (.iload_n 1, 1) := by decide +kernel
theorem dX2_made_22 : decode cX2_made 22 = .ok (.lload_n 2, 1) := by decide +kernel
theorem dX2_made_23 : decode cX2_made 23 = .ok (.invokestatic 81, 3) := by decide +kernel
theorem dX2_made_26 : decode cX2_made 26 = .ok (.lreturn, 1) := by decide +kernel
theorem dX2_made_27 : decode cX2_made 27 = .ok (.iload_n 0, 1) := by decide +kernel
theorem dX2_made_28 : decode cX2_made 28 = .ok (.invokestatic 63, 3) := by decide +kernel
theorem dX2_made_31 : decode cX2_made 31 = .ok (.ifCond .ne 23, 3) := by decide +kernel
theorem dX2_made_34 : decode cX2_made 34 = .ok (.iload_n 1, 1) := by decide +kernel
theorem dX2_made_35 : decode cX2_made 35 = .ok (.iconst 2, 1) := by decide +kernel
theorem dX2_made_36 : decode cX2_made 36 = .ok (.if_icmp .ne 12, 3) := by decide +kernel
theorem dX2_made_39 : decode cX2_made 39 = .ok (.lload_n 2, 1) := by decide +kernel
theorem dX2_made_40 : decode cX2_made 40 = .ok (.l2f, 1) := by decide +kernel
theorem dX2_made_41 : decode cX2_made 41 = .ok (.invokestatic 93, 3) := by decide +kernel
theorem dX2_made_44 : decode cX2_made 44 = .ok (.i2l, 1) := by decide +kernel
theorem dX2_made_45 : decode cX2_made 45 = .ok (.goto 8, 3) := by decide +kernel
theorem dX2_made_48 : decode cX2_made 48 = .ok (.lload_n 2, 1) := by decide +kernel
theorem dX2_made_49 : decode cX2_made 49 = .ok (.l2d, 1) := by decide +kernel
theorem dX2_made_50 : decode cX2_made 50 = .ok (.invokestatic 99, 3) := by decide +kernel
theorem dX2_made_53 : decode cX2_made 53 = .ok (.lreturn, 1) := by decide +kernel
theorem dX2_made_54 : decode cX2_made 54 = .ok (.iload_n 0, 1) := by decide +kernel
theorem dX2_made_55 : decode cX2_made 55 = .ok (.iconst 2, 1) := by decide +kernel
theorem dX2_made_56 : decode cX2_made 56 = .ok (.if_icmp .ne 12, 3) := by decide +kernel
theorem dX2_made_59 : decode cX2_made 59 = .ok (.lload_n 2, 1) := by decide +kernel
theorem dX2_made_60 : decode cX2_made 60 = .ok (.l2i, 1) := by decide +kernel
theorem dX2_made_61 : decode cX2_made 61 = .ok (.invokestatic 105, 3) := by decide +kernel
theorem dX2_made_64 : decode cX2_made 64 = .ok (.f2d, 1) := by decide +kernel
theorem dX2_made_65 : decode cX2_made 65 = .ok (.goto 7, 3) := by decide +kernel
theorem dX2_made_68 : decode cX2_made 68 = .ok (.lload_n 2, 1) := by decide +kernel
theorem dX2_made_69 : decode cX2_made 69 = .ok (.invokestatic 109, 3) := by decide +kernel
theorem dX2_made_72 : decode cX2_made 72 = .ok (.dstore 4, 2) := by decide +kernel
theorem dX2_made_74 : decode cX2_made 74 = .ok (.iload_n 1, 1) := by decide +kernel
theorem dX2_made_75 : decode cX2_made 75 = .ok (.ifCond .ne 8, 3) := by decide +kernel
theorem dX2_made_78 : decode cX2_made 78 = .ok (.dload 4, 2) := by decide +kernel
theorem dX2_made_80 : decode cX2_made 80 = .ok (.d2i, 1) := by decide +kernel
theorem dX2_made_81 : decode cX2_made 81 = .ok (.i2l, 1) := by decide +kernel
theorem dX2_made_82 : decode cX2_made 82 = .ok (.lreturn, 1) := by decide +kernel
theorem dX2_made_83 : decode cX2_made 83 = .ok (.iload_n 1, 1) := by decide +kernel
theorem dX2_made_84 : decode cX2_made 84 = .ok (.iconst 1, 1) := by decide +kernel
theorem dX2_made_85 : decode cX2_made 85 = .ok (.if_icmp .ne 7, 3) := by decide +kernel
theorem dX2_made_88 : decode cX2_made 88 = .ok (.dload 4, 2) := by decide +kernel
theorem dX2_made_90 : decode cX2_made 90 = .ok (.d2l, 1) := by decide +kernel
theorem dX2_made_91 : decode cX2_made 91 = .ok (.lreturn, 1) := by decide +kernel
theorem dX2_made_92 : decode cX2_made 92 = .ok (.iload_n 1, 1) := by decide +kernel
theorem dX2_made_93 : decode cX2_made 93 = .ok (.iconst 2, 1) := by decide +kernel
theorem dX2_made_94 : decode cX2_made 94 = .ok (.if_icmp .ne 13, 3) := by decide +kernel
theorem dX2_made_97 : decode cX2_made 97 = .ok (.dload 4, 2) := by decide +kernel
theorem dX2_made_99 : decode cX2_made 99 = .ok (.d2f, 1) := by decide +kernel
theorem dX2_made_100 : decode cX2_made 100 = .ok (.invokestatic 93, 3) := by decide +kernel
theorem dX2_made_103 : decode cX2_made 103 = .ok (.i2l, 1) := by decide +kernel
theorem dX2_made_104 : decode cX2_made 104 = .ok (.goto 8, 3) := by decide +kernel
theorem dX2_made_107 : decode cX2_made 107 = .ok (.dload 4, 2) := by decide +kernel
theorem dX2_made_109 : decode cX2_made 109 = .ok (.invokestatic 99, 3) := by decide +kernel
theorem dX2_made_112 : decode cX2_made 112 = .ok (.lreturn, 1) := by decide +kernel
set_option maxRecDepth 20000 in
theorem ggX2_comes_X2_says : GoodIn wsX2_comes wsX2_says := goodIn_r _ [8, 9, 10, 11, 12, 13, 14, 15, 16, 17, 18, 19, 20, 21] (by decide +kernel) (by decide +kernel)
set_option maxRecDepth 20000 in
theorem gX2_comes_X2_says : GoodIn wsX2_comes (wsV RX2 113 RX2 yX2_says wsX2_says) := goodIn_app (goodIn_of _ (by decide +kernel)) ggX2_comes_X2_says
theorem dX2_comes_0 : decode cX2_comes 0 = .ok (.aload_n 0, 1) := by decide +kernel
theorem dX2_comes_1 : decode cX2_comes 1 = .ok (.getfield 7, 3) := by decide +kernel
theorem dX2_comes_4 : decode cX2_comes 4 = .ok (.iload_n 1, 1) := by decide +kernel
theorem dX2_comes_5 : decode cX2_comes 5 = .ok (.iload_n 2, 1) := by decide +kernel
theorem dX2_comes_6 : decode cX2_comes 6 = .ok (.iastore, 1) := by decide +kernel
theorem dX2_comes_7 : decode cX2_comes 7 = .ok (.aload_n 0, 1) := by decide +kernel
theorem dX2_comes_8 : decode cX2_comes 8 = .ok (.getfield 13, 3) := by decide +kernel
theorem dX2_comes_11 : decode cX2_comes 11 = .ok (.iload_n 1, 1) := by decide +kernel
theorem dX2_comes_12 : decode cX2_comes 12 = .ok (.lload_n 3, 1) := by decide +kernel
theorem dX2_comes_13 : decode cX2_comes 13 = .ok (.lastore, 1) := by decide +kernel
theorem dX2_comes_14 : decode cX2_comes 14 = .ok (.aload_n 0, 1) := by decide +kernel
theorem dX2_comes_15 : decode cX2_comes 15 = .ok (.getfield 17, 3) := by decide +kernel
theorem dX2_comes_18 : decode cX2_comes 18 = .ok (.iload_n 1, 1) := by decide +kernel
theorem dX2_comes_19 : decode cX2_comes 19 = .ok (.lload 5, 2) := by decide +kernel
theorem dX2_comes_21 : decode cX2_comes 21 = .ok (.lastore, 1) := by decide +kernel
theorem dX2_comes_22 : decode cX2_comes 22 = .ok (.aload_n 0, 1) := by decide +kernel
theorem dX2_comes_23 : decode cX2_comes 23 = .ok (.iconst 1, 1) := by decide +kernel
theorem dX2_comes_24 : decode cX2_comes 24 = .ok (.invokevirtual 113, 3) := by decide +kernel
theorem dX2_comes_27 : decode cX2_comes 27 = .ok (.ireturn, 1) := by decide +kernel
set_option maxRecDepth 20000 in
theorem ggX2_ordered_X2_lesser : GoodIn wsX2_ordered wsX2_lesser := goodIn_r _ [4, 5, 6, 3, 7, 8, 9, 10, 11, 12, 13, 14, 15] (by decide +kernel) (by decide +kernel)
set_option maxRecDepth 20000 in
theorem gX2_ordered_X2_lesser : GoodIn wsX2_ordered (va_wsS RX2 117 yX2_lesser wsX2_lesser) := goodIn_app (goodIn_of _ (by decide +kernel)) ggX2_ordered_X2_lesser
set_option maxRecDepth 20000 in
theorem ggX2_ordered_X2_greater : GoodIn wsX2_ordered wsX2_greater := goodIn_r _ [18, 5, 6, 3, 7, 8, 9, 10, 11, 12, 13, 14, 15] (by decide +kernel) (by decide +kernel)
set_option maxRecDepth 20000 in
theorem gX2_ordered_X2_greater : GoodIn wsX2_ordered (va_wsS RX2 121 yX2_greater wsX2_greater) := goodIn_app (goodIn_of _ (by decide +kernel)) ggX2_ordered_X2_greater
set_option maxRecDepth 20000 in
theorem ggX2_ordered_X2_comes : GoodIn wsX2_ordered wsX2_comes := goodIn_r _ [22, 23, 24, 25, 26, 27, 28, 3, 29, 30, 31, 32, 33, 34, 35, 36, 37, 38, 39, 40, 41, 42] (by decide +kernel) (by decide +kernel)
set_option maxRecDepth 20000 in
theorem gX2_ordered_X2_comes : GoodIn wsX2_ordered (wsV RX2 124 RX2 yX2_comes wsX2_comes) := goodIn_app (goodIn_of _ (by decide +kernel)) ggX2_ordered_X2_comes
theorem dX2_ordered_0 : decode cX2_ordered 0 = .ok (.aload_n 0, 1) := by decide +kernel
theorem dX2_ordered_1 : decode cX2_ordered 1 = .ok (.iload_n 1, 1) := by decide +kernel
theorem dX2_ordered_2 : decode cX2_ordered 2 = .ok (.iload_n 2, 1) := by decide +kernel
theorem dX2_ordered_3 : decode cX2_ordered 3 = .ok (.iload_n 2, 1) := by decide +kernel
theorem dX2_ordered_4 : decode cX2_ordered 4 = .ok (.lload_n 3, 1) := by decide +kernel
theorem dX2_ordered_5 : decode cX2_ordered 5 = .ok (.lload 5, 2) := by decide +kernel
theorem dX2_ordered_7 : decode cX2_ordered 7 = .ok (.invokestatic 117, 3) := by decide +kernel
theorem dX2_ordered_10 : decode cX2_ordered 10 = .ok (.iload_n 2, 1) := by decide +kernel
theorem dX2_ordered_11 : decode cX2_ordered 11 = .ok (.lload_n 3, 1) := by decide +kernel
theorem dX2_ordered_12 : decode cX2_ordered 12 = .ok (.lload 5, 2) := by decide +kernel
theorem dX2_ordered_14 : decode cX2_ordered 14 = .ok (.invokestatic 121, 3) := by decide +kernel
theorem dX2_ordered_17 : decode cX2_ordered 17 = .ok (.invokevirtual 124, 3) := by decide +kernel
theorem dX2_ordered_20 : decode cX2_ordered 20 = .ok (.ireturn, 1) := by decide +kernel
set_option maxRecDepth 20000 in
theorem ggX2_emptied_X2_says : GoodIn wsX2_emptied wsX2_says := goodIn_r _ [6, 7, 8, 9, 10, 11, 12, 13, 14, 15, 16, 17, 18, 19] (by decide +kernel) (by decide +kernel)
set_option maxRecDepth 20000 in
theorem gX2_emptied_X2_says : GoodIn wsX2_emptied (wsV RX2 113 RX2 yX2_says wsX2_says) := goodIn_app (goodIn_of _ (by decide +kernel)) ggX2_emptied_X2_says
theorem dX2_emptied_0 : decode cX2_emptied 0 = .ok (.aload_n 0, 1) := by decide +kernel
theorem dX2_emptied_1 : decode cX2_emptied 1 = .ok (.getfield 7, 3) := by decide +kernel
theorem dX2_emptied_4 : decode cX2_emptied 4 = .ok (.iload_n 1, 1) := by decide +kernel
theorem dX2_emptied_5 : decode cX2_emptied 5 = .ok (.iconst (-1), 1) := by decide +kernel
theorem dX2_emptied_6 : decode cX2_emptied 6 = .ok (.iastore, 1) := by decide +kernel
theorem dX2_emptied_7 : decode cX2_emptied 7 = .ok (.aload_n 0, 1) := by decide +kernel
theorem dX2_emptied_8 : decode cX2_emptied 8 = .ok (.iconst 0, 1) := by decide +kernel
theorem dX2_emptied_9 : decode cX2_emptied 9 = .ok (.invokevirtual 113, 3) := by decide +kernel
theorem dX2_emptied_12 : decode cX2_emptied 12 = .ok (.ireturn, 1) := by decide +kernel
set_option maxRecDepth 20000 in
theorem ggX2_set_X2_isSlot : GoodIn wsX2_set wsX2_isSlot := goodIn_r _ [4] (by decide +kernel) (by decide +kernel)
set_option maxRecDepth 20000 in
theorem gX2_set_X2_isSlot : GoodIn wsX2_set (va_wsS RX2 43 yX2_isSlot wsX2_isSlot) := goodIn_app (goodIn_of _ (by decide +kernel)) ggX2_set_X2_isSlot
set_option maxRecDepth 20000 in
theorem ggX2_set_X2_refuses : GoodIn wsX2_set wsX2_refuses := goodIn_r _ [8, 9, 10, 47, 48, 49, 50, 51, 52, 53, 54, 55, 56, 57, 58] (by decide +kernel) (by decide +kernel)
set_option maxRecDepth 20000 in
theorem gX2_set_X2_refuses : GoodIn wsX2_set (wsV RX2 128 RX2 yX2_refuses wsX2_refuses) := goodIn_app (goodIn_of _ (by decide +kernel)) ggX2_set_X2_refuses
set_option maxRecDepth 20000 in
theorem ggX2_set_X2_taken : GoodIn wsX2_set wsX2_taken := goodIn_r _ [13] (by decide +kernel) (by decide +kernel)
set_option maxRecDepth 20000 in
theorem gX2_set_X2_taken : GoodIn wsX2_set (va_wsS RX2 81 yX2_taken wsX2_taken) := goodIn_app (goodIn_of _ (by decide +kernel)) ggX2_set_X2_taken
set_option maxRecDepth 20000 in
theorem ggX2_set_X2_isNumber : GoodIn wsX2_set wsX2_isNumber := goodIn_r _ [16, 17, 18, 3, 19, 20, 21, 22, 23, 24, 25, 26, 27, 28, 29] (by decide +kernel) (by decide +kernel)
set_option maxRecDepth 20000 in
theorem gX2_set_X2_isNumber : GoodIn wsX2_set (va_wsS RX2 131 yX2_isNumber wsX2_isNumber) := goodIn_app (goodIn_of _ (by decide +kernel)) ggX2_set_X2_isNumber
set_option maxRecDepth 20000 in
theorem ggX2_set_X2_isAbove : GoodIn wsX2_set wsX2_isAbove := goodIn_r _ [32, 33, 34, 3, 35, 23, 24, 17, 18, 19] (by decide +kernel) (by decide +kernel)
set_option maxRecDepth 20000 in
theorem gX2_set_X2_isAbove : GoodIn wsX2_set (va_wsS RX2 77 yX2_isAbove wsX2_isAbove) := goodIn_app (goodIn_of _ (by decide +kernel)) ggX2_set_X2_isAbove
set_option maxRecDepth 20000 in
theorem ggX2_set_X2_comes : GoodIn wsX2_set wsX2_comes := goodIn_r _ [39, 40, 41, 42, 43, 44, 45, 3, 46, 9, 47, 48, 49, 50, 51, 52, 53, 54, 55, 56, 57, 58] (by decide +kernel) (by decide +kernel)
set_option maxRecDepth 20000 in
theorem gX2_set_X2_comes : GoodIn wsX2_set (wsV RX2 124 RX2 yX2_comes wsX2_comes) := goodIn_app (goodIn_of _ (by decide +kernel)) ggX2_set_X2_comes
theorem dX2_set_0 : decode cX2_set 0 = .ok (.iload_n 1, 1) := by decide +kernel
theorem dX2_set_1 : decode cX2_set 1 = .ok (.invokestatic 43, 3) := by decide +kernel
theorem dX2_set_4 : decode cX2_set 4 = .ok (.ifCond .ne 10, 3) := by decide +kernel
theorem dX2_set_7 : decode cX2_set 7 = .ok (.aload_n 0, 1) := by decide +kernel
theorem dX2_set_8 : decode cX2_set 8 = .ok (.bipush (-2), 2) := by decide +kernel
theorem dX2_set_10 : decode cX2_set 10 = .ok (.invokevirtual 128, 3) := by decide +kernel
theorem dX2_set_13 : decode cX2_set 13 = .ok (.ireturn, 1) := by decide +kernel
theorem dX2_set_14 : decode cX2_set 14 = .ok (.iload_n 2, 1) := by decide +kernel
theorem dX2_set_15 : decode cX2_set 15 = .ok (.ifCond .lt 8, 3) := by decide +kernel
theorem dX2_set_18 : decode cX2_set 18 = .ok (.iload_n 2, 1) := by decide +kernel
theorem dX2_set_19 : decode cX2_set 19 = .ok (.iconst 3, 1) := by decide +kernel
theorem dX2_set_20 : decode cX2_set 20 = .ok (.if_icmp .le 10, 3) := by decide +kernel
theorem dX2_set_23 : decode cX2_set 23 = .ok (.aload_n 0, 1) := by decide +kernel
theorem dX2_set_24 : decode cX2_set 24 = .ok (.bipush (-4), 2) := by decide +kernel
theorem dX2_set_26 : decode cX2_set 26 = .ok (.invokevirtual 128, 3) := by decide +kernel
theorem dX2_set_29 : decode cX2_set 29 = .ok (.ireturn, 1) := by decide +kernel
theorem dX2_set_30 : decode cX2_set 30 = .ok (.iload_n 2, 1) := by decide +kernel
theorem dX2_set_31 : decode cX2_set 31 = .ok (.lload_n 3, 1) := by decide +kernel
theorem dX2_set_32 : decode cX2_set 32 = .ok (.invokestatic 81, 3) := by decide +kernel
theorem dX2_set_35 : decode cX2_set 35 = .ok (.lstore 7, 2) := by decide +kernel
theorem dX2_set_37 : decode cX2_set 37 = .ok (.iload_n 2, 1) := by decide +kernel
theorem dX2_set_38 : decode cX2_set 38 = .ok (.lload 5, 2) := by decide +kernel
theorem dX2_set_40 : decode cX2_set 40 = .ok (.invokestatic 81, 3) := by decide +kernel
theorem dX2_set_43 : decode cX2_set 43 = .ok (.lstore 9, 2) := by decide +kernel
theorem dX2_set_45 : decode cX2_set 45 = .ok (.iload_n 2, 1) := by decide +kernel
theorem dX2_set_46 : decode cX2_set 46 = .ok (.lload 7, 2) := by decide +kernel
theorem dX2_set_48 : decode cX2_set 48 = .ok (.invokestatic 131, 3) := by decide +kernel
theorem dX2_set_51 : decode cX2_set 51 = .ok (.ifCond .eq 12, 3) := by decide +kernel
theorem dX2_set_54 : decode cX2_set 54 = .ok (.iload_n 2, 1) := by decide +kernel
theorem dX2_set_55 : decode cX2_set 55 = .ok (.lload 9, 2) := by decide +kernel
theorem dX2_set_57 : decode cX2_set 57 = .ok (.invokestatic 131, 3) := by decide +kernel
theorem dX2_set_60 : decode cX2_set 60 = .ok (.ifCond .ne 10, 3) := by decide +kernel
theorem dX2_set_63 : decode cX2_set 63 = .ok (.aload_n 0, 1) := by decide +kernel
theorem dX2_set_64 : decode cX2_set 64 = .ok (.bipush (-4), 2) := by decide +kernel
theorem dX2_set_66 : decode cX2_set 66 = .ok (.invokevirtual 128, 3) := by decide +kernel
theorem dX2_set_69 : decode cX2_set 69 = .ok (.ireturn, 1) := by decide +kernel
theorem dX2_set_70 : decode cX2_set 70 = .ok (.iload_n 2, 1) := by decide +kernel
theorem dX2_set_71 : decode cX2_set 71 = .ok (.lload 7, 2) := by decide +kernel
theorem dX2_set_73 : decode cX2_set 73 = .ok (.lload 9, 2) := by decide +kernel
theorem dX2_set_75 : decode cX2_set 75 = .ok (.invokestatic 77, 3) := by decide +kernel
theorem dX2_set_78 : decode cX2_set 78 = .ok (.ifCond .eq 12, 3) := by decide +kernel
theorem dX2_set_81 : decode cX2_set 81 = .ok (.aload_n 0, 1) := by decide +kernel
theorem dX2_set_82 : decode cX2_set 82 = .ok (.bipush (-5), 2) := by decide +kernel
theorem dX2_set_84 : decode cX2_set 84 = .ok (.invokevirtual 128, 3) := by decide +kernel
theorem dX2_set_87 : decode cX2_set 87 = .ok (.goto 13, 3) := by decide +kernel
theorem dX2_set_90 : decode cX2_set 90 = .ok (.aload_n 0, 1) := by decide +kernel
theorem dX2_set_91 : decode cX2_set 91 = .ok (.iload_n 1, 1) := by decide +kernel
theorem dX2_set_92 : decode cX2_set 92 = .ok (.iload_n 2, 1) := by decide +kernel
theorem dX2_set_93 : decode cX2_set 93 = .ok (.lload 7, 2) := by decide +kernel
theorem dX2_set_95 : decode cX2_set 95 = .ok (.lload 9, 2) := by decide +kernel
theorem dX2_set_97 : decode cX2_set 97 = .ok (.invokevirtual 124, 3) := by decide +kernel
theorem dX2_set_100 : decode cX2_set 100 = .ok (.ireturn, 1) := by decide +kernel
set_option maxRecDepth 20000 in
theorem ggX2_clear_X2_isSlot : GoodIn wsX2_clear wsX2_isSlot := goodIn_r _ [5] (by decide +kernel) (by decide +kernel)
set_option maxRecDepth 20000 in
theorem gX2_clear_X2_isSlot : GoodIn wsX2_clear (va_wsS RX2 43 yX2_isSlot wsX2_isSlot) := goodIn_app (goodIn_of _ (by decide +kernel)) ggX2_clear_X2_isSlot
set_option maxRecDepth 20000 in
theorem ggX2_clear_X2_refuses : GoodIn wsX2_clear wsX2_refuses := goodIn_r _ [9, 10, 11, 16, 17, 18, 19, 20, 21, 22, 23, 24, 25, 26, 27] (by decide +kernel) (by decide +kernel)
set_option maxRecDepth 20000 in
theorem gX2_clear_X2_refuses : GoodIn wsX2_clear (wsV RX2 128 RX2 yX2_refuses wsX2_refuses) := goodIn_app (goodIn_of _ (by decide +kernel)) ggX2_clear_X2_refuses
set_option maxRecDepth 20000 in
theorem ggX2_clear_X2_says : GoodIn wsX2_clear wsX2_says := goodIn_r _ [15, 10, 16, 17, 18, 19, 20, 21, 22, 23, 24, 25, 26, 27] (by decide +kernel) (by decide +kernel)
set_option maxRecDepth 20000 in
theorem gX2_clear_X2_says : GoodIn wsX2_clear (wsV RX2 113 RX2 yX2_says wsX2_says) := goodIn_app (goodIn_of _ (by decide +kernel)) ggX2_clear_X2_says
theorem dX2_clear_0 : decode cX2_clear 0 = .ok (.iload_n 1, 1) := by decide +kernel
theorem dX2_clear_1 : decode cX2_clear 1 = .ok (.invokestatic 43, 3) := by decide +kernel
theorem dX2_clear_4 : decode cX2_clear 4 = .ok (.ifCond .ne 10, 3) := by decide +kernel
theorem dX2_clear_7 : decode cX2_clear 7 = .ok (.aload_n 0, 1) := by decide +kernel
theorem dX2_clear_8 : decode cX2_clear 8 = .ok (.bipush (-2), 2) := by decide +kernel
theorem dX2_clear_10 : decode cX2_clear 10 = .ok (.invokevirtual 128, 3) := by decide +kernel
theorem dX2_clear_13 : decode cX2_clear 13 = .ok (.ireturn, 1) := by decide +kernel
theorem dX2_clear_14 : decode cX2_clear 14 = .ok (.aload_n 0, 1) := by decide +kernel
theorem dX2_clear_15 : decode cX2_clear 15 = .ok (.getfield 7, 3) := by decide +kernel
theorem dX2_clear_18 : decode cX2_clear 18 = .ok (.iload_n 1, 1) := by decide +kernel
theorem dX2_clear_19 : decode cX2_clear 19 = .ok (.iaload, 1) := by decide +kernel
theorem dX2_clear_20 : decode cX2_clear 20 = .ok (.iconst (-1), 1) := by decide +kernel
theorem dX2_clear_21 : decode cX2_clear 21 = .ok (.if_icmp .ne 7, 3) := by decide +kernel
theorem dX2_clear_24 : decode cX2_clear 24 = .ok (.iconst 0, 1) := by decide +kernel
theorem dX2_clear_25 : decode cX2_clear 25 = .ok (.goto 4, 3) := by decide +kernel
theorem dX2_clear_28 : decode cX2_clear 28 = .ok (.iconst 1, 1) := by decide +kernel
theorem dX2_clear_29 : decode cX2_clear 29 = .ok (.istore_n 2, 1) := by decide +kernel
theorem dX2_clear_30 : decode cX2_clear 30 = .ok (.aload_n 0, 1) := by decide +kernel
theorem dX2_clear_31 : decode cX2_clear 31 = .ok (.getfield 7, 3) := by decide +kernel
theorem dX2_clear_34 : decode cX2_clear 34 = .ok (.iload_n 1, 1) := by decide +kernel
theorem dX2_clear_35 : decode cX2_clear 35 = .ok (.iconst (-1), 1) := by decide +kernel
theorem dX2_clear_36 : decode cX2_clear 36 = .ok (.iastore, 1) := by decide +kernel
theorem dX2_clear_37 : decode cX2_clear 37 = .ok (.aload_n 0, 1) := by decide +kernel
theorem dX2_clear_38 : decode cX2_clear 38 = .ok (.iload_n 2, 1) := by decide +kernel
theorem dX2_clear_39 : decode cX2_clear 39 = .ok (.invokevirtual 113, 3) := by decide +kernel
theorem dX2_clear_42 : decode cX2_clear 42 = .ok (.ireturn, 1) := by decide +kernel
set_option maxRecDepth 20000 in
theorem ggX2_sort_X2_whyNot : GoodIn wsX2_sort wsX2_whyNot := goodIn_r _ [6, 1, 7, 8, 5, 9, 20, 21, 22, 23, 24, 25, 26, 27, 28, 29, 30, 31] (by decide +kernel) (by decide +kernel)
set_option maxRecDepth 20000 in
theorem gX2_sort_X2_whyNot : GoodIn wsX2_sort (wsV RX2 135 RX2 yX2_whyNot wsX2_whyNot) := goodIn_app (goodIn_of _ (by decide +kernel)) ggX2_sort_X2_whyNot
set_option maxRecDepth 20000 in
theorem ggX2_sort_X2_refuses : GoodIn wsX2_sort wsX2_refuses := goodIn_r _ [13, 14, 15, 20, 21, 22, 23, 24, 25, 26, 27, 28, 29, 30, 31] (by decide +kernel) (by decide +kernel)
set_option maxRecDepth 20000 in
theorem gX2_sort_X2_refuses : GoodIn wsX2_sort (wsV RX2 128 RX2 yX2_refuses wsX2_refuses) := goodIn_app (goodIn_of _ (by decide +kernel)) ggX2_sort_X2_refuses
set_option maxRecDepth 20000 in
theorem ggX2_sort_X2_says : GoodIn wsX2_sort wsX2_says := goodIn_r _ [19, 14, 20, 21, 22, 23, 24, 25, 26, 27, 28, 29, 30, 31] (by decide +kernel) (by decide +kernel)
set_option maxRecDepth 20000 in
theorem gX2_sort_X2_says : GoodIn wsX2_sort (wsV RX2 113 RX2 yX2_says wsX2_says) := goodIn_app (goodIn_of _ (by decide +kernel)) ggX2_sort_X2_says
theorem dX2_sort_0 : decode cX2_sort 0 = .ok (.aload_n 0, 1) := by decide +kernel
theorem dX2_sort_1 : decode cX2_sort 1 = .ok (.iload_n 1, 1) := by decide +kernel
theorem dX2_sort_2 : decode cX2_sort 2 = .ok (.iload_n 1, 1) := by decide +kernel
theorem dX2_sort_3 : decode cX2_sort 3 = .ok (.iload_n 1, 1) := by decide +kernel
theorem dX2_sort_4 : decode cX2_sort 4 = .ok (.invokevirtual 135, 3) := by decide +kernel
theorem dX2_sort_7 : decode cX2_sort 7 = .ok (.istore_n 2, 1) := by decide +kernel
theorem dX2_sort_8 : decode cX2_sort 8 = .ok (.iload_n 2, 1) := by decide +kernel
theorem dX2_sort_9 : decode cX2_sort 9 = .ok (.ifCond .ge 11, 3) := by decide +kernel
theorem dX2_sort_12 : decode cX2_sort 12 = .ok (.aload_n 0, 1) := by decide +kernel
theorem dX2_sort_13 : decode cX2_sort 13 = .ok (.iload_n 2, 1) := by decide +kernel
theorem dX2_sort_14 : decode cX2_sort 14 = .ok (.invokevirtual 128, 3) := by decide +kernel
theorem dX2_sort_17 : decode cX2_sort 17 = .ok (.goto 13, 3) := by decide +kernel
theorem dX2_sort_20 : decode cX2_sort 20 = .ok (.aload_n 0, 1) := by decide +kernel
theorem dX2_sort_21 : decode cX2_sort 21 = .ok (.aload_n 0, 1) := by decide +kernel
theorem dX2_sort_22 : decode cX2_sort 22 = .ok (.getfield 7, 3) := by decide +kernel
theorem dX2_sort_25 : decode cX2_sort 25 = .ok (.iload_n 1, 1) := by decide +kernel
theorem dX2_sort_26 : decode cX2_sort 26 = .ok (.iaload, 1) := by decide +kernel
theorem dX2_sort_27 : decode cX2_sort 27 = .ok (.invokevirtual 113, 3) := by decide +kernel
theorem dX2_sort_30 : decode cX2_sort 30 = .ok (.ireturn, 1) := by decide +kernel
set_option maxRecDepth 20000 in
theorem ggX2_end_X2_whyNot : GoodIn wsX2_end wsX2_whyNot := goodIn_r _ [9, 10, 11, 12, 8, 13, 19, 20, 21, 22, 23, 24, 25, 26, 27, 28, 29, 30] (by decide +kernel) (by decide +kernel)
set_option maxRecDepth 20000 in
theorem gX2_end_X2_whyNot : GoodIn wsX2_end (wsV RX2 135 RX2 yX2_whyNot wsX2_whyNot) := goodIn_app (goodIn_of _ (by decide +kernel)) ggX2_end_X2_whyNot
set_option maxRecDepth 20000 in
theorem ggX2_end_X2_refuses : GoodIn wsX2_end wsX2_refuses := goodIn_r _ [17, 1, 18, 19, 20, 21, 22, 23, 24, 25, 26, 27, 28, 29, 30] (by decide +kernel) (by decide +kernel)
set_option maxRecDepth 20000 in
theorem gX2_end_X2_refuses : GoodIn wsX2_end (wsV RX2 128 RX2 yX2_refuses wsX2_refuses) := goodIn_app (goodIn_of _ (by decide +kernel)) ggX2_end_X2_refuses
theorem dX2_end_0 : decode cX2_end 0 = .ok (.aload_n 0, 1) := by decide +kernel
theorem dX2_end_1 : decode cX2_end 1 = .ok (.iload_n 1, 1) := by decide +kernel
theorem dX2_end_2 : decode cX2_end 2 = .ok (.iload_n 1, 1) := by decide +kernel
theorem dX2_end_3 : decode cX2_end 3 = .ok (.iload_n 1, 1) := by decide +kernel
theorem dX2_end_4 : decode cX2_end 4 = .ok (.invokevirtual 135, 3) := by decide +kernel
theorem dX2_end_7 : decode cX2_end 7 = .ok (.istore_n 3, 1) := by decide +kernel
theorem dX2_end_8 : decode cX2_end 8 = .ok (.iload_n 3, 1) := by decide +kernel
theorem dX2_end_9 : decode cX2_end 9 = .ok (.ifCond .ge 11, 3) := by decide +kernel
theorem dX2_end_12 : decode cX2_end 12 = .ok (.aload_n 0, 1) := by decide +kernel
theorem dX2_end_13 : decode cX2_end 13 = .ok (.iload_n 3, 1) := by decide +kernel
theorem dX2_end_14 : decode cX2_end 14 = .ok (.invokevirtual 128, 3) := by decide +kernel
theorem dX2_end_17 : decode cX2_end 17 = .ok (.istore_n 3, 1) := by decide +kernel
theorem dX2_end_18 : decode cX2_end 18 = .ok (.lconst 0, 1) := by decide +kernel
theorem dX2_end_19 : decode cX2_end 19 = .ok (.lreturn, 1) := by decide +kernel
theorem dX2_end_20 : decode cX2_end 20 = .ok (.aload_n 0, 1) := by decide +kernel
theorem dX2_end_21 : decode cX2_end 21 = .ok (.iconst 0, 1) := by decide +kernel
theorem dX2_end_22 : decode cX2_end 22 = .ok (.putfield 36, 3) := by decide +kernel
theorem dX2_end_25 : decode cX2_end 25 = .ok (.aload_n 0, 1) := by decide +kernel
theorem dX2_end_26 : decode cX2_end 26 = .ok (.dup, 1) := by decide +kernel
theorem dX2_end_27 : decode cX2_end 27 = .ok (.getfield 139, 3) := by decide +kernel
theorem dX2_end_30 : decode cX2_end 30 = .ok (.iconst 1, 1) := by decide +kernel
theorem dX2_end_31 : decode cX2_end 31 = .ok (.iadd, 1) := by decide +kernel
theorem dX2_end_32 : decode cX2_end 32 = .ok (.putfield 139, 3) := by decide +kernel
theorem dX2_end_35 : decode cX2_end 35 = .ok (.iload_n 2, 1) := by decide +kernel
theorem dX2_end_36 : decode cX2_end 36 = .ok (.ifCond .eq 12, 3) := by decide +kernel
theorem dX2_end_39 : decode cX2_end 39 = .ok (.aload_n 0, 1) := by decide +kernel
theorem dX2_end_40 : decode cX2_end 40 = .ok (.getfield 17, 3) := by decide +kernel
theorem dX2_end_43 : decode cX2_end 43 = .ok (.iload_n 1, 1) := by decide +kernel
theorem dX2_end_44 : decode cX2_end 44 = .ok (.laload, 1) := by decide +kernel
theorem dX2_end_45 : decode cX2_end 45 = .ok (.goto 9, 3) := by decide +kernel
theorem dX2_end_48 : decode cX2_end 48 = .ok (.aload_n 0, 1) := by decide +kernel
theorem dX2_end_49 : decode cX2_end 49 = .ok (.getfield 13, 3) := by decide +kernel
theorem dX2_end_52 : decode cX2_end 52 = .ok (.iload_n 1, 1) := by decide +kernel
theorem dX2_end_53 : decode cX2_end 53 = .ok (.laload, 1) := by decide +kernel
theorem dX2_end_54 : decode cX2_end 54 = .ok (.lreturn, 1) := by decide +kernel
set_option maxRecDepth 20000 in
theorem ggX2_low_X2_end : GoodIn wsX2_low wsX2_end := goodIn_r _ [5, 6, 7, 8, 9, 10, 11, 12, 4, 13, 14, 15, 16, 17, 18, 19, 20, 21, 22, 23, 24, 25, 26, 27, 28, 29, 30, 31, 32, 33, 34] (by decide +kernel) (by decide +kernel)
set_option maxRecDepth 20000 in
theorem gX2_low_X2_end : GoodIn wsX2_low (wsV RX2 142 RX2 yX2_end wsX2_end) := goodIn_app (goodIn_of _ (by decide +kernel)) ggX2_low_X2_end
theorem dX2_low_0 : decode cX2_low 0 = .ok (.aload_n 0, 1) := by decide +kernel
theorem dX2_low_1 : decode cX2_low 1 = .ok (.iload_n 1, 1) := by decide +kernel
theorem dX2_low_2 : decode cX2_low 2 = .ok (.iconst 0, 1) := by decide +kernel
theorem dX2_low_3 : decode cX2_low 3 = .ok (.invokevirtual 142, 3) := by decide +kernel
theorem dX2_low_6 : decode cX2_low 6 = .ok (.lreturn, 1) := by decide +kernel
set_option maxRecDepth 20000 in
theorem ggX2_high_X2_end : GoodIn wsX2_high wsX2_end := goodIn_r _ [5, 6, 7, 8, 9, 10, 11, 12, 4, 13, 14, 15, 16, 17, 18, 19, 20, 21, 22, 23, 24, 25, 26, 27, 28, 29, 30, 31, 32, 33, 34] (by decide +kernel) (by decide +kernel)
set_option maxRecDepth 20000 in
theorem gX2_high_X2_end : GoodIn wsX2_high (wsV RX2 142 RX2 yX2_end wsX2_end) := goodIn_app (goodIn_of _ (by decide +kernel)) ggX2_high_X2_end
theorem dX2_high_0 : decode cX2_high 0 = .ok (.aload_n 0, 1) := by decide +kernel
theorem dX2_high_1 : decode cX2_high 1 = .ok (.iload_n 1, 1) := by decide +kernel
theorem dX2_high_2 : decode cX2_high 2 = .ok (.iconst 1, 1) := by decide +kernel
theorem dX2_high_3 : decode cX2_high 3 = .ok (.invokevirtual 142, 3) := by decide +kernel
theorem dX2_high_6 : decode cX2_high 6 = .ok (.lreturn, 1) := by decide +kernel
set_option maxRecDepth 20000 in
theorem ggX2_hull_X2_whyNot : GoodIn wsX2_hull wsX2_whyNot := goodIn_r _ [8, 1, 9, 10, 7, 11, 43, 44, 45, 46, 47, 48, 49, 50, 51, 52, 53, 54] (by decide +kernel) (by decide +kernel)
set_option maxRecDepth 20000 in
theorem gX2_hull_X2_whyNot : GoodIn wsX2_hull (wsV RX2 135 RX2 yX2_whyNot wsX2_whyNot) := goodIn_app (goodIn_of _ (by decide +kernel)) ggX2_hull_X2_whyNot
set_option maxRecDepth 20000 in
theorem ggX2_hull_X2_refuses : GoodIn wsX2_hull wsX2_refuses := goodIn_r _ [15, 16, 17, 43, 44, 45, 46, 47, 48, 49, 50, 51, 52, 53, 54] (by decide +kernel) (by decide +kernel)
set_option maxRecDepth 20000 in
theorem gX2_hull_X2_refuses : GoodIn wsX2_hull (wsV RX2 128 RX2 yX2_refuses wsX2_refuses) := goodIn_app (goodIn_of _ (by decide +kernel)) ggX2_hull_X2_refuses
set_option maxRecDepth 20000 in
theorem ggX2_hull_X2_lesser : GoodIn wsX2_hull wsX2_lesser := goodIn_r _ [20, 21, 22, 7, 23, 24, 25, 26, 27, 28, 29, 30, 31] (by decide +kernel) (by decide +kernel)
set_option maxRecDepth 20000 in
theorem gX2_hull_X2_lesser : GoodIn wsX2_hull (va_wsS RX2 117 yX2_lesser wsX2_lesser) := goodIn_app (goodIn_of _ (by decide +kernel)) ggX2_hull_X2_lesser
set_option maxRecDepth 20000 in
theorem ggX2_hull_X2_greater : GoodIn wsX2_hull wsX2_greater := goodIn_r _ [34, 21, 22, 7, 23, 24, 25, 26, 27, 28, 29, 30, 31] (by decide +kernel) (by decide +kernel)
set_option maxRecDepth 20000 in
theorem gX2_hull_X2_greater : GoodIn wsX2_hull (va_wsS RX2 121 yX2_greater wsX2_greater) := goodIn_app (goodIn_of _ (by decide +kernel)) ggX2_hull_X2_greater
set_option maxRecDepth 20000 in
theorem ggX2_hull_X2_comes : GoodIn wsX2_hull wsX2_comes := goodIn_r _ [38, 1, 2, 3, 39, 40, 41, 7, 42, 16, 43, 44, 45, 46, 47, 48, 49, 50, 51, 52, 53, 54] (by decide +kernel) (by decide +kernel)
set_option maxRecDepth 20000 in
theorem gX2_hull_X2_comes : GoodIn wsX2_hull (wsV RX2 124 RX2 yX2_comes wsX2_comes) := goodIn_app (goodIn_of _ (by decide +kernel)) ggX2_hull_X2_comes
theorem dX2_hull_0 : decode cX2_hull 0 = .ok (.aload_n 0, 1) := by decide +kernel
theorem dX2_hull_1 : decode cX2_hull 1 = .ok (.iload_n 1, 1) := by decide +kernel
theorem dX2_hull_2 : decode cX2_hull 2 = .ok (.iload_n 2, 1) := by decide +kernel
theorem dX2_hull_3 : decode cX2_hull 3 = .ok (.iload_n 3, 1) := by decide +kernel
theorem dX2_hull_4 : decode cX2_hull 4 = .ok (.invokevirtual 135, 3) := by decide +kernel
theorem dX2_hull_7 : decode cX2_hull 7 = .ok (.istore 4, 2) := by decide +kernel
theorem dX2_hull_9 : decode cX2_hull 9 = .ok (.iload 4, 2) := by decide +kernel
theorem dX2_hull_11 : decode cX2_hull 11 = .ok (.ifCond .ne 22, 3) := by decide +kernel
theorem dX2_hull_14 : decode cX2_hull 14 = .ok (.aload_n 0, 1) := by decide +kernel
theorem dX2_hull_15 : decode cX2_hull 15 = .ok (.getfield 7, 3) := by decide +kernel
theorem dX2_hull_18 : decode cX2_hull 18 = .ok (.iload_n 1, 1) := by decide +kernel
theorem dX2_hull_19 : decode cX2_hull 19 = .ok (.iaload, 1) := by decide +kernel
theorem dX2_hull_20 : decode cX2_hull 20 = .ok (.aload_n 0, 1) := by decide +kernel
theorem dX2_hull_21 : decode cX2_hull 21 = .ok (.getfield 7, 3) := by decide +kernel
theorem dX2_hull_24 : decode cX2_hull 24 = .ok (.iload_n 2, 1) := by decide +kernel
theorem dX2_hull_25 : decode cX2_hull 25 = .ok (.iaload, 1) := by decide +kernel
theorem dX2_hull_26 : decode cX2_hull 26 = .ok (.if_icmp .eq 7, 3) := by decide +kernel
theorem dX2_hull_29 : decode cX2_hull 29 = .ok (.bipush (-4), 2) := by decide +kernel
theorem dX2_hull_31 : decode cX2_hull 31 = .ok (.istore 4, 2) := by decide +kernel
theorem dX2_hull_33 : decode cX2_hull 33 = .ok (.iload 4, 2) := by decide +kernel
theorem dX2_hull_35 : decode cX2_hull 35 = .ok (.ifCond .ge 10, 3) := by decide +kernel
theorem dX2_hull_38 : decode cX2_hull 38 = .ok (.aload_n 0, 1) := by decide +kernel
theorem dX2_hull_39 : decode cX2_hull 39 = .ok (.iload 4, 2) := by decide +kernel
theorem dX2_hull_41 : decode cX2_hull 41 = .ok (.invokevirtual 128, 3) := by decide +kernel
theorem dX2_hull_44 : decode cX2_hull 44 = .ok (.ireturn, 1) := by decide +kernel
theorem dX2_hull_45 : decode cX2_hull 45 = .ok (.aload_n 0, 1) := by decide +kernel
theorem dX2_hull_46 : decode cX2_hull 46 = .ok (.getfield 7, 3) := by decide +kernel
theorem dX2_hull_49 : decode cX2_hull 49 = .ok (.iload_n 1, 1) := by decide +kernel
theorem dX2_hull_50 : decode cX2_hull 50 = .ok (.iaload, 1) := by decide +kernel
theorem dX2_hull_51 : decode cX2_hull 51 = .ok (.istore 5, 2) := by decide +kernel
theorem dX2_hull_53 : decode cX2_hull 53 = .ok (.aload_n 0, 1) := by decide +kernel
theorem dX2_hull_54 : decode cX2_hull 54 = .ok (.iload_n 3, 1) := by decide +kernel
theorem dX2_hull_55 : decode cX2_hull 55 = .ok (.iload 5, 2) := by decide +kernel
theorem dX2_hull_57 : decode cX2_hull 57 = .ok (.iload 5, 2) := by decide +kernel
theorem dX2_hull_59 : decode cX2_hull 59 = .ok (.aload_n 0, 1) := by decide +kernel
theorem dX2_hull_60 : decode cX2_hull 60 = .ok (.getfield 13, 3) := by decide +kernel
theorem dX2_hull_63 : decode cX2_hull 63 = .ok (.iload_n 1, 1) := by decide +kernel
theorem dX2_hull_64 : decode cX2_hull 64 = .ok (.laload, 1) := by decide +kernel
theorem dX2_hull_65 : decode cX2_hull 65 = .ok (.aload_n 0, 1) := by decide +kernel
theorem dX2_hull_66 : decode cX2_hull 66 = .ok (.getfield 13, 3) := by decide +kernel
theorem dX2_hull_69 : decode cX2_hull 69 = .ok (.iload_n 2, 1) := by decide +kernel
theorem dX2_hull_70 : decode cX2_hull 70 = .ok (.laload, 1) := by decide +kernel
theorem dX2_hull_71 : decode cX2_hull 71 = .ok (.invokestatic 117, 3) := by decide +kernel
theorem dX2_hull_74 : decode cX2_hull 74 = .ok (.iload 5, 2) := by decide +kernel
theorem dX2_hull_76 : decode cX2_hull 76 = .ok (.aload_n 0, 1) := by decide +kernel
theorem dX2_hull_77 : decode cX2_hull 77 = .ok (.getfield 17, 3) := by decide +kernel
theorem dX2_hull_80 : decode cX2_hull 80 = .ok (.iload_n 1, 1) := by decide +kernel
theorem dX2_hull_81 : decode cX2_hull 81 = .ok (.laload, 1) := by decide +kernel
theorem dX2_hull_82 : decode cX2_hull 82 = .ok (.aload_n 0, 1) := by decide +kernel
theorem dX2_hull_83 : decode cX2_hull 83 = .ok (.getfield 17, 3) := by decide +kernel
theorem dX2_hull_86 : decode cX2_hull 86 = .ok (.iload_n 2, 1) := by decide +kernel
theorem dX2_hull_87 : decode cX2_hull 87 = .ok (.laload, 1) := by decide +kernel
theorem dX2_hull_88 : decode cX2_hull 88 = .ok (.invokestatic 121, 3) := by decide +kernel
theorem dX2_hull_91 : decode cX2_hull 91 = .ok (.invokevirtual 124, 3) := by decide +kernel
theorem dX2_hull_94 : decode cX2_hull 94 = .ok (.ireturn, 1) := by decide +kernel
set_option maxRecDepth 20000 in
theorem ggX2_meet_X2_whyNot : GoodIn wsX2_meet wsX2_whyNot := goodIn_r _ [8, 1, 9, 10, 7, 11, 47, 48, 49, 50, 51, 52, 53, 54, 55, 56, 57, 58] (by decide +kernel) (by decide +kernel)
set_option maxRecDepth 20000 in
theorem gX2_meet_X2_whyNot : GoodIn wsX2_meet (wsV RX2 135 RX2 yX2_whyNot wsX2_whyNot) := goodIn_app (goodIn_of _ (by decide +kernel)) ggX2_meet_X2_whyNot
set_option maxRecDepth 20000 in
theorem ggX2_meet_X2_refuses : GoodIn wsX2_meet wsX2_refuses := goodIn_r _ [15, 16, 17, 47, 48, 49, 50, 51, 52, 53, 54, 55, 56, 57, 58] (by decide +kernel) (by decide +kernel)
set_option maxRecDepth 20000 in
theorem gX2_meet_X2_refuses : GoodIn wsX2_meet (wsV RX2 128 RX2 yX2_refuses wsX2_refuses) := goodIn_app (goodIn_of _ (by decide +kernel)) ggX2_meet_X2_refuses
set_option maxRecDepth 20000 in
theorem ggX2_meet_X2_greater : GoodIn wsX2_meet wsX2_greater := goodIn_r _ [20, 21, 22, 7, 23, 24, 25, 26, 27, 28, 29, 30, 31] (by decide +kernel) (by decide +kernel)
set_option maxRecDepth 20000 in
theorem gX2_meet_X2_greater : GoodIn wsX2_meet (va_wsS RX2 121 yX2_greater wsX2_greater) := goodIn_app (goodIn_of _ (by decide +kernel)) ggX2_meet_X2_greater
set_option maxRecDepth 20000 in
theorem ggX2_meet_X2_lesser : GoodIn wsX2_meet wsX2_lesser := goodIn_r _ [34, 21, 22, 7, 23, 24, 25, 26, 27, 28, 29, 30, 31] (by decide +kernel) (by decide +kernel)
set_option maxRecDepth 20000 in
theorem gX2_meet_X2_lesser : GoodIn wsX2_meet (va_wsS RX2 117 yX2_lesser wsX2_lesser) := goodIn_app (goodIn_of _ (by decide +kernel)) ggX2_meet_X2_lesser
set_option maxRecDepth 20000 in
theorem ggX2_meet_X2_isAbove : GoodIn wsX2_meet wsX2_isAbove := goodIn_r _ [23, 24, 25, 7, 26, 27, 28, 29, 30, 31] (by decide +kernel) (by decide +kernel)
set_option maxRecDepth 20000 in
theorem gX2_meet_X2_isAbove : GoodIn wsX2_meet (va_wsS RX2 77 yX2_isAbove wsX2_isAbove) := goodIn_app (goodIn_of _ (by decide +kernel)) ggX2_meet_X2_isAbove
set_option maxRecDepth 20000 in
theorem ggX2_meet_X2_emptied : GoodIn wsX2_meet wsX2_emptied := goodIn_r _ [38, 1, 39, 40, 41, 7, 42, 16, 47, 48, 49, 50, 51, 52, 53, 54, 55, 56, 57, 58] (by decide +kernel) (by decide +kernel)
set_option maxRecDepth 20000 in
theorem gX2_meet_X2_emptied : GoodIn wsX2_meet (wsV RX2 146 RX2 yX2_emptied wsX2_emptied) := goodIn_app (goodIn_of _ (by decide +kernel)) ggX2_meet_X2_emptied
set_option maxRecDepth 20000 in
theorem ggX2_meet_X2_comes : GoodIn wsX2_meet wsX2_comes := goodIn_r _ [46, 1, 2, 3, 39, 40, 41, 7, 42, 16, 47, 48, 49, 50, 51, 52, 53, 54, 55, 56, 57, 58] (by decide +kernel) (by decide +kernel)
set_option maxRecDepth 20000 in
theorem gX2_meet_X2_comes : GoodIn wsX2_meet (wsV RX2 124 RX2 yX2_comes wsX2_comes) := goodIn_app (goodIn_of _ (by decide +kernel)) ggX2_meet_X2_comes
theorem dX2_meet_0 : decode cX2_meet 0 = .ok (.aload_n 0, 1) := by decide +kernel
theorem dX2_meet_1 : decode cX2_meet 1 = .ok (.iload_n 1, 1) := by decide +kernel
theorem dX2_meet_2 : decode cX2_meet 2 = .ok (.iload_n 2, 1) := by decide +kernel
theorem dX2_meet_3 : decode cX2_meet 3 = .ok (.iload_n 3, 1) := by decide +kernel
theorem dX2_meet_4 : decode cX2_meet 4 = .ok (.invokevirtual 135, 3) := by decide +kernel
theorem dX2_meet_7 : decode cX2_meet 7 = .ok (.istore 4, 2) := by decide +kernel
theorem dX2_meet_9 : decode cX2_meet 9 = .ok (.iload 4, 2) := by decide +kernel
theorem dX2_meet_11 : decode cX2_meet 11 = .ok (.ifCond .ne 22, 3) := by decide +kernel
theorem dX2_meet_14 : decode cX2_meet 14 = .ok (.aload_n 0, 1) := by decide +kernel
theorem dX2_meet_15 : decode cX2_meet 15 = .ok (.getfield 7, 3) := by decide +kernel
theorem dX2_meet_18 : decode cX2_meet 18 = .ok (.iload_n 1, 1) := by decide +kernel
theorem dX2_meet_19 : decode cX2_meet 19 = .ok (.iaload, 1) := by decide +kernel
theorem dX2_meet_20 : decode cX2_meet 20 = .ok (.aload_n 0, 1) := by decide +kernel
theorem dX2_meet_21 : decode cX2_meet 21 = .ok (.getfield 7, 3) := by decide +kernel
theorem dX2_meet_24 : decode cX2_meet 24 = .ok (.iload_n 2, 1) := by decide +kernel
theorem dX2_meet_25 : decode cX2_meet 25 = .ok (.iaload, 1) := by decide +kernel
theorem dX2_meet_26 : decode cX2_meet 26 = .ok (.if_icmp .eq 7, 3) := by decide +kernel
theorem dX2_meet_29 : decode cX2_meet 29 = .ok (.bipush (-4), 2) := by decide +kernel
theorem dX2_meet_31 : decode cX2_meet 31 = .ok (.istore 4, 2) := by decide +kernel
theorem dX2_meet_33 : decode cX2_meet 33 = .ok (.iload 4, 2) := by decide +kernel
theorem dX2_meet_35 : decode cX2_meet 35 = .ok (.ifCond .ge 10, 3) := by decide +kernel
theorem dX2_meet_38 : decode cX2_meet 38 = .ok (.aload_n 0, 1) := by decide +kernel
theorem dX2_meet_39 : decode cX2_meet 39 = .ok (.iload 4, 2) := by decide +kernel
theorem dX2_meet_41 : decode cX2_meet 41 = .ok (.invokevirtual 128, 3) := by decide +kernel
theorem dX2_meet_44 : decode cX2_meet 44 = .ok (.ireturn, 1) := by decide +kernel
theorem dX2_meet_45 : decode cX2_meet 45 = .ok (.aload_n 0, 1) := by decide +kernel
theorem dX2_meet_46 : decode cX2_meet 46 = .ok (.getfield 7, 3) := by decide +kernel
theorem dX2_meet_49 : decode cX2_meet 49 = .ok (.iload_n 1, 1) := by decide +kernel
theorem dX2_meet_50 : decode cX2_meet 50 = .ok (.iaload, 1) := by decide +kernel
theorem dX2_meet_51 : decode cX2_meet 51 = .ok (.istore 5, 2) := by decide +kernel
theorem dX2_meet_53 : decode cX2_meet 53 = .ok (.iload 5, 2) := by decide +kernel
theorem dX2_meet_55 : decode cX2_meet 55 = .ok (.aload_n 0, 1) := by decide +kernel
theorem dX2_meet_56 : decode cX2_meet 56 = .ok (.getfield 13, 3) := by decide +kernel
theorem dX2_meet_59 : decode cX2_meet 59 = .ok (.iload_n 1, 1) := by decide +kernel
theorem dX2_meet_60 : decode cX2_meet 60 = .ok (.laload, 1) := by decide +kernel
theorem dX2_meet_61 : decode cX2_meet 61 = .ok (.aload_n 0, 1) := by decide +kernel
theorem dX2_meet_62 : decode cX2_meet 62 = .ok (.getfield 13, 3) := by decide +kernel
theorem dX2_meet_65 : decode cX2_meet 65 = .ok (.iload_n 2, 1) := by decide +kernel
theorem dX2_meet_66 : decode cX2_meet 66 = .ok (.laload, 1) := by decide +kernel
theorem dX2_meet_67 : decode cX2_meet 67 = .ok (.invokestatic 121, 3) := by decide +kernel
theorem dX2_meet_70 : decode cX2_meet 70 = .ok (.lstore 6, 2) := by decide +kernel
theorem dX2_meet_72 : decode cX2_meet 72 = .ok (.iload 5, 2) := by decide +kernel
theorem dX2_meet_74 : decode cX2_meet 74 = .ok (.aload_n 0, 1) := by decide +kernel
theorem dX2_meet_75 : decode cX2_meet 75 = .ok (.getfield 17, 3) := by decide +kernel
theorem dX2_meet_78 : decode cX2_meet 78 = .ok (.iload_n 1, 1) := by decide +kernel
theorem dX2_meet_79 : decode cX2_meet 79 = .ok (.laload, 1) := by decide +kernel
theorem dX2_meet_80 : decode cX2_meet 80 = .ok (.aload_n 0, 1) := by decide +kernel
theorem dX2_meet_81 : decode cX2_meet 81 = .ok (.getfield 17, 3) := by decide +kernel
theorem dX2_meet_84 : decode cX2_meet 84 = .ok (.iload_n 2, 1) := by decide +kernel
theorem dX2_meet_85 : decode cX2_meet 85 = .ok (.laload, 1) := by decide +kernel
theorem dX2_meet_86 : decode cX2_meet 86 = .ok (.invokestatic 117, 3) := by decide +kernel
theorem dX2_meet_89 : decode cX2_meet 89 = .ok (.lstore 8, 2) := by decide +kernel
theorem dX2_meet_91 : decode cX2_meet 91 = .ok (.iload 5, 2) := by decide +kernel
theorem dX2_meet_93 : decode cX2_meet 93 = .ok (.lload 6, 2) := by decide +kernel
theorem dX2_meet_95 : decode cX2_meet 95 = .ok (.lload 8, 2) := by decide +kernel
theorem dX2_meet_97 : decode cX2_meet 97 = .ok (.invokestatic 77, 3) := by decide +kernel
theorem dX2_meet_100 : decode cX2_meet 100 = .ok (.ifCond .eq 11, 3) := by decide +kernel
theorem dX2_meet_103 : decode cX2_meet 103 = .ok (.aload_n 0, 1) := by decide +kernel
theorem dX2_meet_104 : decode cX2_meet 104 = .ok (.iload_n 3, 1) := by decide +kernel
theorem dX2_meet_105 : decode cX2_meet 105 = .ok (.invokevirtual 146, 3) := by decide +kernel
theorem dX2_meet_108 : decode cX2_meet 108 = .ok (.goto 14, 3) := by decide +kernel
theorem dX2_meet_111 : decode cX2_meet 111 = .ok (.aload_n 0, 1) := by decide +kernel
theorem dX2_meet_112 : decode cX2_meet 112 = .ok (.iload_n 3, 1) := by decide +kernel
theorem dX2_meet_113 : decode cX2_meet 113 = .ok (.iload 5, 2) := by decide +kernel
theorem dX2_meet_115 : decode cX2_meet 115 = .ok (.lload 6, 2) := by decide +kernel
theorem dX2_meet_117 : decode cX2_meet 117 = .ok (.lload 8, 2) := by decide +kernel
theorem dX2_meet_119 : decode cX2_meet 119 = .ok (.invokevirtual 124, 3) := by decide +kernel
theorem dX2_meet_122 : decode cX2_meet 122 = .ok (.ireturn, 1) := by decide +kernel
set_option maxRecDepth 20000 in
theorem ggX2_size_X2_whyNot : GoodIn wsX2_size wsX2_whyNot := goodIn_r _ [8, 1, 9, 10, 7, 11, 59, 60, 61, 62, 63, 64, 65, 66, 67, 68, 69, 70] (by decide +kernel) (by decide +kernel)
set_option maxRecDepth 20000 in
theorem gX2_size_X2_whyNot : GoodIn wsX2_size (wsV RX2 135 RX2 yX2_whyNot wsX2_whyNot) := goodIn_app (goodIn_of _ (by decide +kernel)) ggX2_size_X2_whyNot
set_option maxRecDepth 20000 in
theorem ggX2_size_X2_refuses : GoodIn wsX2_size wsX2_refuses := goodIn_r _ [15, 16, 17, 59, 60, 61, 62, 63, 64, 65, 66, 67, 68, 69, 70] (by decide +kernel) (by decide +kernel)
set_option maxRecDepth 20000 in
theorem gX2_size_X2_refuses : GoodIn wsX2_size (wsV RX2 128 RX2 yX2_refuses wsX2_refuses) := goodIn_app (goodIn_of _ (by decide +kernel)) ggX2_size_X2_refuses
set_option maxRecDepth 20000 in
theorem ggX2_size_X2_isZero : GoodIn wsX2_size wsX2_isZero := goodIn_r _ [20, 21, 22, 7, 23, 24, 25, 26, 27, 28] (by decide +kernel) (by decide +kernel)
set_option maxRecDepth 20000 in
theorem gX2_size_X2_isZero : GoodIn wsX2_size (va_wsS RX2 149 yX2_isZero wsX2_isZero) := goodIn_app (goodIn_of _ (by decide +kernel)) ggX2_size_X2_isZero
set_option maxRecDepth 20000 in
theorem ggX2_size_X2_sizeOf : GoodIn wsX2_size wsX2_sizeOf := goodIn_r _ [31, 21, 22, 7, 23, 24, 25, 26, 27, 28, 32, 33, 34] (by decide +kernel) (by decide +kernel)
set_option maxRecDepth 20000 in
theorem gX2_size_X2_sizeOf : GoodIn wsX2_size (va_wsS RX2 152 yX2_sizeOf wsX2_sizeOf) := goodIn_app (goodIn_of _ (by decide +kernel)) ggX2_size_X2_sizeOf
set_option maxRecDepth 20000 in
theorem ggX2_size_X2_greater : GoodIn wsX2_size wsX2_greater := goodIn_r _ [37, 38, 39, 7, 40, 41, 42, 43, 27, 28, 21, 22, 23] (by decide +kernel) (by decide +kernel)
set_option maxRecDepth 20000 in
theorem gX2_size_X2_greater : GoodIn wsX2_size (va_wsS RX2 121 yX2_greater wsX2_greater) := goodIn_app (goodIn_of _ (by decide +kernel)) ggX2_size_X2_greater
set_option maxRecDepth 20000 in
theorem ggX2_size_X2_ordered : GoodIn wsX2_size wsX2_ordered := goodIn_r _ [47, 48, 49, 7, 50, 38, 39, 40, 41, 42, 43, 27, 28, 21, 22, 23, 35, 36, 37, 51, 52, 53, 54, 1, 2, 3, 55, 56, 57, 58, 16, 59, 60, 61, 62, 63, 64, 65, 66, 67, 68, 69, 70] (by decide +kernel) (by decide +kernel)
set_option maxRecDepth 20000 in
theorem gX2_size_X2_ordered : GoodIn wsX2_size (wsV RX2 155 RX2 yX2_ordered wsX2_ordered) := goodIn_app (goodIn_of _ (by decide +kernel)) ggX2_size_X2_ordered
theorem dX2_size_0 : decode cX2_size 0 = .ok (.aload_n 0, 1) := by decide +kernel
theorem dX2_size_1 : decode cX2_size 1 = .ok (.iload_n 1, 1) := by decide +kernel
theorem dX2_size_2 : decode cX2_size 2 = .ok (.iload_n 1, 1) := by decide +kernel
theorem dX2_size_3 : decode cX2_size 3 = .ok (.iload_n 2, 1) := by decide +kernel
theorem dX2_size_4 : decode cX2_size 4 = .ok (.invokevirtual 135, 3) := by decide +kernel
theorem dX2_size_7 : decode cX2_size 7 = .ok (.istore_n 3, 1) := by decide +kernel
theorem dX2_size_8 : decode cX2_size 8 = .ok (.iload_n 3, 1) := by decide +kernel
theorem dX2_size_9 : decode cX2_size 9 = .ok (.ifCond .ge 9, 3) := by decide +kernel
theorem dX2_size_12 : decode cX2_size 12 = .ok (.aload_n 0, 1) := by decide +kernel
theorem dX2_size_13 : decode cX2_size 13 = .ok (.iload_n 3, 1) := by decide +kernel
theorem dX2_size_14 : decode cX2_size 14 = .ok (.invokevirtual 128, 3) := by decide +kernel
theorem dX2_size_17 : decode cX2_size 17 = .ok (.ireturn, 1) := by decide +kernel
theorem dX2_size_18 : decode cX2_size 18 = .ok (.aload_n 0, 1) := by decide +kernel
theorem dX2_size_19 : decode cX2_size 19 = .ok (.getfield 7, 3) := by decide +kernel
theorem dX2_size_22 : decode cX2_size 22 = .ok (.iload_n 1, 1) := by decide +kernel
theorem dX2_size_23 : decode cX2_size 23 = .ok (.iaload, 1) := by decide +kernel
theorem dX2_size_24 : decode cX2_size 24 = .ok (.istore 4, 2) := by decide +kernel
theorem dX2_size_26 : decode cX2_size 26 = .ok (.aload_n 0, 1) := by decide +kernel
theorem dX2_size_27 : decode cX2_size 27 = .ok (.getfield 13, 3) := by decide +kernel
theorem dX2_size_30 : decode cX2_size 30 = .ok (.iload_n 1, 1) := by decide +kernel
theorem dX2_size_31 : decode cX2_size 31 = .ok (.laload, 1) := by decide +kernel
theorem dX2_size_32 : decode cX2_size 32 = .ok (.lconst 0, 1) := by decide +kernel
theorem dX2_size_33 : decode cX2_size 33 = .ok (.lcmp, 1) := by decide +kernel
theorem dX2_size_34 : decode cX2_size 34 = .ok (.ifCond .ge 21, 3) := by decide +kernel
theorem dX2_size_37 : decode cX2_size 37 = .ok (.iload 4, 2) := by decide +kernel
theorem dX2_size_39 : decode cX2_size 39 = .ok (.aload_n 0, 1) := by decide +kernel
theorem dX2_size_40 : decode cX2_size 40 = .ok (.getfield 13, 3) := by decide +kernel
theorem dX2_size_43 : decode cX2_size 43 = .ok (.iload_n 1, 1) := by decide +kernel
theorem dX2_size_44 : decode cX2_size 44 = .ok (.laload, 1) := by decide +kernel
theorem dX2_size_45 : decode cX2_size 45 = .ok (.invokestatic 149, 3) := by decide +kernel
theorem dX2_size_48 : decode cX2_size 48 = .ok (.ifCond .ne 7, 3) := by decide +kernel
theorem dX2_size_51 : decode cX2_size 51 = .ok (.iconst 1, 1) := by decide +kernel
theorem dX2_size_52 : decode cX2_size 52 = .ok (.goto 4, 3) := by decide +kernel
theorem dX2_size_55 : decode cX2_size 55 = .ok (.iconst 0, 1) := by decide +kernel
theorem dX2_size_56 : decode cX2_size 56 = .ok (.istore 5, 2) := by decide +kernel
theorem dX2_size_58 : decode cX2_size 58 = .ok (.aload_n 0, 1) := by decide +kernel
theorem dX2_size_59 : decode cX2_size 59 = .ok (.getfield 17, 3) := by decide +kernel
theorem dX2_size_62 : decode cX2_size 62 = .ok (.iload_n 1, 1) := by decide +kernel
theorem dX2_size_63 : decode cX2_size 63 = .ok (.laload, 1) := by decide +kernel
theorem dX2_size_64 : decode cX2_size 64 = .ok (.lconst 0, 1) := by decide +kernel
theorem dX2_size_65 : decode cX2_size 65 = .ok (.lcmp, 1) := by decide +kernel
theorem dX2_size_66 : decode cX2_size 66 = .ok (.ifCond .le 7, 3) := by decide +kernel
theorem dX2_size_69 : decode cX2_size 69 = .ok (.iconst 1, 1) := by decide +kernel
theorem dX2_size_70 : decode cX2_size 70 = .ok (.goto 4, 3) := by decide +kernel
theorem dX2_size_73 : decode cX2_size 73 = .ok (.iconst 0, 1) := by decide +kernel
theorem dX2_size_74 : decode cX2_size 74 = .ok (.istore 6, 2) := by decide +kernel
theorem dX2_size_76 : decode cX2_size 76 = .ok (.iload 4, 2) := by decide +kernel
theorem dX2_size_78 : decode cX2_size 78 = .ok (.aload_n 0, 1) := by decide +kernel
theorem dX2_size_79 : decode cX2_size 79 = .ok (.getfield 13, 3) := by decide +kernel
theorem dX2_size_82 : decode cX2_size 82 = .ok (.iload_n 1, 1) := by decide +kernel
theorem dX2_size_83 : decode cX2_size 83 = .ok (.laload, 1) := by decide +kernel
theorem dX2_size_84 : decode cX2_size 84 = .ok (.invokestatic 152, 3) := by decide +kernel
theorem dX2_size_87 : decode cX2_size 87 = .ok (.lstore 7, 2) := by decide +kernel
theorem dX2_size_89 : decode cX2_size 89 = .ok (.iload 4, 2) := by decide +kernel
theorem dX2_size_91 : decode cX2_size 91 = .ok (.aload_n 0, 1) := by decide +kernel
theorem dX2_size_92 : decode cX2_size 92 = .ok (.getfield 17, 3) := by decide +kernel
theorem dX2_size_95 : decode cX2_size 95 = .ok (.iload_n 1, 1) := by decide +kernel
theorem dX2_size_96 : decode cX2_size 96 = .ok (.laload, 1) := by decide +kernel
theorem dX2_size_97 : decode cX2_size 97 = .ok (.invokestatic 152, 3) := by decide +kernel
theorem dX2_size_100 : decode cX2_size 100 = .ok (.lstore 9, 2) := by decide +kernel
theorem dX2_size_102 : decode cX2_size 102 = .ok (.iload 5, 2) := by decide +kernel
theorem dX2_size_104 : decode cX2_size 104 = .ok (.ifCond .eq 28, 3) := by decide +kernel
theorem dX2_size_107 : decode cX2_size 107 = .ok (.iload 6, 2) := by decide +kernel
theorem dX2_size_109 : decode cX2_size 109 = .ok (.ifCond .eq 23, 3) := by decide +kernel
theorem dX2_size_112 : decode cX2_size 112 = .ok (.aload_n 0, 1) := by decide +kernel
theorem dX2_size_113 : decode cX2_size 113 = .ok (.iload_n 2, 1) := by decide +kernel
theorem dX2_size_114 : decode cX2_size 114 = .ok (.iload 4, 2) := by decide +kernel
theorem dX2_size_116 : decode cX2_size 116 = .ok (.lconst 0, 1) := by decide +kernel
theorem dX2_size_117 : decode cX2_size 117 = .ok (.iload 4, 2) := by decide +kernel
theorem dX2_size_119 : decode cX2_size 119 = .ok (.lload 7, 2) := by decide +kernel
theorem dX2_size_121 : decode cX2_size 121 = .ok (.lload 9, 2) := by decide +kernel
theorem dX2_size_123 : decode cX2_size 123 = .ok (.invokestatic 121, 3) := by decide +kernel
theorem dX2_size_126 : decode cX2_size 126 = .ok (.invokevirtual 155, 3) := by decide +kernel
theorem dX2_size_129 : decode cX2_size 129 = .ok (.goto 14, 3) := by decide +kernel
theorem dX2_size_132 : decode cX2_size 132 = .ok (.aload_n 0, 1) := by decide +kernel
theorem dX2_size_133 : decode cX2_size 133 = .ok (.iload_n 2, 1) := by decide +kernel
theorem dX2_size_134 : decode cX2_size 134 = .ok (.iload 4, 2) := by decide +kernel
theorem dX2_size_136 : decode cX2_size 136 = .ok (.lload 7, 2) := by decide +kernel
theorem dX2_size_138 : decode cX2_size 138 = .ok (.lload 9, 2) := by decide +kernel
theorem dX2_size_140 : decode cX2_size 140 = .ok (.invokevirtual 155, 3) := by decide +kernel
theorem dX2_size_143 : decode cX2_size 143 = .ok (.ireturn, 1) := by decide +kernel
set_option maxRecDepth 20000 in
theorem ggX2_round_X2_whyNot : GoodIn wsX2_round wsX2_whyNot := goodIn_r _ [8, 1, 9, 10, 7, 11, 58, 59, 60, 61, 62, 63, 64, 65, 66, 67, 68, 69] (by decide +kernel) (by decide +kernel)
set_option maxRecDepth 20000 in
theorem gX2_round_X2_whyNot : GoodIn wsX2_round (wsV RX2 135 RX2 yX2_whyNot wsX2_whyNot) := goodIn_app (goodIn_of _ (by decide +kernel)) ggX2_round_X2_whyNot
set_option maxRecDepth 20000 in
theorem ggX2_round_X2_isBroken : GoodIn wsX2_round wsX2_isBroken := goodIn_r _ [14] (by decide +kernel) (by decide +kernel)
set_option maxRecDepth 20000 in
theorem gX2_round_X2_isBroken : GoodIn wsX2_round (va_wsS RX2 63 yX2_isBroken wsX2_isBroken) := goodIn_app (goodIn_of _ (by decide +kernel)) ggX2_round_X2_isBroken
set_option maxRecDepth 20000 in
theorem ggX2_round_X2_refuses : GoodIn wsX2_round wsX2_refuses := goodIn_r _ [18, 19, 20, 58, 59, 60, 61, 62, 63, 64, 65, 66, 67, 68, 69] (by decide +kernel) (by decide +kernel)
set_option maxRecDepth 20000 in
theorem gX2_round_X2_refuses : GoodIn wsX2_round (wsV RX2 128 RX2 yX2_refuses wsX2_refuses) := goodIn_app (goodIn_of _ (by decide +kernel)) ggX2_round_X2_refuses
set_option maxRecDepth 20000 in
theorem ggX2_round_X2_whole : GoodIn wsX2_round wsX2_whole := goodIn_r _ [23, 24, 25, 26, 7, 27, 28, 29, 30, 31, 32, 33, 34, 35, 36, 37, 38, 39] (by decide +kernel) (by decide +kernel)
set_option maxRecDepth 20000 in
theorem gX2_round_X2_whole : GoodIn wsX2_round (va_wsS RX2 158 yX2_whole wsX2_whole) := goodIn_app (goodIn_of _ (by decide +kernel)) ggX2_round_X2_whole
set_option maxRecDepth 20000 in
theorem ggX2_round_X2_isAbove : GoodIn wsX2_round wsX2_isAbove := goodIn_r _ [42, 43, 44, 7, 45, 28, 29, 12, 13, 14] (by decide +kernel) (by decide +kernel)
set_option maxRecDepth 20000 in
theorem gX2_round_X2_isAbove : GoodIn wsX2_round (va_wsS RX2 77 yX2_isAbove wsX2_isAbove) := goodIn_app (goodIn_of _ (by decide +kernel)) ggX2_round_X2_isAbove
set_option maxRecDepth 20000 in
theorem ggX2_round_X2_emptied : GoodIn wsX2_round wsX2_emptied := goodIn_r _ [49, 1, 50, 51, 52, 7, 53, 19, 58, 59, 60, 61, 62, 63, 64, 65, 66, 67, 68, 69] (by decide +kernel) (by decide +kernel)
set_option maxRecDepth 20000 in
theorem gX2_round_X2_emptied : GoodIn wsX2_round (wsV RX2 146 RX2 yX2_emptied wsX2_emptied) := goodIn_app (goodIn_of _ (by decide +kernel)) ggX2_round_X2_emptied
set_option maxRecDepth 20000 in
theorem ggX2_round_X2_comes : GoodIn wsX2_round wsX2_comes := goodIn_r _ [57, 1, 2, 3, 50, 51, 52, 7, 53, 19, 58, 59, 60, 61, 62, 63, 64, 65, 66, 67, 68, 69] (by decide +kernel) (by decide +kernel)
set_option maxRecDepth 20000 in
theorem gX2_round_X2_comes : GoodIn wsX2_round (wsV RX2 124 RX2 yX2_comes wsX2_comes) := goodIn_app (goodIn_of _ (by decide +kernel)) ggX2_round_X2_comes
theorem dX2_round_0 : decode cX2_round 0 = .ok (.aload_n 0, 1) := by decide +kernel
