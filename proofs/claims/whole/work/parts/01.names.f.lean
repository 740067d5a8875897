theorem dX2_round_1 : decode cX2_round 1 = .ok (.iload_n 1, 1) := by decide +kernel
theorem dX2_round_2 : decode cX2_round 2 = .ok (.iload_n 1, 1) := by decide +kernel
theorem dX2_round_3 : decode cX2_round 3 = .ok (.iload_n 3, 1) := by decide +kernel
theorem dX2_round_4 : decode cX2_round 4 = .ok (.invokevirtual 135, 3) := by decide +kernel
theorem dX2_round_7 : decode cX2_round 7 = .ok (.istore 4, 2) := by decide +kernel
theorem dX2_round_9 : decode cX2_round 9 = .ok (.iload 4, 2) := by decide +kernel
theorem dX2_round_11 : decode cX2_round 11 = .ok (.ifCond .ne 19, 3) := by decide +kernel
theorem dX2_round_14 : decode cX2_round 14 = .ok (.aload_n 0, 1) := by decide +kernel
theorem dX2_round_15 : decode cX2_round 15 = .ok (.getfield 7, 3) := by decide +kernel
theorem dX2_round_18 : decode cX2_round 18 = .ok (.iload_n 1, 1) := by decide +kernel
theorem dX2_round_19 : decode cX2_round 19 = .ok (.iaload, 1) := by decide +kernel
theorem dX2_round_20 : decode cX2_round 20 = .ok (.invokestatic 63, 3) := by decide +kernel
theorem dX2_round_23 : decode cX2_round 23 = .ok (.ifCond .ne 7, 3) := by decide +kernel
theorem dX2_round_26 : decode cX2_round 26 = .ok (.bipush (-4), 2) := by decide +kernel
theorem dX2_round_28 : decode cX2_round 28 = .ok (.istore 4, 2) := by decide +kernel
theorem dX2_round_30 : decode cX2_round 30 = .ok (.iload 4, 2) := by decide +kernel
theorem dX2_round_32 : decode cX2_round 32 = .ok (.ifCond .ne 16, 3) := by decide +kernel
theorem dX2_round_35 : decode cX2_round 35 = .ok (.iload_n 2, 1) := by decide +kernel
theorem dX2_round_36 : decode cX2_round 36 = .ok (.ifCond .lt 8, 3) := by decide +kernel
theorem dX2_round_39 : decode cX2_round 39 = .ok (.iload_n 2, 1) := by decide +kernel
theorem dX2_round_40 : decode cX2_round 40 = .ok (.iconst 4, 1) := by decide +kernel
theorem dX2_round_41 : decode cX2_round 41 = .ok (.if_icmp .le 7, 3) := by decide +kernel
theorem dX2_round_44 : decode cX2_round 44 = .ok (.bipush (-5), 2) := by decide +kernel
theorem dX2_round_46 : decode cX2_round 46 = .ok (.istore 4, 2) := by decide +kernel
theorem dX2_round_48 : decode cX2_round 48 = .ok (.iload 4, 2) := by decide +kernel
theorem dX2_round_50 : decode cX2_round 50 = .ok (.ifCond .ge 10, 3) := by decide +kernel
theorem dX2_round_53 : decode cX2_round 53 = .ok (.aload_n 0, 1) := by decide +kernel
theorem dX2_round_54 : decode cX2_round 54 = .ok (.iload 4, 2) := by decide +kernel
theorem dX2_round_56 : decode cX2_round 56 = .ok (.invokevirtual 128, 3) := by decide +kernel
theorem dX2_round_59 : decode cX2_round 59 = .ok (.ireturn, 1) := by decide +kernel
theorem dX2_round_60 : decode cX2_round 60 = .ok (.aload_n 0, 1) := by decide +kernel
theorem dX2_round_61 : decode cX2_round 61 = .ok (.getfield 7, 3) := by decide +kernel
theorem dX2_round_64 : decode cX2_round 64 = .ok (.iload_n 1, 1) := by decide +kernel
theorem dX2_round_65 : decode cX2_round 65 = .ok (.iaload, 1) := by decide +kernel
theorem dX2_round_66 : decode cX2_round 66 = .ok (.istore 5, 2) := by decide +kernel
theorem dX2_round_68 : decode cX2_round 68 = .ok (.iload 5, 2) := by decide +kernel
theorem dX2_round_70 : decode cX2_round 70 = .ok (.aload_n 0, 1) := by decide +kernel
theorem dX2_round_71 : decode cX2_round 71 = .ok (.getfield 13, 3) := by decide +kernel
theorem dX2_round_74 : decode cX2_round 74 = .ok (.iload_n 1, 1) := by decide +kernel
theorem dX2_round_75 : decode cX2_round 75 = .ok (.laload, 1) := by decide +kernel
theorem dX2_round_76 : decode cX2_round 76 = .ok (.iload_n 2, 1) := by decide +kernel
theorem dX2_round_77 : decode cX2_round 77 = .ok (.iconst 3, 1) := by decide +kernel
theorem dX2_round_78 : decode cX2_round 78 = .ok (.if_icmp .ge 7, 3) := by decide +kernel
theorem dX2_round_81 : decode cX2_round 81 = .ok (.iload_n 2, 1) := by decide +kernel
theorem dX2_round_82 : decode cX2_round 82 = .ok (.goto 6, 3) := by decide +kernel
theorem dX2_round_85 : decode cX2_round 85 = .ok (.iload_n 2, 1) := by decide +kernel
theorem dX2_round_86 : decode cX2_round 86 = .ok (.iconst 3, 1) := by decide +kernel
theorem dX2_round_87 : decode cX2_round 87 = .ok (.isub, 1) := by decide +kernel
theorem dX2_round_88 : decode cX2_round 88 = .ok (.invokestatic 158, 3) := by decide +kernel
theorem dX2_round_91 : decode cX2_round 91 = .ok (.lstore 6, 2) := by decide +kernel
theorem dX2_round_93 : decode cX2_round 93 = .ok (.iload 5, 2) := by decide +kernel
theorem dX2_round_95 : decode cX2_round 95 = .ok (.aload_n 0, 1) := by decide +kernel
theorem dX2_round_96 : decode cX2_round 96 = .ok (.getfield 17, 3) := by decide +kernel
theorem dX2_round_99 : decode cX2_round 99 = .ok (.iload_n 1, 1) := by decide +kernel
theorem dX2_round_100 : decode cX2_round 100 = .ok (.laload, 1) := by decide +kernel
theorem dX2_round_101 : decode cX2_round 101 = .ok (.iload_n 2, 1) := by decide +kernel
theorem dX2_round_102 : decode cX2_round 102 = .ok (.iconst 3, 1) := by decide +kernel
theorem dX2_round_103 : decode cX2_round 103 = .ok (.if_icmp .ge 7, 3) := by decide +kernel
theorem dX2_round_106 : decode cX2_round 106 = .ok (.iload_n 2, 1) := by decide +kernel
theorem dX2_round_107 : decode cX2_round 107 = .ok (.goto 6, 3) := by decide +kernel
theorem dX2_round_110 : decode cX2_round 110 = .ok (.iconst 4, 1) := by decide +kernel
theorem dX2_round_111 : decode cX2_round 111 = .ok (.iload_n 2, 1) := by decide +kernel
theorem dX2_round_112 : decode cX2_round 112 = .ok (.isub, 1) := by decide +kernel
theorem dX2_round_113 : decode cX2_round 113 = .ok (.invokestatic 158, 3) := by decide +kernel
theorem dX2_round_116 : decode cX2_round 116 = .ok (.lstore 8, 2) := by decide +kernel
theorem dX2_round_118 : decode cX2_round 118 = .ok (.iload 5, 2) := by decide +kernel
theorem dX2_round_120 : decode cX2_round 120 = .ok (.lload 6, 2) := by decide +kernel
theorem dX2_round_122 : decode cX2_round 122 = .ok (.lload 8, 2) := by decide +kernel
theorem dX2_round_124 : decode cX2_round 124 = .ok (.invokestatic 77, 3) := by decide +kernel
theorem dX2_round_127 : decode cX2_round 127 = .ok (.ifCond .eq 11, 3) := by decide +kernel
theorem dX2_round_130 : decode cX2_round 130 = .ok (.aload_n 0, 1) := by decide +kernel
theorem dX2_round_131 : decode cX2_round 131 = .ok (.iload_n 3, 1) := by decide +kernel
theorem dX2_round_132 : decode cX2_round 132 = .ok (.invokevirtual 146, 3) := by decide +kernel
theorem dX2_round_135 : decode cX2_round 135 = .ok (.goto 14, 3) := by decide +kernel
theorem dX2_round_138 : decode cX2_round 138 = .ok (.aload_n 0, 1) := by decide +kernel
theorem dX2_round_139 : decode cX2_round 139 = .ok (.iload_n 3, 1) := by decide +kernel
theorem dX2_round_140 : decode cX2_round 140 = .ok (.iload 5, 2) := by decide +kernel
theorem dX2_round_142 : decode cX2_round 142 = .ok (.lload 6, 2) := by decide +kernel
theorem dX2_round_144 : decode cX2_round 144 = .ok (.lload 8, 2) := by decide +kernel
theorem dX2_round_146 : decode cX2_round 146 = .ok (.invokevirtual 124, 3) := by decide +kernel
theorem dX2_round_149 : decode cX2_round 149 = .ok (.ireturn, 1) := by decide +kernel
set_option maxRecDepth 20000 in
theorem ggX2_signOf_X2_isZero : GoodIn wsX2_signOf wsX2_isZero := goodIn_r _ [4, 5, 6, 3, 7, 8, 9, 10, 11, 12] (by decide +kernel) (by decide +kernel)
set_option maxRecDepth 20000 in
theorem gX2_signOf_X2_isZero : GoodIn wsX2_signOf (va_wsS RX2 149 yX2_isZero wsX2_isZero) := goodIn_app (goodIn_of _ (by decide +kernel)) ggX2_signOf_X2_isZero
set_option maxRecDepth 20000 in
theorem ggX2_signOf_X2_one : GoodIn wsX2_signOf wsX2_one := goodIn_r _ [15, 16, 17] (by decide +kernel) (by decide +kernel)
set_option maxRecDepth 20000 in
theorem gX2_signOf_X2_one : GoodIn wsX2_signOf (va_wsS RX2 88 yX2_one wsX2_one) := goodIn_app (goodIn_of _ (by decide +kernel)) ggX2_signOf_X2_one
set_option maxRecDepth 20000 in
theorem ggX2_signOf_X2_signed : GoodIn wsX2_signOf wsX2_signed := goodIn_r _ [20, 21, 22] (by decide +kernel) (by decide +kernel)
set_option maxRecDepth 20000 in
theorem gX2_signOf_X2_signed : GoodIn wsX2_signOf (va_wsS RX2 84 yX2_signed wsX2_signed) := goodIn_app (goodIn_of _ (by decide +kernel)) ggX2_signOf_X2_signed
theorem dX2_signOf_0 : decode cX2_signOf 0 = .ok (.iload_n 0, 1) := by decide +kernel
theorem dX2_signOf_1 : decode cX2_signOf 1 = .ok (.lload_n 1, 1) := by decide +kernel
theorem dX2_signOf_2 : decode cX2_signOf 2 = .ok (.invokestatic 149, 3) := by decide +kernel
theorem dX2_signOf_5 : decode cX2_signOf 5 = .ok (.ifCond .eq 7, 3) := by decide +kernel
theorem dX2_signOf_8 : decode cX2_signOf 8 = .ok (.lload_n 1, 1) := by decide +kernel
theorem dX2_signOf_9 : decode cX2_signOf 9 = .ok (.goto 22, 3) := by decide +kernel
theorem dX2_signOf_12 : decode cX2_signOf 12 = .ok (.iload_n 0, 1) := by decide +kernel
theorem dX2_signOf_13 : decode cX2_signOf 13 = .ok (.iload_n 0, 1) := by decide +kernel
theorem dX2_signOf_14 : decode cX2_signOf 14 = .ok (.invokestatic 88, 3) := by decide +kernel
theorem dX2_signOf_17 : decode cX2_signOf 17 = .ok (.lload_n 1, 1) := by decide +kernel
theorem dX2_signOf_18 : decode cX2_signOf 18 = .ok (.lconst 0, 1) := by decide +kernel
theorem dX2_signOf_19 : decode cX2_signOf 19 = .ok (.lcmp, 1) := by decide +kernel
theorem dX2_signOf_20 : decode cX2_signOf 20 = .ok (.ifCond .ge 7, 3) := by decide +kernel
theorem dX2_signOf_23 : decode cX2_signOf 23 = .ok (.iconst 1, 1) := by decide +kernel
theorem dX2_signOf_24 : decode cX2_signOf 24 = .ok (.goto 4, 3) := by decide +kernel
theorem dX2_signOf_27 : decode cX2_signOf 27 = .ok (.iconst 0, 1) := by decide +kernel
theorem dX2_signOf_28 : decode cX2_signOf 28 = .ok (.invokestatic 84, 3) := by decide +kernel
theorem dX2_signOf_31 : decode cX2_signOf 31 = .ok (.lreturn, 1) := by decide +kernel
set_option maxRecDepth 20000 in
theorem ggX2_sign_X2_whyNot : GoodIn wsX2_sign wsX2_whyNot := goodIn_r _ [8, 1, 9, 10, 7, 11, 50, 51, 52, 53, 54, 55, 56, 57, 58, 59, 60, 61] (by decide +kernel) (by decide +kernel)
set_option maxRecDepth 20000 in
theorem gX2_sign_X2_whyNot : GoodIn wsX2_sign (wsV RX2 135 RX2 yX2_whyNot wsX2_whyNot) := goodIn_app (goodIn_of _ (by decide +kernel)) ggX2_sign_X2_whyNot
set_option maxRecDepth 20000 in
theorem ggX2_sign_X2_isBroken : GoodIn wsX2_sign wsX2_isBroken := goodIn_r _ [14] (by decide +kernel) (by decide +kernel)
set_option maxRecDepth 20000 in
theorem gX2_sign_X2_isBroken : GoodIn wsX2_sign (va_wsS RX2 63 yX2_isBroken wsX2_isBroken) := goodIn_app (goodIn_of _ (by decide +kernel)) ggX2_sign_X2_isBroken
set_option maxRecDepth 20000 in
theorem ggX2_sign_X2_refuses : GoodIn wsX2_sign wsX2_refuses := goodIn_r _ [18, 19, 20, 50, 51, 52, 53, 54, 55, 56, 57, 58, 59, 60, 61] (by decide +kernel) (by decide +kernel)
set_option maxRecDepth 20000 in
theorem gX2_sign_X2_refuses : GoodIn wsX2_sign (wsV RX2 128 RX2 yX2_refuses wsX2_refuses) := goodIn_app (goodIn_of _ (by decide +kernel)) ggX2_sign_X2_refuses
set_option maxRecDepth 20000 in
theorem ggX2_sign_X2_signOf : GoodIn wsX2_sign wsX2_signOf := goodIn_r _ [23, 24, 25, 7, 26, 12, 13, 14, 27, 28, 29, 30, 31, 32, 33, 34, 35, 36, 37, 38, 39, 40, 41] (by decide +kernel) (by decide +kernel)
set_option maxRecDepth 20000 in
theorem gX2_sign_X2_signOf : GoodIn wsX2_sign (va_wsS RX2 162 yX2_signOf wsX2_signOf) := goodIn_app (goodIn_of _ (by decide +kernel)) ggX2_sign_X2_signOf
set_option maxRecDepth 20000 in
theorem ggX2_sign_X2_comes : GoodIn wsX2_sign wsX2_comes := goodIn_r _ [45, 1, 2, 3, 46, 47, 48, 7, 49, 19, 50, 51, 52, 53, 54, 55, 56, 57, 58, 59, 60, 61] (by decide +kernel) (by decide +kernel)
set_option maxRecDepth 20000 in
theorem gX2_sign_X2_comes : GoodIn wsX2_sign (wsV RX2 124 RX2 yX2_comes wsX2_comes) := goodIn_app (goodIn_of _ (by decide +kernel)) ggX2_sign_X2_comes
theorem dX2_sign_0 : decode cX2_sign 0 = .ok (.aload_n 0, 1) := by decide +kernel
theorem dX2_sign_1 : decode cX2_sign 1 = .ok (.iload_n 1, 1) := by decide +kernel
theorem dX2_sign_2 : decode cX2_sign 2 = .ok (.iload_n 1, 1) := by decide +kernel
theorem dX2_sign_3 : decode cX2_sign 3 = .ok (.iload_n 2, 1) := by decide +kernel
theorem dX2_sign_4 : decode cX2_sign 4 = .ok (.invokevirtual 135, 3) := by decide +kernel
theorem dX2_sign_7 : decode cX2_sign 7 = .ok (.istore_n 3, 1) := by decide +kernel
theorem dX2_sign_8 : decode cX2_sign 8 = .ok (.iload_n 3, 1) := by decide +kernel
theorem dX2_sign_9 : decode cX2_sign 9 = .ok (.ifCond .ne 18, 3) := by decide +kernel
theorem dX2_sign_12 : decode cX2_sign 12 = .ok (.aload_n 0, 1) := by decide +kernel
theorem dX2_sign_13 : decode cX2_sign 13 = .ok (.getfield 7, 3) := by decide +kernel
theorem dX2_sign_16 : decode cX2_sign 16 = .ok (.iload_n 1, 1) := by decide +kernel
theorem dX2_sign_17 : decode cX2_sign 17 = .ok (.iaload, 1) := by decide +kernel
theorem dX2_sign_18 : decode cX2_sign 18 = .ok (.invokestatic 63, 3) := by decide +kernel
theorem dX2_sign_21 : decode cX2_sign 21 = .ok (.ifCond .ne 6, 3) := by decide +kernel
theorem dX2_sign_24 : decode cX2_sign 24 = .ok (.bipush (-4), 2) := by decide +kernel
theorem dX2_sign_26 : decode cX2_sign 26 = .ok (.istore_n 3, 1) := by decide +kernel
theorem dX2_sign_27 : decode cX2_sign 27 = .ok (.iload_n 3, 1) := by decide +kernel
theorem dX2_sign_28 : decode cX2_sign 28 = .ok (.ifCond .ge 11, 3) := by decide +kernel
theorem dX2_sign_31 : decode cX2_sign 31 = .ok (.aload_n 0, 1) := by decide +kernel
theorem dX2_sign_32 : decode cX2_sign 32 = .ok (.iload_n 3, 1) := by decide +kernel
theorem dX2_sign_33 : decode cX2_sign 33 = .ok (.invokevirtual 128, 3) := by decide +kernel
theorem dX2_sign_36 : decode cX2_sign 36 = .ok (.goto 44, 3) := by decide +kernel
theorem dX2_sign_39 : decode cX2_sign 39 = .ok (.aload_n 0, 1) := by decide +kernel
theorem dX2_sign_40 : decode cX2_sign 40 = .ok (.iload_n 2, 1) := by decide +kernel
theorem dX2_sign_41 : decode cX2_sign 41 = .ok (.aload_n 0, 1) := by decide +kernel
theorem dX2_sign_42 : decode cX2_sign 42 = .ok (.getfield 7, 3) := by decide +kernel
theorem dX2_sign_45 : decode cX2_sign 45 = .ok (.iload_n 1, 1) := by decide +kernel
theorem dX2_sign_46 : decode cX2_sign 46 = .ok (.iaload, 1) := by decide +kernel
theorem dX2_sign_47 : decode cX2_sign 47 = .ok (.aload_n 0, 1) := by decide +kernel
theorem dX2_sign_48 : decode cX2_sign 48 = .ok (.getfield 7, 3) := by decide +kernel
theorem dX2_sign_51 : decode cX2_sign 51 = .ok (.iload_n 1, 1) := by decide +kernel
theorem dX2_sign_52 : decode cX2_sign 52 = .ok (.iaload, 1) := by decide +kernel
theorem dX2_sign_53 : decode cX2_sign 53 = .ok (.aload_n 0, 1) := by decide +kernel
theorem dX2_sign_54 : decode cX2_sign 54 = .ok (.getfield 13, 3) := by decide +kernel
theorem dX2_sign_57 : decode cX2_sign 57 = .ok (.iload_n 1, 1) := by decide +kernel
theorem dX2_sign_58 : decode cX2_sign 58 = .ok (.laload, 1) := by decide +kernel
theorem dX2_sign_59 : decode cX2_sign 59 = .ok (.invokestatic 162, 3) := by decide +kernel
theorem dX2_sign_62 : decode cX2_sign 62 = .ok (.aload_n 0, 1) := by decide +kernel
theorem dX2_sign_63 : decode cX2_sign 63 = .ok (.getfield 7, 3) := by decide +kernel
theorem dX2_sign_66 : decode cX2_sign 66 = .ok (.iload_n 1, 1) := by decide +kernel
theorem dX2_sign_67 : decode cX2_sign 67 = .ok (.iaload, 1) := by decide +kernel
theorem dX2_sign_68 : decode cX2_sign 68 = .ok (.aload_n 0, 1) := by decide +kernel
theorem dX2_sign_69 : decode cX2_sign 69 = .ok (.getfield 17, 3) := by decide +kernel
theorem dX2_sign_72 : decode cX2_sign 72 = .ok (.iload_n 1, 1) := by decide +kernel
theorem dX2_sign_73 : decode cX2_sign 73 = .ok (.laload, 1) := by decide +kernel
theorem dX2_sign_74 : decode cX2_sign 74 = .ok (.invokestatic 162, 3) := by decide +kernel
theorem dX2_sign_77 : decode cX2_sign 77 = .ok (.invokevirtual 124, 3) := by decide +kernel
theorem dX2_sign_80 : decode cX2_sign 80 = .ok (.ireturn, 1) := by decide +kernel
set_option maxRecDepth 20000 in
theorem ggX2_lend_X2_whyNot : GoodIn wsX2_lend wsX2_whyNot := goodIn_r _ [8, 1, 9, 10, 7, 11, 55, 56, 57, 58, 59, 60, 61, 62, 63, 64, 65, 66] (by decide +kernel) (by decide +kernel)
set_option maxRecDepth 20000 in
theorem gX2_lend_X2_whyNot : GoodIn wsX2_lend (wsV RX2 135 RX2 yX2_whyNot wsX2_whyNot) := goodIn_app (goodIn_of _ (by decide +kernel)) ggX2_lend_X2_whyNot
set_option maxRecDepth 20000 in
theorem ggX2_lend_X2_isBroken : GoodIn wsX2_lend wsX2_isBroken := goodIn_r _ [14] (by decide +kernel) (by decide +kernel)
set_option maxRecDepth 20000 in
theorem gX2_lend_X2_isBroken : GoodIn wsX2_lend (va_wsS RX2 63 yX2_isBroken wsX2_isBroken) := goodIn_app (goodIn_of _ (by decide +kernel)) ggX2_lend_X2_isBroken
set_option maxRecDepth 20000 in
theorem ggX2_lend_X2_refuses : GoodIn wsX2_lend wsX2_refuses := goodIn_r _ [18, 19, 20, 55, 56, 57, 58, 59, 60, 61, 62, 63, 64, 65, 66] (by decide +kernel) (by decide +kernel)
set_option maxRecDepth 20000 in
theorem gX2_lend_X2_refuses : GoodIn wsX2_lend (wsV RX2 128 RX2 yX2_refuses wsX2_refuses) := goodIn_app (goodIn_of _ (by decide +kernel)) ggX2_lend_X2_refuses
set_option maxRecDepth 20000 in
theorem ggX2_lend_X2_magnitude : GoodIn wsX2_lend wsX2_magnitude := goodIn_r _ [23, 24, 25] (by decide +kernel) (by decide +kernel)
set_option maxRecDepth 20000 in
theorem gX2_lend_X2_magnitude : GoodIn wsX2_lend (va_wsS RX2 66 yX2_magnitude wsX2_magnitude) := goodIn_app (goodIn_of _ (by decide +kernel)) ggX2_lend_X2_magnitude
set_option maxRecDepth 20000 in
theorem ggX2_lend_X2_signed : GoodIn wsX2_lend wsX2_signed := goodIn_r _ [28, 29, 30] (by decide +kernel) (by decide +kernel)
set_option maxRecDepth 20000 in
theorem gX2_lend_X2_signed : GoodIn wsX2_lend (va_wsS RX2 84 yX2_signed wsX2_signed) := goodIn_app (goodIn_of _ (by decide +kernel)) ggX2_lend_X2_signed
set_option maxRecDepth 20000 in
theorem ggX2_lend_X2_ordered : GoodIn wsX2_lend wsX2_ordered := goodIn_r _ [34, 35, 36, 7, 37, 38, 39, 40, 41, 42, 43, 24, 25, 12, 13, 14, 44, 45, 46, 47, 48, 49, 50, 1, 2, 3, 51, 52, 53, 54, 19, 55, 56, 57, 58, 59, 60, 61, 62, 63, 64, 65, 66] (by decide +kernel) (by decide +kernel)
set_option maxRecDepth 20000 in
theorem gX2_lend_X2_ordered : GoodIn wsX2_lend (wsV RX2 155 RX2 yX2_ordered wsX2_ordered) := goodIn_app (goodIn_of _ (by decide +kernel)) ggX2_lend_X2_ordered
theorem dX2_lend_0 : decode cX2_lend 0 = .ok (.aload_n 0, 1) := by decide +kernel
theorem dX2_lend_1 : decode cX2_lend 1 = .ok (.iload_n 1, 1) := by decide +kernel
theorem dX2_lend_2 : decode cX2_lend 2 = .ok (.iload_n 2, 1) := by decide +kernel
theorem dX2_lend_3 : decode cX2_lend 3 = .ok (.iload_n 3, 1) := by decide +kernel
theorem dX2_lend_4 : decode cX2_lend 4 = .ok (.invokevirtual 135, 3) := by decide +kernel
theorem dX2_lend_7 : decode cX2_lend 7 = .ok (.istore 4, 2) := by decide +kernel
theorem dX2_lend_9 : decode cX2_lend 9 = .ok (.iload 4, 2) := by decide +kernel
theorem dX2_lend_11 : decode cX2_lend 11 = .ok (.ifCond .ne 34, 3) := by decide +kernel
theorem dX2_lend_14 : decode cX2_lend 14 = .ok (.aload_n 0, 1) := by decide +kernel
theorem dX2_lend_15 : decode cX2_lend 15 = .ok (.getfield 7, 3) := by decide +kernel
theorem dX2_lend_18 : decode cX2_lend 18 = .ok (.iload_n 1, 1) := by decide +kernel
theorem dX2_lend_19 : decode cX2_lend 19 = .ok (.iaload, 1) := by decide +kernel
theorem dX2_lend_20 : decode cX2_lend 20 = .ok (.invokestatic 63, 3) := by decide +kernel
theorem dX2_lend_23 : decode cX2_lend 23 = .ok (.ifCond .eq 18, 3) := by decide +kernel
theorem dX2_lend_26 : decode cX2_lend 26 = .ok (.aload_n 0, 1) := by decide +kernel
theorem dX2_lend_27 : decode cX2_lend 27 = .ok (.getfield 7, 3) := by decide +kernel
theorem dX2_lend_30 : decode cX2_lend 30 = .ok (.iload_n 1, 1) := by decide +kernel
theorem dX2_lend_31 : decode cX2_lend 31 = .ok (.iaload, 1) := by decide +kernel
theorem dX2_lend_32 : decode cX2_lend 32 = .ok (.aload_n 0, 1) := by decide +kernel
theorem dX2_lend_33 : decode cX2_lend 33 = .ok (.getfield 7, 3) := by decide +kernel
theorem dX2_lend_36 : decode cX2_lend 36 = .ok (.iload_n 2, 1) := by decide +kernel
theorem dX2_lend_37 : decode cX2_lend 37 = .ok (.iaload, 1) := by decide +kernel
theorem dX2_lend_38 : decode cX2_lend 38 = .ok (.if_icmp .eq 7, 3) := by decide +kernel
theorem dX2_lend_41 : decode cX2_lend 41 = .ok (.bipush (-4), 2) := by decide +kernel
theorem dX2_lend_43 : decode cX2_lend 43 = .ok (.istore 4, 2) := by decide +kernel
theorem dX2_lend_45 : decode cX2_lend 45 = .ok (.iload 4, 2) := by decide +kernel
theorem dX2_lend_47 : decode cX2_lend 47 = .ok (.ifCond .ge 10, 3) := by decide +kernel
theorem dX2_lend_50 : decode cX2_lend 50 = .ok (.aload_n 0, 1) := by decide +kernel
theorem dX2_lend_51 : decode cX2_lend 51 = .ok (.iload 4, 2) := by decide +kernel
theorem dX2_lend_53 : decode cX2_lend 53 = .ok (.invokevirtual 128, 3) := by decide +kernel
theorem dX2_lend_56 : decode cX2_lend 56 = .ok (.ireturn, 1) := by decide +kernel
theorem dX2_lend_57 : decode cX2_lend 57 = .ok (.aload_n 0, 1) := by decide +kernel
theorem dX2_lend_58 : decode cX2_lend 58 = .ok (.getfield 7, 3) := by decide +kernel
theorem dX2_lend_61 : decode cX2_lend 61 = .ok (.iload_n 1, 1) := by decide +kernel
theorem dX2_lend_62 : decode cX2_lend 62 = .ok (.iaload, 1) := by decide +kernel
theorem dX2_lend_63 : decode cX2_lend 63 = .ok (.istore 5, 2) := by decide +kernel
theorem dX2_lend_65 : decode cX2_lend 65 = .ok (.aload_n 0, 1) := by decide +kernel
theorem dX2_lend_66 : decode cX2_lend 66 = .ok (.iload_n 3, 1) := by decide +kernel
theorem dX2_lend_67 : decode cX2_lend 67 = .ok (.iload 5, 2) := by decide +kernel
theorem dX2_lend_69 : decode cX2_lend 69 = .ok (.iload 5, 2) := by decide +kernel
theorem dX2_lend_71 : decode cX2_lend 71 = .ok (.iload 5, 2) := by decide +kernel
theorem dX2_lend_73 : decode cX2_lend 73 = .ok (.aload_n 0, 1) := by decide +kernel
theorem dX2_lend_74 : decode cX2_lend 74 = .ok (.getfield 13, 3) := by decide +kernel
theorem dX2_lend_77 : decode cX2_lend 77 = .ok (.iload_n 1, 1) := by decide +kernel
theorem dX2_lend_78 : decode cX2_lend 78 = .ok (.laload, 1) := by decide +kernel
theorem dX2_lend_79 : decode cX2_lend 79 = .ok (.invokestatic 66, 3) := by decide +kernel
theorem dX2_lend_82 : decode cX2_lend 82 = .ok (.aload_n 0, 1) := by decide +kernel
theorem dX2_lend_83 : decode cX2_lend 83 = .ok (.getfield 13, 3) := by decide +kernel
theorem dX2_lend_86 : decode cX2_lend 86 = .ok (.iload_n 2, 1) := by decide +kernel
theorem dX2_lend_87 : decode cX2_lend 87 = .ok (.laload, 1) := by decide +kernel
theorem dX2_lend_88 : decode cX2_lend 88 = .ok (.lconst 0, 1) := by decide +kernel
theorem dX2_lend_89 : decode cX2_lend 89 = .ok (.lcmp, 1) := by decide +kernel
theorem dX2_lend_90 : decode cX2_lend 90 = .ok (.ifCond .ge 7, 3) := by decide +kernel
theorem dX2_lend_93 : decode cX2_lend 93 = .ok (.iconst 1, 1) := by decide +kernel
theorem dX2_lend_94 : decode cX2_lend 94 = .ok (.goto 4, 3) := by decide +kernel
theorem dX2_lend_97 : decode cX2_lend 97 = .ok (.iconst 0, 1) := by decide +kernel
theorem dX2_lend_98 : decode cX2_lend 98 = .ok (.invokestatic 84, 3) := by decide +kernel
theorem dX2_lend_101 : decode cX2_lend 101 = .ok (.iload 5, 2) := by decide +kernel
theorem dX2_lend_103 : decode cX2_lend 103 = .ok (.iload 5, 2) := by decide +kernel
theorem dX2_lend_105 : decode cX2_lend 105 = .ok (.aload_n 0, 1) := by decide +kernel
theorem dX2_lend_106 : decode cX2_lend 106 = .ok (.getfield 17, 3) := by decide +kernel
theorem dX2_lend_109 : decode cX2_lend 109 = .ok (.iload_n 1, 1) := by decide +kernel
theorem dX2_lend_110 : decode cX2_lend 110 = .ok (.laload, 1) := by decide +kernel
theorem dX2_lend_111 : decode cX2_lend 111 = .ok (.invokestatic 66, 3) := by decide +kernel
theorem dX2_lend_114 : decode cX2_lend 114 = .ok (.aload_n 0, 1) := by decide +kernel
theorem dX2_lend_115 : decode cX2_lend 115 = .ok (.getfield 17, 3) := by decide +kernel
theorem dX2_lend_118 : decode cX2_lend 118 = .ok (.iload_n 2, 1) := by decide +kernel
theorem dX2_lend_119 : decode cX2_lend 119 = .ok (.laload, 1) := by decide +kernel
theorem dX2_lend_120 : decode cX2_lend 120 = .ok (.lconst 0, 1) := by decide +kernel
theorem dX2_lend_121 : decode cX2_lend 121 = .ok (.lcmp, 1) := by decide +kernel
theorem dX2_lend_122 : decode cX2_lend 122 = .ok (.ifCond .ge 7, 3) := by decide +kernel
theorem dX2_lend_125 : decode cX2_lend 125 = .ok (.iconst 1, 1) := by decide +kernel
theorem dX2_lend_126 : decode cX2_lend 126 = .ok (.goto 4, 3) := by decide +kernel
theorem dX2_lend_129 : decode cX2_lend 129 = .ok (.iconst 0, 1) := by decide +kernel
theorem dX2_lend_130 : decode cX2_lend 130 = .ok (.invokestatic 84, 3) := by decide +kernel
theorem dX2_lend_133 : decode cX2_lend 133 = .ok (.invokevirtual 155, 3) := by decide +kernel
theorem dX2_lend_136 : decode cX2_lend 136 = .ok (.ireturn, 1) := by decide +kernel
set_option maxRecDepth 20000 in
theorem ggX2_turn_X2_whyNot : GoodIn wsX2_turn wsX2_whyNot := goodIn_r _ [8, 1, 9, 10, 7, 11, 61, 62, 63, 64, 65, 66, 67, 68, 69, 70, 71, 72] (by decide +kernel) (by decide +kernel)
set_option maxRecDepth 20000 in
theorem gX2_turn_X2_whyNot : GoodIn wsX2_turn (wsV RX2 135 RX2 yX2_whyNot wsX2_whyNot) := goodIn_app (goodIn_of _ (by decide +kernel)) ggX2_turn_X2_whyNot
set_option maxRecDepth 20000 in
theorem ggX2_turn_X2_refuses : GoodIn wsX2_turn wsX2_refuses := goodIn_r _ [15, 16, 17, 61, 62, 63, 64, 65, 66, 67, 68, 69, 70, 71, 72] (by decide +kernel) (by decide +kernel)
set_option maxRecDepth 20000 in
theorem gX2_turn_X2_refuses : GoodIn wsX2_turn (wsV RX2 128 RX2 yX2_refuses wsX2_refuses) := goodIn_app (goodIn_of _ (by decide +kernel)) ggX2_turn_X2_refuses
set_option maxRecDepth 20000 in
theorem ggX2_turn_X2_turned : GoodIn wsX2_turn wsX2_turned := goodIn_r _ [20, 21, 22, 7, 23, 24, 25, 26, 27, 28, 29, 30, 31, 32, 33, 34, 35, 36] (by decide +kernel) (by decide +kernel)
set_option maxRecDepth 20000 in
theorem gX2_turn_X2_turned : GoodIn wsX2_turn (va_wsS RX2 165 yX2_turned wsX2_turned) := goodIn_app (goodIn_of _ (by decide +kernel)) ggX2_turn_X2_turned
set_option maxRecDepth 20000 in
theorem ggX2_turn_X2_ordered : GoodIn wsX2_turn wsX2_ordered := goodIn_r _ [40, 41, 42, 7, 43, 44, 45, 46, 47, 48, 49, 27, 28, 21, 22, 23, 50, 51, 52, 53, 54, 55, 56, 1, 2, 3, 57, 58, 59, 60, 16, 61, 62, 63, 64, 65, 66, 67, 68, 69, 70, 71, 72] (by decide +kernel) (by decide +kernel)
set_option maxRecDepth 20000 in
theorem gX2_turn_X2_ordered : GoodIn wsX2_turn (wsV RX2 155 RX2 yX2_ordered wsX2_ordered) := goodIn_app (goodIn_of _ (by decide +kernel)) ggX2_turn_X2_ordered
theorem dX2_turn_0 : decode cX2_turn 0 = .ok (.aload_n 0, 1) := by decide +kernel
theorem dX2_turn_1 : decode cX2_turn 1 = .ok (.iload_n 1, 1) := by decide +kernel
theorem dX2_turn_2 : decode cX2_turn 2 = .ok (.iload_n 1, 1) := by decide +kernel
theorem dX2_turn_3 : decode cX2_turn 3 = .ok (.iload_n 2, 1) := by decide +kernel
theorem dX2_turn_4 : decode cX2_turn 4 = .ok (.invokevirtual 135, 3) := by decide +kernel
theorem dX2_turn_7 : decode cX2_turn 7 = .ok (.istore_n 3, 1) := by decide +kernel
theorem dX2_turn_8 : decode cX2_turn 8 = .ok (.iload_n 3, 1) := by decide +kernel
theorem dX2_turn_9 : decode cX2_turn 9 = .ok (.ifCond .ge 11, 3) := by decide +kernel
theorem dX2_turn_12 : decode cX2_turn 12 = .ok (.aload_n 0, 1) := by decide +kernel
theorem dX2_turn_13 : decode cX2_turn 13 = .ok (.iload_n 3, 1) := by decide +kernel
theorem dX2_turn_14 : decode cX2_turn 14 = .ok (.invokevirtual 128, 3) := by decide +kernel
theorem dX2_turn_17 : decode cX2_turn 17 = .ok (.goto 44, 3) := by decide +kernel
theorem dX2_turn_20 : decode cX2_turn 20 = .ok (.aload_n 0, 1) := by decide +kernel
theorem dX2_turn_21 : decode cX2_turn 21 = .ok (.iload_n 2, 1) := by decide +kernel
theorem dX2_turn_22 : decode cX2_turn 22 = .ok (.aload_n 0, 1) := by decide +kernel
theorem dX2_turn_23 : decode cX2_turn 23 = .ok (.getfield 7, 3) := by decide +kernel
theorem dX2_turn_26 : decode cX2_turn 26 = .ok (.iload_n 1, 1) := by decide +kernel
theorem dX2_turn_27 : decode cX2_turn 27 = .ok (.iaload, 1) := by decide +kernel
theorem dX2_turn_28 : decode cX2_turn 28 = .ok (.aload_n 0, 1) := by decide +kernel
theorem dX2_turn_29 : decode cX2_turn 29 = .ok (.getfield 7, 3) := by decide +kernel
theorem dX2_turn_32 : decode cX2_turn 32 = .ok (.iload_n 1, 1) := by decide +kernel
theorem dX2_turn_33 : decode cX2_turn 33 = .ok (.iaload, 1) := by decide +kernel
theorem dX2_turn_34 : decode cX2_turn 34 = .ok (.aload_n 0, 1) := by decide +kernel
theorem dX2_turn_35 : decode cX2_turn 35 = .ok (.getfield 13, 3) := by decide +kernel
theorem dX2_turn_38 : decode cX2_turn 38 = .ok (.iload_n 1, 1) := by decide +kernel
theorem dX2_turn_39 : decode cX2_turn 39 = .ok (.laload, 1) := by decide +kernel
theorem dX2_turn_40 : decode cX2_turn 40 = .ok (.invokestatic 165, 3) := by decide +kernel
theorem dX2_turn_43 : decode cX2_turn 43 = .ok (.aload_n 0, 1) := by decide +kernel
theorem dX2_turn_44 : decode cX2_turn 44 = .ok (.getfield 7, 3) := by decide +kernel
theorem dX2_turn_47 : decode cX2_turn 47 = .ok (.iload_n 1, 1) := by decide +kernel
theorem dX2_turn_48 : decode cX2_turn 48 = .ok (.iaload, 1) := by decide +kernel
theorem dX2_turn_49 : decode cX2_turn 49 = .ok (.aload_n 0, 1) := by decide +kernel
theorem dX2_turn_50 : decode cX2_turn 50 = .ok (.getfield 17, 3) := by decide +kernel
theorem dX2_turn_53 : decode cX2_turn 53 = .ok (.iload_n 1, 1) := by decide +kernel
theorem dX2_turn_54 : decode cX2_turn 54 = .ok (.laload, 1) := by decide +kernel
theorem dX2_turn_55 : decode cX2_turn 55 = .ok (.invokestatic 165, 3) := by decide +kernel
theorem dX2_turn_58 : decode cX2_turn 58 = .ok (.invokevirtual 155, 3) := by decide +kernel
theorem dX2_turn_61 : decode cX2_turn 61 = .ok (.ireturn, 1) := by decide +kernel
set_option maxRecDepth 20000 in
theorem ggX2_as_X2_whyNot : GoodIn wsX2_as wsX2_whyNot := goodIn_r _ [8, 1, 9, 10, 7, 11, 83, 84, 85, 86, 87, 88, 89, 90, 91, 92, 93, 94] (by decide +kernel) (by decide +kernel)
set_option maxRecDepth 20000 in
theorem gX2_as_X2_whyNot : GoodIn wsX2_as (wsV RX2 135 RX2 yX2_whyNot wsX2_whyNot) := goodIn_app (goodIn_of _ (by decide +kernel)) ggX2_as_X2_whyNot
set_option maxRecDepth 20000 in
theorem ggX2_as_X2_refuses : GoodIn wsX2_as wsX2_refuses := goodIn_r _ [15, 16, 17, 83, 84, 85, 86, 87, 88, 89, 90, 91, 92, 93, 94] (by decide +kernel) (by decide +kernel)
set_option maxRecDepth 20000 in
theorem gX2_as_X2_refuses : GoodIn wsX2_as (wsV RX2 128 RX2 yX2_refuses wsX2_refuses) := goodIn_app (goodIn_of _ (by decide +kernel)) ggX2_as_X2_refuses
set_option maxRecDepth 20000 in
theorem ggX2_as_X2_made : GoodIn wsX2_as wsX2_made := goodIn_r _ [20, 21, 22, 23, 24, 25, 26, 27, 28, 29, 30, 7, 31, 32, 33, 34, 35, 36, 37, 38, 39, 40, 41, 42, 43, 44, 45, 46, 47, 48, 49, 50, 51, 52, 53, 54, 55, 56] (by decide +kernel) (by decide +kernel)
set_option maxRecDepth 20000 in
theorem gX2_as_X2_made : GoodIn wsX2_as (va_wsS RX2 168 yX2_made wsX2_made) := goodIn_app (goodIn_of _ (by decide +kernel)) ggX2_as_X2_made
set_option maxRecDepth 20000 in
theorem ggX2_as_X2_ordered : GoodIn wsX2_as wsX2_ordered := goodIn_r _ [60, 61, 62, 7, 63, 64, 65, 66, 67, 68, 69, 70, 71, 29, 30, 31, 72, 73, 74, 75, 76, 77, 78, 1, 2, 3, 79, 80, 81, 82, 16, 83, 84, 85, 86, 87, 88, 89, 90, 91, 92, 93, 94] (by decide +kernel) (by decide +kernel)
set_option maxRecDepth 20000 in
theorem gX2_as_X2_ordered : GoodIn wsX2_as (wsV RX2 155 RX2 yX2_ordered wsX2_ordered) := goodIn_app (goodIn_of _ (by decide +kernel)) ggX2_as_X2_ordered
theorem dX2_as_0 : decode cX2_as 0 = .ok (.aload_n 0, 1) := by decide +kernel
theorem dX2_as_1 : decode cX2_as 1 = .ok (.iload_n 1, 1) := by decide +kernel
theorem dX2_as_2 : decode cX2_as 2 = .ok (.iload_n 1, 1) := by decide +kernel
theorem dX2_as_3 : decode cX2_as 3 = .ok (.iload_n 3, 1) := by decide +kernel
theorem dX2_as_4 : decode cX2_as 4 = .ok (.invokevirtual 135, 3) := by decide +kernel
theorem dX2_as_7 : decode cX2_as 7 = .ok (.istore 4, 2) := by decide +kernel
theorem dX2_as_9 : decode cX2_as 9 = .ok (.iload 4, 2) := by decide +kernel
theorem dX2_as_11 : decode cX2_as 11 = .ok (.ifCond .ne 16, 3) := by decide +kernel
theorem dX2_as_14 : decode cX2_as 14 = .ok (.iload_n 2, 1) := by decide +kernel
theorem dX2_as_15 : decode cX2_as 15 = .ok (.ifCond .lt 8, 3) := by decide +kernel
theorem dX2_as_18 : decode cX2_as 18 = .ok (.iload_n 2, 1) := by decide +kernel
theorem dX2_as_19 : decode cX2_as 19 = .ok (.iconst 3, 1) := by decide +kernel
theorem dX2_as_20 : decode cX2_as 20 = .ok (.if_icmp .le 7, 3) := by decide +kernel
theorem dX2_as_23 : decode cX2_as 23 = .ok (.bipush (-4), 2) := by decide +kernel
theorem dX2_as_25 : decode cX2_as 25 = .ok (.istore 4, 2) := by decide +kernel
theorem dX2_as_27 : decode cX2_as 27 = .ok (.iload 4, 2) := by decide +kernel
theorem dX2_as_29 : decode cX2_as 29 = .ok (.ifCond .ge 12, 3) := by decide +kernel
theorem dX2_as_32 : decode cX2_as 32 = .ok (.aload_n 0, 1) := by decide +kernel
theorem dX2_as_33 : decode cX2_as 33 = .ok (.iload 4, 2) := by decide +kernel
theorem dX2_as_35 : decode cX2_as 35 = .ok (.invokevirtual 128, 3) := by decide +kernel
theorem dX2_as_38 : decode cX2_as 38 = .ok (.goto 41, 3) := by decide +kernel
theorem dX2_as_41 : decode cX2_as 41 = .ok (.aload_n 0, 1) := by decide +kernel
theorem dX2_as_42 : decode cX2_as 42 = .ok (.iload_n 3, 1) := by decide +kernel
theorem dX2_as_43 : decode cX2_as 43 = .ok (.iload_n 2, 1) := by decide +kernel
theorem dX2_as_44 : decode cX2_as 44 = .ok (.aload_n 0, 1) := by decide +kernel
theorem dX2_as_45 : decode cX2_as 45 = .ok (.getfield 7, 3) := by decide +kernel
theorem dX2_as_48 : decode cX2_as 48 = .ok (.iload_n 1, 1) := by decide +kernel
theorem dX2_as_49 : decode cX2_as 49 = .ok (.iaload, 1) := by decide +kernel
theorem dX2_as_50 : decode cX2_as 50 = .ok (.iload_n 2, 1) := by decide +kernel
theorem dX2_as_51 : decode cX2_as 51 = .ok (.aload_n 0, 1) := by decide +kernel
theorem dX2_as_52 : decode cX2_as 52 = .ok (.getfield 13, 3) := by decide +kernel
theorem dX2_as_55 : decode cX2_as 55 = .ok (.iload_n 1, 1) := by decide +kernel
theorem dX2_as_56 : decode cX2_as 56 = .ok (.laload, 1) := by decide +kernel
theorem dX2_as_57 : decode cX2_as 57 = .ok (.invokestatic 168, 3) := by decide +kernel
theorem dX2_as_60 : decode cX2_as 60 = .ok (.aload_n 0, 1) := by decide +kernel
theorem dX2_as_61 : decode cX2_as 61 = .ok (.getfield 7, 3) := by decide +kernel
theorem dX2_as_64 : decode cX2_as 64 = .ok (.iload_n 1, 1) := by decide +kernel
theorem dX2_as_65 : decode cX2_as 65 = .ok (.iaload, 1) := by decide +kernel
theorem dX2_as_66 : decode cX2_as 66 = .ok (.iload_n 2, 1) := by decide +kernel
theorem dX2_as_67 : decode cX2_as 67 = .ok (.aload_n 0, 1) := by decide +kernel
theorem dX2_as_68 : decode cX2_as 68 = .ok (.getfield 17, 3) := by decide +kernel
theorem dX2_as_71 : decode cX2_as 71 = .ok (.iload_n 1, 1) := by decide +kernel
theorem dX2_as_72 : decode cX2_as 72 = .ok (.laload, 1) := by decide +kernel
theorem dX2_as_73 : decode cX2_as 73 = .ok (.invokestatic 168, 3) := by decide +kernel
theorem dX2_as_76 : decode cX2_as 76 = .ok (.invokevirtual 155, 3) := by decide +kernel
theorem dX2_as_79 : decode cX2_as 79 = .ok (.ireturn, 1) := by decide +kernel
set_option maxRecDepth 20000 in
theorem ggX2_near_X2_whyNot : GoodIn wsX2_near wsX2_whyNot := goodIn_r _ [9, 1, 10, 11, 8, 12, 49, 50, 51, 52, 53, 54, 55, 56, 57, 58, 59, 60] (by decide +kernel) (by decide +kernel)
set_option maxRecDepth 20000 in
theorem gX2_near_X2_whyNot : GoodIn wsX2_near (wsV RX2 135 RX2 yX2_whyNot wsX2_whyNot) := goodIn_app (goodIn_of _ (by decide +kernel)) ggX2_near_X2_whyNot
set_option maxRecDepth 20000 in
theorem ggX2_near_X2_taken : GoodIn wsX2_near wsX2_taken := goodIn_r _ [15] (by decide +kernel) (by decide +kernel)
set_option maxRecDepth 20000 in
theorem gX2_near_X2_taken : GoodIn wsX2_near (va_wsS RX2 81 yX2_taken wsX2_taken) := goodIn_app (goodIn_of _ (by decide +kernel)) ggX2_near_X2_taken
set_option maxRecDepth 20000 in
theorem ggX2_near_X2_isNumber : GoodIn wsX2_near wsX2_isNumber := goodIn_r _ [18, 19, 20, 8, 21, 22, 23, 24, 25, 26, 27, 28, 29, 30, 31] (by decide +kernel) (by decide +kernel)
set_option maxRecDepth 20000 in
theorem gX2_near_X2_isNumber : GoodIn wsX2_near (va_wsS RX2 131 yX2_isNumber wsX2_isNumber) := goodIn_app (goodIn_of _ (by decide +kernel)) ggX2_near_X2_isNumber
set_option maxRecDepth 20000 in
theorem ggX2_near_X2_refuses : GoodIn wsX2_near wsX2_refuses := goodIn_r _ [35, 2, 36, 49, 50, 51, 52, 53, 54, 55, 56, 57, 58, 59, 60] (by decide +kernel) (by decide +kernel)
set_option maxRecDepth 20000 in
theorem gX2_near_X2_refuses : GoodIn wsX2_near (wsV RX2 128 RX2 yX2_refuses wsX2_refuses) := goodIn_app (goodIn_of _ (by decide +kernel)) ggX2_near_X2_refuses
set_option maxRecDepth 20000 in
theorem ggX2_near_X2_greater : GoodIn wsX2_near wsX2_greater := goodIn_r _ [39, 40, 41, 8, 42, 43, 44, 45, 25, 26, 19, 20, 21] (by decide +kernel) (by decide +kernel)
set_option maxRecDepth 20000 in
theorem gX2_near_X2_greater : GoodIn wsX2_near (va_wsS RX2 121 yX2_greater wsX2_greater) := goodIn_app (goodIn_of _ (by decide +kernel)) ggX2_near_X2_greater
set_option maxRecDepth 20000 in
theorem ggX2_near_X2_lesser : GoodIn wsX2_near wsX2_lesser := goodIn_r _ [48, 40, 41, 8, 42, 43, 44, 45, 25, 26, 19, 20, 21] (by decide +kernel) (by decide +kernel)
set_option maxRecDepth 20000 in
theorem gX2_near_X2_lesser : GoodIn wsX2_near (va_wsS RX2 117 yX2_lesser wsX2_lesser) := goodIn_app (goodIn_of _ (by decide +kernel)) ggX2_near_X2_lesser
theorem dX2_near_0 : decode cX2_near 0 = .ok (.aload_n 0, 1) := by decide +kernel
theorem dX2_near_1 : decode cX2_near 1 = .ok (.iload_n 1, 1) := by decide +kernel
theorem dX2_near_2 : decode cX2_near 2 = .ok (.iload_n 1, 1) := by decide +kernel
theorem dX2_near_3 : decode cX2_near 3 = .ok (.iload_n 1, 1) := by decide +kernel
theorem dX2_near_4 : decode cX2_near 4 = .ok (.invokevirtual 135, 3) := by decide +kernel
theorem dX2_near_7 : decode cX2_near 7 = .ok (.istore 4, 2) := by decide +kernel
theorem dX2_near_9 : decode cX2_near 9 = .ok (.iload 4, 2) := by decide +kernel
theorem dX2_near_11 : decode cX2_near 11 = .ok (.ifCond .ne 16, 3) := by decide +kernel
theorem dX2_near_14 : decode cX2_near 14 = .ok (.aload_n 0, 1) := by decide +kernel
theorem dX2_near_15 : decode cX2_near 15 = .ok (.getfield 7, 3) := by decide +kernel
theorem dX2_near_18 : decode cX2_near 18 = .ok (.iload_n 1, 1) := by decide +kernel
theorem dX2_near_19 : decode cX2_near 19 = .ok (.iaload, 1) := by decide +kernel
theorem dX2_near_20 : decode cX2_near 20 = .ok (.lload_n 2, 1) := by decide +kernel
theorem dX2_near_21 : decode cX2_near 21 = .ok (.invokestatic 81, 3) := by decide +kernel
theorem dX2_near_24 : decode cX2_near 24 = .ok (.goto 4, 3) := by decide +kernel
theorem dX2_near_27 : decode cX2_near 27 = .ok (.lconst 0, 1) := by decide +kernel
theorem dX2_near_28 : decode cX2_near 28 = .ok (.lstore 5, 2) := by decide +kernel
theorem dX2_near_30 : decode cX2_near 30 = .ok (.iload 4, 2) := by decide +kernel
theorem dX2_near_32 : decode cX2_near 32 = .ok (.ifCond .ne 21, 3) := by decide +kernel
theorem dX2_near_35 : decode cX2_near 35 = .ok (.aload_n 0, 1) := by decide +kernel
theorem dX2_near_36 : decode cX2_near 36 = .ok (.getfield 7, 3) := by decide +kernel
theorem dX2_near_39 : decode cX2_near 39 = .ok (.iload_n 1, 1) := by decide +kernel
theorem dX2_near_40 : decode cX2_near 40 = .ok (.iaload, 1) := by decide +kernel
theorem dX2_near_41 : decode cX2_near 41 = .ok (.lload 5, 2) := by decide +kernel
theorem dX2_near_43 : decode cX2_near 43 = .ok (.invokestatic 131, 3) := by decide +kernel
theorem dX2_near_46 : decode cX2_near 46 = .ok (.ifCond .ne 7, 3) := by decide +kernel
theorem dX2_near_49 : decode cX2_near 49 = .ok (.bipush (-4), 2) := by decide +kernel
theorem dX2_near_51 : decode cX2_near 51 = .ok (.istore 4, 2) := by decide +kernel
theorem dX2_near_53 : decode cX2_near 53 = .ok (.iload 4, 2) := by decide +kernel
theorem dX2_near_55 : decode cX2_near 55 = .ok (.ifCond .ge 13, 3) := by decide +kernel
theorem dX2_near_58 : decode cX2_near 58 = .ok (.aload_n 0, 1) := by decide +kernel
theorem dX2_near_59 : decode cX2_near 59 = .ok (.iload 4, 2) := by decide +kernel
theorem dX2_near_61 : decode cX2_near 61 = .ok (.invokevirtual 128, 3) := by decide +kernel
theorem dX2_near_64 : decode cX2_near 64 = .ok (.istore 4, 2) := by decide +kernel
theorem dX2_near_66 : decode cX2_near 66 = .ok (.lconst 0, 1) := by decide +kernel
theorem dX2_near_67 : decode cX2_near 67 = .ok (.lreturn, 1) := by decide +kernel
theorem dX2_near_68 : decode cX2_near 68 = .ok (.aload_n 0, 1) := by decide +kernel
theorem dX2_near_69 : decode cX2_near 69 = .ok (.iconst 0, 1) := by decide +kernel
theorem dX2_near_70 : decode cX2_near 70 = .ok (.putfield 36, 3) := by decide +kernel
theorem dX2_near_73 : decode cX2_near 73 = .ok (.aload_n 0, 1) := by decide +kernel
theorem dX2_near_74 : decode cX2_near 74 = .ok (.getfield 7, 3) := by decide +kernel
theorem dX2_near_77 : decode cX2_near 77 = .ok (.iload_n 1, 1) := by decide +kernel
theorem dX2_near_78 : decode cX2_near 78 = .ok (.iaload, 1) := by decide +kernel
theorem dX2_near_79 : decode cX2_near 79 = .ok (.aload_n 0, 1) := by decide +kernel
theorem dX2_near_80 : decode cX2_near 80 = .ok (.getfield 7, 3) := by decide +kernel
theorem dX2_near_83 : decode cX2_near 83 = .ok (.iload_n 1, 1) := by decide +kernel
theorem dX2_near_84 : decode cX2_near 84 = .ok (.iaload, 1) := by decide +kernel
theorem dX2_near_85 : decode cX2_near 85 = .ok (.lload 5, 2) := by decide +kernel
theorem dX2_near_87 : decode cX2_near 87 = .ok (.aload_n 0, 1) := by decide +kernel
theorem dX2_near_88 : decode cX2_near 88 = .ok (.getfield 13, 3) := by decide +kernel
theorem dX2_near_91 : decode cX2_near 91 = .ok (.iload_n 1, 1) := by decide +kernel
theorem dX2_near_92 : decode cX2_near 92 = .ok (.laload, 1) := by decide +kernel
theorem dX2_near_93 : decode cX2_near 93 = .ok (.invokestatic 121, 3) := by decide +kernel
theorem dX2_near_96 : decode cX2_near 96 = .ok (.aload_n 0, 1) := by decide +kernel
theorem dX2_near_97 : decode cX2_near 97 = .ok (.getfield 17, 3) := by decide +kernel
theorem dX2_near_100 : decode cX2_near 100 = .ok (.iload_n 1, 1) := by decide +kernel
theorem dX2_near_101 : decode cX2_near 101 = .ok (.laload, 1) := by decide +kernel
theorem dX2_near_102 : decode cX2_near 102 = .ok (.invokestatic 117, 3) := by decide +kernel
theorem dX2_near_105 : decode cX2_near 105 = .ok (.lreturn, 1) := by decide +kernel
set_option maxRecDepth 20000 in
theorem ggX2_has_X2_whyNot : GoodIn wsX2_has wsX2_whyNot := goodIn_r _ [8, 1, 9, 10, 7, 11, 47, 48, 49, 50, 51, 52, 53, 54, 55, 56, 57, 58] (by decide +kernel) (by decide +kernel)
set_option maxRecDepth 20000 in
theorem gX2_has_X2_whyNot : GoodIn wsX2_has (wsV RX2 135 RX2 yX2_whyNot wsX2_whyNot) := goodIn_app (goodIn_of _ (by decide +kernel)) ggX2_has_X2_whyNot
set_option maxRecDepth 20000 in
theorem ggX2_has_X2_taken : GoodIn wsX2_has wsX2_taken := goodIn_r _ [14] (by decide +kernel) (by decide +kernel)
set_option maxRecDepth 20000 in
theorem gX2_has_X2_taken : GoodIn wsX2_has (va_wsS RX2 81 yX2_taken wsX2_taken) := goodIn_app (goodIn_of _ (by decide +kernel)) ggX2_has_X2_taken
set_option maxRecDepth 20000 in
theorem ggX2_has_X2_isNumber : GoodIn wsX2_has wsX2_isNumber := goodIn_r _ [17, 18, 19, 7, 20, 21, 22, 23, 24, 25, 26, 27, 28, 29, 30] (by decide +kernel) (by decide +kernel)
set_option maxRecDepth 20000 in
theorem gX2_has_X2_isNumber : GoodIn wsX2_has (va_wsS RX2 131 yX2_isNumber wsX2_isNumber) := goodIn_app (goodIn_of _ (by decide +kernel)) ggX2_has_X2_isNumber
set_option maxRecDepth 20000 in
theorem ggX2_has_X2_refuses : GoodIn wsX2_has wsX2_refuses := goodIn_r _ [34, 35, 36, 47, 48, 49, 50, 51, 52, 53, 54, 55, 56, 57, 58] (by decide +kernel) (by decide +kernel)
set_option maxRecDepth 20000 in
theorem gX2_has_X2_refuses : GoodIn wsX2_has (wsV RX2 128 RX2 yX2_refuses wsX2_refuses) := goodIn_app (goodIn_of _ (by decide +kernel)) ggX2_has_X2_refuses
set_option maxRecDepth 20000 in
theorem ggX2_has_X2_isAbove : GoodIn wsX2_has wsX2_isAbove := goodIn_r _ [39, 40, 41, 7, 42, 24, 25, 18, 19, 20] (by decide +kernel) (by decide +kernel)
set_option maxRecDepth 20000 in
theorem gX2_has_X2_isAbove : GoodIn wsX2_has (va_wsS RX2 77 yX2_isAbove wsX2_isAbove) := goodIn_app (goodIn_of _ (by decide +kernel)) ggX2_has_X2_isAbove
set_option maxRecDepth 20000 in
theorem ggX2_has_X2_says : GoodIn wsX2_has wsX2_says := goodIn_r _ [46, 35, 47, 48, 49, 50, 51, 52, 53, 54, 55, 56, 57, 58] (by decide +kernel) (by decide +kernel)
set_option maxRecDepth 20000 in
theorem gX2_has_X2_says : GoodIn wsX2_has (wsV RX2 113 RX2 yX2_says wsX2_says) := goodIn_app (goodIn_of _ (by decide +kernel)) ggX2_has_X2_says
theorem dX2_has_0 : decode cX2_has 0 = .ok (.aload_n 0, 1) := by decide +kernel
theorem dX2_has_1 : decode cX2_has 1 = .ok (.iload_n 1, 1) := by decide +kernel
theorem dX2_has_2 : decode cX2_has 2 = .ok (.iload_n 1, 1) := by decide +kernel
theorem dX2_has_3 : decode cX2_has 3 = .ok (.iload_n 1, 1) := by decide +kernel
theorem dX2_has_4 : decode cX2_has 4 = .ok (.invokevirtual 135, 3) := by decide +kernel
theorem dX2_has_7 : decode cX2_has 7 = .ok (.istore 4, 2) := by decide +kernel
theorem dX2_has_9 : decode cX2_has 9 = .ok (.iload 4, 2) := by decide +kernel
theorem dX2_has_11 : decode cX2_has 11 = .ok (.ifCond .ne 16, 3) := by decide +kernel
theorem dX2_has_14 : decode cX2_has 14 = .ok (.aload_n 0, 1) := by decide +kernel
theorem dX2_has_15 : decode cX2_has 15 = .ok (.getfield 7, 3) := by decide +kernel
theorem dX2_has_18 : decode cX2_has 18 = .ok (.iload_n 1, 1) := by decide +kernel
theorem dX2_has_19 : decode cX2_has 19 = .ok (.iaload, 1) := by decide +kernel
theorem dX2_has_20 : decode cX2_has 20 = .ok (.lload_n 2, 1) := by decide +kernel
theorem dX2_has_21 : decode cX2_has 21 = .ok (.invokestatic 81, 3) := by decide +kernel
theorem dX2_has_24 : decode cX2_has 24 = .ok (.goto 4, 3) := by decide +kernel
theorem dX2_has_27 : decode cX2_has 27 = .ok (.lconst 0, 1) := by decide +kernel
theorem dX2_has_28 : decode cX2_has 28 = .ok (.lstore 5, 2) := by decide +kernel
theorem dX2_has_30 : decode cX2_has 30 = .ok (.iload 4, 2) := by decide +kernel
theorem dX2_has_32 : decode cX2_has 32 = .ok (.ifCond .ne 21, 3) := by decide +kernel
theorem dX2_has_35 : decode cX2_has 35 = .ok (.aload_n 0, 1) := by decide +kernel
theorem dX2_has_36 : decode cX2_has 36 = .ok (.getfield 7, 3) := by decide +kernel
theorem dX2_has_39 : decode cX2_has 39 = .ok (.iload_n 1, 1) := by decide +kernel
theorem dX2_has_40 : decode cX2_has 40 = .ok (.iaload, 1) := by decide +kernel
theorem dX2_has_41 : decode cX2_has 41 = .ok (.lload 5, 2) := by decide +kernel
theorem dX2_has_43 : decode cX2_has 43 = .ok (.invokestatic 131, 3) := by decide +kernel
theorem dX2_has_46 : decode cX2_has 46 = .ok (.ifCond .ne 7, 3) := by decide +kernel
theorem dX2_has_49 : decode cX2_has 49 = .ok (.bipush (-4), 2) := by decide +kernel
theorem dX2_has_51 : decode cX2_has 51 = .ok (.istore 4, 2) := by decide +kernel
theorem dX2_has_53 : decode cX2_has 53 = .ok (.iload 4, 2) := by decide +kernel
theorem dX2_has_55 : decode cX2_has 55 = .ok (.ifCond .ge 10, 3) := by decide +kernel
theorem dX2_has_58 : decode cX2_has 58 = .ok (.aload_n 0, 1) := by decide +kernel
theorem dX2_has_59 : decode cX2_has 59 = .ok (.iload 4, 2) := by decide +kernel
theorem dX2_has_61 : decode cX2_has 61 = .ok (.invokevirtual 128, 3) := by decide +kernel
theorem dX2_has_64 : decode cX2_has 64 = .ok (.ireturn, 1) := by decide +kernel
theorem dX2_has_65 : decode cX2_has 65 = .ok (.aload_n 0, 1) := by decide +kernel
theorem dX2_has_66 : decode cX2_has 66 = .ok (.aload_n 0, 1) := by decide +kernel
theorem dX2_has_67 : decode cX2_has 67 = .ok (.getfield 7, 3) := by decide +kernel
theorem dX2_has_70 : decode cX2_has 70 = .ok (.iload_n 1, 1) := by decide +kernel
theorem dX2_has_71 : decode cX2_has 71 = .ok (.iaload, 1) := by decide +kernel
theorem dX2_has_72 : decode cX2_has 72 = .ok (.aload_n 0, 1) := by decide +kernel
theorem dX2_has_73 : decode cX2_has 73 = .ok (.getfield 13, 3) := by decide +kernel
theorem dX2_has_76 : decode cX2_has 76 = .ok (.iload_n 1, 1) := by decide +kernel
theorem dX2_has_77 : decode cX2_has 77 = .ok (.laload, 1) := by decide +kernel
theorem dX2_has_78 : decode cX2_has 78 = .ok (.lload 5, 2) := by decide +kernel
theorem dX2_has_80 : decode cX2_has 80 = .ok (.invokestatic 77, 3) := by decide +kernel
theorem dX2_has_83 : decode cX2_has 83 = .ok (.ifCond .ne 23, 3) := by decide +kernel
theorem dX2_has_86 : decode cX2_has 86 = .ok (.aload_n 0, 1) := by decide +kernel
theorem dX2_has_87 : decode cX2_has 87 = .ok (.getfield 7, 3) := by decide +kernel
theorem dX2_has_90 : decode cX2_has 90 = .ok (.iload_n 1, 1) := by decide +kernel
theorem dX2_has_91 : decode cX2_has 91 = .ok (.iaload, 1) := by decide +kernel
theorem dX2_has_92 : decode cX2_has 92 = .ok (.lload 5, 2) := by decide +kernel
theorem dX2_has_94 : decode cX2_has 94 = .ok (.aload_n 0, 1) := by decide +kernel
theorem dX2_has_95 : decode cX2_has 95 = .ok (.getfield 17, 3) := by decide +kernel
theorem dX2_has_98 : decode cX2_has 98 = .ok (.iload_n 1, 1) := by decide +kernel
theorem dX2_has_99 : decode cX2_has 99 = .ok (.laload, 1) := by decide +kernel
theorem dX2_has_100 : decode cX2_has 100 = .ok (.invokestatic 77, 3) := by decide +kernel
theorem dX2_has_103 : decode cX2_has 103 = .ok (.ifCond .eq 7, 3) := by decide +kernel
theorem dX2_has_106 : decode cX2_has 106 = .ok (.iconst 0, 1) := by decide +kernel
theorem dX2_has_107 : decode cX2_has 107 = .ok (.goto 4, 3) := by decide +kernel
theorem dX2_has_110 : decode cX2_has 110 = .ok (.iconst 1, 1) := by decide +kernel
theorem dX2_has_111 : decode cX2_has 111 = .ok (.invokevirtual 113, 3) := by decide +kernel
theorem dX2_has_114 : decode cX2_has 114 = .ok (.ireturn, 1) := by decide +kernel
set_option maxRecDepth 20000 in
theorem ggX2_alike_X2_whyNot : GoodIn wsX2_alike wsX2_whyNot := goodIn_r _ [8, 1, 9, 10, 7, 11, 22, 23, 24, 25, 26, 27, 28, 29, 30, 31, 32, 33] (by decide +kernel) (by decide +kernel)
set_option maxRecDepth 20000 in
theorem gX2_alike_X2_whyNot : GoodIn wsX2_alike (wsV RX2 135 RX2 yX2_whyNot wsX2_whyNot) := goodIn_app (goodIn_of _ (by decide +kernel)) ggX2_alike_X2_whyNot
set_option maxRecDepth 20000 in
theorem ggX2_alike_X2_refuses : GoodIn wsX2_alike wsX2_refuses := goodIn_r _ [15, 16, 17, 22, 23, 24, 25, 26, 27, 28, 29, 30, 31, 32, 33] (by decide +kernel) (by decide +kernel)
set_option maxRecDepth 20000 in
theorem gX2_alike_X2_refuses : GoodIn wsX2_alike (wsV RX2 128 RX2 yX2_refuses wsX2_refuses) := goodIn_app (goodIn_of _ (by decide +kernel)) ggX2_alike_X2_refuses
set_option maxRecDepth 20000 in
theorem ggX2_alike_X2_says : GoodIn wsX2_alike wsX2_says := goodIn_r _ [21, 16, 22, 23, 24, 25, 26, 27, 28, 29, 30, 31, 32, 33] (by decide +kernel) (by decide +kernel)
set_option maxRecDepth 20000 in
theorem gX2_alike_X2_says : GoodIn wsX2_alike (wsV RX2 113 RX2 yX2_says wsX2_says) := goodIn_app (goodIn_of _ (by decide +kernel)) ggX2_alike_X2_says
theorem dX2_alike_0 : decode cX2_alike 0 = .ok (.aload_n 0, 1) := by decide +kernel
theorem dX2_alike_1 : decode cX2_alike 1 = .ok (.iload_n 1, 1) := by decide +kernel
theorem dX2_alike_2 : decode cX2_alike 2 = .ok (.iload_n 2, 1) := by decide +kernel
theorem dX2_alike_3 : decode cX2_alike 3 = .ok (.iload_n 1, 1) := by decide +kernel
theorem dX2_alike_4 : decode cX2_alike 4 = .ok (.invokevirtual 135, 3) := by decide +kernel
theorem dX2_alike_7 : decode cX2_alike 7 = .ok (.istore_n 3, 1) := by decide +kernel
theorem dX2_alike_8 : decode cX2_alike 8 = .ok (.iload_n 3, 1) := by decide +kernel
theorem dX2_alike_9 : decode cX2_alike 9 = .ok (.ifCond .ge 9, 3) := by decide +kernel
theorem dX2_alike_12 : decode cX2_alike 12 = .ok (.aload_n 0, 1) := by decide +kernel
theorem dX2_alike_13 : decode cX2_alike 13 = .ok (.iload_n 3, 1) := by decide +kernel
theorem dX2_alike_14 : decode cX2_alike 14 = .ok (.invokevirtual 128, 3) := by decide +kernel
theorem dX2_alike_17 : decode cX2_alike 17 = .ok (.ireturn, 1) := by decide +kernel
theorem dX2_alike_18 : decode cX2_alike 18 = .ok (.aload_n 0, 1) := by decide +kernel
theorem dX2_alike_19 : decode cX2_alike 19 = .ok (.aload_n 0, 1) := by decide +kernel
theorem dX2_alike_20 : decode cX2_alike 20 = .ok (.getfield 7, 3) := by decide +kernel
theorem dX2_alike_23 : decode cX2_alike 23 = .ok (.iload_n 1, 1) := by decide +kernel
theorem dX2_alike_24 : decode cX2_alike 24 = .ok (.iaload, 1) := by decide +kernel
theorem dX2_alike_25 : decode cX2_alike 25 = .ok (.aload_n 0, 1) := by decide +kernel
theorem dX2_alike_26 : decode cX2_alike 26 = .ok (.getfield 7, 3) := by decide +kernel
theorem dX2_alike_29 : decode cX2_alike 29 = .ok (.iload_n 2, 1) := by decide +kernel
theorem dX2_alike_30 : decode cX2_alike 30 = .ok (.iaload, 1) := by decide +kernel
theorem dX2_alike_31 : decode cX2_alike 31 = .ok (.if_icmp .ne 39, 3) := by decide +kernel
theorem dX2_alike_34 : decode cX2_alike 34 = .ok (.aload_n 0, 1) := by decide +kernel
theorem dX2_alike_35 : decode cX2_alike 35 = .ok (.getfield 13, 3) := by decide +kernel
theorem dX2_alike_38 : decode cX2_alike 38 = .ok (.iload_n 1, 1) := by decide +kernel
theorem dX2_alike_39 : decode cX2_alike 39 = .ok (.laload, 1) := by decide +kernel
theorem dX2_alike_40 : decode cX2_alike 40 = .ok (.aload_n 0, 1) := by decide +kernel
theorem dX2_alike_41 : decode cX2_alike 41 = .ok (.getfield 13, 3) := by decide +kernel
theorem dX2_alike_44 : decode cX2_alike 44 = .ok (.iload_n 2, 1) := by decide +kernel
theorem dX2_alike_45 : decode cX2_alike 45 = .ok (.laload, 1) := by decide +kernel
theorem dX2_alike_46 : decode cX2_alike 46 = .ok (.lcmp, 1) := by decide +kernel
theorem dX2_alike_47 : decode cX2_alike 47 = .ok (.ifCond .ne 23, 3) := by decide +kernel
theorem dX2_alike_50 : decode cX2_alike 50 = .ok (.aload_n 0, 1) := by decide +kernel
theorem dX2_alike_51 : decode cX2_alike 51 = .ok (.getfield 17, 3) := by decide +kernel
theorem dX2_alike_54 : decode cX2_alike 54 = .ok (.iload_n 1, 1) := by decide +kernel
theorem dX2_alike_55 : decode cX2_alike 55 = .ok (.laload, 1) := by decide +kernel
theorem dX2_alike_56 : decode cX2_alike 56 = .ok (.aload_n 0, 1) := by decide +kernel
theorem dX2_alike_57 : decode cX2_alike 57 = .ok (.getfield 17, 3) := by decide +kernel
theorem dX2_alike_60 : decode cX2_alike 60 = .ok (.iload_n 2, 1) := by decide +kernel
theorem dX2_alike_61 : decode cX2_alike 61 = .ok (.laload, 1) := by decide +kernel
theorem dX2_alike_62 : decode cX2_alike 62 = .ok (.lcmp, 1) := by decide +kernel
theorem dX2_alike_63 : decode cX2_alike 63 = .ok (.ifCond .ne 7, 3) := by decide +kernel
theorem dX2_alike_66 : decode cX2_alike 66 = .ok (.iconst 1, 1) := by decide +kernel
theorem dX2_alike_67 : decode cX2_alike 67 = .ok (.goto 4, 3) := by decide +kernel
theorem dX2_alike_70 : decode cX2_alike 70 = .ok (.iconst 0, 1) := by decide +kernel
theorem dX2_alike_71 : decode cX2_alike 71 = .ok (.invokevirtual 113, 3) := by decide +kernel
theorem dX2_alike_74 : decode cX2_alike 74 = .ok (.ireturn, 1) := by decide +kernel
set_option maxRecDepth 20000 in
theorem ggX2_step_X2_isSlot : GoodIn wsX2_step wsX2_isSlot := goodIn_r _ [9] (by decide +kernel) (by decide +kernel)
set_option maxRecDepth 20000 in
theorem gX2_step_X2_isSlot : GoodIn wsX2_step (va_wsS RX2 43 yX2_isSlot wsX2_isSlot) := goodIn_app (goodIn_of _ (by decide +kernel)) ggX2_step_X2_isSlot
set_option maxRecDepth 20000 in
theorem ggX2_step_X2_refuses : GoodIn wsX2_step wsX2_refuses := goodIn_r _ [13, 14, 15, 20, 21, 22, 23, 24, 25, 26, 27, 28, 29, 30, 31] (by decide +kernel) (by decide +kernel)
set_option maxRecDepth 20000 in
theorem gX2_step_X2_refuses : GoodIn wsX2_step (wsV RX2 128 RX2 yX2_refuses wsX2_refuses) := goodIn_app (goodIn_of _ (by decide +kernel)) ggX2_step_X2_refuses
set_option maxRecDepth 20000 in
theorem ggX2_step_X2_says : GoodIn wsX2_step wsX2_says := goodIn_r _ [19, 14, 20, 21, 22, 23, 24, 25, 26, 27, 28, 29, 30, 31] (by decide +kernel) (by decide +kernel)
set_option maxRecDepth 20000 in
theorem gX2_step_X2_says : GoodIn wsX2_step (wsV RX2 113 RX2 yX2_says wsX2_says) := goodIn_app (goodIn_of _ (by decide +kernel)) ggX2_step_X2_says
theorem dX2_step_0 : decode cX2_step 0 = .ok (.iload_n 2, 1) := by decide +kernel
theorem dX2_step_1 : decode cX2_step 1 = .ok (.ifCond .eq 13, 3) := by decide +kernel
theorem dX2_step_4 : decode cX2_step 4 = .ok (.iload_n 2, 1) := by decide +kernel
theorem dX2_step_5 : decode cX2_step 5 = .ok (.iconst 1, 1) := by decide +kernel
theorem dX2_step_6 : decode cX2_step 6 = .ok (.if_icmp .eq 8, 3) := by decide +kernel
theorem dX2_step_9 : decode cX2_step 9 = .ok (.iload_n 2, 1) := by decide +kernel
theorem dX2_step_10 : decode cX2_step 10 = .ok (.iconst 5, 1) := by decide +kernel
theorem dX2_step_11 : decode cX2_step 11 = .ok (.if_icmp .ne 7, 3) := by decide +kernel
theorem dX2_step_14 : decode cX2_step 14 = .ok (.iconst 1, 1) := by decide +kernel
theorem dX2_step_15 : decode cX2_step 15 = .ok (.goto 4, 3) := by decide +kernel
theorem dX2_step_18 : decode cX2_step 18 = .ok (.iconst 0, 1) := by decide +kernel
theorem dX2_step_19 : decode cX2_step 19 = .ok (.istore 6, 2) := by decide +kernel
theorem dX2_step_21 : decode cX2_step 21 = .ok (.iload_n 3, 1) := by decide +kernel
theorem dX2_step_22 : decode cX2_step 22 = .ok (.invokestatic 43, 3) := by decide +kernel
theorem dX2_step_25 : decode cX2_step 25 = .ok (.ifCond .eq 24, 3) := by decide +kernel
theorem dX2_step_28 : decode cX2_step 28 = .ok (.iload 5, 2) := by decide +kernel
theorem dX2_step_30 : decode cX2_step 30 = .ok (.invokestatic 43, 3) := by decide +kernel
theorem dX2_step_33 : decode cX2_step 33 = .ok (.ifCond .eq 16, 3) := by decide +kernel
theorem dX2_step_36 : decode cX2_step 36 = .ok (.iload 6, 2) := by decide +kernel
theorem dX2_step_38 : decode cX2_step 38 = .ok (.ifCond .eq 18, 3) := by decide +kernel
theorem dX2_step_41 : decode cX2_step 41 = .ok (.iload 4, 2) := by decide +kernel
theorem dX2_step_43 : decode cX2_step 43 = .ok (.invokestatic 43, 3) := by decide +kernel
theorem dX2_step_46 : decode cX2_step 46 = .ok (.ifCond .ne 10, 3) := by decide +kernel
theorem dX2_step_49 : decode cX2_step 49 = .ok (.aload_n 0, 1) := by decide +kernel
theorem dX2_step_50 : decode cX2_step 50 = .ok (.bipush (-2), 2) := by decide +kernel
theorem dX2_step_52 : decode cX2_step 52 = .ok (.invokevirtual 128, 3) := by decide +kernel
theorem dX2_step_55 : decode cX2_step 55 = .ok (.ireturn, 1) := by decide +kernel
theorem dX2_step_56 : decode cX2_step 56 = .ok (.iload_n 1, 1) := by decide +kernel
theorem dX2_step_57 : decode cX2_step 57 = .ok (.ifCond .lt 19, 3) := by decide +kernel
theorem dX2_step_60 : decode cX2_step 60 = .ok (.iload_n 1, 1) := by decide +kernel
theorem dX2_step_61 : decode cX2_step 61 = .ok (.bipush 12, 2) := by decide +kernel
theorem dX2_step_63 : decode cX2_step 63 = .ok (.if_icmp .ge 13, 3) := by decide +kernel
theorem dX2_step_66 : decode cX2_step 66 = .ok (.iload_n 2, 1) := by decide +kernel
theorem dX2_step_67 : decode cX2_step 67 = .ok (.ifCond .lt 9, 3) := by decide +kernel
theorem dX2_step_70 : decode cX2_step 70 = .ok (.iload_n 2, 1) := by decide +kernel
theorem dX2_step_71 : decode cX2_step 71 = .ok (.bipush 7, 2) := by decide +kernel
theorem dX2_step_73 : decode cX2_step 73 = .ok (.if_icmp .le 10, 3) := by decide +kernel
theorem dX2_step_76 : decode cX2_step 76 = .ok (.aload_n 0, 1) := by decide +kernel
theorem dX2_step_77 : decode cX2_step 77 = .ok (.bipush (-5), 2) := by decide +kernel
theorem dX2_step_79 : decode cX2_step 79 = .ok (.invokevirtual 128, 3) := by decide +kernel
theorem dX2_step_82 : decode cX2_step 82 = .ok (.ireturn, 1) := by decide +kernel
theorem dX2_step_83 : decode cX2_step 83 = .ok (.aload_n 0, 1) := by decide +kernel
theorem dX2_step_84 : decode cX2_step 84 = .ok (.getfield 20, 3) := by decide +kernel
theorem dX2_step_87 : decode cX2_step 87 = .ok (.iload_n 1, 1) := by decide +kernel
theorem dX2_step_88 : decode cX2_step 88 = .ok (.iconst 1, 1) := by decide +kernel
theorem dX2_step_89 : decode cX2_step 89 = .ok (.bastore, 1) := by decide +kernel
theorem dX2_step_90 : decode cX2_step 90 = .ok (.aload_n 0, 1) := by decide +kernel
theorem dX2_step_91 : decode cX2_step 91 = .ok (.getfield 24, 3) := by decide +kernel
theorem dX2_step_94 : decode cX2_step 94 = .ok (.iload_n 1, 1) := by decide +kernel
theorem dX2_step_95 : decode cX2_step 95 = .ok (.iload_n 2, 1) := by decide +kernel
theorem dX2_step_96 : decode cX2_step 96 = .ok (.iastore, 1) := by decide +kernel
theorem dX2_step_97 : decode cX2_step 97 = .ok (.aload_n 0, 1) := by decide +kernel
theorem dX2_step_98 : decode cX2_step 98 = .ok (.getfield 27, 3) := by decide +kernel
theorem dX2_step_101 : decode cX2_step 101 = .ok (.iload_n 1, 1) := by decide +kernel
theorem dX2_step_102 : decode cX2_step 102 = .ok (.iload_n 3, 1) := by decide +kernel
theorem dX2_step_103 : decode cX2_step 103 = .ok (.iastore, 1) := by decide +kernel
theorem dX2_step_104 : decode cX2_step 104 = .ok (.aload_n 0, 1) := by decide +kernel
theorem dX2_step_105 : decode cX2_step 105 = .ok (.getfield 30, 3) := by decide +kernel
theorem dX2_step_108 : decode cX2_step 108 = .ok (.iload_n 1, 1) := by decide +kernel
theorem dX2_step_109 : decode cX2_step 109 = .ok (.iload 4, 2) := by decide +kernel
theorem dX2_step_111 : decode cX2_step 111 = .ok (.iastore, 1) := by decide +kernel
theorem dX2_step_112 : decode cX2_step 112 = .ok (.aload_n 0, 1) := by decide +kernel
theorem dX2_step_113 : decode cX2_step 113 = .ok (.getfield 33, 3) := by decide +kernel
theorem dX2_step_116 : decode cX2_step 116 = .ok (.iload_n 1, 1) := by decide +kernel
theorem dX2_step_117 : decode cX2_step 117 = .ok (.iload 5, 2) := by decide +kernel
theorem dX2_step_119 : decode cX2_step 119 = .ok (.iastore, 1) := by decide +kernel
theorem dX2_step_120 : decode cX2_step 120 = .ok (.aload_n 0, 1) := by decide +kernel
theorem dX2_step_121 : decode cX2_step 121 = .ok (.iconst 1, 1) := by decide +kernel
theorem dX2_step_122 : decode cX2_step 122 = .ok (.invokevirtual 113, 3) := by decide +kernel
theorem dX2_step_125 : decode cX2_step 125 = .ok (.ireturn, 1) := by decide +kernel
set_option maxRecDepth 20000 in
theorem ggX2_does_X2_hull : GoodIn wsX2_does wsX2_hull := goodIn_r _ [9, 10, 11, 12, 13, 14, 15, 8, 16, 17, 18, 19, 20, 21, 22, 23, 24, 25, 26, 27, 28, 29, 30, 31, 32, 33, 34, 35, 36, 37, 38, 39, 40, 41, 42, 43, 44, 45, 46, 47, 48, 49, 50, 152, 153, 154, 155, 156, 157, 158, 159, 160, 161, 162, 163] (by decide +kernel) (by decide +kernel)
set_option maxRecDepth 20000 in
theorem gX2_does_X2_hull : GoodIn wsX2_does (wsV RX2 172 RX2 yX2_hull wsX2_hull) := goodIn_app (goodIn_of _ (by decide +kernel)) ggX2_does_X2_hull
set_option maxRecDepth 20000 in
theorem ggX2_does_X2_meet : GoodIn wsX2_does wsX2_meet := goodIn_r _ [54, 10, 11, 12, 13, 14, 15, 8, 16, 17, 18, 19, 20, 21, 22, 23, 24, 25, 40, 41, 42, 29, 30, 31, 32, 33, 34, 35, 36, 37, 38, 39, 26, 27, 28, 55, 56, 57, 58, 47, 48, 49, 50, 43, 44, 45, 46, 152, 153, 154, 155, 156, 157, 158, 159, 160, 161, 162, 163] (by decide +kernel) (by decide +kernel)
set_option maxRecDepth 20000 in
theorem gX2_does_X2_meet : GoodIn wsX2_does (wsV RX2 175 RX2 yX2_meet wsX2_meet) := goodIn_app (goodIn_of _ (by decide +kernel)) ggX2_does_X2_meet
set_option maxRecDepth 20000 in
theorem ggX2_does_X2_size : GoodIn wsX2_does wsX2_size := goodIn_r _ [62, 10, 11, 12, 13, 14, 15, 8, 16, 17, 18, 19, 20, 21, 22, 23, 24, 25, 63, 64, 65, 37, 38, 39, 66, 67, 68, 35, 36, 69, 70, 71, 72, 73, 74, 40, 41, 42, 29, 30, 31, 32, 33, 34, 75, 76, 77, 78, 26, 27, 28, 43, 44, 45, 46, 47, 48, 49, 50, 152, 153, 154, 155, 156, 157, 158, 159, 160, 161, 162, 163] (by decide +kernel) (by decide +kernel)
set_option maxRecDepth 20000 in
theorem gX2_does_X2_size : GoodIn wsX2_does (wsV RX2 178 RX2 yX2_size wsX2_size) := goodIn_app (goodIn_of _ (by decide +kernel)) ggX2_does_X2_size
set_option maxRecDepth 20000 in
theorem ggX2_does_X2_round : GoodIn wsX2_does wsX2_round := goodIn_r _ [82, 10, 11, 12, 13, 14, 15, 8, 16, 17, 18, 19, 37, 38, 39, 20, 21, 22, 23, 24, 25, 83, 84, 85, 86, 66, 67, 68, 35, 36, 87, 88, 89, 90, 91, 92, 93, 94, 95, 96, 29, 30, 31, 32, 33, 34, 55, 56, 57, 58, 47, 48, 49, 50, 43, 44, 45, 46, 152, 153, 154, 155, 156, 157, 158, 159, 160, 161, 162, 163] (by decide +kernel) (by decide +kernel)
set_option maxRecDepth 20000 in
theorem gX2_does_X2_round : GoodIn wsX2_does (wsV RX2 182 RX2 yX2_round wsX2_round) := goodIn_app (goodIn_of _ (by decide +kernel)) ggX2_does_X2_round
set_option maxRecDepth 20000 in
theorem ggX2_does_X2_sign : GoodIn wsX2_does wsX2_sign := goodIn_r _ [100, 10, 11, 12, 13, 14, 15, 8, 16, 17, 18, 19, 37, 38, 39, 20, 21, 22, 23, 24, 25, 101, 102, 103, 63, 64, 65, 66, 67, 68, 35, 36, 87, 88, 89, 90, 91, 92, 93, 94, 95, 96, 43, 44, 45, 46, 47, 48, 49, 50, 152, 153, 154, 155, 156, 157, 158, 159, 160, 161, 162, 163] (by decide +kernel) (by decide +kernel)
set_option maxRecDepth 20000 in
theorem gX2_does_X2_sign : GoodIn wsX2_does (wsV RX2 185 RX2 yX2_sign wsX2_sign) := goodIn_app (goodIn_of _ (by decide +kernel)) ggX2_does_X2_sign
set_option maxRecDepth 20000 in
theorem ggX2_does_X2_lend : GoodIn wsX2_does wsX2_lend := goodIn_r _ [107, 10, 11, 12, 13, 14, 15, 8, 16, 17, 18, 19, 37, 38, 39, 20, 21, 22, 23, 24, 25, 66, 67, 68, 35, 36, 92, 93, 94, 95, 96, 75, 76, 77, 78, 26, 27, 28, 29, 30, 31, 32, 33, 34, 40, 41, 42, 43, 44, 45, 46, 47, 48, 49, 50, 152, 153, 154, 155, 156, 157, 158, 159, 160, 161, 162, 163] (by decide +kernel) (by decide +kernel)
set_option maxRecDepth 20000 in
theorem gX2_does_X2_lend : GoodIn wsX2_does (wsV RX2 188 RX2 yX2_lend wsX2_lend) := goodIn_app (goodIn_of _ (by decide +kernel)) ggX2_does_X2_lend
set_option maxRecDepth 20000 in
theorem ggX2_does_X2_turn : GoodIn wsX2_does wsX2_turn := goodIn_r _ [111, 10, 11, 12, 13, 14, 15, 8, 16, 17, 18, 19, 20, 21, 22, 23, 24, 25, 112, 113, 114, 37, 38, 39, 66, 67, 68, 35, 36, 92, 93, 94, 95, 96, 72, 73, 74, 75, 76, 77, 78, 26, 27, 28, 29, 30, 31, 32, 33, 34, 40, 41, 42, 43, 44, 45, 46, 47, 48, 49, 50, 152, 153, 154, 155, 156, 157, 158, 159, 160, 161, 162, 163] (by decide +kernel) (by decide +kernel)
set_option maxRecDepth 20000 in
theorem gX2_does_X2_turn : GoodIn wsX2_does (wsV RX2 191 RX2 yX2_turn wsX2_turn) := goodIn_app (goodIn_of _ (by decide +kernel)) ggX2_does_X2_turn
set_option maxRecDepth 20000 in
theorem ggX2_does_X2_as : GoodIn wsX2_does wsX2_as := goodIn_r _ [118, 10, 11, 12, 13, 14, 15, 8, 16, 17, 18, 19, 20, 21, 22, 23, 24, 25, 119, 120, 121, 122, 123, 124, 125, 126, 127, 128, 129, 37, 38, 39, 72, 73, 74, 130, 131, 132, 133, 134, 135, 136, 137, 138, 139, 140, 141, 142, 143, 144, 145, 146, 147, 148, 149, 150, 151, 75, 76, 77, 78, 26, 27, 28, 29, 30, 31, 32, 33, 34, 35, 36, 40, 41, 42, 43, 44, 45, 46, 47, 48, 49, 50, 152, 153, 154, 155, 156, 157, 158, 159, 160, 161, 162, 163] (by decide +kernel) (by decide +kernel)
set_option maxRecDepth 20000 in
theorem gX2_does_X2_as : GoodIn wsX2_does (wsV RX2 194 RX2 yX2_as wsX2_as) := goodIn_app (goodIn_of _ (by decide +kernel)) ggX2_does_X2_as
theorem dX2_does_0 : decode cX2_does 0 = .ok (.aload_n 0, 1) := by decide +kernel
theorem dX2_does_1 : decode cX2_does 1 = .ok (.getfield 27, 3) := by decide +kernel
theorem dX2_does_4 : decode cX2_does 4 = .ok (.iload_n 1, 1) := by decide +kernel
theorem dX2_does_5 : decode cX2_does 5 = .ok (.iaload, 1) := by decide +kernel
theorem dX2_does_6 : decode cX2_does 6 = .ok (.istore_n 2, 1) := by decide +kernel
theorem dX2_does_7 : decode cX2_does 7 = .ok (.aload_n 0, 1) := by decide +kernel
theorem dX2_does_8 : decode cX2_does 8 = .ok (.getfield 30, 3) := by decide +kernel
theorem dX2_does_11 : decode cX2_does 11 = .ok (.iload_n 1, 1) := by decide +kernel
theorem dX2_does_12 : decode cX2_does 12 = .ok (.iaload, 1) := by decide +kernel
theorem dX2_does_13 : decode cX2_does 13 = .ok (.istore_n 3, 1) := by decide +kernel
theorem dX2_does_14 : decode cX2_does 14 = .ok (.aload_n 0, 1) := by decide +kernel
theorem dX2_does_15 : decode cX2_does 15 = .ok (.getfield 24, 3) := by decide +kernel
theorem dX2_does_18 : decode cX2_does 18 = .ok (.iload_n 1, 1) := by decide +kernel
theorem dX2_does_19 : decode cX2_does 19 = .ok (.iaload, 1) := by decide +kernel
theorem dX2_does_20 : decode cX2_does 20 = .ok (.tableswitch 132 0 6 #[44, 57, 70, 82, 95, 107, 120], 44) := by decide +kernel
theorem dX2_does_64 : decode cX2_does 64 = .ok (.aload_n 0, 1) := by decide +kernel
theorem dX2_does_65 : decode cX2_does 65 = .ok (.iload_n 2, 1) := by decide +kernel
theorem dX2_does_66 : decode cX2_does 66 = .ok (.iload_n 3, 1) := by decide +kernel
theorem dX2_does_67 : decode cX2_does 67 = .ok (.aload_n 0, 1) := by decide +kernel
theorem dX2_does_68 : decode cX2_does 68 = .ok (.getfield 33, 3) := by decide +kernel
theorem dX2_does_71 : decode cX2_does 71 = .ok (.iload_n 1, 1) := by decide +kernel
theorem dX2_does_72 : decode cX2_does 72 = .ok (.iaload, 1) := by decide +kernel
theorem dX2_does_73 : decode cX2_does 73 = .ok (.invokevirtual 172, 3) := by decide +kernel
theorem dX2_does_76 : decode cX2_does 76 = .ok (.ireturn, 1) := by decide +kernel
theorem dX2_does_77 : decode cX2_does 77 = .ok (.aload_n 0, 1) := by decide +kernel
theorem dX2_does_78 : decode cX2_does 78 = .ok (.iload_n 2, 1) := by decide +kernel
theorem dX2_does_79 : decode cX2_does 79 = .ok (.iload_n 3, 1) := by decide +kernel
theorem dX2_does_80 : decode cX2_does 80 = .ok (.aload_n 0, 1) := by decide +kernel
theorem dX2_does_81 : decode cX2_does 81 = .ok (.getfield 33, 3) := by decide +kernel
theorem dX2_does_84 : decode cX2_does 84 = .ok (.iload_n 1, 1) := by decide +kernel
theorem dX2_does_85 : decode cX2_does 85 = .ok (.iaload, 1) := by decide +kernel
theorem dX2_does_86 : decode cX2_does 86 = .ok (.invokevirtual 175, 3) := by decide +kernel
theorem dX2_does_89 : decode cX2_does 89 = .ok (.ireturn, 1) := by decide +kernel
theorem dX2_does_90 : decode cX2_does 90 = .ok (.aload_n 0, 1) := by decide +kernel
theorem dX2_does_91 : decode cX2_does 91 = .ok (.iload_n 2, 1) := by decide +kernel
theorem dX2_does_92 : decode cX2_does 92 = .ok (.aload_n 0, 1) := by decide +kernel
theorem dX2_does_93 : decode cX2_does 93 = .ok (.getfield 33, 3) := by decide +kernel
theorem dX2_does_96 : decode cX2_does 96 = .ok (.iload_n 1, 1) := by decide +kernel
theorem dX2_does_97 : decode cX2_does 97 = .ok (.iaload, 1) := by decide +kernel
theorem dX2_does_98 : decode cX2_does 98 = .ok (.invokevirtual 178, 3) := by decide +kernel
theorem dX2_does_101 : decode cX2_does 101 = .ok (.ireturn, 1) := by decide +kernel
theorem dX2_does_102 : decode cX2_does 102 = .ok (.aload_n 0, 1) := by decide +kernel
theorem dX2_does_103 : decode cX2_does 103 = .ok (.iload_n 2, 1) := by decide +kernel
theorem dX2_does_104 : decode cX2_does 104 = .ok (.iload_n 3, 1) := by decide +kernel
theorem dX2_does_105 : decode cX2_does 105 = .ok (.aload_n 0, 1) := by decide +kernel
theorem dX2_does_106 : decode cX2_does 106 = .ok (.getfield 33, 3) := by decide +kernel
theorem dX2_does_109 : decode cX2_does 109 = .ok (.iload_n 1, 1) := by decide +kernel
theorem dX2_does_110 : decode cX2_does 110 = .ok (.iaload, 1) := by decide +kernel
theorem dX2_does_111 : decode cX2_does 111 = .ok (.invokevirtual 182, 3) := by decide +kernel
theorem dX2_does_114 : decode cX2_does 114 = .ok (.ireturn, 1) := by decide +kernel
theorem dX2_does_115 : decode cX2_does 115 = .ok (.aload_n 0, 1) := by decide +kernel
theorem dX2_does_116 : decode cX2_does 116 = .ok (.iload_n 2, 1) := by decide +kernel
theorem dX2_does_117 : decode cX2_does 117 = .ok (.aload_n 0, 1) := by decide +kernel
theorem dX2_does_118 : decode cX2_does 118 = .ok (.getfield 33, 3) := by decide +kernel
theorem dX2_does_121 : decode cX2_does 121 = .ok (.iload_n 1, 1) := by decide +kernel
theorem dX2_does_122 : decode cX2_does 122 = .ok (.iaload, 1) := by decide +kernel
theorem dX2_does_123 : decode cX2_does 123 = .ok (.invokevirtual 185, 3) := by decide +kernel
theorem dX2_does_126 : decode cX2_does 126 = .ok (.ireturn, 1) := by decide +kernel
theorem dX2_does_127 : decode cX2_does 127 = .ok (.aload_n 0, 1) := by decide +kernel
theorem dX2_does_128 : decode cX2_does 128 = .ok (.iload_n 2, 1) := by decide +kernel
theorem dX2_does_129 : decode cX2_does 129 = .ok (.iload_n 3, 1) := by decide +kernel
theorem dX2_does_130 : decode cX2_does 130 = .ok (.aload_n 0, 1) := by decide +kernel
theorem dX2_does_131 : decode cX2_does 131 = .ok (.getfield 33, 3) := by decide +kernel
theorem dX2_does_134 : decode cX2_does 134 = .ok (.iload_n 1, 1) := by decide +kernel
theorem dX2_does_135 : decode cX2_does 135 = .ok (.iaload, 1) := by decide +kernel
theorem dX2_does_136 : decode cX2_does 136 = .ok (.invokevirtual 188, 3) := by decide +kernel
theorem dX2_does_139 : decode cX2_does 139 = .ok (.ireturn, 1) := by decide +kernel
theorem dX2_does_140 : decode cX2_does 140 = .ok (.aload_n 0, 1) := by decide +kernel
theorem dX2_does_141 : decode cX2_does 141 = .ok (.iload_n 2, 1) := by decide +kernel
theorem dX2_does_142 : decode cX2_does 142 = .ok (.aload_n 0, 1) := by decide +kernel
theorem dX2_does_143 : decode cX2_does 143 = .ok (.getfield 33, 3) := by decide +kernel
theorem dX2_does_146 : decode cX2_does 146 = .ok (.iload_n 1, 1) := by decide +kernel
theorem dX2_does_147 : decode cX2_does 147 = .ok (.iaload, 1) := by decide +kernel
theorem dX2_does_148 : decode cX2_does 148 = .ok (.invokevirtual 191, 3) := by decide +kernel
theorem dX2_does_151 : decode cX2_does 151 = .ok (.ireturn, 1) := by decide +kernel
theorem dX2_does_152 : decode cX2_does 152 = .ok (.aload_n 0, 1) := by decide +kernel
theorem dX2_does_153 : decode cX2_does 153 = .ok (.iload_n 2, 1) := by decide +kernel
theorem dX2_does_154 : decode cX2_does 154 = .ok (.iload_n 3, 1) := by decide +kernel
theorem dX2_does_155 : decode cX2_does 155 = .ok (.aload_n 0, 1) := by decide +kernel
theorem dX2_does_156 : decode cX2_does 156 = .ok (.getfield 33, 3) := by decide +kernel
theorem dX2_does_159 : decode cX2_does 159 = .ok (.iload_n 1, 1) := by decide +kernel
theorem dX2_does_160 : decode cX2_does 160 = .ok (.iaload, 1) := by decide +kernel
theorem dX2_does_161 : decode cX2_does 161 = .ok (.invokevirtual 194, 3) := by decide +kernel
theorem dX2_does_164 : decode cX2_does 164 = .ok (.ireturn, 1) := by decide +kernel
set_option maxRecDepth 20000 in
theorem ggX2_run_X2_refuses : GoodIn wsX2_run wsX2_refuses := goodIn_r _ [8, 1, 9, 158, 159, 160, 161, 162, 163, 164, 165, 166, 167, 168, 169] (by decide +kernel) (by decide +kernel)
set_option maxRecDepth 20000 in
theorem gX2_run_X2_refuses : GoodIn wsX2_run (wsV RX2 128 RX2 yX2_refuses wsX2_refuses) := goodIn_app (goodIn_of _ (by decide +kernel)) ggX2_run_X2_refuses
set_option maxRecDepth 20000 in
theorem ggX2_run_X2_does : GoodIn wsX2_run wsX2_does := goodIn_r _ [13, 14, 15, 16, 17, 18, 19, 20, 7, 21, 22, 23, 24, 25, 26, 27, 28, 29, 30, 31, 4, 5, 6, 8, 1, 9, 32, 33, 34, 35, 36, 37, 38, 39, 40, 41, 42, 43, 44, 45, 46, 47, 48, 49, 50, 51, 52, 53, 54, 55, 56, 57, 58, 59, 60, 61, 62, 63, 64, 65, 66, 67, 68, 69, 70, 71, 72, 73, 74, 75, 76, 77, 78, 79, 80, 81, 82, 83, 84, 85, 86, 87, 88, 89, 90, 91, 92, 93, 94, 95, 96, 97, 98, 99, 100, 101, 102, 103, 104, 105, 106, 107, 108, 109, 110, 111, 112, 113, 114, 115, 116, 117, 118, 119, 120, 121, 122, 123, 124, 125, 126, 127, 128, 129, 130, 131, 132, 133, 134, 135, 136, 137, 138, 139, 140, 141, 142, 143, 144, 145, 146, 147, 148, 149, 150, 151, 152, 153, 154, 155, 156, 157, 158, 159, 160, 161, 162, 163, 164, 165, 166, 167, 168, 169] (by decide +kernel) (by decide +kernel)
set_option maxRecDepth 20000 in
theorem gX2_run_X2_does : GoodIn wsX2_run (wsV RX2 197 RX2 yX2_does wsX2_does) := goodIn_app (goodIn_of _ (by decide +kernel)) ggX2_run_X2_does
theorem dX2_run_0 : decode cX2_run 0 = .ok (.iload_n 1, 1) := by decide +kernel
theorem dX2_run_1 : decode cX2_run 1 = .ok (.ifCond .lt 19, 3) := by decide +kernel
theorem dX2_run_4 : decode cX2_run 4 = .ok (.iload_n 1, 1) := by decide +kernel
theorem dX2_run_5 : decode cX2_run 5 = .ok (.bipush 12, 2) := by decide +kernel
theorem dX2_run_7 : decode cX2_run 7 = .ok (.if_icmp .ge 13, 3) := by decide +kernel
theorem dX2_run_10 : decode cX2_run 10 = .ok (.iload_n 2, 1) := by decide +kernel
theorem dX2_run_11 : decode cX2_run 11 = .ok (.ifCond .lt 9, 3) := by decide +kernel
theorem dX2_run_14 : decode cX2_run 14 = .ok (.iload_n 2, 1) := by decide +kernel
theorem dX2_run_15 : decode cX2_run 15 = .ok (.bipush 12, 2) := by decide +kernel
theorem dX2_run_17 : decode cX2_run 17 = .ok (.if_icmp .le 10, 3) := by decide +kernel
theorem dX2_run_20 : decode cX2_run 20 = .ok (.aload_n 0, 1) := by decide +kernel
theorem dX2_run_21 : decode cX2_run 21 = .ok (.bipush (-5), 2) := by decide +kernel
theorem dX2_run_23 : decode cX2_run 23 = .ok (.invokevirtual 128, 3) := by decide +kernel
theorem dX2_run_26 : decode cX2_run 26 = .ok (.ireturn, 1) := by decide +kernel
theorem dX2_run_27 : decode cX2_run 27 = .ok (.aload_n 0, 1) := by decide +kernel
theorem dX2_run_28 : decode cX2_run 28 = .ok (.iconst 0, 1) := by decide +kernel
theorem dX2_run_29 : decode cX2_run 29 = .ok (.putfield 36, 3) := by decide +kernel
theorem dX2_run_32 : decode cX2_run 32 = .ok (.iconst 0, 1) := by decide +kernel
theorem dX2_run_33 : decode cX2_run 33 = .ok (.istore_n 3, 1) := by decide +kernel
theorem dX2_run_34 : decode cX2_run 34 = .ok (.iload_n 1, 1) := by decide +kernel
theorem dX2_run_35 : decode cX2_run 35 = .ok (.istore 4, 2) := by decide +kernel
theorem dX2_run_37 : decode cX2_run 37 = .ok (.iload 4, 2) := by decide +kernel
theorem dX2_run_39 : decode cX2_run 39 = .ok (.bipush 12, 2) := by decide +kernel
theorem dX2_run_41 : decode cX2_run 41 = .ok (.if_icmp .ge 49, 3) := by decide +kernel
theorem dX2_run_44 : decode cX2_run 44 = .ok (.iload_n 3, 1) := by decide +kernel
theorem dX2_run_45 : decode cX2_run 45 = .ok (.iload_n 2, 1) := by decide +kernel
theorem dX2_run_46 : decode cX2_run 46 = .ok (.if_icmp .ge 44, 3) := by decide +kernel
theorem dX2_run_49 : decode cX2_run 49 = .ok (.aload_n 0, 1) := by decide +kernel
theorem dX2_run_50 : decode cX2_run 50 = .ok (.getfield 20, 3) := by decide +kernel
theorem dX2_run_53 : decode cX2_run 53 = .ok (.iload 4, 2) := by decide +kernel
theorem dX2_run_55 : decode cX2_run 55 = .ok (.baload, 1) := by decide +kernel
theorem dX2_run_56 : decode cX2_run 56 = .ok (.ifCond .eq 34, 3) := by decide +kernel
theorem dX2_run_59 : decode cX2_run 59 = .ok (.aload_n 0, 1) := by decide +kernel
theorem dX2_run_60 : decode cX2_run 60 = .ok (.iload 4, 2) := by decide +kernel
theorem dX2_run_62 : decode cX2_run 62 = .ok (.invokevirtual 197, 3) := by decide +kernel
theorem dX2_run_65 : decode cX2_run 65 = .ok (.ifCond .ge 6, 3) := by decide +kernel
theorem dX2_run_68 : decode cX2_run 68 = .ok (.goto 22, 3) := by decide +kernel
theorem dX2_run_71 : decode cX2_run 71 = .ok (.iinc 3 1, 3) := by decide +kernel
theorem dX2_run_74 : decode cX2_run 74 = .ok (.aload_n 0, 1) := by decide +kernel
theorem dX2_run_75 : decode cX2_run 75 = .ok (.dup, 1) := by decide +kernel
theorem dX2_run_76 : decode cX2_run 76 = .ok (.getfield 200, 3) := by decide +kernel
theorem dX2_run_79 : decode cX2_run 79 = .ok (.iconst 1, 1) := by decide +kernel
theorem dX2_run_80 : decode cX2_run 80 = .ok (.iadd, 1) := by decide +kernel
theorem dX2_run_81 : decode cX2_run 81 = .ok (.putfield 200, 3) := by decide +kernel
theorem dX2_run_84 : decode cX2_run 84 = .ok (.iinc 4 1, 3) := by decide +kernel
theorem dX2_run_87 : decode cX2_run 87 = .ok (.goto (-50), 3) := by decide +kernel
theorem dX2_run_90 : decode cX2_run 90 = .ok (.iload_n 3, 1) := by decide +kernel
theorem dX2_run_91 : decode cX2_run 91 = .ok (.ireturn, 1) := by decide +kernel
theorem dX2_state_0 : decode cX2_state 0 = .ok (.aload_n 0, 1) := by decide +kernel
theorem dX2_state_1 : decode cX2_state 1 = .ok (.getfield 36, 3) := by decide +kernel
theorem dX2_state_4 : decode cX2_state 4 = .ok (.ireturn, 1) := by decide +kernel
theorem dX2_about_0 : decode cX2_about 0 = .ok (.iconst 0, 1) := by decide +kernel
theorem dX2_about_1 : decode cX2_about 1 = .ok (.istore_n 2, 1) := by decide +kernel
theorem dX2_about_2 : decode cX2_about 2 = .ok (.iconst 0, 1) := by decide +kernel
theorem dX2_about_3 : decode cX2_about 3 = .ok (.istore_n 3, 1) := by decide +kernel
theorem dX2_about_4 : decode cX2_about 4 = .ok (.iload_n 3, 1) := by decide +kernel
theorem dX2_about_5 : decode cX2_about 5 = .ok (.bipush 16, 2) := by decide +kernel
theorem dX2_about_7 : decode cX2_about 7 = .ok (.if_icmp .ge 31, 3) := by decide +kernel
theorem dX2_about_10 : decode cX2_about 10 = .ok (.iload_n 1, 1) := by decide +kernel
theorem dX2_about_11 : decode cX2_about 11 = .ok (.ifCond .ne 27, 3) := by decide +kernel
theorem dX2_about_14 : decode cX2_about 14 = .ok (.iload_n 2, 1) := by decide +kernel
theorem dX2_about_15 : decode cX2_about 15 = .ok (.aload_n 0, 1) := by decide +kernel
theorem dX2_about_16 : decode cX2_about 16 = .ok (.getfield 7, 3) := by decide +kernel
theorem dX2_about_19 : decode cX2_about 19 = .ok (.iload_n 3, 1) := by decide +kernel
theorem dX2_about_20 : decode cX2_about 20 = .ok (.iaload, 1) := by decide +kernel
theorem dX2_about_21 : decode cX2_about 21 = .ok (.iconst (-1), 1) := by decide +kernel
theorem dX2_about_22 : decode cX2_about 22 = .ok (.if_icmp .ne 7, 3) := by decide +kernel
theorem dX2_about_25 : decode cX2_about 25 = .ok (.iconst 0, 1) := by decide +kernel
theorem dX2_about_26 : decode cX2_about 26 = .ok (.goto 4, 3) := by decide +kernel
theorem dX2_about_29 : decode cX2_about 29 = .ok (.iconst 1, 1) := by decide +kernel
