theorem dX1_placed_52 : decode cX1_placed 52 = .ok (.iload_n 2, 1) := by decide +kernel
theorem dX1_placed_53 : decode cX1_placed 53 = .ok (.lload 9, 2) := by decide +kernel
theorem dX1_placed_55 : decode cX1_placed 55 = .ok (.lload 7, 2) := by decide +kernel
theorem dX1_placed_57 : decode cX1_placed 57 = .ok (.invokestatic 72, 3) := by decide +kernel
theorem dX1_placed_60 : decode cX1_placed 60 = .ok (.ifCond .eq 6, 3) := by decide +kernel
theorem dX1_placed_63 : decode cX1_placed 63 = .ok (.bipush (-5), 2) := by decide +kernel
theorem dX1_placed_65 : decode cX1_placed 65 = .ok (.ireturn, 1) := by decide +kernel
theorem dX1_placed_66 : decode cX1_placed 66 = .ok (.aload_n 0, 1) := by decide +kernel
theorem dX1_placed_67 : decode cX1_placed 67 = .ok (.iload_n 1, 1) := by decide +kernel
theorem dX1_placed_68 : decode cX1_placed 68 = .ok (.iload_n 2, 1) := by decide +kernel
theorem dX1_placed_69 : decode cX1_placed 69 = .ok (.lload 7, 2) := by decide +kernel
theorem dX1_placed_71 : decode cX1_placed 71 = .ok (.lload 9, 2) := by decide +kernel
theorem dX1_placed_73 : decode cX1_placed 73 = .ok (.invokevirtual 106, 3) := by decide +kernel
theorem dX1_placed_76 : decode cX1_placed 76 = .ok (.ireturn, 1) := by decide +kernel
set_option maxRecDepth 20000 in
theorem ggX1_performed_X1_refusalToPerform : GoodIn wsX1_performed wsX1_refusalToPerform := goodIn_r _ [5, 6, 7, 8, 4, 9, 10, 11, 12, 13, 14, 15, 172, 173, 174, 175, 176, 177, 178, 179, 180, 181, 182] (by decide +kernel) (by decide +kernel)
set_option maxRecDepth 20000 in
theorem gX1_performed_X1_refusalToPerform : GoodIn wsX1_performed (wsV RX1 109 RX1 yX1_refusalToPerform wsX1_refusalToPerform) := goodIn_app (goodIn_of _ (by decide +kernel)) ggX1_performed_X1_refusalToPerform
set_option maxRecDepth 20000 in
theorem ggX1_performed_X1_joined : GoodIn wsX1_performed wsX1_joined := goodIn_r _ [19, 6, 20, 21, 22, 23, 24, 25, 26, 27, 28, 29, 30, 31, 32, 33, 34, 35, 36, 37, 38, 39, 40, 41, 4, 42, 172, 173, 174, 175, 176, 177, 178, 179, 180, 181, 182] (by decide +kernel) (by decide +kernel)
set_option maxRecDepth 20000 in
theorem gX1_performed_X1_joined : GoodIn wsX1_performed (wsV RX1 112 RX1 yX1_joined wsX1_joined) := goodIn_app (goodIn_of _ (by decide +kernel)) ggX1_performed_X1_joined
set_option maxRecDepth 20000 in
theorem ggX1_performed_X1_cut : GoodIn wsX1_performed wsX1_cut := goodIn_r _ [46, 6, 20, 21, 36, 37, 24, 38, 26, 27, 28, 29, 30, 31, 32, 33, 34, 35, 22, 23, 25, 47, 48, 49, 4, 50, 51, 39, 40, 41, 42, 172, 173, 174, 175, 176, 177, 178, 179, 180, 181, 182] (by decide +kernel) (by decide +kernel)
set_option maxRecDepth 20000 in
theorem gX1_performed_X1_cut : GoodIn wsX1_performed (wsV RX1 116 RX1 yX1_cut wsX1_cut) := goodIn_app (goodIn_of _ (by decide +kernel)) ggX1_performed_X1_cut
set_option maxRecDepth 20000 in
theorem ggX1_performed_X1_sized : GoodIn wsX1_performed wsX1_sized := goodIn_r _ [55, 6, 20, 21, 56, 57, 24, 58, 59, 60, 61, 29, 30, 31, 62, 63, 64, 65, 66, 67, 68, 69, 70, 71, 72, 73, 74, 75, 76, 77, 78, 79, 80, 81, 82, 36, 37, 38, 26, 27, 28, 32, 33, 34, 35, 83, 84, 85, 4, 86, 22, 23, 25, 39, 40, 41, 42, 172, 173, 174, 175, 176, 177, 178, 179, 180, 181, 182] (by decide +kernel) (by decide +kernel)
set_option maxRecDepth 20000 in
theorem gX1_performed_X1_sized : GoodIn wsX1_performed (wsV RX1 119 RX1 yX1_sized wsX1_sized) := goodIn_app (goodIn_of _ (by decide +kernel)) ggX1_performed_X1_sized
set_option maxRecDepth 20000 in
theorem ggX1_performed_X1_rounded : GoodIn wsX1_performed wsX1_rounded := goodIn_r _ [90, 6, 20, 21, 91, 30, 24, 31, 92, 93, 94, 76, 77, 78, 79, 62, 63, 64, 65, 66, 95, 96, 97, 98, 99, 100, 101, 102, 103, 104, 105, 106, 107, 108, 109, 110, 111, 112, 113, 114, 115, 116, 117, 118, 47, 48, 49, 4, 50, 51, 27, 28, 29, 32, 33, 34, 35, 39, 40, 41, 42, 172, 173, 174, 175, 176, 177, 178, 179, 180, 181, 182] (by decide +kernel) (by decide +kernel)
set_option maxRecDepth 20000 in
theorem gX1_performed_X1_rounded : GoodIn wsX1_performed (wsV RX1 123 RX1 yX1_rounded wsX1_rounded) := goodIn_app (goodIn_of _ (by decide +kernel)) ggX1_performed_X1_rounded
set_option maxRecDepth 20000 in
theorem ggX1_performed_X1_signed : GoodIn wsX1_performed wsX1_signed := goodIn_r _ [122, 6, 20, 21, 91, 30, 24, 31, 123, 124, 125, 73, 74, 75, 29, 76, 77, 78, 79, 62, 63, 64, 65, 66, 110, 111, 112, 104, 105, 106, 101, 102, 103, 116, 117, 118, 39, 40, 41, 4, 42, 172, 173, 174, 175, 176, 177, 178, 179, 180, 181, 182] (by decide +kernel) (by decide +kernel)
set_option maxRecDepth 20000 in
theorem gX1_performed_X1_signed : GoodIn wsX1_performed (wsV RX1 126 RX1 yX1_signed wsX1_signed) := goodIn_app (goodIn_of _ (by decide +kernel)) ggX1_performed_X1_signed
set_option maxRecDepth 20000 in
theorem ggX1_performed_X1_lent : GoodIn wsX1_performed wsX1_lent := goodIn_r _ [129, 6, 20, 21, 91, 30, 24, 31, 130, 117, 118, 76, 77, 78, 79, 62, 63, 64, 65, 66, 83, 84, 85, 4, 86, 22, 23, 25, 26, 27, 28, 29, 32, 33, 34, 35, 36, 37, 38, 39, 40, 41, 42, 172, 173, 174, 175, 176, 177, 178, 179, 180, 181, 182] (by decide +kernel) (by decide +kernel)
set_option maxRecDepth 20000 in
theorem gX1_performed_X1_lent : GoodIn wsX1_performed (wsV RX1 129 RX1 yX1_lent wsX1_lent) := goodIn_app (goodIn_of _ (by decide +kernel)) ggX1_performed_X1_lent
set_option maxRecDepth 20000 in
theorem ggX1_performed_X1_turned : GoodIn wsX1_performed wsX1_turned := goodIn_r _ [134, 6, 20, 21, 135, 60, 24, 61, 29, 30, 31, 62, 63, 64, 65, 66, 67, 68, 69, 83, 84, 85, 4, 86, 22, 23, 25, 26, 27, 28, 32, 33, 34, 35, 36, 37, 38, 39, 40, 41, 42, 172, 173, 174, 175, 176, 177, 178, 179, 180, 181, 182] (by decide +kernel) (by decide +kernel)
set_option maxRecDepth 20000 in
theorem gX1_performed_X1_turned : GoodIn wsX1_performed (wsV RX1 132 RX1 yX1_turned wsX1_turned) := goodIn_app (goodIn_of _ (by decide +kernel)) ggX1_performed_X1_turned
set_option maxRecDepth 20000 in
theorem ggX1_performed_X1_converted : GoodIn wsX1_performed wsX1_converted := goodIn_r _ [139, 6, 20, 21, 140, 141, 4, 142, 143, 144, 24, 145, 29, 30, 31, 146, 147, 148, 76, 77, 78, 79, 62, 63, 64, 65, 66, 98, 99, 100, 101, 102, 103, 104, 105, 106, 149, 150, 151, 152, 35, 153, 154, 155, 67, 68, 69, 156, 157, 158, 159, 160, 161, 113, 114, 115, 162, 163, 164, 165, 166, 167, 168, 169, 170, 171, 83, 84, 85, 86, 22, 23, 25, 26, 27, 28, 32, 33, 34, 36, 37, 38, 39, 40, 41, 42, 172, 173, 174, 175, 176, 177, 178, 179, 180, 181, 182] (by decide +kernel) (by decide +kernel)
set_option maxRecDepth 20000 in
theorem gX1_performed_X1_converted : GoodIn wsX1_performed (wsV RX1 135 RX1 yX1_converted wsX1_converted) := goodIn_app (goodIn_of _ (by decide +kernel)) ggX1_performed_X1_converted
theorem dX1_performed_0 : decode cX1_performed 0 = .ok (.aload_n 0, 1) := by decide +kernel
theorem dX1_performed_1 : decode cX1_performed 1 = .ok (.iload_n 1, 1) := by decide +kernel
theorem dX1_performed_2 : decode cX1_performed 2 = .ok (.iload_n 2, 1) := by decide +kernel
theorem dX1_performed_3 : decode cX1_performed 3 = .ok (.iload_n 3, 1) := by decide +kernel
theorem dX1_performed_4 : decode cX1_performed 4 = .ok (.iload 4, 2) := by decide +kernel
theorem dX1_performed_6 : decode cX1_performed 6 = .ok (.invokevirtual 109, 3) := by decide +kernel
theorem dX1_performed_9 : decode cX1_performed 9 = .ok (.istore 5, 2) := by decide +kernel
theorem dX1_performed_11 : decode cX1_performed 11 = .ok (.iload 5, 2) := by decide +kernel
theorem dX1_performed_13 : decode cX1_performed 13 = .ok (.ifCond .ge 6, 3) := by decide +kernel
theorem dX1_performed_16 : decode cX1_performed 16 = .ok (.iload 5, 2) := by decide +kernel
theorem dX1_performed_18 : decode cX1_performed 18 = .ok (.ireturn, 1) := by decide +kernel
theorem dX1_performed_19 : decode cX1_performed 19 = .ok (.iload_n 1, 1) := by decide +kernel
theorem dX1_performed_20 : decode cX1_performed 20 = .ok (.tableswitch 104 0 6 #[44, 53, 62, 70, 79, 87, 96], 44) := by decide +kernel
theorem dX1_performed_64 : decode cX1_performed 64 = .ok (.aload_n 0, 1) := by decide +kernel
theorem dX1_performed_65 : decode cX1_performed 65 = .ok (.iload_n 2, 1) := by decide +kernel
theorem dX1_performed_66 : decode cX1_performed 66 = .ok (.iload_n 3, 1) := by decide +kernel
theorem dX1_performed_67 : decode cX1_performed 67 = .ok (.iload 4, 2) := by decide +kernel
theorem dX1_performed_69 : decode cX1_performed 69 = .ok (.invokevirtual 112, 3) := by decide +kernel
theorem dX1_performed_72 : decode cX1_performed 72 = .ok (.ireturn, 1) := by decide +kernel
theorem dX1_performed_73 : decode cX1_performed 73 = .ok (.aload_n 0, 1) := by decide +kernel
theorem dX1_performed_74 : decode cX1_performed 74 = .ok (.iload_n 2, 1) := by decide +kernel
theorem dX1_performed_75 : decode cX1_performed 75 = .ok (.iload_n 3, 1) := by decide +kernel
theorem dX1_performed_76 : decode cX1_performed 76 = .ok (.iload 4, 2) := by decide +kernel
theorem dX1_performed_78 : decode cX1_performed 78 = .ok (.invokevirtual 116, 3) := by decide +kernel
theorem dX1_performed_81 : decode cX1_performed 81 = .ok (.ireturn, 1) := by decide +kernel
theorem dX1_performed_82 : decode cX1_performed 82 = .ok (.aload_n 0, 1) := by decide +kernel
theorem dX1_performed_83 : decode cX1_performed 83 = .ok (.iload_n 2, 1) := by decide +kernel
theorem dX1_performed_84 : decode cX1_performed 84 = .ok (.iload 4, 2) := by decide +kernel
theorem dX1_performed_86 : decode cX1_performed 86 = .ok (.invokevirtual 119, 3) := by decide +kernel
theorem dX1_performed_89 : decode cX1_performed 89 = .ok (.ireturn, 1) := by decide +kernel
theorem dX1_performed_90 : decode cX1_performed 90 = .ok (.aload_n 0, 1) := by decide +kernel
theorem dX1_performed_91 : decode cX1_performed 91 = .ok (.iload_n 2, 1) := by decide +kernel
theorem dX1_performed_92 : decode cX1_performed 92 = .ok (.iload_n 3, 1) := by decide +kernel
theorem dX1_performed_93 : decode cX1_performed 93 = .ok (.iload 4, 2) := by decide +kernel
theorem dX1_performed_95 : decode cX1_performed 95 = .ok (.invokevirtual 123, 3) := by decide +kernel
theorem dX1_performed_98 : decode cX1_performed 98 = .ok (.ireturn, 1) := by decide +kernel
theorem dX1_performed_99 : decode cX1_performed 99 = .ok (.aload_n 0, 1) := by decide +kernel
theorem dX1_performed_100 : decode cX1_performed 100 = .ok (.iload_n 2, 1) := by decide +kernel
theorem dX1_performed_101 : decode cX1_performed 101 = .ok (.iload 4, 2) := by decide +kernel
theorem dX1_performed_103 : decode cX1_performed 103 = .ok (.invokevirtual 126, 3) := by decide +kernel
theorem dX1_performed_106 : decode cX1_performed 106 = .ok (.ireturn, 1) := by decide +kernel
theorem dX1_performed_107 : decode cX1_performed 107 = .ok (.aload_n 0, 1) := by decide +kernel
theorem dX1_performed_108 : decode cX1_performed 108 = .ok (.iload_n 2, 1) := by decide +kernel
theorem dX1_performed_109 : decode cX1_performed 109 = .ok (.iload_n 3, 1) := by decide +kernel
theorem dX1_performed_110 : decode cX1_performed 110 = .ok (.iload 4, 2) := by decide +kernel
theorem dX1_performed_112 : decode cX1_performed 112 = .ok (.invokevirtual 129, 3) := by decide +kernel
theorem dX1_performed_115 : decode cX1_performed 115 = .ok (.ireturn, 1) := by decide +kernel
theorem dX1_performed_116 : decode cX1_performed 116 = .ok (.aload_n 0, 1) := by decide +kernel
theorem dX1_performed_117 : decode cX1_performed 117 = .ok (.iload_n 2, 1) := by decide +kernel
theorem dX1_performed_118 : decode cX1_performed 118 = .ok (.iload 4, 2) := by decide +kernel
theorem dX1_performed_120 : decode cX1_performed 120 = .ok (.invokevirtual 132, 3) := by decide +kernel
theorem dX1_performed_123 : decode cX1_performed 123 = .ok (.ireturn, 1) := by decide +kernel
theorem dX1_performed_124 : decode cX1_performed 124 = .ok (.aload_n 0, 1) := by decide +kernel
theorem dX1_performed_125 : decode cX1_performed 125 = .ok (.iload_n 2, 1) := by decide +kernel
theorem dX1_performed_126 : decode cX1_performed 126 = .ok (.iload_n 3, 1) := by decide +kernel
theorem dX1_performed_127 : decode cX1_performed 127 = .ok (.iload 4, 2) := by decide +kernel
theorem dX1_performed_129 : decode cX1_performed 129 = .ok (.invokevirtual 135, 3) := by decide +kernel
theorem dX1_performed_132 : decode cX1_performed 132 = .ok (.ireturn, 1) := by decide +kernel
set_option maxRecDepth 20000 in
theorem ggX1_refusalToPerform_X1_areSlots : GoodIn wsX1_refusalToPerform wsX1_areSlots := goodIn_r _ [5, 6, 7, 4, 8, 9, 10, 11] (by decide +kernel) (by decide +kernel)
set_option maxRecDepth 20000 in
theorem gX1_refusalToPerform_X1_areSlots : GoodIn wsX1_refusalToPerform (va_wsS RX1 76 yX1_areSlots wsX1_areSlots) := goodIn_app (goodIn_of _ (by decide +kernel)) ggX1_refusalToPerform_X1_areSlots
set_option maxRecDepth 20000 in
theorem ggX1_refusalToPerform_X1_takesTwo : GoodIn wsX1_refusalToPerform wsX1_takesTwo := goodIn_r _ [11] (by decide +kernel) (by decide +kernel)
set_option maxRecDepth 20000 in
theorem gX1_refusalToPerform_X1_takesTwo : GoodIn wsX1_refusalToPerform (va_wsS RX1 96 yX1_takesTwo wsX1_takesTwo) := goodIn_app (goodIn_of _ (by decide +kernel)) ggX1_refusalToPerform_X1_takesTwo
theorem dX1_refusalToPerform_0 : decode cX1_refusalToPerform 0 = .ok (.iload_n 1, 1) := by decide +kernel
theorem dX1_refusalToPerform_1 : decode cX1_refusalToPerform 1 = .ok (.iload_n 2, 1) := by decide +kernel
theorem dX1_refusalToPerform_2 : decode cX1_refusalToPerform 2 = .ok (.iload_n 3, 1) := by decide +kernel
theorem dX1_refusalToPerform_3 : decode cX1_refusalToPerform 3 = .ok (.iload 4, 2) := by decide +kernel
theorem dX1_refusalToPerform_5 : decode cX1_refusalToPerform 5 = .ok (.invokestatic 76, 3) := by decide +kernel
theorem dX1_refusalToPerform_8 : decode cX1_refusalToPerform 8 = .ok (.ifCond .ne 6, 3) := by decide +kernel
theorem dX1_refusalToPerform_11 : decode cX1_refusalToPerform 11 = .ok (.bipush (-2), 2) := by decide +kernel
theorem dX1_refusalToPerform_13 : decode cX1_refusalToPerform 13 = .ok (.ireturn, 1) := by decide +kernel
theorem dX1_refusalToPerform_14 : decode cX1_refusalToPerform 14 = .ok (.aload_n 0, 1) := by decide +kernel
theorem dX1_refusalToPerform_15 : decode cX1_refusalToPerform 15 = .ok (.getfield 9, 3) := by decide +kernel
theorem dX1_refusalToPerform_18 : decode cX1_refusalToPerform 18 = .ok (.iload_n 2, 1) := by decide +kernel
theorem dX1_refusalToPerform_19 : decode cX1_refusalToPerform 19 = .ok (.iaload, 1) := by decide +kernel
theorem dX1_refusalToPerform_20 : decode cX1_refusalToPerform 20 = .ok (.iconst (-1), 1) := by decide +kernel
theorem dX1_refusalToPerform_21 : decode cX1_refusalToPerform 21 = .ok (.if_icmp .ne 6, 3) := by decide +kernel
theorem dX1_refusalToPerform_24 : decode cX1_refusalToPerform 24 = .ok (.bipush (-3), 2) := by decide +kernel
theorem dX1_refusalToPerform_26 : decode cX1_refusalToPerform 26 = .ok (.ireturn, 1) := by decide +kernel
theorem dX1_refusalToPerform_27 : decode cX1_refusalToPerform 27 = .ok (.iload_n 1, 1) := by decide +kernel
theorem dX1_refusalToPerform_28 : decode cX1_refusalToPerform 28 = .ok (.invokestatic 96, 3) := by decide +kernel
theorem dX1_refusalToPerform_31 : decode cX1_refusalToPerform 31 = .ok (.ifCond .ne 5, 3) := by decide +kernel
theorem dX1_refusalToPerform_34 : decode cX1_refusalToPerform 34 = .ok (.iconst 0, 1) := by decide +kernel
theorem dX1_refusalToPerform_35 : decode cX1_refusalToPerform 35 = .ok (.ireturn, 1) := by decide +kernel
theorem dX1_refusalToPerform_36 : decode cX1_refusalToPerform 36 = .ok (.aload_n 0, 1) := by decide +kernel
theorem dX1_refusalToPerform_37 : decode cX1_refusalToPerform 37 = .ok (.getfield 9, 3) := by decide +kernel
theorem dX1_refusalToPerform_40 : decode cX1_refusalToPerform 40 = .ok (.iload_n 3, 1) := by decide +kernel
theorem dX1_refusalToPerform_41 : decode cX1_refusalToPerform 41 = .ok (.iaload, 1) := by decide +kernel
theorem dX1_refusalToPerform_42 : decode cX1_refusalToPerform 42 = .ok (.iconst (-1), 1) := by decide +kernel
theorem dX1_refusalToPerform_43 : decode cX1_refusalToPerform 43 = .ok (.if_icmp .ne 6, 3) := by decide +kernel
theorem dX1_refusalToPerform_46 : decode cX1_refusalToPerform 46 = .ok (.bipush (-3), 2) := by decide +kernel
theorem dX1_refusalToPerform_48 : decode cX1_refusalToPerform 48 = .ok (.ireturn, 1) := by decide +kernel
theorem dX1_refusalToPerform_49 : decode cX1_refusalToPerform 49 = .ok (.aload_n 0, 1) := by decide +kernel
theorem dX1_refusalToPerform_50 : decode cX1_refusalToPerform 50 = .ok (.getfield 9, 3) := by decide +kernel
theorem dX1_refusalToPerform_53 : decode cX1_refusalToPerform 53 = .ok (.iload_n 2, 1) := by decide +kernel
theorem dX1_refusalToPerform_54 : decode cX1_refusalToPerform 54 = .ok (.iaload, 1) := by decide +kernel
theorem dX1_refusalToPerform_55 : decode cX1_refusalToPerform 55 = .ok (.aload_n 0, 1) := by decide +kernel
theorem dX1_refusalToPerform_56 : decode cX1_refusalToPerform 56 = .ok (.getfield 9, 3) := by decide +kernel
theorem dX1_refusalToPerform_59 : decode cX1_refusalToPerform 59 = .ok (.iload_n 3, 1) := by decide +kernel
theorem dX1_refusalToPerform_60 : decode cX1_refusalToPerform 60 = .ok (.iaload, 1) := by decide +kernel
theorem dX1_refusalToPerform_61 : decode cX1_refusalToPerform 61 = .ok (.if_icmp .ne 7, 3) := by decide +kernel
theorem dX1_refusalToPerform_64 : decode cX1_refusalToPerform 64 = .ok (.iconst 0, 1) := by decide +kernel
theorem dX1_refusalToPerform_65 : decode cX1_refusalToPerform 65 = .ok (.goto 5, 3) := by decide +kernel
theorem dX1_refusalToPerform_68 : decode cX1_refusalToPerform 68 = .ok (.bipush (-4), 2) := by decide +kernel
theorem dX1_refusalToPerform_70 : decode cX1_refusalToPerform 70 = .ok (.ireturn, 1) := by decide +kernel
set_option maxRecDepth 20000 in
theorem ggX1_joined_X0_lesser : GoodIn wsX1_joined wsX0_lesser := goodIn_r _ [7, 8, 9, 6, 10, 11, 12, 13, 14, 15, 16, 17] (by decide +kernel) (by decide +kernel)
set_option maxRecDepth 20000 in
theorem gX1_joined_X0_lesser : GoodIn wsX1_joined (va_wsS RX1 69 yX0_lesser wsX0_lesser) := goodIn_app (goodIn_of _ (by decide +kernel)) ggX1_joined_X0_lesser
set_option maxRecDepth 20000 in
theorem ggX1_joined_X0_greater : GoodIn wsX1_joined wsX0_greater := goodIn_r _ [20, 8, 9, 6, 10, 11, 12, 13, 14, 15, 16, 17] (by decide +kernel) (by decide +kernel)
set_option maxRecDepth 20000 in
theorem gX1_joined_X0_greater : GoodIn wsX1_joined (va_wsS RX1 65 yX0_greater wsX0_greater) := goodIn_app (goodIn_of _ (by decide +kernel)) ggX1_joined_X0_greater
set_option maxRecDepth 20000 in
theorem ggX1_joined_X1_put : GoodIn wsX1_joined wsX1_put := goodIn_r _ [25, 1, 2, 3, 26, 27, 28, 29, 30, 31, 32, 33, 34, 35, 36] (by decide +kernel) (by decide +kernel)
set_option maxRecDepth 20000 in
theorem gX1_joined_X1_put : GoodIn wsX1_joined (wsV RX1 106 RX1 yX1_put wsX1_put) := goodIn_app (goodIn_of _ (by decide +kernel)) ggX1_joined_X1_put
theorem dX1_joined_0 : decode cX1_joined 0 = .ok (.aload_n 0, 1) := by decide +kernel
theorem dX1_joined_1 : decode cX1_joined 1 = .ok (.getfield 9, 3) := by decide +kernel
theorem dX1_joined_4 : decode cX1_joined 4 = .ok (.iload_n 1, 1) := by decide +kernel
theorem dX1_joined_5 : decode cX1_joined 5 = .ok (.iaload, 1) := by decide +kernel
theorem dX1_joined_6 : decode cX1_joined 6 = .ok (.istore 4, 2) := by decide +kernel
theorem dX1_joined_8 : decode cX1_joined 8 = .ok (.iload 4, 2) := by decide +kernel
theorem dX1_joined_10 : decode cX1_joined 10 = .ok (.aload_n 0, 1) := by decide +kernel
theorem dX1_joined_11 : decode cX1_joined 11 = .ok (.getfield 13, 3) := by decide +kernel
theorem dX1_joined_14 : decode cX1_joined 14 = .ok (.iload_n 1, 1) := by decide +kernel
theorem dX1_joined_15 : decode cX1_joined 15 = .ok (.laload, 1) := by decide +kernel
theorem dX1_joined_16 : decode cX1_joined 16 = .ok (.aload_n 0, 1) := by decide +kernel
theorem dX1_joined_17 : decode cX1_joined 17 = .ok (.getfield 13, 3) := by decide +kernel
theorem dX1_joined_20 : decode cX1_joined 20 = .ok (.iload_n 2, 1) := by decide +kernel
theorem dX1_joined_21 : decode cX1_joined 21 = .ok (.laload, 1) := by decide +kernel
theorem dX1_joined_22 : decode cX1_joined 22 = .ok (.invokestatic 69, 3) := by decide +kernel
theorem dX1_joined_25 : decode cX1_joined 25 = .ok (.lstore 5, 2) := by decide +kernel
theorem dX1_joined_27 : decode cX1_joined 27 = .ok (.iload 4, 2) := by decide +kernel
theorem dX1_joined_29 : decode cX1_joined 29 = .ok (.aload_n 0, 1) := by decide +kernel
theorem dX1_joined_30 : decode cX1_joined 30 = .ok (.getfield 17, 3) := by decide +kernel
theorem dX1_joined_33 : decode cX1_joined 33 = .ok (.iload_n 1, 1) := by decide +kernel
theorem dX1_joined_34 : decode cX1_joined 34 = .ok (.laload, 1) := by decide +kernel
theorem dX1_joined_35 : decode cX1_joined 35 = .ok (.aload_n 0, 1) := by decide +kernel
theorem dX1_joined_36 : decode cX1_joined 36 = .ok (.getfield 17, 3) := by decide +kernel
theorem dX1_joined_39 : decode cX1_joined 39 = .ok (.iload_n 2, 1) := by decide +kernel
theorem dX1_joined_40 : decode cX1_joined 40 = .ok (.laload, 1) := by decide +kernel
theorem dX1_joined_41 : decode cX1_joined 41 = .ok (.invokestatic 65, 3) := by decide +kernel
theorem dX1_joined_44 : decode cX1_joined 44 = .ok (.lstore 7, 2) := by decide +kernel
theorem dX1_joined_46 : decode cX1_joined 46 = .ok (.aload_n 0, 1) := by decide +kernel
theorem dX1_joined_47 : decode cX1_joined 47 = .ok (.iload_n 3, 1) := by decide +kernel
theorem dX1_joined_48 : decode cX1_joined 48 = .ok (.iload 4, 2) := by decide +kernel
theorem dX1_joined_50 : decode cX1_joined 50 = .ok (.lload 5, 2) := by decide +kernel
theorem dX1_joined_52 : decode cX1_joined 52 = .ok (.lload 7, 2) := by decide +kernel
theorem dX1_joined_54 : decode cX1_joined 54 = .ok (.invokevirtual 106, 3) := by decide +kernel
theorem dX1_joined_57 : decode cX1_joined 57 = .ok (.ireturn, 1) := by decide +kernel
set_option maxRecDepth 20000 in
theorem ggX1_cut_X0_greater : GoodIn wsX1_cut wsX0_greater := goodIn_r _ [7, 8, 9, 6, 10, 11, 12, 13, 14, 15, 16, 17] (by decide +kernel) (by decide +kernel)
set_option maxRecDepth 20000 in
theorem gX1_cut_X0_greater : GoodIn wsX1_cut (va_wsS RX1 65 yX0_greater wsX0_greater) := goodIn_app (goodIn_of _ (by decide +kernel)) ggX1_cut_X0_greater
set_option maxRecDepth 20000 in
theorem ggX1_cut_X0_lesser : GoodIn wsX1_cut wsX0_lesser := goodIn_r _ [20, 8, 9, 6, 10, 11, 12, 13, 14, 15, 16, 17] (by decide +kernel) (by decide +kernel)
set_option maxRecDepth 20000 in
theorem gX1_cut_X0_lesser : GoodIn wsX1_cut (va_wsS RX1 69 yX0_lesser wsX0_lesser) := goodIn_app (goodIn_of _ (by decide +kernel)) ggX1_cut_X0_lesser
set_option maxRecDepth 20000 in
theorem ggX1_cut_X1_putIfAny : GoodIn wsX1_cut wsX1_putIfAny := goodIn_r _ [25, 1, 26, 9, 6, 10, 11, 12, 13, 14, 15, 16, 17, 27, 28, 29, 24, 30, 2, 3, 31, 32, 33, 34, 35, 36, 37, 38, 39, 40, 41] (by decide +kernel) (by decide +kernel)
set_option maxRecDepth 20000 in
theorem gX1_cut_X1_putIfAny : GoodIn wsX1_cut (wsV RX1 138 RX1 yX1_putIfAny wsX1_putIfAny) := goodIn_app (goodIn_of _ (by decide +kernel)) ggX1_cut_X1_putIfAny
theorem dX1_cut_0 : decode cX1_cut 0 = .ok (.aload_n 0, 1) := by decide +kernel
theorem dX1_cut_1 : decode cX1_cut 1 = .ok (.getfield 9, 3) := by decide +kernel
theorem dX1_cut_4 : decode cX1_cut 4 = .ok (.iload_n 1, 1) := by decide +kernel
theorem dX1_cut_5 : decode cX1_cut 5 = .ok (.iaload, 1) := by decide +kernel
theorem dX1_cut_6 : decode cX1_cut 6 = .ok (.istore 4, 2) := by decide +kernel
theorem dX1_cut_8 : decode cX1_cut 8 = .ok (.iload 4, 2) := by decide +kernel
theorem dX1_cut_10 : decode cX1_cut 10 = .ok (.aload_n 0, 1) := by decide +kernel
theorem dX1_cut_11 : decode cX1_cut 11 = .ok (.getfield 13, 3) := by decide +kernel
theorem dX1_cut_14 : decode cX1_cut 14 = .ok (.iload_n 1, 1) := by decide +kernel
theorem dX1_cut_15 : decode cX1_cut 15 = .ok (.laload, 1) := by decide +kernel
theorem dX1_cut_16 : decode cX1_cut 16 = .ok (.aload_n 0, 1) := by decide +kernel
theorem dX1_cut_17 : decode cX1_cut 17 = .ok (.getfield 13, 3) := by decide +kernel
theorem dX1_cut_20 : decode cX1_cut 20 = .ok (.iload_n 2, 1) := by decide +kernel
theorem dX1_cut_21 : decode cX1_cut 21 = .ok (.laload, 1) := by decide +kernel
theorem dX1_cut_22 : decode cX1_cut 22 = .ok (.invokestatic 65, 3) := by decide +kernel
theorem dX1_cut_25 : decode cX1_cut 25 = .ok (.lstore 5, 2) := by decide +kernel
theorem dX1_cut_27 : decode cX1_cut 27 = .ok (.iload 4, 2) := by decide +kernel
theorem dX1_cut_29 : decode cX1_cut 29 = .ok (.aload_n 0, 1) := by decide +kernel
theorem dX1_cut_30 : decode cX1_cut 30 = .ok (.getfield 17, 3) := by decide +kernel
theorem dX1_cut_33 : decode cX1_cut 33 = .ok (.iload_n 1, 1) := by decide +kernel
theorem dX1_cut_34 : decode cX1_cut 34 = .ok (.laload, 1) := by decide +kernel
theorem dX1_cut_35 : decode cX1_cut 35 = .ok (.aload_n 0, 1) := by decide +kernel
theorem dX1_cut_36 : decode cX1_cut 36 = .ok (.getfield 17, 3) := by decide +kernel
theorem dX1_cut_39 : decode cX1_cut 39 = .ok (.iload_n 2, 1) := by decide +kernel
theorem dX1_cut_40 : decode cX1_cut 40 = .ok (.laload, 1) := by decide +kernel
theorem dX1_cut_41 : decode cX1_cut 41 = .ok (.invokestatic 69, 3) := by decide +kernel
theorem dX1_cut_44 : decode cX1_cut 44 = .ok (.lstore 7, 2) := by decide +kernel
theorem dX1_cut_46 : decode cX1_cut 46 = .ok (.aload_n 0, 1) := by decide +kernel
theorem dX1_cut_47 : decode cX1_cut 47 = .ok (.iload_n 3, 1) := by decide +kernel
theorem dX1_cut_48 : decode cX1_cut 48 = .ok (.iload 4, 2) := by decide +kernel
theorem dX1_cut_50 : decode cX1_cut 50 = .ok (.lload 5, 2) := by decide +kernel
theorem dX1_cut_52 : decode cX1_cut 52 = .ok (.lload 7, 2) := by decide +kernel
theorem dX1_cut_54 : decode cX1_cut 54 = .ok (.invokevirtual 138, 3) := by decide +kernel
theorem dX1_cut_57 : decode cX1_cut 57 = .ok (.ireturn, 1) := by decide +kernel
set_option maxRecDepth 20000 in
theorem ggX1_sized_X0_sizeOf : GoodIn wsX1_sized wsX0_sizeOf := goodIn_r _ [7, 8, 9, 6, 10, 11, 12, 13, 14, 15, 16, 17, 18, 19, 20, 21] (by decide +kernel) (by decide +kernel)
set_option maxRecDepth 20000 in
theorem gX1_sized_X0_sizeOf : GoodIn wsX1_sized (va_wsS RX1 141 yX0_sizeOf wsX0_sizeOf) := goodIn_app (goodIn_of _ (by decide +kernel)) ggX1_sized_X0_sizeOf
set_option maxRecDepth 20000 in
theorem ggX1_sized_X0_isBelowZero : GoodIn wsX1_sized wsX0_isBelowZero := goodIn_r _ [24, 25, 26, 6, 27, 11, 12, 13, 28, 29, 30, 31, 14, 15, 16, 17, 18] (by decide +kernel) (by decide +kernel)
set_option maxRecDepth 20000 in
theorem gX1_sized_X0_isBelowZero : GoodIn wsX1_sized (va_wsS RX1 144 yX0_isBelowZero wsX0_isBelowZero) := goodIn_app (goodIn_of _ (by decide +kernel)) ggX1_sized_X0_isBelowZero
set_option maxRecDepth 20000 in
theorem ggX1_sized_X0_isAboveZero : GoodIn wsX1_sized wsX0_isAboveZero := goodIn_r _ [34] (by decide +kernel) (by decide +kernel)
set_option maxRecDepth 20000 in
theorem gX1_sized_X0_isAboveZero : GoodIn wsX1_sized (va_wsS RX1 147 yX0_isAboveZero wsX0_isAboveZero) := goodIn_app (goodIn_of _ (by decide +kernel)) ggX1_sized_X0_isAboveZero
set_option maxRecDepth 20000 in
theorem ggX1_sized_X0_greater : GoodIn wsX1_sized wsX0_greater := goodIn_r _ [37, 38, 39, 6, 40, 11, 12, 13, 41, 42, 43, 44] (by decide +kernel) (by decide +kernel)
set_option maxRecDepth 20000 in
theorem gX1_sized_X0_greater : GoodIn wsX1_sized (va_wsS RX1 65 yX0_greater wsX0_greater) := goodIn_app (goodIn_of _ (by decide +kernel)) ggX1_sized_X0_greater
set_option maxRecDepth 20000 in
theorem ggX1_sized_X1_putOrdered : GoodIn wsX1_sized wsX1_putOrdered := goodIn_r _ [49, 50, 51, 6, 52, 38, 39, 40, 11, 12, 13, 41, 42, 43, 44, 35, 36, 37, 53, 54, 55, 48, 56, 1, 2, 3, 57, 58, 59, 60, 61, 62, 63, 64, 65, 66, 67] (by decide +kernel) (by decide +kernel)
set_option maxRecDepth 20000 in
theorem gX1_sized_X1_putOrdered : GoodIn wsX1_sized (wsV RX1 151 RX1 yX1_putOrdered wsX1_putOrdered) := goodIn_app (goodIn_of _ (by decide +kernel)) ggX1_sized_X1_putOrdered
theorem dX1_sized_0 : decode cX1_sized 0 = .ok (.aload_n 0, 1) := by decide +kernel
theorem dX1_sized_1 : decode cX1_sized 1 = .ok (.getfield 9, 3) := by decide +kernel
theorem dX1_sized_4 : decode cX1_sized 4 = .ok (.iload_n 1, 1) := by decide +kernel
theorem dX1_sized_5 : decode cX1_sized 5 = .ok (.iaload, 1) := by decide +kernel
theorem dX1_sized_6 : decode cX1_sized 6 = .ok (.istore_n 3, 1) := by decide +kernel
theorem dX1_sized_7 : decode cX1_sized 7 = .ok (.iload_n 3, 1) := by decide +kernel
theorem dX1_sized_8 : decode cX1_sized 8 = .ok (.aload_n 0, 1) := by decide +kernel
theorem dX1_sized_9 : decode cX1_sized 9 = .ok (.getfield 13, 3) := by decide +kernel
theorem dX1_sized_12 : decode cX1_sized 12 = .ok (.iload_n 1, 1) := by decide +kernel
theorem dX1_sized_13 : decode cX1_sized 13 = .ok (.laload, 1) := by decide +kernel
theorem dX1_sized_14 : decode cX1_sized 14 = .ok (.invokestatic 141, 3) := by decide +kernel
theorem dX1_sized_17 : decode cX1_sized 17 = .ok (.lstore 4, 2) := by decide +kernel
theorem dX1_sized_19 : decode cX1_sized 19 = .ok (.iload_n 3, 1) := by decide +kernel
theorem dX1_sized_20 : decode cX1_sized 20 = .ok (.aload_n 0, 1) := by decide +kernel
theorem dX1_sized_21 : decode cX1_sized 21 = .ok (.getfield 17, 3) := by decide +kernel
theorem dX1_sized_24 : decode cX1_sized 24 = .ok (.iload_n 1, 1) := by decide +kernel
theorem dX1_sized_25 : decode cX1_sized 25 = .ok (.laload, 1) := by decide +kernel
theorem dX1_sized_26 : decode cX1_sized 26 = .ok (.invokestatic 141, 3) := by decide +kernel
theorem dX1_sized_29 : decode cX1_sized 29 = .ok (.lstore 6, 2) := by decide +kernel
theorem dX1_sized_31 : decode cX1_sized 31 = .ok (.iload_n 3, 1) := by decide +kernel
theorem dX1_sized_32 : decode cX1_sized 32 = .ok (.aload_n 0, 1) := by decide +kernel
theorem dX1_sized_33 : decode cX1_sized 33 = .ok (.getfield 13, 3) := by decide +kernel
theorem dX1_sized_36 : decode cX1_sized 36 = .ok (.iload_n 1, 1) := by decide +kernel
theorem dX1_sized_37 : decode cX1_sized 37 = .ok (.laload, 1) := by decide +kernel
theorem dX1_sized_38 : decode cX1_sized 38 = .ok (.invokestatic 144, 3) := by decide +kernel
theorem dX1_sized_41 : decode cX1_sized 41 = .ok (.ifCond .eq 31, 3) := by decide +kernel
theorem dX1_sized_44 : decode cX1_sized 44 = .ok (.aload_n 0, 1) := by decide +kernel
theorem dX1_sized_45 : decode cX1_sized 45 = .ok (.getfield 17, 3) := by decide +kernel
theorem dX1_sized_48 : decode cX1_sized 48 = .ok (.iload_n 1, 1) := by decide +kernel
theorem dX1_sized_49 : decode cX1_sized 49 = .ok (.laload, 1) := by decide +kernel
theorem dX1_sized_50 : decode cX1_sized 50 = .ok (.invokestatic 147, 3) := by decide +kernel
theorem dX1_sized_53 : decode cX1_sized 53 = .ok (.ifCond .eq 19, 3) := by decide +kernel
theorem dX1_sized_56 : decode cX1_sized 56 = .ok (.aload_n 0, 1) := by decide +kernel
theorem dX1_sized_57 : decode cX1_sized 57 = .ok (.iload_n 2, 1) := by decide +kernel
theorem dX1_sized_58 : decode cX1_sized 58 = .ok (.iload_n 3, 1) := by decide +kernel
theorem dX1_sized_59 : decode cX1_sized 59 = .ok (.lconst 0, 1) := by decide +kernel
theorem dX1_sized_60 : decode cX1_sized 60 = .ok (.iload_n 3, 1) := by decide +kernel
theorem dX1_sized_61 : decode cX1_sized 61 = .ok (.lload 4, 2) := by decide +kernel
theorem dX1_sized_63 : decode cX1_sized 63 = .ok (.lload 6, 2) := by decide +kernel
theorem dX1_sized_65 : decode cX1_sized 65 = .ok (.invokestatic 65, 3) := by decide +kernel
theorem dX1_sized_68 : decode cX1_sized 68 = .ok (.invokevirtual 151, 3) := by decide +kernel
theorem dX1_sized_71 : decode cX1_sized 71 = .ok (.ireturn, 1) := by decide +kernel
theorem dX1_sized_72 : decode cX1_sized 72 = .ok (.aload_n 0, 1) := by decide +kernel
theorem dX1_sized_73 : decode cX1_sized 73 = .ok (.iload_n 2, 1) := by decide +kernel
theorem dX1_sized_74 : decode cX1_sized 74 = .ok (.iload_n 3, 1) := by decide +kernel
theorem dX1_sized_75 : decode cX1_sized 75 = .ok (.lload 4, 2) := by decide +kernel
theorem dX1_sized_77 : decode cX1_sized 77 = .ok (.lload 6, 2) := by decide +kernel
theorem dX1_sized_79 : decode cX1_sized 79 = .ok (.invokevirtual 151, 3) := by decide +kernel
theorem dX1_sized_82 : decode cX1_sized 82 = .ok (.ireturn, 1) := by decide +kernel
set_option maxRecDepth 20000 in
theorem ggX1_rounded_X0_isBroken : GoodIn wsX1_rounded wsX0_isBroken := goodIn_r _ [7] (by decide +kernel) (by decide +kernel)
set_option maxRecDepth 20000 in
theorem gX1_rounded_X0_isBroken : GoodIn wsX1_rounded (va_wsS RX1 154 yX0_isBroken wsX0_isBroken) := goodIn_app (goodIn_of _ (by decide +kernel)) ggX1_rounded_X0_isBroken
set_option maxRecDepth 20000 in
theorem ggX1_rounded_X0_whole : GoodIn wsX1_rounded wsX0_whole := goodIn_r _ [10, 11, 12, 6, 13, 14, 15, 16, 17, 18, 19, 20, 21, 22, 23, 24, 25, 26, 27, 28, 29, 30, 31, 32, 33, 34, 35, 36, 37, 38, 39, 40, 41, 42, 43] (by decide +kernel) (by decide +kernel)
set_option maxRecDepth 20000 in
theorem gX1_rounded_X0_whole : GoodIn wsX1_rounded (va_wsS RX1 157 yX0_whole wsX0_whole) := goodIn_app (goodIn_of _ (by decide +kernel)) ggX1_rounded_X0_whole
set_option maxRecDepth 20000 in
theorem ggX1_rounded_X1_putIfAny : GoodIn wsX1_rounded wsX1_putIfAny := goodIn_r _ [48, 1, 49, 50, 6, 51, 52, 5, 7, 53, 54, 55, 56, 57, 58, 59, 47, 60, 2, 3, 61, 62, 63, 64, 65, 66, 67, 68, 69, 70, 71] (by decide +kernel) (by decide +kernel)
set_option maxRecDepth 20000 in
theorem gX1_rounded_X1_putIfAny : GoodIn wsX1_rounded (wsV RX1 138 RX1 yX1_putIfAny wsX1_putIfAny) := goodIn_app (goodIn_of _ (by decide +kernel)) ggX1_rounded_X1_putIfAny
theorem dX1_rounded_0 : decode cX1_rounded 0 = .ok (.aload_n 0, 1) := by decide +kernel
theorem dX1_rounded_1 : decode cX1_rounded 1 = .ok (.getfield 9, 3) := by decide +kernel
theorem dX1_rounded_4 : decode cX1_rounded 4 = .ok (.iload_n 1, 1) := by decide +kernel
theorem dX1_rounded_5 : decode cX1_rounded 5 = .ok (.iaload, 1) := by decide +kernel
theorem dX1_rounded_6 : decode cX1_rounded 6 = .ok (.istore 4, 2) := by decide +kernel
theorem dX1_rounded_8 : decode cX1_rounded 8 = .ok (.iload 4, 2) := by decide +kernel
theorem dX1_rounded_10 : decode cX1_rounded 10 = .ok (.invokestatic 154, 3) := by decide +kernel
theorem dX1_rounded_13 : decode cX1_rounded 13 = .ok (.ifCond .ne 6, 3) := by decide +kernel
theorem dX1_rounded_16 : decode cX1_rounded 16 = .ok (.bipush (-4), 2) := by decide +kernel
theorem dX1_rounded_18 : decode cX1_rounded 18 = .ok (.ireturn, 1) := by decide +kernel
theorem dX1_rounded_19 : decode cX1_rounded 19 = .ok (.iload_n 2, 1) := by decide +kernel
theorem dX1_rounded_20 : decode cX1_rounded 20 = .ok (.ifCond .lt 8, 3) := by decide +kernel
theorem dX1_rounded_23 : decode cX1_rounded 23 = .ok (.iload_n 2, 1) := by decide +kernel
theorem dX1_rounded_24 : decode cX1_rounded 24 = .ok (.iconst 4, 1) := by decide +kernel
theorem dX1_rounded_25 : decode cX1_rounded 25 = .ok (.if_icmp .le 6, 3) := by decide +kernel
theorem dX1_rounded_28 : decode cX1_rounded 28 = .ok (.bipush (-5), 2) := by decide +kernel
theorem dX1_rounded_30 : decode cX1_rounded 30 = .ok (.ireturn, 1) := by decide +kernel
theorem dX1_rounded_31 : decode cX1_rounded 31 = .ok (.iload_n 2, 1) := by decide +kernel
theorem dX1_rounded_32 : decode cX1_rounded 32 = .ok (.istore 5, 2) := by decide +kernel
theorem dX1_rounded_34 : decode cX1_rounded 34 = .ok (.iload_n 2, 1) := by decide +kernel
theorem dX1_rounded_35 : decode cX1_rounded 35 = .ok (.istore 6, 2) := by decide +kernel
theorem dX1_rounded_37 : decode cX1_rounded 37 = .ok (.iload_n 2, 1) := by decide +kernel
theorem dX1_rounded_38 : decode cX1_rounded 38 = .ok (.iconst 3, 1) := by decide +kernel
theorem dX1_rounded_39 : decode cX1_rounded 39 = .ok (.if_icmp .ne 9, 3) := by decide +kernel
theorem dX1_rounded_42 : decode cX1_rounded 42 = .ok (.iconst 0, 1) := by decide +kernel
theorem dX1_rounded_43 : decode cX1_rounded 43 = .ok (.istore 5, 2) := by decide +kernel
theorem dX1_rounded_45 : decode cX1_rounded 45 = .ok (.iconst 1, 1) := by decide +kernel
theorem dX1_rounded_46 : decode cX1_rounded 46 = .ok (.istore 6, 2) := by decide +kernel
theorem dX1_rounded_48 : decode cX1_rounded 48 = .ok (.iload_n 2, 1) := by decide +kernel
theorem dX1_rounded_49 : decode cX1_rounded 49 = .ok (.iconst 4, 1) := by decide +kernel
theorem dX1_rounded_50 : decode cX1_rounded 50 = .ok (.if_icmp .ne 9, 3) := by decide +kernel
theorem dX1_rounded_53 : decode cX1_rounded 53 = .ok (.iconst 1, 1) := by decide +kernel
theorem dX1_rounded_54 : decode cX1_rounded 54 = .ok (.istore 5, 2) := by decide +kernel
theorem dX1_rounded_56 : decode cX1_rounded 56 = .ok (.iconst 0, 1) := by decide +kernel
theorem dX1_rounded_57 : decode cX1_rounded 57 = .ok (.istore 6, 2) := by decide +kernel
theorem dX1_rounded_59 : decode cX1_rounded 59 = .ok (.aload_n 0, 1) := by decide +kernel
theorem dX1_rounded_60 : decode cX1_rounded 60 = .ok (.iload_n 3, 1) := by decide +kernel
theorem dX1_rounded_61 : decode cX1_rounded 61 = .ok (.iload 4, 2) := by decide +kernel
theorem dX1_rounded_63 : decode cX1_rounded 63 = .ok (.iload 4, 2) := by decide +kernel
theorem dX1_rounded_65 : decode cX1_rounded 65 = .ok (.aload_n 0, 1) := by decide +kernel
theorem dX1_rounded_66 : decode cX1_rounded 66 = .ok (.getfield 13, 3) := by decide +kernel
theorem dX1_rounded_69 : decode cX1_rounded 69 = .ok (.iload_n 1, 1) := by decide +kernel
theorem dX1_rounded_70 : decode cX1_rounded 70 = .ok (.laload, 1) := by decide +kernel
theorem dX1_rounded_71 : decode cX1_rounded 71 = .ok (.iload 5, 2) := by decide +kernel
theorem dX1_rounded_73 : decode cX1_rounded 73 = .ok (.invokestatic 157, 3) := by decide +kernel
theorem dX1_rounded_76 : decode cX1_rounded 76 = .ok (.iload 4, 2) := by decide +kernel
theorem dX1_rounded_78 : decode cX1_rounded 78 = .ok (.aload_n 0, 1) := by decide +kernel
theorem dX1_rounded_79 : decode cX1_rounded 79 = .ok (.getfield 17, 3) := by decide +kernel
theorem dX1_rounded_82 : decode cX1_rounded 82 = .ok (.iload_n 1, 1) := by decide +kernel
theorem dX1_rounded_83 : decode cX1_rounded 83 = .ok (.laload, 1) := by decide +kernel
theorem dX1_rounded_84 : decode cX1_rounded 84 = .ok (.iload 6, 2) := by decide +kernel
theorem dX1_rounded_86 : decode cX1_rounded 86 = .ok (.invokestatic 157, 3) := by decide +kernel
theorem dX1_rounded_89 : decode cX1_rounded 89 = .ok (.invokevirtual 138, 3) := by decide +kernel
theorem dX1_rounded_92 : decode cX1_rounded 92 = .ok (.ireturn, 1) := by decide +kernel
set_option maxRecDepth 20000 in
theorem ggX1_signed_X0_isBroken : GoodIn wsX1_signed wsX0_isBroken := goodIn_r _ [7] (by decide +kernel) (by decide +kernel)
set_option maxRecDepth 20000 in
theorem gX1_signed_X0_isBroken : GoodIn wsX1_signed (va_wsS RX1 154 yX0_isBroken wsX0_isBroken) := goodIn_app (goodIn_of _ (by decide +kernel)) ggX1_signed_X0_isBroken
set_option maxRecDepth 20000 in
theorem ggX1_signed_X0_signOf : GoodIn wsX1_signed wsX0_signOf := goodIn_r _ [10, 11, 12, 6, 13, 14, 5, 7, 15, 16, 17, 18, 19, 20, 21, 22, 23, 24, 25, 26, 27, 28, 29, 30, 31, 32, 33, 34, 35] (by decide +kernel) (by decide +kernel)
set_option maxRecDepth 20000 in
theorem gX1_signed_X0_signOf : GoodIn wsX1_signed (va_wsS RX1 161 yX0_signOf wsX0_signOf) := goodIn_app (goodIn_of _ (by decide +kernel)) ggX1_signed_X0_signOf
set_option maxRecDepth 20000 in
theorem ggX1_signed_X1_put : GoodIn wsX1_signed wsX1_put := goodIn_r _ [40, 1, 2, 3, 41, 42, 43, 44, 45, 46, 47, 48, 49, 50, 51] (by decide +kernel) (by decide +kernel)
set_option maxRecDepth 20000 in
theorem gX1_signed_X1_put : GoodIn wsX1_signed (wsV RX1 106 RX1 yX1_put wsX1_put) := goodIn_app (goodIn_of _ (by decide +kernel)) ggX1_signed_X1_put
theorem dX1_signed_0 : decode cX1_signed 0 = .ok (.aload_n 0, 1) := by decide +kernel
theorem dX1_signed_1 : decode cX1_signed 1 = .ok (.getfield 9, 3) := by decide +kernel
theorem dX1_signed_4 : decode cX1_signed 4 = .ok (.iload_n 1, 1) := by decide +kernel
theorem dX1_signed_5 : decode cX1_signed 5 = .ok (.iaload, 1) := by decide +kernel
theorem dX1_signed_6 : decode cX1_signed 6 = .ok (.istore_n 3, 1) := by decide +kernel
theorem dX1_signed_7 : decode cX1_signed 7 = .ok (.iload_n 3, 1) := by decide +kernel
theorem dX1_signed_8 : decode cX1_signed 8 = .ok (.invokestatic 154, 3) := by decide +kernel
theorem dX1_signed_11 : decode cX1_signed 11 = .ok (.ifCond .ne 6, 3) := by decide +kernel
theorem dX1_signed_14 : decode cX1_signed 14 = .ok (.bipush (-4), 2) := by decide +kernel
theorem dX1_signed_16 : decode cX1_signed 16 = .ok (.ireturn, 1) := by decide +kernel
theorem dX1_signed_17 : decode cX1_signed 17 = .ok (.aload_n 0, 1) := by decide +kernel
theorem dX1_signed_18 : decode cX1_signed 18 = .ok (.iload_n 2, 1) := by decide +kernel
theorem dX1_signed_19 : decode cX1_signed 19 = .ok (.iload_n 3, 1) := by decide +kernel
theorem dX1_signed_20 : decode cX1_signed 20 = .ok (.iload_n 3, 1) := by decide +kernel
theorem dX1_signed_21 : decode cX1_signed 21 = .ok (.aload_n 0, 1) := by decide +kernel
theorem dX1_signed_22 : decode cX1_signed 22 = .ok (.getfield 13, 3) := by decide +kernel
theorem dX1_signed_25 : decode cX1_signed 25 = .ok (.iload_n 1, 1) := by decide +kernel
theorem dX1_signed_26 : decode cX1_signed 26 = .ok (.laload, 1) := by decide +kernel
theorem dX1_signed_27 : decode cX1_signed 27 = .ok (.invokestatic 161, 3) := by decide +kernel
theorem dX1_signed_30 : decode cX1_signed 30 = .ok (.iload_n 3, 1) := by decide +kernel
theorem dX1_signed_31 : decode cX1_signed 31 = .ok (.aload_n 0, 1) := by decide +kernel
theorem dX1_signed_32 : decode cX1_signed 32 = .ok (.getfield 17, 3) := by decide +kernel
theorem dX1_signed_35 : decode cX1_signed 35 = .ok (.iload_n 1, 1) := by decide +kernel
theorem dX1_signed_36 : decode cX1_signed 36 = .ok (.laload, 1) := by decide +kernel
theorem dX1_signed_37 : decode cX1_signed 37 = .ok (.invokestatic 161, 3) := by decide +kernel
theorem dX1_signed_40 : decode cX1_signed 40 = .ok (.invokevirtual 106, 3) := by decide +kernel
theorem dX1_signed_43 : decode cX1_signed 43 = .ok (.ireturn, 1) := by decide +kernel
set_option maxRecDepth 20000 in
theorem ggX1_lent_X0_isBroken : GoodIn wsX1_lent wsX0_isBroken := goodIn_r _ [7] (by decide +kernel) (by decide +kernel)
set_option maxRecDepth 20000 in
theorem gX1_lent_X0_isBroken : GoodIn wsX1_lent (va_wsS RX1 154 yX0_isBroken wsX0_isBroken) := goodIn_app (goodIn_of _ (by decide +kernel)) ggX1_lent_X0_isBroken
set_option maxRecDepth 20000 in
theorem ggX1_lent_X0_withSign : GoodIn wsX1_lent wsX0_withSign := goodIn_r _ [10, 11, 12, 6, 13, 14, 15, 16, 17, 18, 19] (by decide +kernel) (by decide +kernel)
set_option maxRecDepth 20000 in
theorem gX1_lent_X0_withSign : GoodIn wsX1_lent (va_wsS RX1 164 yX0_withSign wsX0_withSign) := goodIn_app (goodIn_of _ (by decide +kernel)) ggX1_lent_X0_withSign
set_option maxRecDepth 20000 in
theorem ggX1_lent_X1_putOrdered : GoodIn wsX1_lent wsX1_putOrdered := goodIn_r _ [24, 25, 26, 6, 27, 28, 29, 30, 31, 5, 7, 32, 33, 34, 35, 36, 37, 38, 39, 40, 41, 23, 42, 1, 2, 3, 43, 44, 45, 46, 47, 48, 49, 50, 51, 52, 53] (by decide +kernel) (by decide +kernel)
set_option maxRecDepth 20000 in
theorem gX1_lent_X1_putOrdered : GoodIn wsX1_lent (wsV RX1 151 RX1 yX1_putOrdered wsX1_putOrdered) := goodIn_app (goodIn_of _ (by decide +kernel)) ggX1_lent_X1_putOrdered
theorem dX1_lent_0 : decode cX1_lent 0 = .ok (.aload_n 0, 1) := by decide +kernel
theorem dX1_lent_1 : decode cX1_lent 1 = .ok (.getfield 9, 3) := by decide +kernel
theorem dX1_lent_4 : decode cX1_lent 4 = .ok (.iload_n 1, 1) := by decide +kernel
theorem dX1_lent_5 : decode cX1_lent 5 = .ok (.iaload, 1) := by decide +kernel
theorem dX1_lent_6 : decode cX1_lent 6 = .ok (.istore 4, 2) := by decide +kernel
theorem dX1_lent_8 : decode cX1_lent 8 = .ok (.iload 4, 2) := by decide +kernel
theorem dX1_lent_10 : decode cX1_lent 10 = .ok (.invokestatic 154, 3) := by decide +kernel
theorem dX1_lent_13 : decode cX1_lent 13 = .ok (.ifCond .ne 6, 3) := by decide +kernel
theorem dX1_lent_16 : decode cX1_lent 16 = .ok (.bipush (-4), 2) := by decide +kernel
theorem dX1_lent_18 : decode cX1_lent 18 = .ok (.ireturn, 1) := by decide +kernel
theorem dX1_lent_19 : decode cX1_lent 19 = .ok (.iload 4, 2) := by decide +kernel
theorem dX1_lent_21 : decode cX1_lent 21 = .ok (.aload_n 0, 1) := by decide +kernel
theorem dX1_lent_22 : decode cX1_lent 22 = .ok (.getfield 13, 3) := by decide +kernel
theorem dX1_lent_25 : decode cX1_lent 25 = .ok (.iload_n 1, 1) := by decide +kernel
theorem dX1_lent_26 : decode cX1_lent 26 = .ok (.laload, 1) := by decide +kernel
theorem dX1_lent_27 : decode cX1_lent 27 = .ok (.aload_n 0, 1) := by decide +kernel
theorem dX1_lent_28 : decode cX1_lent 28 = .ok (.getfield 13, 3) := by decide +kernel
theorem dX1_lent_31 : decode cX1_lent 31 = .ok (.iload_n 2, 1) := by decide +kernel
theorem dX1_lent_32 : decode cX1_lent 32 = .ok (.laload, 1) := by decide +kernel
theorem dX1_lent_33 : decode cX1_lent 33 = .ok (.invokestatic 164, 3) := by decide +kernel
theorem dX1_lent_36 : decode cX1_lent 36 = .ok (.lstore 5, 2) := by decide +kernel
theorem dX1_lent_38 : decode cX1_lent 38 = .ok (.iload 4, 2) := by decide +kernel
theorem dX1_lent_40 : decode cX1_lent 40 = .ok (.aload_n 0, 1) := by decide +kernel
theorem dX1_lent_41 : decode cX1_lent 41 = .ok (.getfield 17, 3) := by decide +kernel
theorem dX1_lent_44 : decode cX1_lent 44 = .ok (.iload_n 1, 1) := by decide +kernel
theorem dX1_lent_45 : decode cX1_lent 45 = .ok (.laload, 1) := by decide +kernel
theorem dX1_lent_46 : decode cX1_lent 46 = .ok (.aload_n 0, 1) := by decide +kernel
theorem dX1_lent_47 : decode cX1_lent 47 = .ok (.getfield 17, 3) := by decide +kernel
theorem dX1_lent_50 : decode cX1_lent 50 = .ok (.iload_n 2, 1) := by decide +kernel
theorem dX1_lent_51 : decode cX1_lent 51 = .ok (.laload, 1) := by decide +kernel
theorem dX1_lent_52 : decode cX1_lent 52 = .ok (.invokestatic 164, 3) := by decide +kernel
theorem dX1_lent_55 : decode cX1_lent 55 = .ok (.lstore 7, 2) := by decide +kernel
theorem dX1_lent_57 : decode cX1_lent 57 = .ok (.aload_n 0, 1) := by decide +kernel
theorem dX1_lent_58 : decode cX1_lent 58 = .ok (.iload_n 3, 1) := by decide +kernel
theorem dX1_lent_59 : decode cX1_lent 59 = .ok (.iload 4, 2) := by decide +kernel
theorem dX1_lent_61 : decode cX1_lent 61 = .ok (.lload 5, 2) := by decide +kernel
theorem dX1_lent_63 : decode cX1_lent 63 = .ok (.lload 7, 2) := by decide +kernel
theorem dX1_lent_65 : decode cX1_lent 65 = .ok (.invokevirtual 151, 3) := by decide +kernel
theorem dX1_lent_68 : decode cX1_lent 68 = .ok (.ireturn, 1) := by decide +kernel
set_option maxRecDepth 20000 in
theorem ggX1_turned_X0_negated : GoodIn wsX1_turned wsX0_negated := goodIn_r _ [7, 8, 9, 6, 10, 11, 12, 13, 14, 15, 16, 17, 18] (by decide +kernel) (by decide +kernel)
set_option maxRecDepth 20000 in
theorem gX1_turned_X0_negated : GoodIn wsX1_turned (va_wsS RX1 167 yX0_negated wsX0_negated) := goodIn_app (goodIn_of _ (by decide +kernel)) ggX1_turned_X0_negated
set_option maxRecDepth 20000 in
theorem ggX1_turned_X1_putOrdered : GoodIn wsX1_turned wsX1_putOrdered := goodIn_r _ [23, 24, 25, 6, 26, 27, 28, 29, 8, 9, 10, 30, 31, 32, 33, 34, 35, 36, 37, 38, 39, 22, 40, 1, 2, 3, 41, 42, 43, 44, 45, 46, 47, 48, 49, 50, 51] (by decide +kernel) (by decide +kernel)
set_option maxRecDepth 20000 in
theorem gX1_turned_X1_putOrdered : GoodIn wsX1_turned (wsV RX1 151 RX1 yX1_putOrdered wsX1_putOrdered) := goodIn_app (goodIn_of _ (by decide +kernel)) ggX1_turned_X1_putOrdered
theorem dX1_turned_0 : decode cX1_turned 0 = .ok (.aload_n 0, 1) := by decide +kernel
theorem dX1_turned_1 : decode cX1_turned 1 = .ok (.getfield 9, 3) := by decide +kernel
theorem dX1_turned_4 : decode cX1_turned 4 = .ok (.iload_n 1, 1) := by decide +kernel
theorem dX1_turned_5 : decode cX1_turned 5 = .ok (.iaload, 1) := by decide +kernel
theorem dX1_turned_6 : decode cX1_turned 6 = .ok (.istore_n 3, 1) := by decide +kernel
theorem dX1_turned_7 : decode cX1_turned 7 = .ok (.aload_n 0, 1) := by decide +kernel
theorem dX1_turned_8 : decode cX1_turned 8 = .ok (.iload_n 2, 1) := by decide +kernel
theorem dX1_turned_9 : decode cX1_turned 9 = .ok (.iload_n 3, 1) := by decide +kernel
theorem dX1_turned_10 : decode cX1_turned 10 = .ok (.iload_n 3, 1) := by decide +kernel
theorem dX1_turned_11 : decode cX1_turned 11 = .ok (.aload_n 0, 1) := by decide +kernel
theorem dX1_turned_12 : decode cX1_turned 12 = .ok (.getfield 13, 3) := by decide +kernel
theorem dX1_turned_15 : decode cX1_turned 15 = .ok (.iload_n 1, 1) := by decide +kernel
theorem dX1_turned_16 : decode cX1_turned 16 = .ok (.laload, 1) := by decide +kernel
theorem dX1_turned_17 : decode cX1_turned 17 = .ok (.invokestatic 167, 3) := by decide +kernel
theorem dX1_turned_20 : decode cX1_turned 20 = .ok (.iload_n 3, 1) := by decide +kernel
theorem dX1_turned_21 : decode cX1_turned 21 = .ok (.aload_n 0, 1) := by decide +kernel
theorem dX1_turned_22 : decode cX1_turned 22 = .ok (.getfield 17, 3) := by decide +kernel
theorem dX1_turned_25 : decode cX1_turned 25 = .ok (.iload_n 1, 1) := by decide +kernel
theorem dX1_turned_26 : decode cX1_turned 26 = .ok (.laload, 1) := by decide +kernel
theorem dX1_turned_27 : decode cX1_turned 27 = .ok (.invokestatic 167, 3) := by decide +kernel
theorem dX1_turned_30 : decode cX1_turned 30 = .ok (.invokevirtual 151, 3) := by decide +kernel
theorem dX1_turned_33 : decode cX1_turned 33 = .ok (.ireturn, 1) := by decide +kernel
set_option maxRecDepth 20000 in
theorem ggX1_converted_X1_isSort : GoodIn wsX1_converted wsX1_isSort := goodIn_r _ [7] (by decide +kernel) (by decide +kernel)
set_option maxRecDepth 20000 in
theorem gX1_converted_X1_isSort : GoodIn wsX1_converted (va_wsS RX1 103 yX1_isSort wsX1_isSort) := goodIn_app (goodIn_of _ (by decide +kernel)) ggX1_converted_X1_isSort
set_option maxRecDepth 20000 in
theorem ggX1_converted_X0_ofSort : GoodIn wsX1_converted wsX0_ofSort := goodIn_r _ [11, 12, 13, 10, 14, 15, 16, 17, 18, 19, 20, 21, 22, 23, 24, 25, 26, 27, 28, 29, 30, 31, 32, 33, 34, 35, 36, 37, 38, 39, 40, 41, 42, 43, 44, 45, 46, 47, 48, 49, 50, 51, 52, 53, 54, 55, 56, 57, 58, 59, 60, 61, 62, 63, 64, 65] (by decide +kernel) (by decide +kernel)
set_option maxRecDepth 20000 in
theorem gX1_converted_X0_ofSort : GoodIn wsX1_converted (va_wsS RX1 170 yX0_ofSort wsX0_ofSort) := goodIn_app (goodIn_of _ (by decide +kernel)) ggX1_converted_X0_ofSort
set_option maxRecDepth 20000 in
theorem ggX1_converted_X1_putOrdered : GoodIn wsX1_converted wsX1_putOrdered := goodIn_r _ [69, 70, 71, 10, 72, 73, 74, 75, 12, 13, 14, 76, 77, 78, 40, 79, 80, 81, 82, 83, 84, 6, 85, 1, 2, 3, 86, 87, 88, 89, 90, 91, 92, 93, 94, 95, 96] (by decide +kernel) (by decide +kernel)
set_option maxRecDepth 20000 in
theorem gX1_converted_X1_putOrdered : GoodIn wsX1_converted (wsV RX1 151 RX1 yX1_putOrdered wsX1_putOrdered) := goodIn_app (goodIn_of _ (by decide +kernel)) ggX1_converted_X1_putOrdered
theorem dX1_converted_0 : decode cX1_converted 0 = .ok (.iload_n 2, 1) := by decide +kernel
theorem dX1_converted_1 : decode cX1_converted 1 = .ok (.invokestatic 103, 3) := by decide +kernel
theorem dX1_converted_4 : decode cX1_converted 4 = .ok (.ifCond .ne 6, 3) := by decide +kernel
theorem dX1_converted_7 : decode cX1_converted 7 = .ok (.bipush (-4), 2) := by decide +kernel
theorem dX1_converted_9 : decode cX1_converted 9 = .ok (.ireturn, 1) := by decide +kernel
theorem dX1_converted_10 : decode cX1_converted 10 = .ok (.aload_n 0, 1) := by decide +kernel
theorem dX1_converted_11 : decode cX1_converted 11 = .ok (.getfield 9, 3) := by decide +kernel
theorem dX1_converted_14 : decode cX1_converted 14 = .ok (.iload_n 1, 1) := by decide +kernel
theorem dX1_converted_15 : decode cX1_converted 15 = .ok (.iaload, 1) := by decide +kernel
theorem dX1_converted_16 : decode cX1_converted 16 = .ok (.aload_n 0, 1) := by decide +kernel
theorem dX1_converted_17 : decode cX1_converted 17 = .ok (.getfield 13, 3) := by decide +kernel
theorem dX1_converted_20 : decode cX1_converted 20 = .ok (.iload_n 1, 1) := by decide +kernel
theorem dX1_converted_21 : decode cX1_converted 21 = .ok (.laload, 1) := by decide +kernel
theorem dX1_converted_22 : decode cX1_converted 22 = .ok (.iload_n 2, 1) := by decide +kernel
theorem dX1_converted_23 : decode cX1_converted 23 = .ok (.invokestatic 170, 3) := by decide +kernel
theorem dX1_converted_26 : decode cX1_converted 26 = .ok (.lstore 4, 2) := by decide +kernel
theorem dX1_converted_28 : decode cX1_converted 28 = .ok (.aload_n 0, 1) := by decide +kernel
theorem dX1_converted_29 : decode cX1_converted 29 = .ok (.getfield 9, 3) := by decide +kernel
theorem dX1_converted_32 : decode cX1_converted 32 = .ok (.iload_n 1, 1) := by decide +kernel
theorem dX1_converted_33 : decode cX1_converted 33 = .ok (.iaload, 1) := by decide +kernel
theorem dX1_converted_34 : decode cX1_converted 34 = .ok (.aload_n 0, 1) := by decide +kernel
theorem dX1_converted_35 : decode cX1_converted 35 = .ok (.getfield 17, 3) := by decide +kernel
theorem dX1_converted_38 : decode cX1_converted 38 = .ok (.iload_n 1, 1) := by decide +kernel
theorem dX1_converted_39 : decode cX1_converted 39 = .ok (.laload, 1) := by decide +kernel
theorem dX1_converted_40 : decode cX1_converted 40 = .ok (.iload_n 2, 1) := by decide +kernel
theorem dX1_converted_41 : decode cX1_converted 41 = .ok (.invokestatic 170, 3) := by decide +kernel
theorem dX1_converted_44 : decode cX1_converted 44 = .ok (.lstore 6, 2) := by decide +kernel
theorem dX1_converted_46 : decode cX1_converted 46 = .ok (.aload_n 0, 1) := by decide +kernel
theorem dX1_converted_47 : decode cX1_converted 47 = .ok (.iload_n 3, 1) := by decide +kernel
theorem dX1_converted_48 : decode cX1_converted 48 = .ok (.iload_n 2, 1) := by decide +kernel
theorem dX1_converted_49 : decode cX1_converted 49 = .ok (.lload 4, 2) := by decide +kernel
theorem dX1_converted_51 : decode cX1_converted 51 = .ok (.lload 6, 2) := by decide +kernel
theorem dX1_converted_53 : decode cX1_converted 53 = .ok (.invokevirtual 151, 3) := by decide +kernel
theorem dX1_converted_56 : decode cX1_converted 56 = .ok (.ireturn, 1) := by decide +kernel
theorem dX1_put_0 : decode cX1_put 0 = .ok (.aload_n 0, 1) := by decide +kernel
theorem dX1_put_1 : decode cX1_put 1 = .ok (.getfield 9, 3) := by decide +kernel
theorem dX1_put_4 : decode cX1_put 4 = .ok (.iload_n 1, 1) := by decide +kernel
theorem dX1_put_5 : decode cX1_put 5 = .ok (.iload_n 2, 1) := by decide +kernel
theorem dX1_put_6 : decode cX1_put 6 = .ok (.iastore, 1) := by decide +kernel
theorem dX1_put_7 : decode cX1_put 7 = .ok (.aload_n 0, 1) := by decide +kernel
theorem dX1_put_8 : decode cX1_put 8 = .ok (.getfield 13, 3) := by decide +kernel
theorem dX1_put_11 : decode cX1_put 11 = .ok (.iload_n 1, 1) := by decide +kernel
theorem dX1_put_12 : decode cX1_put 12 = .ok (.lload_n 3, 1) := by decide +kernel
theorem dX1_put_13 : decode cX1_put 13 = .ok (.lastore, 1) := by decide +kernel
theorem dX1_put_14 : decode cX1_put 14 = .ok (.aload_n 0, 1) := by decide +kernel
theorem dX1_put_15 : decode cX1_put 15 = .ok (.getfield 17, 3) := by decide +kernel
theorem dX1_put_18 : decode cX1_put 18 = .ok (.iload_n 1, 1) := by decide +kernel
theorem dX1_put_19 : decode cX1_put 19 = .ok (.lload 5, 2) := by decide +kernel
theorem dX1_put_21 : decode cX1_put 21 = .ok (.lastore, 1) := by decide +kernel
theorem dX1_put_22 : decode cX1_put 22 = .ok (.iconst 1, 1) := by decide +kernel
theorem dX1_put_23 : decode cX1_put 23 = .ok (.ireturn, 1) := by decide +kernel
set_option maxRecDepth 20000 in
theorem ggX1_putOrdered_X0_lesser : GoodIn wsX1_putOrdered wsX0_lesser := goodIn_r _ [4, 5, 6, 3, 7, 8, 9, 10, 11, 12, 13, 14] (by decide +kernel) (by decide +kernel)
set_option maxRecDepth 20000 in
theorem gX1_putOrdered_X0_lesser : GoodIn wsX1_putOrdered (va_wsS RX1 69 yX0_lesser wsX0_lesser) := goodIn_app (goodIn_of _ (by decide +kernel)) ggX1_putOrdered_X0_lesser
set_option maxRecDepth 20000 in
theorem ggX1_putOrdered_X0_greater : GoodIn wsX1_putOrdered wsX0_greater := goodIn_r _ [17, 5, 6, 3, 7, 8, 9, 10, 11, 12, 13, 14] (by decide +kernel) (by decide +kernel)
set_option maxRecDepth 20000 in
theorem gX1_putOrdered_X0_greater : GoodIn wsX1_putOrdered (va_wsS RX1 65 yX0_greater wsX0_greater) := goodIn_app (goodIn_of _ (by decide +kernel)) ggX1_putOrdered_X0_greater
set_option maxRecDepth 20000 in
theorem ggX1_putOrdered_X1_put : GoodIn wsX1_putOrdered wsX1_put := goodIn_r _ [22, 23, 24, 25, 26, 27, 28, 29, 30, 31, 32, 33, 34, 35, 36] (by decide +kernel) (by decide +kernel)
set_option maxRecDepth 20000 in
theorem gX1_putOrdered_X1_put : GoodIn wsX1_putOrdered (wsV RX1 106 RX1 yX1_put wsX1_put) := goodIn_app (goodIn_of _ (by decide +kernel)) ggX1_putOrdered_X1_put
theorem dX1_putOrdered_0 : decode cX1_putOrdered 0 = .ok (.aload_n 0, 1) := by decide +kernel
theorem dX1_putOrdered_1 : decode cX1_putOrdered 1 = .ok (.iload_n 1, 1) := by decide +kernel
theorem dX1_putOrdered_2 : decode cX1_putOrdered 2 = .ok (.iload_n 2, 1) := by decide +kernel
theorem dX1_putOrdered_3 : decode cX1_putOrdered 3 = .ok (.iload_n 2, 1) := by decide +kernel
theorem dX1_putOrdered_4 : decode cX1_putOrdered 4 = .ok (.lload_n 3, 1) := by decide +kernel
theorem dX1_putOrdered_5 : decode cX1_putOrdered 5 = .ok (.lload 5, 2) := by decide +kernel
theorem dX1_putOrdered_7 : decode cX1_putOrdered 7 = .ok (.invokestatic 69, 3) := by decide +kernel
theorem dX1_putOrdered_10 : decode cX1_putOrdered 10 = .ok (.iload_n 2, 1) := by decide +kernel
theorem dX1_putOrdered_11 : decode cX1_putOrdered 11 = .ok (.lload_n 3, 1) := by decide +kernel
theorem dX1_putOrdered_12 : decode cX1_putOrdered 12 = .ok (.lload 5, 2) := by decide +kernel
theorem dX1_putOrdered_14 : decode cX1_putOrdered 14 = .ok (.invokestatic 65, 3) := by decide +kernel
theorem dX1_putOrdered_17 : decode cX1_putOrdered 17 = .ok (.invokevirtual 106, 3) := by decide +kernel
theorem dX1_putOrdered_20 : decode cX1_putOrdered 20 = .ok (.ireturn, 1) := by decide +kernel
set_option maxRecDepth 20000 in
theorem ggX1_putIfAny_X0_isLess : GoodIn wsX1_putIfAny wsX0_isLess := goodIn_r _ [5, 6, 7, 4, 8, 9, 10, 11, 12] (by decide +kernel) (by decide +kernel)
set_option maxRecDepth 20000 in
theorem gX1_putIfAny_X0_isLess : GoodIn wsX1_putIfAny (va_wsS RX1 72 yX0_isLess wsX0_isLess) := goodIn_app (goodIn_of _ (by decide +kernel)) ggX1_putIfAny_X0_isLess
set_option maxRecDepth 20000 in
theorem ggX1_putIfAny_X1_put : GoodIn wsX1_putIfAny wsX1_put := goodIn_r _ [17, 1, 18, 19, 20, 21, 22, 23, 24, 25, 26, 27, 28, 29, 30] (by decide +kernel) (by decide +kernel)
set_option maxRecDepth 20000 in
theorem gX1_putIfAny_X1_put : GoodIn wsX1_putIfAny (wsV RX1 106 RX1 yX1_put wsX1_put) := goodIn_app (goodIn_of _ (by decide +kernel)) ggX1_putIfAny_X1_put
theorem dX1_putIfAny_0 : decode cX1_putIfAny 0 = .ok (.iload_n 2, 1) := by decide +kernel
theorem dX1_putIfAny_1 : decode cX1_putIfAny 1 = .ok (.lload 5, 2) := by decide +kernel
theorem dX1_putIfAny_3 : decode cX1_putIfAny 3 = .ok (.lload_n 3, 1) := by decide +kernel
theorem dX1_putIfAny_4 : decode cX1_putIfAny 4 = .ok (.invokestatic 72, 3) := by decide +kernel
theorem dX1_putIfAny_7 : decode cX1_putIfAny 7 = .ok (.ifCond .eq 12, 3) := by decide +kernel
theorem dX1_putIfAny_10 : decode cX1_putIfAny 10 = .ok (.aload_n 0, 1) := by decide +kernel
theorem dX1_putIfAny_11 : decode cX1_putIfAny 11 = .ok (.getfield 9, 3) := by decide +kernel
theorem dX1_putIfAny_14 : decode cX1_putIfAny 14 = .ok (.iload_n 1, 1) := by decide +kernel
theorem dX1_putIfAny_15 : decode cX1_putIfAny 15 = .ok (.iconst (-1), 1) := by decide +kernel
theorem dX1_putIfAny_16 : decode cX1_putIfAny 16 = .ok (.iastore, 1) := by decide +kernel
theorem dX1_putIfAny_17 : decode cX1_putIfAny 17 = .ok (.iconst 0, 1) := by decide +kernel
theorem dX1_putIfAny_18 : decode cX1_putIfAny 18 = .ok (.ireturn, 1) := by decide +kernel
theorem dX1_putIfAny_19 : decode cX1_putIfAny 19 = .ok (.aload_n 0, 1) := by decide +kernel
theorem dX1_putIfAny_20 : decode cX1_putIfAny 20 = .ok (.iload_n 1, 1) := by decide +kernel
theorem dX1_putIfAny_21 : decode cX1_putIfAny 21 = .ok (.iload_n 2, 1) := by decide +kernel
theorem dX1_putIfAny_22 : decode cX1_putIfAny 22 = .ok (.lload_n 3, 1) := by decide +kernel
theorem dX1_putIfAny_23 : decode cX1_putIfAny 23 = .ok (.lload 5, 2) := by decide +kernel
theorem dX1_putIfAny_25 : decode cX1_putIfAny 25 = .ok (.invokevirtual 106, 3) := by decide +kernel
theorem dX1_putIfAny_28 : decode cX1_putIfAny 28 = .ok (.ireturn, 1) := by decide +kernel
theorem dX2_init_0 : decode cX2_init 0 = .ok (.aload_n 0, 1) := by decide +kernel
theorem dX2_init_1 : decode cX2_init 1 = .ok (.invokespecial 1, 3) := by decide +kernel
theorem dX2_init_4 : decode cX2_init 4 = .ok (.aload_n 0, 1) := by decide +kernel
theorem dX2_init_5 : decode cX2_init 5 = .ok (.bipush 16, 2) := by decide +kernel
theorem dX2_init_7 : decode cX2_init 7 = .ok (.newarray .int, 2) := by decide +kernel
theorem dX2_init_9 : decode cX2_init 9 = .ok (.dup, 1) := by decide +kernel
theorem dX2_init_10 : decode cX2_init 10 = .ok (.iconst 0, 1) := by decide +kernel
theorem dX2_init_11 : decode cX2_init 11 = .ok (.iconst (-1), 1) := by decide +kernel
theorem dX2_init_12 : decode cX2_init 12 = .ok (.iastore, 1) := by decide +kernel
theorem dX2_init_13 : decode cX2_init 13 = .ok (.dup, 1) := by decide +kernel
theorem dX2_init_14 : decode cX2_init 14 = .ok (.iconst 1, 1) := by decide +kernel
theorem dX2_init_15 : decode cX2_init 15 = .ok (.iconst (-1), 1) := by decide +kernel
theorem dX2_init_16 : decode cX2_init 16 = .ok (.iastore, 1) := by decide +kernel
theorem dX2_init_17 : decode cX2_init 17 = .ok (.dup, 1) := by decide +kernel
theorem dX2_init_18 : decode cX2_init 18 = .ok (.iconst 2, 1) := by decide +kernel
theorem dX2_init_19 : decode cX2_init 19 = .ok (.iconst (-1), 1) := by decide +kernel
theorem dX2_init_20 : decode cX2_init 20 = .ok (.iastore, 1) := by decide +kernel
theorem dX2_init_21 : decode cX2_init 21 = .ok (.dup, 1) := by decide +kernel
theorem dX2_init_22 : decode cX2_init 22 = .ok (.iconst 3, 1) := by decide +kernel
theorem dX2_init_23 : decode cX2_init 23 = .ok (.iconst (-1), 1) := by decide +kernel
theorem dX2_init_24 : decode cX2_init 24 = .ok (.iastore, 1) := by decide +kernel
theorem dX2_init_25 : decode cX2_init 25 = .ok (.dup, 1) := by decide +kernel
theorem dX2_init_26 : decode cX2_init 26 = .ok (.iconst 4, 1) := by decide +kernel
theorem dX2_init_27 : decode cX2_init 27 = .ok (.iconst (-1), 1) := by decide +kernel
theorem dX2_init_28 : decode cX2_init 28 = .ok (.iastore, 1) := by decide +kernel
theorem dX2_init_29 : decode cX2_init 29 = .ok (.dup, 1) := by decide +kernel
theorem dX2_init_30 : decode cX2_init 30 = .ok (.iconst 5, 1) := by decide +kernel
theorem dX2_init_31 : decode cX2_init 31 = .ok (.iconst (-1), 1) := by decide +kernel
theorem dX2_init_32 : decode cX2_init 32 = .ok (.iastore, 1) := by decide +kernel
theorem dX2_init_33 : decode cX2_init 33 = .ok (.dup, 1) := by decide +kernel
theorem dX2_init_34 : decode cX2_init 34 = .ok (.bipush 6, 2) := by decide +kernel
theorem dX2_init_36 : decode cX2_init 36 = .ok (.iconst (-1), 1) := by decide +kernel
theorem dX2_init_37 : decode cX2_init 37 = .ok (.iastore, 1) := by decide +kernel
theorem dX2_init_38 : decode cX2_init 38 = .ok (.dup, 1) := by decide +kernel
theorem dX2_init_39 : decode cX2_init 39 = .ok (.bipush 7, 2) := by decide +kernel
theorem dX2_init_41 : decode cX2_init 41 = .ok (.iconst (-1), 1) := by decide +kernel
theorem dX2_init_42 : decode cX2_init 42 = .ok (.iastore, 1) := by decide +kernel
theorem dX2_init_43 : decode cX2_init 43 = .ok (.dup, 1) := by decide +kernel
theorem dX2_init_44 : decode cX2_init 44 = .ok (.bipush 8, 2) := by decide +kernel
theorem dX2_init_46 : decode cX2_init 46 = .ok (.iconst (-1), 1) := by decide +kernel
theorem dX2_init_47 : decode cX2_init 47 = .ok (.iastore, 1) := by decide +kernel
theorem dX2_init_48 : decode cX2_init 48 = .ok (.dup, 1) := by decide +kernel
theorem dX2_init_49 : decode cX2_init 49 = .ok (.bipush 9, 2) := by decide +kernel
theorem dX2_init_51 : decode cX2_init 51 = .ok (.iconst (-1), 1) := by decide +kernel
theorem dX2_init_52 : decode cX2_init 52 = .ok (.iastore, 1) := by decide +kernel
theorem dX2_init_53 : decode cX2_init 53 = .ok (.dup, 1) := by decide +kernel
theorem dX2_init_54 : decode cX2_init 54 = .ok (.bipush 10, 2) := by decide +kernel
theorem dX2_init_56 : decode cX2_init 56 = .ok (.iconst (-1), 1) := by decide +kernel
theorem dX2_init_57 : decode cX2_init 57 = .ok (.iastore, 1) := by decide +kernel
theorem dX2_init_58 : decode cX2_init 58 = .ok (.dup, 1) := by decide +kernel
theorem dX2_init_59 : decode cX2_init 59 = .ok (.bipush 11, 2) := by decide +kernel
theorem dX2_init_61 : decode cX2_init 61 = .ok (.iconst (-1), 1) := by decide +kernel
theorem dX2_init_62 : decode cX2_init 62 = .ok (.iastore, 1) := by decide +kernel
theorem dX2_init_63 : decode cX2_init 63 = .ok (.dup, 1) := by decide +kernel
theorem dX2_init_64 : decode cX2_init 64 = .ok (.bipush 12, 2) := by decide +kernel
theorem dX2_init_66 : decode cX2_init 66 = .ok (.iconst (-1), 1) := by decide +kernel
theorem dX2_init_67 : decode cX2_init 67 = .ok (.iastore, 1) := by decide +kernel
theorem dX2_init_68 : decode cX2_init 68 = .ok (.dup, 1) := by decide +kernel
theorem dX2_init_69 : decode cX2_init 69 = .ok (.bipush 13, 2) := by decide +kernel
theorem dX2_init_71 : decode cX2_init 71 = .ok (.iconst (-1), 1) := by decide +kernel
theorem dX2_init_72 : decode cX2_init 72 = .ok (.iastore, 1) := by decide +kernel
theorem dX2_init_73 : decode cX2_init 73 = .ok (.dup, 1) := by decide +kernel
theorem dX2_init_74 : decode cX2_init 74 = .ok (.bipush 14, 2) := by decide +kernel
theorem dX2_init_76 : decode cX2_init 76 = .ok (.iconst (-1), 1) := by decide +kernel
theorem dX2_init_77 : decode cX2_init 77 = .ok (.iastore, 1) := by decide +kernel
theorem dX2_init_78 : decode cX2_init 78 = .ok (.dup, 1) := by decide +kernel
theorem dX2_init_79 : decode cX2_init 79 = .ok (.bipush 15, 2) := by decide +kernel
theorem dX2_init_81 : decode cX2_init 81 = .ok (.iconst (-1), 1) := by decide +kernel
theorem dX2_init_82 : decode cX2_init 82 = .ok (.iastore, 1) := by decide +kernel
theorem dX2_init_83 : decode cX2_init 83 = .ok (.putfield 7, 3) := by decide +kernel
theorem dX2_init_86 : decode cX2_init 86 = .ok (.aload_n 0, 1) := by decide +kernel
theorem dX2_init_87 : decode cX2_init 87 = .ok (.bipush 16, 2) := by decide +kernel
theorem dX2_init_89 : decode cX2_init 89 = .ok (.newarray .long, 2) := by decide +kernel
theorem dX2_init_91 : decode cX2_init 91 = .ok (.putfield 13, 3) := by decide +kernel
theorem dX2_init_94 : decode cX2_init 94 = .ok (.aload_n 0, 1) := by decide +kernel
theorem dX2_init_95 : decode cX2_init 95 = .ok (.bipush 16, 2) := by decide +kernel
theorem dX2_init_97 : decode cX2_init 97 = .ok (.newarray .long, 2) := by decide +kernel
theorem dX2_init_99 : decode cX2_init 99 = .ok (.putfield 17, 3) := by decide +kernel
theorem dX2_init_102 : decode cX2_init 102 = .ok (.aload_n 0, 1) := by decide +kernel
theorem dX2_init_103 : decode cX2_init 103 = .ok (.bipush 12, 2) := by decide +kernel
theorem dX2_init_105 : decode cX2_init 105 = .ok (.newarray .boolean, 2) := by decide +kernel
theorem dX2_init_107 : decode cX2_init 107 = .ok (.putfield 20, 3) := by decide +kernel
theorem dX2_init_110 : decode cX2_init 110 = .ok (.aload_n 0, 1) := by decide +kernel
theorem dX2_init_111 : decode cX2_init 111 = .ok (.bipush 12, 2) := by decide +kernel
theorem dX2_init_113 : decode cX2_init 113 = .ok (.newarray .int, 2) := by decide +kernel
theorem dX2_init_115 : decode cX2_init 115 = .ok (.putfield 24, 3) := by decide +kernel
theorem dX2_init_118 : decode cX2_init 118 = .ok (.aload_n 0, 1) := by decide +kernel
theorem dX2_init_119 : decode cX2_init 119 = .ok (.bipush 12, 2) := by decide +kernel
theorem dX2_init_121 : decode cX2_init 121 = .ok (.newarray .int, 2) := by decide +kernel
theorem dX2_init_123 : decode cX2_init 123 = .ok (.putfield 27, 3) := by decide +kernel
theorem dX2_init_126 : decode cX2_init 126 = .ok (.aload_n 0, 1) := by decide +kernel
theorem dX2_init_127 : decode cX2_init 127 = .ok (.bipush 12, 2) := by decide +kernel
theorem dX2_init_129 : decode cX2_init 129 = .ok (.newarray .int, 2) := by decide +kernel
theorem dX2_init_131 : decode cX2_init 131 = .ok (.putfield 30, 3) := by decide +kernel
theorem dX2_init_134 : decode cX2_init 134 = .ok (.aload_n 0, 1) := by decide +kernel
theorem dX2_init_135 : decode cX2_init 135 = .ok (.bipush 12, 2) := by decide +kernel
theorem dX2_init_137 : decode cX2_init 137 = .ok (.newarray .int, 2) := by decide +kernel
theorem dX2_init_139 : decode cX2_init 139 = .ok (.putfield 33, 3) := by decide +kernel
theorem dX2_init_142 : decode cX2_init 142 = .ok (.return_, 1) := by decide +kernel
theorem dX2_refuses_0 : decode cX2_refuses 0 = .ok (.aload_n 0, 1) := by decide +kernel
theorem dX2_refuses_1 : decode cX2_refuses 1 = .ok (.iload_n 1, 1) := by decide +kernel
theorem dX2_refuses_2 : decode cX2_refuses 2 = .ok (.putfield 36, 3) := by decide +kernel
theorem dX2_refuses_5 : decode cX2_refuses 5 = .ok (.aload_n 0, 1) := by decide +kernel
theorem dX2_refuses_6 : decode cX2_refuses 6 = .ok (.dup, 1) := by decide +kernel
theorem dX2_refuses_7 : decode cX2_refuses 7 = .ok (.getfield 40, 3) := by decide +kernel
theorem dX2_refuses_10 : decode cX2_refuses 10 = .ok (.iconst 1, 1) := by decide +kernel
theorem dX2_refuses_11 : decode cX2_refuses 11 = .ok (.iadd, 1) := by decide +kernel
theorem dX2_refuses_12 : decode cX2_refuses 12 = .ok (.putfield 40, 3) := by decide +kernel
theorem dX2_refuses_15 : decode cX2_refuses 15 = .ok (.iload_n 1, 1) := by decide +kernel
theorem dX2_refuses_16 : decode cX2_refuses 16 = .ok (.ireturn, 1) := by decide +kernel
theorem dX2_says_0 : decode cX2_says 0 = .ok (.aload_n 0, 1) := by decide +kernel
theorem dX2_says_1 : decode cX2_says 1 = .ok (.iconst 0, 1) := by decide +kernel
theorem dX2_says_2 : decode cX2_says 2 = .ok (.putfield 36, 3) := by decide +kernel
theorem dX2_says_5 : decode cX2_says 5 = .ok (.iload_n 1, 1) := by decide +kernel
theorem dX2_says_6 : decode cX2_says 6 = .ok (.ireturn, 1) := by decide +kernel
theorem dX2_isSlot_0 : decode cX2_isSlot 0 = .ok (.iload_n 0, 1) := by decide +kernel
theorem dX2_isSlot_1 : decode cX2_isSlot 1 = .ok (.ifCond .lt 13, 3) := by decide +kernel
theorem dX2_isSlot_4 : decode cX2_isSlot 4 = .ok (.iload_n 0, 1) := by decide +kernel
theorem dX2_isSlot_5 : decode cX2_isSlot 5 = .ok (.bipush 16, 2) := by decide +kernel
theorem dX2_isSlot_7 : decode cX2_isSlot 7 = .ok (.if_icmp .ge 7, 3) := by decide +kernel
theorem dX2_isSlot_10 : decode cX2_isSlot 10 = .ok (.iconst 1, 1) := by decide +kernel
theorem dX2_isSlot_11 : decode cX2_isSlot 11 = .ok (.goto 4, 3) := by decide +kernel
theorem dX2_isSlot_14 : decode cX2_isSlot 14 = .ok (.iconst 0, 1) := by decide +kernel
theorem dX2_isSlot_15 : decode cX2_isSlot 15 = .ok (.ireturn, 1) := by decide +kernel
set_option maxRecDepth 20000 in
theorem ggX2_whyNot_X2_isSlot : GoodIn wsX2_whyNot wsX2_isSlot := goodIn_r _ [5] (by decide +kernel) (by decide +kernel)
set_option maxRecDepth 20000 in
theorem gX2_whyNot_X2_isSlot : GoodIn wsX2_whyNot (va_wsS RX2 43 yX2_isSlot wsX2_isSlot) := goodIn_app (goodIn_of _ (by decide +kernel)) ggX2_whyNot_X2_isSlot
theorem dX2_whyNot_0 : decode cX2_whyNot 0 = .ok (.iload_n 1, 1) := by decide +kernel
theorem dX2_whyNot_1 : decode cX2_whyNot 1 = .ok (.invokestatic 43, 3) := by decide +kernel
theorem dX2_whyNot_4 : decode cX2_whyNot 4 = .ok (.ifCond .eq 17, 3) := by decide +kernel
theorem dX2_whyNot_7 : decode cX2_whyNot 7 = .ok (.iload_n 2, 1) := by decide +kernel
theorem dX2_whyNot_8 : decode cX2_whyNot 8 = .ok (.invokestatic 43, 3) := by decide +kernel
theorem dX2_whyNot_11 : decode cX2_whyNot 11 = .ok (.ifCond .eq 10, 3) := by decide +kernel
theorem dX2_whyNot_14 : decode cX2_whyNot 14 = .ok (.iload_n 3, 1) := by decide +kernel
theorem dX2_whyNot_15 : decode cX2_whyNot 15 = .ok (.invokestatic 43, 3) := by decide +kernel
theorem dX2_whyNot_18 : decode cX2_whyNot 18 = .ok (.ifCond .ne 6, 3) := by decide +kernel
theorem dX2_whyNot_21 : decode cX2_whyNot 21 = .ok (.bipush (-2), 2) := by decide +kernel
theorem dX2_whyNot_23 : decode cX2_whyNot 23 = .ok (.ireturn, 1) := by decide +kernel
theorem dX2_whyNot_24 : decode cX2_whyNot 24 = .ok (.aload_n 0, 1) := by decide +kernel
theorem dX2_whyNot_25 : decode cX2_whyNot 25 = .ok (.getfield 7, 3) := by decide +kernel
theorem dX2_whyNot_28 : decode cX2_whyNot 28 = .ok (.iload_n 1, 1) := by decide +kernel
theorem dX2_whyNot_29 : decode cX2_whyNot 29 = .ok (.iaload, 1) := by decide +kernel
theorem dX2_whyNot_30 : decode cX2_whyNot 30 = .ok (.iconst (-1), 1) := by decide +kernel
theorem dX2_whyNot_31 : decode cX2_whyNot 31 = .ok (.if_icmp .eq 13, 3) := by decide +kernel
theorem dX2_whyNot_34 : decode cX2_whyNot 34 = .ok (.aload_n 0, 1) := by decide +kernel
theorem dX2_whyNot_35 : decode cX2_whyNot 35 = .ok (.getfield 7, 3) := by decide +kernel
theorem dX2_whyNot_38 : decode cX2_whyNot 38 = .ok (.iload_n 2, 1) := by decide +kernel
theorem dX2_whyNot_39 : decode cX2_whyNot 39 = .ok (.iaload, 1) := by decide +kernel
theorem dX2_whyNot_40 : decode cX2_whyNot 40 = .ok (.iconst (-1), 1) := by decide +kernel
theorem dX2_whyNot_41 : decode cX2_whyNot 41 = .ok (.if_icmp .ne 8, 3) := by decide +kernel
theorem dX2_whyNot_44 : decode cX2_whyNot 44 = .ok (.bipush (-3), 2) := by decide +kernel
theorem dX2_whyNot_46 : decode cX2_whyNot 46 = .ok (.goto 4, 3) := by decide +kernel
theorem dX2_whyNot_49 : decode cX2_whyNot 49 = .ok (.iconst 0, 1) := by decide +kernel
theorem dX2_whyNot_50 : decode cX2_whyNot 50 = .ok (.ireturn, 1) := by decide +kernel
theorem dX2_isBroken_0 : decode cX2_isBroken 0 = .ok (.iload_n 0, 1) := by decide +kernel
theorem dX2_isBroken_1 : decode cX2_isBroken 1 = .ok (.iconst 2, 1) := by decide +kernel
theorem dX2_isBroken_2 : decode cX2_isBroken 2 = .ok (.if_icmp .lt 7, 3) := by decide +kernel
theorem dX2_isBroken_5 : decode cX2_isBroken 5 = .ok (.iconst 1, 1) := by decide +kernel
theorem dX2_isBroken_6 : decode cX2_isBroken 6 = .ok (.goto 4, 3) := by decide +kernel
theorem dX2_isBroken_9 : decode cX2_isBroken 9 = .ok (.iconst 0, 1) := by decide +kernel
theorem dX2_isBroken_10 : decode cX2_isBroken 10 = .ok (.ireturn, 1) := by decide +kernel
theorem dX2_taken_0 : decode cX2_taken 0 = .ok (.iload_n 0, 1) := by decide +kernel
theorem dX2_taken_1 : decode cX2_taken 1 = .ok (.ifCond .eq 8, 3) := by decide +kernel
theorem dX2_taken_4 : decode cX2_taken 4 = .ok (.iload_n 0, 1) := by decide +kernel
theorem dX2_taken_5 : decode cX2_taken 5 = .ok (.iconst 2, 1) := by decide +kernel
theorem dX2_taken_6 : decode cX2_taken 6 = .ok (.if_icmp .ne 9, 3) := by decide +kernel
theorem dX2_taken_9 : decode cX2_taken 9 = .ok (.lload_n 1, 1) := by decide +kernel
theorem dX2_taken_10 : decode cX2_taken 10 = .ok (.l2i, 1) := by decide +kernel
theorem dX2_taken_11 : decode cX2_taken 11 = .ok (.i2l, 1) := by decide +kernel
theorem dX2_taken_12 : decode cX2_taken 12 = .ok (.goto 4, 3) := by decide +kernel
theorem dX2_taken_15 : decode cX2_taken 15 = .ok (.lload_n 1, 1) := by decide +kernel
theorem dX2_taken_16 : decode cX2_taken 16 = .ok (.lreturn, 1) := by decide +kernel
theorem dX2_magnitude_0 : decode cX2_magnitude 0 = .ok (.iload_n 0, 1) := by decide +kernel
theorem dX2_magnitude_1 : decode cX2_magnitude 1 = .ok (.iconst 2, 1) := by decide +kernel
theorem dX2_magnitude_2 : decode cX2_magnitude 2 = .ok (.if_icmp .ne 11, 3) := by decide +kernel
theorem dX2_magnitude_5 : decode cX2_magnitude 5 = .ok (.lload_n 1, 1) := by decide +kernel
theorem dX2_magnitude_6 : decode cX2_magnitude 6 = .ok (.ldc2_w 47, 3) := by decide +kernel
theorem dX2_magnitude_9 : decode cX2_magnitude 9 = .ok (.land, 1) := by decide +kernel
theorem dX2_magnitude_10 : decode cX2_magnitude 10 = .ok (.goto 8, 3) := by decide +kernel
theorem dX2_magnitude_13 : decode cX2_magnitude 13 = .ok (.lload_n 1, 1) := by decide +kernel
theorem dX2_magnitude_14 : decode cX2_magnitude 14 = .ok (.ldc2_w 49, 3) := by decide +kernel
theorem dX2_magnitude_17 : decode cX2_magnitude 17 = .ok (.land, 1) := by decide +kernel
theorem dX2_magnitude_18 : decode cX2_magnitude 18 = .ok (.lreturn, 1) := by decide +kernel
theorem dX2_endless_0 : decode cX2_endless 0 = .ok (.iload_n 0, 1) := by decide +kernel
theorem dX2_endless_1 : decode cX2_endless 1 = .ok (.iconst 2, 1) := by decide +kernel
theorem dX2_endless_2 : decode cX2_endless 2 = .ok (.if_icmp .ne 9, 3) := by decide +kernel
theorem dX2_endless_5 : decode cX2_endless 5 = .ok (.ldc2_w 51, 3) := by decide +kernel
theorem dX2_endless_8 : decode cX2_endless 8 = .ok (.goto 6, 3) := by decide +kernel
theorem dX2_endless_11 : decode cX2_endless 11 = .ok (.ldc2_w 53, 3) := by decide +kernel
theorem dX2_endless_14 : decode cX2_endless 14 = .ok (.lreturn, 1) := by decide +kernel
theorem dX2_one_0 : decode cX2_one 0 = .ok (.iload_n 0, 1) := by decide +kernel
theorem dX2_one_1 : decode cX2_one 1 = .ok (.iconst 2, 1) := by decide +kernel
theorem dX2_one_2 : decode cX2_one 2 = .ok (.if_icmp .ne 9, 3) := by decide +kernel
theorem dX2_one_5 : decode cX2_one 5 = .ok (.ldc2_w 55, 3) := by decide +kernel
theorem dX2_one_8 : decode cX2_one 8 = .ok (.goto 6, 3) := by decide +kernel
theorem dX2_one_11 : decode cX2_one 11 = .ok (.ldc2_w 57, 3) := by decide +kernel
theorem dX2_one_14 : decode cX2_one 14 = .ok (.lreturn, 1) := by decide +kernel
theorem dX2_signed_0 : decode cX2_signed 0 = .ok (.iload_n 3, 1) := by decide +kernel
theorem dX2_signed_1 : decode cX2_signed 1 = .ok (.ifCond .ne 5, 3) := by decide +kernel
theorem dX2_signed_4 : decode cX2_signed 4 = .ok (.lload_n 1, 1) := by decide +kernel
theorem dX2_signed_5 : decode cX2_signed 5 = .ok (.lreturn, 1) := by decide +kernel
theorem dX2_signed_6 : decode cX2_signed 6 = .ok (.iload_n 0, 1) := by decide +kernel
theorem dX2_signed_7 : decode cX2_signed 7 = .ok (.iconst 2, 1) := by decide +kernel
theorem dX2_signed_8 : decode cX2_signed 8 = .ok (.if_icmp .ne 13, 3) := by decide +kernel
theorem dX2_signed_11 : decode cX2_signed 11 = .ok (.lload_n 1, 1) := by decide +kernel
theorem dX2_signed_12 : decode cX2_signed 12 = .ok (.ldc2_w 59, 3) := by decide +kernel
theorem dX2_signed_15 : decode cX2_signed 15 = .ok (.lor, 1) := by decide +kernel
theorem dX2_signed_16 : decode cX2_signed 16 = .ok (.l2i, 1) := by decide +kernel
theorem dX2_signed_17 : decode cX2_signed 17 = .ok (.i2l, 1) := by decide +kernel
theorem dX2_signed_18 : decode cX2_signed 18 = .ok (.goto 8, 3) := by decide +kernel
theorem dX2_signed_21 : decode cX2_signed 21 = .ok (.lload_n 1, 1) := by decide +kernel
theorem dX2_signed_22 : decode cX2_signed 22 = .ok (.ldc2_w 61, 3) := by decide +kernel
theorem dX2_signed_25 : decode cX2_signed 25 = .ok (.lor, 1) := by decide +kernel
theorem dX2_signed_26 : decode cX2_signed 26 = .ok (.lreturn, 1) := by decide +kernel
set_option maxRecDepth 20000 in
theorem ggX2_isNumber_X2_isBroken : GoodIn wsX2_isNumber wsX2_isBroken := goodIn_r _ [4] (by decide +kernel) (by decide +kernel)
set_option maxRecDepth 20000 in
theorem gX2_isNumber_X2_isBroken : GoodIn wsX2_isNumber (va_wsS RX2 63 yX2_isBroken wsX2_isBroken) := goodIn_app (goodIn_of _ (by decide +kernel)) ggX2_isNumber_X2_isBroken
set_option maxRecDepth 20000 in
theorem ggX2_isNumber_X2_magnitude : GoodIn wsX2_isNumber wsX2_magnitude := goodIn_r _ [7, 8, 9] (by decide +kernel) (by decide +kernel)
set_option maxRecDepth 20000 in
theorem gX2_isNumber_X2_magnitude : GoodIn wsX2_isNumber (va_wsS RX2 66 yX2_magnitude wsX2_magnitude) := goodIn_app (goodIn_of _ (by decide +kernel)) ggX2_isNumber_X2_magnitude
set_option maxRecDepth 20000 in
theorem ggX2_isNumber_X2_endless : GoodIn wsX2_isNumber wsX2_endless := goodIn_r _ [12, 13, 14] (by decide +kernel) (by decide +kernel)
set_option maxRecDepth 20000 in
theorem gX2_isNumber_X2_endless : GoodIn wsX2_isNumber (va_wsS RX2 70 yX2_endless wsX2_endless) := goodIn_app (goodIn_of _ (by decide +kernel)) ggX2_isNumber_X2_endless
theorem dX2_isNumber_0 : decode cX2_isNumber 0 = .ok (.iload_n 0, 1) := by decide +kernel
theorem dX2_isNumber_1 : decode cX2_isNumber 1 = .ok (.invokestatic 63, 3) := by decide +kernel
theorem dX2_isNumber_4 : decode cX2_isNumber 4 = .ok (.ifCond .eq 16, 3) := by decide +kernel
theorem dX2_isNumber_7 : decode cX2_isNumber 7 = .ok (.iload_n 0, 1) := by decide +kernel
theorem dX2_isNumber_8 : decode cX2_isNumber 8 = .ok (.lload_n 1, 1) := by decide +kernel
theorem dX2_isNumber_9 : decode cX2_isNumber 9 = .ok (.invokestatic 66, 3) := by decide +kernel
theorem dX2_isNumber_12 : decode cX2_isNumber 12 = .ok (.iload_n 0, 1) := by decide +kernel
theorem dX2_isNumber_13 : decode cX2_isNumber 13 = .ok (.invokestatic 70, 3) := by decide +kernel
theorem dX2_isNumber_16 : decode cX2_isNumber 16 = .ok (.lcmp, 1) := by decide +kernel
theorem dX2_isNumber_17 : decode cX2_isNumber 17 = .ok (.ifCond .gt 7, 3) := by decide +kernel
theorem dX2_isNumber_20 : decode cX2_isNumber 20 = .ok (.iconst 1, 1) := by decide +kernel
theorem dX2_isNumber_21 : decode cX2_isNumber 21 = .ok (.goto 4, 3) := by decide +kernel
theorem dX2_isNumber_24 : decode cX2_isNumber 24 = .ok (.iconst 0, 1) := by decide +kernel
theorem dX2_isNumber_25 : decode cX2_isNumber 25 = .ok (.ireturn, 1) := by decide +kernel
set_option maxRecDepth 20000 in
theorem ggX2_rank_X2_isBroken : GoodIn wsX2_rank wsX2_isBroken := goodIn_r _ [6] (by decide +kernel) (by decide +kernel)
set_option maxRecDepth 20000 in
theorem gX2_rank_X2_isBroken : GoodIn wsX2_rank (va_wsS RX2 63 yX2_isBroken wsX2_isBroken) := goodIn_app (goodIn_of _ (by decide +kernel)) ggX2_rank_X2_isBroken
theorem dX2_rank_0 : decode cX2_rank 0 = .ok (.iload_n 0, 1) := by decide +kernel
theorem dX2_rank_1 : decode cX2_rank 1 = .ok (.invokestatic 63, 3) := by decide +kernel
theorem dX2_rank_4 : decode cX2_rank 4 = .ok (.ifCond .eq 9, 3) := by decide +kernel
theorem dX2_rank_7 : decode cX2_rank 7 = .ok (.lload_n 1, 1) := by decide +kernel
theorem dX2_rank_8 : decode cX2_rank 8 = .ok (.lconst 0, 1) := by decide +kernel
theorem dX2_rank_9 : decode cX2_rank 9 = .ok (.lcmp, 1) := by decide +kernel
theorem dX2_rank_10 : decode cX2_rank 10 = .ok (.ifCond .lt 5, 3) := by decide +kernel
theorem dX2_rank_13 : decode cX2_rank 13 = .ok (.lload_n 1, 1) := by decide +kernel
theorem dX2_rank_14 : decode cX2_rank 14 = .ok (.lreturn, 1) := by decide +kernel
theorem dX2_rank_15 : decode cX2_rank 15 = .ok (.iload_n 0, 1) := by decide +kernel
theorem dX2_rank_16 : decode cX2_rank 16 = .ok (.iconst 2, 1) := by decide +kernel
theorem dX2_rank_17 : decode cX2_rank 17 = .ok (.if_icmp .ne 11, 3) := by decide +kernel
theorem dX2_rank_20 : decode cX2_rank 20 = .ok (.lload_n 1, 1) := by decide +kernel
theorem dX2_rank_21 : decode cX2_rank 21 = .ok (.ldc2_w 47, 3) := by decide +kernel
theorem dX2_rank_24 : decode cX2_rank 24 = .ok (.lxor, 1) := by decide +kernel
theorem dX2_rank_25 : decode cX2_rank 25 = .ok (.goto 8, 3) := by decide +kernel
theorem dX2_rank_28 : decode cX2_rank 28 = .ok (.lload_n 1, 1) := by decide +kernel
theorem dX2_rank_29 : decode cX2_rank 29 = .ok (.ldc2_w 49, 3) := by decide +kernel
theorem dX2_rank_32 : decode cX2_rank 32 = .ok (.lxor, 1) := by decide +kernel
theorem dX2_rank_33 : decode cX2_rank 33 = .ok (.lreturn, 1) := by decide +kernel
set_option maxRecDepth 20000 in
theorem ggX2_isAbove_X2_rank : GoodIn wsX2_isAbove wsX2_rank := goodIn_r _ [4, 5, 6, 7, 8, 3, 9] (by decide +kernel) (by decide +kernel)
set_option maxRecDepth 20000 in
theorem gX2_isAbove_X2_rank : GoodIn wsX2_isAbove (va_wsS RX2 74 yX2_rank wsX2_rank) := goodIn_app (goodIn_of _ (by decide +kernel)) ggX2_isAbove_X2_rank
theorem dX2_isAbove_0 : decode cX2_isAbove 0 = .ok (.iload_n 0, 1) := by decide +kernel
theorem dX2_isAbove_1 : decode cX2_isAbove 1 = .ok (.lload_n 1, 1) := by decide +kernel
theorem dX2_isAbove_2 : decode cX2_isAbove 2 = .ok (.invokestatic 74, 3) := by decide +kernel
theorem dX2_isAbove_5 : decode cX2_isAbove 5 = .ok (.iload_n 0, 1) := by decide +kernel
theorem dX2_isAbove_6 : decode cX2_isAbove 6 = .ok (.lload_n 3, 1) := by decide +kernel
theorem dX2_isAbove_7 : decode cX2_isAbove 7 = .ok (.invokestatic 74, 3) := by decide +kernel
theorem dX2_isAbove_10 : decode cX2_isAbove 10 = .ok (.lcmp, 1) := by decide +kernel
theorem dX2_isAbove_11 : decode cX2_isAbove 11 = .ok (.ifCond .le 7, 3) := by decide +kernel
theorem dX2_isAbove_14 : decode cX2_isAbove 14 = .ok (.iconst 1, 1) := by decide +kernel
theorem dX2_isAbove_15 : decode cX2_isAbove 15 = .ok (.goto 4, 3) := by decide +kernel
theorem dX2_isAbove_18 : decode cX2_isAbove 18 = .ok (.iconst 0, 1) := by decide +kernel
