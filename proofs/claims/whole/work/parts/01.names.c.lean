theorem dX0_narrowed_1 : decode cX0_narrowed 1 = .ok (.lload_n 0, 1) := by decide +kernel
theorem dX0_narrowed_2 : decode cX0_narrowed 2 = .ok (.invokestatic 84, 3) := by decide +kernel
theorem dX0_narrowed_5 : decode cX0_narrowed 5 = .ok (.istore_n 2, 1) := by decide +kernel
theorem dX0_narrowed_6 : decode cX0_narrowed 6 = .ok (.iload_n 2, 1) := by decide +kernel
theorem dX0_narrowed_7 : decode cX0_narrowed 7 = .ok (.bipush 127, 2) := by decide +kernel
theorem dX0_narrowed_9 : decode cX0_narrowed 9 = .ok (.if_icmp .le 8, 3) := by decide +kernel
theorem dX0_narrowed_12 : decode cX0_narrowed 12 = .ok (.iconst 2, 1) := by decide +kernel
theorem dX0_narrowed_13 : decode cX0_narrowed 13 = .ok (.invokestatic 22, 3) := by decide +kernel
theorem dX0_narrowed_16 : decode cX0_narrowed 16 = .ok (.lreturn, 1) := by decide +kernel
theorem dX0_narrowed_17 : decode cX0_narrowed 17 = .ok (.iload_n 2, 1) := by decide +kernel
theorem dX0_narrowed_18 : decode cX0_narrowed 18 = .ok (.sipush (-150), 3) := by decide +kernel
theorem dX0_narrowed_21 : decode cX0_narrowed 21 = .ok (.if_icmp .ge 5, 3) := by decide +kernel
theorem dX0_narrowed_24 : decode cX0_narrowed 24 = .ok (.lconst 0, 1) := by decide +kernel
theorem dX0_narrowed_25 : decode cX0_narrowed 25 = .ok (.lreturn, 1) := by decide +kernel
theorem dX0_narrowed_26 : decode cX0_narrowed 26 = .ok (.iload_n 2, 1) := by decide +kernel
theorem dX0_narrowed_27 : decode cX0_narrowed 27 = .ok (.bipush (-127), 2) := by decide +kernel
theorem dX0_narrowed_29 : decode cX0_narrowed 29 = .ok (.if_icmp .le 16, 3) := by decide +kernel
theorem dX0_narrowed_32 : decode cX0_narrowed 32 = .ok (.lload_n 0, 1) := by decide +kernel
theorem dX0_narrowed_33 : decode cX0_narrowed 33 = .ok (.ldc2_w 107, 3) := by decide +kernel
theorem dX0_narrowed_36 : decode cX0_narrowed 36 = .ok (.lsub, 1) := by decide +kernel
theorem dX0_narrowed_37 : decode cX0_narrowed 37 = .ok (.lstore_n 3, 1) := by decide +kernel
theorem dX0_narrowed_38 : decode cX0_narrowed 38 = .ok (.lload_n 3, 1) := by decide +kernel
theorem dX0_narrowed_39 : decode cX0_narrowed 39 = .ok (.bipush 29, 2) := by decide +kernel
theorem dX0_narrowed_41 : decode cX0_narrowed 41 = .ok (.invokestatic 91, 3) := by decide +kernel
theorem dX0_narrowed_44 : decode cX0_narrowed 44 = .ok (.lreturn, 1) := by decide +kernel
theorem dX0_narrowed_45 : decode cX0_narrowed 45 = .ok (.iconst 3, 1) := by decide +kernel
theorem dX0_narrowed_46 : decode cX0_narrowed 46 = .ok (.lload_n 0, 1) := by decide +kernel
theorem dX0_narrowed_47 : decode cX0_narrowed 47 = .ok (.invokestatic 102, 3) := by decide +kernel
theorem dX0_narrowed_50 : decode cX0_narrowed 50 = .ok (.bipush (-97), 2) := by decide +kernel
theorem dX0_narrowed_52 : decode cX0_narrowed 52 = .ok (.iload_n 2, 1) := by decide +kernel
theorem dX0_narrowed_53 : decode cX0_narrowed 53 = .ok (.isub, 1) := by decide +kernel
theorem dX0_narrowed_54 : decode cX0_narrowed 54 = .ok (.invokestatic 91, 3) := by decide +kernel
theorem dX0_narrowed_57 : decode cX0_narrowed 57 = .ok (.lreturn, 1) := by decide +kernel
theorem dX1_init_0 : decode cX1_init 0 = .ok (.aload_n 0, 1) := by decide +kernel
theorem dX1_init_1 : decode cX1_init 1 = .ok (.invokespecial 1, 3) := by decide +kernel
theorem dX1_init_4 : decode cX1_init 4 = .ok (.aload_n 0, 1) := by decide +kernel
theorem dX1_init_5 : decode cX1_init 5 = .ok (.bipush 16, 2) := by decide +kernel
theorem dX1_init_7 : decode cX1_init 7 = .ok (.newarray .int, 2) := by decide +kernel
theorem dX1_init_9 : decode cX1_init 9 = .ok (.putfield 9, 3) := by decide +kernel
theorem dX1_init_12 : decode cX1_init 12 = .ok (.aload_n 0, 1) := by decide +kernel
theorem dX1_init_13 : decode cX1_init 13 = .ok (.bipush 16, 2) := by decide +kernel
theorem dX1_init_15 : decode cX1_init 15 = .ok (.newarray .long, 2) := by decide +kernel
theorem dX1_init_17 : decode cX1_init 17 = .ok (.putfield 13, 3) := by decide +kernel
theorem dX1_init_20 : decode cX1_init 20 = .ok (.aload_n 0, 1) := by decide +kernel
theorem dX1_init_21 : decode cX1_init 21 = .ok (.bipush 16, 2) := by decide +kernel
theorem dX1_init_23 : decode cX1_init 23 = .ok (.newarray .long, 2) := by decide +kernel
theorem dX1_init_25 : decode cX1_init 25 = .ok (.putfield 17, 3) := by decide +kernel
theorem dX1_init_28 : decode cX1_init 28 = .ok (.aload_n 0, 1) := by decide +kernel
theorem dX1_init_29 : decode cX1_init 29 = .ok (.bipush 12, 2) := by decide +kernel
theorem dX1_init_31 : decode cX1_init 31 = .ok (.newarray .int, 2) := by decide +kernel
theorem dX1_init_33 : decode cX1_init 33 = .ok (.putfield 20, 3) := by decide +kernel
theorem dX1_init_36 : decode cX1_init 36 = .ok (.aload_n 0, 1) := by decide +kernel
theorem dX1_init_37 : decode cX1_init 37 = .ok (.bipush 12, 2) := by decide +kernel
theorem dX1_init_39 : decode cX1_init 39 = .ok (.newarray .int, 2) := by decide +kernel
theorem dX1_init_41 : decode cX1_init 41 = .ok (.putfield 23, 3) := by decide +kernel
theorem dX1_init_44 : decode cX1_init 44 = .ok (.aload_n 0, 1) := by decide +kernel
theorem dX1_init_45 : decode cX1_init 45 = .ok (.bipush 12, 2) := by decide +kernel
theorem dX1_init_47 : decode cX1_init 47 = .ok (.newarray .int, 2) := by decide +kernel
theorem dX1_init_49 : decode cX1_init 49 = .ok (.putfield 26, 3) := by decide +kernel
theorem dX1_init_52 : decode cX1_init 52 = .ok (.aload_n 0, 1) := by decide +kernel
theorem dX1_init_53 : decode cX1_init 53 = .ok (.bipush 12, 2) := by decide +kernel
theorem dX1_init_55 : decode cX1_init 55 = .ok (.newarray .int, 2) := by decide +kernel
theorem dX1_init_57 : decode cX1_init 57 = .ok (.putfield 29, 3) := by decide +kernel
theorem dX1_init_60 : decode cX1_init 60 = .ok (.iconst 0, 1) := by decide +kernel
theorem dX1_init_61 : decode cX1_init 61 = .ok (.istore_n 1, 1) := by decide +kernel
theorem dX1_init_62 : decode cX1_init 62 = .ok (.iload_n 1, 1) := by decide +kernel
theorem dX1_init_63 : decode cX1_init 63 = .ok (.bipush 16, 2) := by decide +kernel
theorem dX1_init_65 : decode cX1_init 65 = .ok (.if_icmp .ge 16, 3) := by decide +kernel
theorem dX1_init_68 : decode cX1_init 68 = .ok (.aload_n 0, 1) := by decide +kernel
theorem dX1_init_69 : decode cX1_init 69 = .ok (.getfield 9, 3) := by decide +kernel
theorem dX1_init_72 : decode cX1_init 72 = .ok (.iload_n 1, 1) := by decide +kernel
theorem dX1_init_73 : decode cX1_init 73 = .ok (.iconst (-1), 1) := by decide +kernel
theorem dX1_init_74 : decode cX1_init 74 = .ok (.iastore, 1) := by decide +kernel
theorem dX1_init_75 : decode cX1_init 75 = .ok (.iinc 1 1, 3) := by decide +kernel
theorem dX1_init_78 : decode cX1_init 78 = .ok (.goto (-16), 3) := by decide +kernel
theorem dX1_init_81 : decode cX1_init 81 = .ok (.iconst 0, 1) := by decide +kernel
theorem dX1_init_82 : decode cX1_init 82 = .ok (.istore_n 1, 1) := by decide +kernel
theorem dX1_init_83 : decode cX1_init 83 = .ok (.iload_n 1, 1) := by decide +kernel
theorem dX1_init_84 : decode cX1_init 84 = .ok (.bipush 12, 2) := by decide +kernel
theorem dX1_init_86 : decode cX1_init 86 = .ok (.if_icmp .ge 16, 3) := by decide +kernel
theorem dX1_init_89 : decode cX1_init 89 = .ok (.aload_n 0, 1) := by decide +kernel
theorem dX1_init_90 : decode cX1_init 90 = .ok (.getfield 20, 3) := by decide +kernel
theorem dX1_init_93 : decode cX1_init 93 = .ok (.iload_n 1, 1) := by decide +kernel
theorem dX1_init_94 : decode cX1_init 94 = .ok (.iconst (-1), 1) := by decide +kernel
theorem dX1_init_95 : decode cX1_init 95 = .ok (.iastore, 1) := by decide +kernel
theorem dX1_init_96 : decode cX1_init 96 = .ok (.iinc 1 1, 3) := by decide +kernel
theorem dX1_init_99 : decode cX1_init 99 = .ok (.goto (-16), 3) := by decide +kernel
theorem dX1_init_102 : decode cX1_init 102 = .ok (.return_, 1) := by decide +kernel
set_option maxRecDepth 20000 in
theorem ggX1_set_X1_placed : GoodIn wsX1_set wsX1_placed := goodIn_r _ [5, 6, 7, 4, 8, 9, 10, 11, 12, 13, 14, 15, 16, 17, 18, 19, 20, 21, 22, 23, 24, 25, 26, 27, 28, 29, 30, 31, 32, 33, 34, 35, 36, 37, 38, 39, 40, 41, 42, 43, 44, 45, 46, 47, 48, 49, 50, 51, 52, 53, 54, 61, 62, 63, 64, 65, 66, 67, 68, 69, 70, 71] (by decide +kernel) (by decide +kernel)
set_option maxRecDepth 20000 in
theorem gX1_set_X1_placed : GoodIn wsX1_set (wsV RX1 32 RX1 yX1_placed wsX1_placed) := goodIn_app (goodIn_of _ (by decide +kernel)) ggX1_set_X1_placed
set_option maxRecDepth 20000 in
theorem ggX1_set_X1_noted : GoodIn wsX1_set wsX1_noted := goodIn_r _ [58, 59, 60, 61, 62, 63, 64, 65, 66, 67, 68, 69, 70, 71] (by decide +kernel) (by decide +kernel)
set_option maxRecDepth 20000 in
theorem gX1_set_X1_noted : GoodIn wsX1_set (wsV RX1 36 RX1 yX1_noted wsX1_noted) := goodIn_app (goodIn_of _ (by decide +kernel)) ggX1_set_X1_noted
theorem dX1_set_0 : decode cX1_set 0 = .ok (.aload_n 0, 1) := by decide +kernel
theorem dX1_set_1 : decode cX1_set 1 = .ok (.aload_n 0, 1) := by decide +kernel
theorem dX1_set_2 : decode cX1_set 2 = .ok (.iload_n 1, 1) := by decide +kernel
theorem dX1_set_3 : decode cX1_set 3 = .ok (.iload_n 2, 1) := by decide +kernel
theorem dX1_set_4 : decode cX1_set 4 = .ok (.lload_n 3, 1) := by decide +kernel
theorem dX1_set_5 : decode cX1_set 5 = .ok (.lload 5, 2) := by decide +kernel
theorem dX1_set_7 : decode cX1_set 7 = .ok (.invokevirtual 32, 3) := by decide +kernel
theorem dX1_set_10 : decode cX1_set 10 = .ok (.invokevirtual 36, 3) := by decide +kernel
theorem dX1_set_13 : decode cX1_set 13 = .ok (.ireturn, 1) := by decide +kernel
set_option maxRecDepth 20000 in
theorem ggX1_clear_X1_isSlot : GoodIn wsX1_clear wsX1_isSlot := goodIn_r _ [5] (by decide +kernel) (by decide +kernel)
set_option maxRecDepth 20000 in
theorem gX1_clear_X1_isSlot : GoodIn wsX1_clear (va_wsS RX1 40 yX1_isSlot wsX1_isSlot) := goodIn_app (goodIn_of _ (by decide +kernel)) ggX1_clear_X1_isSlot
set_option maxRecDepth 20000 in
theorem ggX1_clear_X1_noted : GoodIn wsX1_clear wsX1_noted := goodIn_r _ [9, 10, 11, 12, 13, 14, 15, 16, 17, 18, 19, 20, 21, 22] (by decide +kernel) (by decide +kernel)
set_option maxRecDepth 20000 in
theorem gX1_clear_X1_noted : GoodIn wsX1_clear (wsV RX1 36 RX1 yX1_noted wsX1_noted) := goodIn_app (goodIn_of _ (by decide +kernel)) ggX1_clear_X1_noted
theorem dX1_clear_0 : decode cX1_clear 0 = .ok (.iload_n 1, 1) := by decide +kernel
theorem dX1_clear_1 : decode cX1_clear 1 = .ok (.invokestatic 40, 3) := by decide +kernel
theorem dX1_clear_4 : decode cX1_clear 4 = .ok (.ifCond .ne 10, 3) := by decide +kernel
theorem dX1_clear_7 : decode cX1_clear 7 = .ok (.aload_n 0, 1) := by decide +kernel
theorem dX1_clear_8 : decode cX1_clear 8 = .ok (.bipush (-2), 2) := by decide +kernel
theorem dX1_clear_10 : decode cX1_clear 10 = .ok (.invokevirtual 36, 3) := by decide +kernel
theorem dX1_clear_13 : decode cX1_clear 13 = .ok (.ireturn, 1) := by decide +kernel
theorem dX1_clear_14 : decode cX1_clear 14 = .ok (.aload_n 0, 1) := by decide +kernel
theorem dX1_clear_15 : decode cX1_clear 15 = .ok (.getfield 9, 3) := by decide +kernel
theorem dX1_clear_18 : decode cX1_clear 18 = .ok (.iload_n 1, 1) := by decide +kernel
theorem dX1_clear_19 : decode cX1_clear 19 = .ok (.iaload, 1) := by decide +kernel
theorem dX1_clear_20 : decode cX1_clear 20 = .ok (.iconst (-1), 1) := by decide +kernel
theorem dX1_clear_21 : decode cX1_clear 21 = .ok (.if_icmp .ne 7, 3) := by decide +kernel
theorem dX1_clear_24 : decode cX1_clear 24 = .ok (.iconst 0, 1) := by decide +kernel
theorem dX1_clear_25 : decode cX1_clear 25 = .ok (.goto 4, 3) := by decide +kernel
theorem dX1_clear_28 : decode cX1_clear 28 = .ok (.iconst 1, 1) := by decide +kernel
theorem dX1_clear_29 : decode cX1_clear 29 = .ok (.istore_n 2, 1) := by decide +kernel
theorem dX1_clear_30 : decode cX1_clear 30 = .ok (.aload_n 0, 1) := by decide +kernel
theorem dX1_clear_31 : decode cX1_clear 31 = .ok (.getfield 9, 3) := by decide +kernel
theorem dX1_clear_34 : decode cX1_clear 34 = .ok (.iload_n 1, 1) := by decide +kernel
theorem dX1_clear_35 : decode cX1_clear 35 = .ok (.iconst (-1), 1) := by decide +kernel
theorem dX1_clear_36 : decode cX1_clear 36 = .ok (.iastore, 1) := by decide +kernel
theorem dX1_clear_37 : decode cX1_clear 37 = .ok (.aload_n 0, 1) := by decide +kernel
theorem dX1_clear_38 : decode cX1_clear 38 = .ok (.iload_n 2, 1) := by decide +kernel
theorem dX1_clear_39 : decode cX1_clear 39 = .ok (.invokevirtual 36, 3) := by decide +kernel
theorem dX1_clear_42 : decode cX1_clear 42 = .ok (.ireturn, 1) := by decide +kernel
set_option maxRecDepth 20000 in
theorem ggX1_sort_X1_refusalToTake : GoodIn wsX1_sort wsX1_refusalToTake := goodIn_r _ [6, 1, 7, 8, 5, 9, 16, 17, 18, 19, 20, 21, 22, 23, 24, 25, 26] (by decide +kernel) (by decide +kernel)
set_option maxRecDepth 20000 in
theorem gX1_sort_X1_refusalToTake : GoodIn wsX1_sort (wsV RX1 44 RX1 yX1_refusalToTake wsX1_refusalToTake) := goodIn_app (goodIn_of _ (by decide +kernel)) ggX1_sort_X1_refusalToTake
set_option maxRecDepth 20000 in
theorem ggX1_sort_X1_noted : GoodIn wsX1_sort wsX1_noted := goodIn_r _ [13, 14, 15, 16, 17, 18, 19, 20, 21, 22, 23, 24, 25, 26] (by decide +kernel) (by decide +kernel)
set_option maxRecDepth 20000 in
theorem gX1_sort_X1_noted : GoodIn wsX1_sort (wsV RX1 36 RX1 yX1_noted wsX1_noted) := goodIn_app (goodIn_of _ (by decide +kernel)) ggX1_sort_X1_noted
theorem dX1_sort_0 : decode cX1_sort 0 = .ok (.aload_n 0, 1) := by decide +kernel
theorem dX1_sort_1 : decode cX1_sort 1 = .ok (.iload_n 1, 1) := by decide +kernel
theorem dX1_sort_2 : decode cX1_sort 2 = .ok (.invokevirtual 44, 3) := by decide +kernel
theorem dX1_sort_5 : decode cX1_sort 5 = .ok (.istore_n 2, 1) := by decide +kernel
theorem dX1_sort_6 : decode cX1_sort 6 = .ok (.aload_n 0, 1) := by decide +kernel
theorem dX1_sort_7 : decode cX1_sort 7 = .ok (.iload_n 2, 1) := by decide +kernel
theorem dX1_sort_8 : decode cX1_sort 8 = .ok (.ifCond .ge 7, 3) := by decide +kernel
theorem dX1_sort_11 : decode cX1_sort 11 = .ok (.iload_n 2, 1) := by decide +kernel
theorem dX1_sort_12 : decode cX1_sort 12 = .ok (.goto 9, 3) := by decide +kernel
theorem dX1_sort_15 : decode cX1_sort 15 = .ok (.aload_n 0, 1) := by decide +kernel
theorem dX1_sort_16 : decode cX1_sort 16 = .ok (.getfield 9, 3) := by decide +kernel
theorem dX1_sort_19 : decode cX1_sort 19 = .ok (.iload_n 1, 1) := by decide +kernel
theorem dX1_sort_20 : decode cX1_sort 20 = .ok (.iaload, 1) := by decide +kernel
theorem dX1_sort_21 : decode cX1_sort 21 = .ok (.invokevirtual 36, 3) := by decide +kernel
theorem dX1_sort_24 : decode cX1_sort 24 = .ok (.ireturn, 1) := by decide +kernel
set_option maxRecDepth 20000 in
theorem ggX1_low_X1_refusalToTake : GoodIn wsX1_low wsX1_refusalToTake := goodIn_r _ [7, 8, 9, 10, 6, 11, 18, 19, 20, 21, 22, 23, 24, 25, 26, 27, 28] (by decide +kernel) (by decide +kernel)
set_option maxRecDepth 20000 in
theorem gX1_low_X1_refusalToTake : GoodIn wsX1_low (wsV RX1 44 RX1 yX1_refusalToTake wsX1_refusalToTake) := goodIn_app (goodIn_of _ (by decide +kernel)) ggX1_low_X1_refusalToTake
set_option maxRecDepth 20000 in
theorem ggX1_low_X1_noted : GoodIn wsX1_low wsX1_noted := goodIn_r _ [15, 16, 17, 18, 19, 20, 21, 22, 23, 24, 25, 26, 27, 28] (by decide +kernel) (by decide +kernel)
set_option maxRecDepth 20000 in
theorem gX1_low_X1_noted : GoodIn wsX1_low (wsV RX1 36 RX1 yX1_noted wsX1_noted) := goodIn_app (goodIn_of _ (by decide +kernel)) ggX1_low_X1_noted
theorem dX1_low_0 : decode cX1_low 0 = .ok (.aload_n 0, 1) := by decide +kernel
theorem dX1_low_1 : decode cX1_low 1 = .ok (.aload_n 0, 1) := by decide +kernel
theorem dX1_low_2 : decode cX1_low 2 = .ok (.iload_n 1, 1) := by decide +kernel
theorem dX1_low_3 : decode cX1_low 3 = .ok (.invokevirtual 44, 3) := by decide +kernel
theorem dX1_low_6 : decode cX1_low 6 = .ok (.invokevirtual 36, 3) := by decide +kernel
theorem dX1_low_9 : decode cX1_low 9 = .ok (.ifCond .ge 5, 3) := by decide +kernel
theorem dX1_low_12 : decode cX1_low 12 = .ok (.lconst 0, 1) := by decide +kernel
theorem dX1_low_13 : decode cX1_low 13 = .ok (.lreturn, 1) := by decide +kernel
theorem dX1_low_14 : decode cX1_low 14 = .ok (.aload_n 0, 1) := by decide +kernel
theorem dX1_low_15 : decode cX1_low 15 = .ok (.dup, 1) := by decide +kernel
theorem dX1_low_16 : decode cX1_low 16 = .ok (.getfield 47, 3) := by decide +kernel
theorem dX1_low_19 : decode cX1_low 19 = .ok (.iconst 1, 1) := by decide +kernel
theorem dX1_low_20 : decode cX1_low 20 = .ok (.iadd, 1) := by decide +kernel
theorem dX1_low_21 : decode cX1_low 21 = .ok (.putfield 47, 3) := by decide +kernel
theorem dX1_low_24 : decode cX1_low 24 = .ok (.aload_n 0, 1) := by decide +kernel
theorem dX1_low_25 : decode cX1_low 25 = .ok (.getfield 13, 3) := by decide +kernel
theorem dX1_low_28 : decode cX1_low 28 = .ok (.iload_n 1, 1) := by decide +kernel
theorem dX1_low_29 : decode cX1_low 29 = .ok (.laload, 1) := by decide +kernel
theorem dX1_low_30 : decode cX1_low 30 = .ok (.lreturn, 1) := by decide +kernel
set_option maxRecDepth 20000 in
theorem ggX1_high_X1_refusalToTake : GoodIn wsX1_high wsX1_refusalToTake := goodIn_r _ [7, 8, 9, 10, 6, 11, 18, 19, 20, 21, 22, 23, 24, 25, 26, 27, 28] (by decide +kernel) (by decide +kernel)
set_option maxRecDepth 20000 in
theorem gX1_high_X1_refusalToTake : GoodIn wsX1_high (wsV RX1 44 RX1 yX1_refusalToTake wsX1_refusalToTake) := goodIn_app (goodIn_of _ (by decide +kernel)) ggX1_high_X1_refusalToTake
set_option maxRecDepth 20000 in
theorem ggX1_high_X1_noted : GoodIn wsX1_high wsX1_noted := goodIn_r _ [15, 16, 17, 18, 19, 20, 21, 22, 23, 24, 25, 26, 27, 28] (by decide +kernel) (by decide +kernel)
set_option maxRecDepth 20000 in
theorem gX1_high_X1_noted : GoodIn wsX1_high (wsV RX1 36 RX1 yX1_noted wsX1_noted) := goodIn_app (goodIn_of _ (by decide +kernel)) ggX1_high_X1_noted
theorem dX1_high_0 : decode cX1_high 0 = .ok (.aload_n 0, 1) := by decide +kernel
theorem dX1_high_1 : decode cX1_high 1 = .ok (.aload_n 0, 1) := by decide +kernel
theorem dX1_high_2 : decode cX1_high 2 = .ok (.iload_n 1, 1) := by decide +kernel
theorem dX1_high_3 : decode cX1_high 3 = .ok (.invokevirtual 44, 3) := by decide +kernel
theorem dX1_high_6 : decode cX1_high 6 = .ok (.invokevirtual 36, 3) := by decide +kernel
theorem dX1_high_9 : decode cX1_high 9 = .ok (.ifCond .ge 5, 3) := by decide +kernel
theorem dX1_high_12 : decode cX1_high 12 = .ok (.lconst 0, 1) := by decide +kernel
theorem dX1_high_13 : decode cX1_high 13 = .ok (.lreturn, 1) := by decide +kernel
theorem dX1_high_14 : decode cX1_high 14 = .ok (.aload_n 0, 1) := by decide +kernel
theorem dX1_high_15 : decode cX1_high 15 = .ok (.dup, 1) := by decide +kernel
theorem dX1_high_16 : decode cX1_high 16 = .ok (.getfield 47, 3) := by decide +kernel
theorem dX1_high_19 : decode cX1_high 19 = .ok (.iconst 1, 1) := by decide +kernel
theorem dX1_high_20 : decode cX1_high 20 = .ok (.iadd, 1) := by decide +kernel
theorem dX1_high_21 : decode cX1_high 21 = .ok (.putfield 47, 3) := by decide +kernel
theorem dX1_high_24 : decode cX1_high 24 = .ok (.aload_n 0, 1) := by decide +kernel
theorem dX1_high_25 : decode cX1_high 25 = .ok (.getfield 17, 3) := by decide +kernel
theorem dX1_high_28 : decode cX1_high 28 = .ok (.iload_n 1, 1) := by decide +kernel
theorem dX1_high_29 : decode cX1_high 29 = .ok (.laload, 1) := by decide +kernel
theorem dX1_high_30 : decode cX1_high 30 = .ok (.lreturn, 1) := by decide +kernel
set_option maxRecDepth 20000 in
theorem ggX1_hull_X1_performed : GoodIn wsX1_hull wsX1_performed := goodIn_r _ [5, 6, 7, 8, 4, 9, 10, 11, 12, 13, 14, 15, 16, 17, 18, 19, 20, 21, 22, 23, 24, 25, 26, 27, 28, 29, 30, 31, 32, 33, 34, 35, 36, 37, 38, 39, 40, 41, 42, 43, 44, 45, 46, 47, 48, 49, 50, 51, 52, 53, 54, 55, 56, 57, 58, 59, 60, 61, 62, 63, 64, 65, 66, 67, 68, 69, 70, 71, 72, 73, 74, 75, 76, 77, 78, 79, 80, 81, 82, 83, 84, 85, 86, 87, 88, 89, 90, 91, 92, 93, 94, 95, 96, 97, 98, 99, 100, 101, 102, 103, 104, 105, 106, 107, 108, 109, 110, 111, 112, 113, 114, 115, 116, 117, 118, 119, 120, 121, 122, 123, 124, 125, 126, 127, 128, 129, 130, 131, 132, 133, 134, 135, 136, 137, 138, 139, 140, 141, 142, 143, 144, 145, 146, 147, 148, 149, 150, 151, 152, 153, 154, 155, 156, 157, 158, 159, 160, 161, 162, 163, 164, 165, 166, 167, 168, 169, 170, 171, 172, 173, 174, 175, 182, 183, 184, 185, 186, 187, 188, 189, 190, 191, 192] (by decide +kernel) (by decide +kernel)
set_option maxRecDepth 20000 in
theorem gX1_hull_X1_performed : GoodIn wsX1_hull (wsV RX1 51 RX1 yX1_performed wsX1_performed) := goodIn_app (goodIn_of _ (by decide +kernel)) ggX1_hull_X1_performed
set_option maxRecDepth 20000 in
theorem ggX1_hull_X1_noted : GoodIn wsX1_hull wsX1_noted := goodIn_r _ [179, 180, 181, 182, 183, 184, 185, 186, 187, 188, 189, 190, 191, 192] (by decide +kernel) (by decide +kernel)
set_option maxRecDepth 20000 in
theorem gX1_hull_X1_noted : GoodIn wsX1_hull (wsV RX1 36 RX1 yX1_noted wsX1_noted) := goodIn_app (goodIn_of _ (by decide +kernel)) ggX1_hull_X1_noted
theorem dX1_hull_0 : decode cX1_hull 0 = .ok (.aload_n 0, 1) := by decide +kernel
theorem dX1_hull_1 : decode cX1_hull 1 = .ok (.aload_n 0, 1) := by decide +kernel
theorem dX1_hull_2 : decode cX1_hull 2 = .ok (.iconst 0, 1) := by decide +kernel
theorem dX1_hull_3 : decode cX1_hull 3 = .ok (.iload_n 1, 1) := by decide +kernel
theorem dX1_hull_4 : decode cX1_hull 4 = .ok (.iload_n 2, 1) := by decide +kernel
theorem dX1_hull_5 : decode cX1_hull 5 = .ok (.iload_n 3, 1) := by decide +kernel
theorem dX1_hull_6 : decode cX1_hull 6 = .ok (.invokevirtual 51, 3) := by decide +kernel
theorem dX1_hull_9 : decode cX1_hull 9 = .ok (.invokevirtual 36, 3) := by decide +kernel
theorem dX1_hull_12 : decode cX1_hull 12 = .ok (.ireturn, 1) := by decide +kernel
set_option maxRecDepth 20000 in
theorem ggX1_meet_X1_performed : GoodIn wsX1_meet wsX1_performed := goodIn_r _ [5, 6, 7, 8, 4, 9, 10, 11, 12, 13, 14, 15, 16, 17, 18, 19, 20, 21, 22, 23, 24, 25, 26, 27, 28, 29, 30, 31, 32, 33, 34, 35, 36, 37, 38, 39, 40, 41, 42, 43, 44, 45, 46, 47, 48, 49, 50, 51, 52, 53, 54, 55, 56, 57, 58, 59, 60, 61, 62, 63, 64, 65, 66, 67, 68, 69, 70, 71, 72, 73, 74, 75, 76, 77, 78, 79, 80, 81, 82, 83, 84, 85, 86, 87, 88, 89, 90, 91, 92, 93, 94, 95, 96, 97, 98, 99, 100, 101, 102, 103, 104, 105, 106, 107, 108, 109, 110, 111, 112, 113, 114, 115, 116, 117, 118, 119, 120, 121, 122, 123, 124, 125, 126, 127, 128, 129, 130, 131, 132, 133, 134, 135, 136, 137, 138, 139, 140, 141, 142, 143, 144, 145, 146, 147, 148, 149, 150, 151, 152, 153, 154, 155, 156, 157, 158, 159, 160, 161, 162, 163, 164, 165, 166, 167, 168, 169, 170, 171, 172, 173, 174, 175, 182, 183, 184, 185, 186, 187, 188, 189, 190, 191, 192] (by decide +kernel) (by decide +kernel)
set_option maxRecDepth 20000 in
theorem gX1_meet_X1_performed : GoodIn wsX1_meet (wsV RX1 51 RX1 yX1_performed wsX1_performed) := goodIn_app (goodIn_of _ (by decide +kernel)) ggX1_meet_X1_performed
set_option maxRecDepth 20000 in
theorem ggX1_meet_X1_noted : GoodIn wsX1_meet wsX1_noted := goodIn_r _ [179, 180, 181, 182, 183, 184, 185, 186, 187, 188, 189, 190, 191, 192] (by decide +kernel) (by decide +kernel)
set_option maxRecDepth 20000 in
theorem gX1_meet_X1_noted : GoodIn wsX1_meet (wsV RX1 36 RX1 yX1_noted wsX1_noted) := goodIn_app (goodIn_of _ (by decide +kernel)) ggX1_meet_X1_noted
theorem dX1_meet_0 : decode cX1_meet 0 = .ok (.aload_n 0, 1) := by decide +kernel
theorem dX1_meet_1 : decode cX1_meet 1 = .ok (.aload_n 0, 1) := by decide +kernel
theorem dX1_meet_2 : decode cX1_meet 2 = .ok (.iconst 1, 1) := by decide +kernel
theorem dX1_meet_3 : decode cX1_meet 3 = .ok (.iload_n 1, 1) := by decide +kernel
theorem dX1_meet_4 : decode cX1_meet 4 = .ok (.iload_n 2, 1) := by decide +kernel
theorem dX1_meet_5 : decode cX1_meet 5 = .ok (.iload_n 3, 1) := by decide +kernel
theorem dX1_meet_6 : decode cX1_meet 6 = .ok (.invokevirtual 51, 3) := by decide +kernel
theorem dX1_meet_9 : decode cX1_meet 9 = .ok (.invokevirtual 36, 3) := by decide +kernel
theorem dX1_meet_12 : decode cX1_meet 12 = .ok (.ireturn, 1) := by decide +kernel
set_option maxRecDepth 20000 in
theorem ggX1_size_X1_performed : GoodIn wsX1_size wsX1_performed := goodIn_r _ [5, 6, 7, 8, 4, 9, 10, 11, 12, 13, 14, 15, 16, 17, 18, 19, 20, 21, 22, 23, 24, 25, 26, 27, 28, 29, 30, 31, 32, 33, 34, 35, 36, 37, 38, 39, 40, 41, 42, 43, 44, 45, 46, 47, 48, 49, 50, 51, 52, 53, 54, 55, 56, 57, 58, 59, 60, 61, 62, 63, 64, 65, 66, 67, 68, 69, 70, 71, 72, 73, 74, 75, 76, 77, 78, 79, 80, 81, 82, 83, 84, 85, 86, 87, 88, 89, 90, 91, 92, 93, 94, 95, 96, 97, 98, 99, 100, 101, 102, 103, 104, 105, 106, 107, 108, 109, 110, 111, 112, 113, 114, 115, 116, 117, 118, 119, 120, 121, 122, 123, 124, 125, 126, 127, 128, 129, 130, 131, 132, 133, 134, 135, 136, 137, 138, 139, 140, 141, 142, 143, 144, 145, 146, 147, 148, 149, 150, 151, 152, 153, 154, 155, 156, 157, 158, 159, 160, 161, 162, 163, 164, 165, 166, 167, 168, 169, 170, 171, 172, 173, 174, 175, 182, 183, 184, 185, 186, 187, 188, 189, 190, 191, 192] (by decide +kernel) (by decide +kernel)
set_option maxRecDepth 20000 in
theorem gX1_size_X1_performed : GoodIn wsX1_size (wsV RX1 51 RX1 yX1_performed wsX1_performed) := goodIn_app (goodIn_of _ (by decide +kernel)) ggX1_size_X1_performed
set_option maxRecDepth 20000 in
theorem ggX1_size_X1_noted : GoodIn wsX1_size wsX1_noted := goodIn_r _ [179, 180, 181, 182, 183, 184, 185, 186, 187, 188, 189, 190, 191, 192] (by decide +kernel) (by decide +kernel)
set_option maxRecDepth 20000 in
theorem gX1_size_X1_noted : GoodIn wsX1_size (wsV RX1 36 RX1 yX1_noted wsX1_noted) := goodIn_app (goodIn_of _ (by decide +kernel)) ggX1_size_X1_noted
theorem dX1_size_0 : decode cX1_size 0 = .ok (.aload_n 0, 1) := by decide +kernel
theorem dX1_size_1 : decode cX1_size 1 = .ok (.aload_n 0, 1) := by decide +kernel
theorem dX1_size_2 : decode cX1_size 2 = .ok (.iconst 2, 1) := by decide +kernel
theorem dX1_size_3 : decode cX1_size 3 = .ok (.iload_n 1, 1) := by decide +kernel
theorem dX1_size_4 : decode cX1_size 4 = .ok (.iconst 0, 1) := by decide +kernel
theorem dX1_size_5 : decode cX1_size 5 = .ok (.iload_n 2, 1) := by decide +kernel
theorem dX1_size_6 : decode cX1_size 6 = .ok (.invokevirtual 51, 3) := by decide +kernel
theorem dX1_size_9 : decode cX1_size 9 = .ok (.invokevirtual 36, 3) := by decide +kernel
theorem dX1_size_12 : decode cX1_size 12 = .ok (.ireturn, 1) := by decide +kernel
set_option maxRecDepth 20000 in
theorem ggX1_round_X1_performed : GoodIn wsX1_round wsX1_performed := goodIn_r _ [5, 6, 7, 8, 4, 9, 10, 11, 12, 13, 14, 15, 16, 17, 18, 19, 20, 21, 22, 23, 24, 25, 26, 27, 28, 29, 30, 31, 32, 33, 34, 35, 36, 37, 38, 39, 40, 41, 42, 43, 44, 45, 46, 47, 48, 49, 50, 51, 52, 53, 54, 55, 56, 57, 58, 59, 60, 61, 62, 63, 64, 65, 66, 67, 68, 69, 70, 71, 72, 73, 74, 75, 76, 77, 78, 79, 80, 81, 82, 83, 84, 85, 86, 87, 88, 89, 90, 91, 92, 93, 94, 95, 96, 97, 98, 99, 100, 101, 102, 103, 104, 105, 106, 107, 108, 109, 110, 111, 112, 113, 114, 115, 116, 117, 118, 119, 120, 121, 122, 123, 124, 125, 126, 127, 128, 129, 130, 131, 132, 133, 134, 135, 136, 137, 138, 139, 140, 141, 142, 143, 144, 145, 146, 147, 148, 149, 150, 151, 152, 153, 154, 155, 156, 157, 158, 159, 160, 161, 162, 163, 164, 165, 166, 167, 168, 169, 170, 171, 172, 173, 174, 175, 182, 183, 184, 185, 186, 187, 188, 189, 190, 191, 192] (by decide +kernel) (by decide +kernel)
set_option maxRecDepth 20000 in
theorem gX1_round_X1_performed : GoodIn wsX1_round (wsV RX1 51 RX1 yX1_performed wsX1_performed) := goodIn_app (goodIn_of _ (by decide +kernel)) ggX1_round_X1_performed
set_option maxRecDepth 20000 in
theorem ggX1_round_X1_noted : GoodIn wsX1_round wsX1_noted := goodIn_r _ [179, 180, 181, 182, 183, 184, 185, 186, 187, 188, 189, 190, 191, 192] (by decide +kernel) (by decide +kernel)
set_option maxRecDepth 20000 in
theorem gX1_round_X1_noted : GoodIn wsX1_round (wsV RX1 36 RX1 yX1_noted wsX1_noted) := goodIn_app (goodIn_of _ (by decide +kernel)) ggX1_round_X1_noted
theorem dX1_round_0 : decode cX1_round 0 = .ok (.aload_n 0, 1) := by decide +kernel
theorem dX1_round_1 : decode cX1_round 1 = .ok (.aload_n 0, 1) := by decide +kernel
theorem dX1_round_2 : decode cX1_round 2 = .ok (.iconst 3, 1) := by decide +kernel
theorem dX1_round_3 : decode cX1_round 3 = .ok (.iload_n 1, 1) := by decide +kernel
theorem dX1_round_4 : decode cX1_round 4 = .ok (.iload_n 2, 1) := by decide +kernel
theorem dX1_round_5 : decode cX1_round 5 = .ok (.iload_n 3, 1) := by decide +kernel
theorem dX1_round_6 : decode cX1_round 6 = .ok (.invokevirtual 51, 3) := by decide +kernel
theorem dX1_round_9 : decode cX1_round 9 = .ok (.invokevirtual 36, 3) := by decide +kernel
theorem dX1_round_12 : decode cX1_round 12 = .ok (.ireturn, 1) := by decide +kernel
set_option maxRecDepth 20000 in
theorem ggX1_sign_X1_performed : GoodIn wsX1_sign wsX1_performed := goodIn_r _ [5, 6, 7, 8, 4, 9, 10, 11, 12, 13, 14, 15, 16, 17, 18, 19, 20, 21, 22, 23, 24, 25, 26, 27, 28, 29, 30, 31, 32, 33, 34, 35, 36, 37, 38, 39, 40, 41, 42, 43, 44, 45, 46, 47, 48, 49, 50, 51, 52, 53, 54, 55, 56, 57, 58, 59, 60, 61, 62, 63, 64, 65, 66, 67, 68, 69, 70, 71, 72, 73, 74, 75, 76, 77, 78, 79, 80, 81, 82, 83, 84, 85, 86, 87, 88, 89, 90, 91, 92, 93, 94, 95, 96, 97, 98, 99, 100, 101, 102, 103, 104, 105, 106, 107, 108, 109, 110, 111, 112, 113, 114, 115, 116, 117, 118, 119, 120, 121, 122, 123, 124, 125, 126, 127, 128, 129, 130, 131, 132, 133, 134, 135, 136, 137, 138, 139, 140, 141, 142, 143, 144, 145, 146, 147, 148, 149, 150, 151, 152, 153, 154, 155, 156, 157, 158, 159, 160, 161, 162, 163, 164, 165, 166, 167, 168, 169, 170, 171, 172, 173, 174, 175, 182, 183, 184, 185, 186, 187, 188, 189, 190, 191, 192] (by decide +kernel) (by decide +kernel)
set_option maxRecDepth 20000 in
theorem gX1_sign_X1_performed : GoodIn wsX1_sign (wsV RX1 51 RX1 yX1_performed wsX1_performed) := goodIn_app (goodIn_of _ (by decide +kernel)) ggX1_sign_X1_performed
set_option maxRecDepth 20000 in
theorem ggX1_sign_X1_noted : GoodIn wsX1_sign wsX1_noted := goodIn_r _ [179, 180, 181, 182, 183, 184, 185, 186, 187, 188, 189, 190, 191, 192] (by decide +kernel) (by decide +kernel)
set_option maxRecDepth 20000 in
theorem gX1_sign_X1_noted : GoodIn wsX1_sign (wsV RX1 36 RX1 yX1_noted wsX1_noted) := goodIn_app (goodIn_of _ (by decide +kernel)) ggX1_sign_X1_noted
theorem dX1_sign_0 : decode cX1_sign 0 = .ok (.aload_n 0, 1) := by decide +kernel
theorem dX1_sign_1 : decode cX1_sign 1 = .ok (.aload_n 0, 1) := by decide +kernel
theorem dX1_sign_2 : decode cX1_sign 2 = .ok (.iconst 4, 1) := by decide +kernel
theorem dX1_sign_3 : decode cX1_sign 3 = .ok (.iload_n 1, 1) := by decide +kernel
theorem dX1_sign_4 : decode cX1_sign 4 = .ok (.iconst 0, 1) := by decide +kernel
theorem dX1_sign_5 : decode cX1_sign 5 = .ok (.iload_n 2, 1) := by decide +kernel
theorem dX1_sign_6 : decode cX1_sign 6 = .ok (.invokevirtual 51, 3) := by decide +kernel
theorem dX1_sign_9 : decode cX1_sign 9 = .ok (.invokevirtual 36, 3) := by decide +kernel
theorem dX1_sign_12 : decode cX1_sign 12 = .ok (.ireturn, 1) := by decide +kernel
set_option maxRecDepth 20000 in
theorem ggX1_lend_X1_performed : GoodIn wsX1_lend wsX1_performed := goodIn_r _ [5, 6, 7, 8, 4, 9, 10, 11, 12, 13, 14, 15, 16, 17, 18, 19, 20, 21, 22, 23, 24, 25, 26, 27, 28, 29, 30, 31, 32, 33, 34, 35, 36, 37, 38, 39, 40, 41, 42, 43, 44, 45, 46, 47, 48, 49, 50, 51, 52, 53, 54, 55, 56, 57, 58, 59, 60, 61, 62, 63, 64, 65, 66, 67, 68, 69, 70, 71, 72, 73, 74, 75, 76, 77, 78, 79, 80, 81, 82, 83, 84, 85, 86, 87, 88, 89, 90, 91, 92, 93, 94, 95, 96, 97, 98, 99, 100, 101, 102, 103, 104, 105, 106, 107, 108, 109, 110, 111, 112, 113, 114, 115, 116, 117, 118, 119, 120, 121, 122, 123, 124, 125, 126, 127, 128, 129, 130, 131, 132, 133, 134, 135, 136, 137, 138, 139, 140, 141, 142, 143, 144, 145, 146, 147, 148, 149, 150, 151, 152, 153, 154, 155, 156, 157, 158, 159, 160, 161, 162, 163, 164, 165, 166, 167, 168, 169, 170, 171, 172, 173, 174, 175, 182, 183, 184, 185, 186, 187, 188, 189, 190, 191, 192] (by decide +kernel) (by decide +kernel)
set_option maxRecDepth 20000 in
theorem gX1_lend_X1_performed : GoodIn wsX1_lend (wsV RX1 51 RX1 yX1_performed wsX1_performed) := goodIn_app (goodIn_of _ (by decide +kernel)) ggX1_lend_X1_performed
set_option maxRecDepth 20000 in
theorem ggX1_lend_X1_noted : GoodIn wsX1_lend wsX1_noted := goodIn_r _ [179, 180, 181, 182, 183, 184, 185, 186, 187, 188, 189, 190, 191, 192] (by decide +kernel) (by decide +kernel)
set_option maxRecDepth 20000 in
theorem gX1_lend_X1_noted : GoodIn wsX1_lend (wsV RX1 36 RX1 yX1_noted wsX1_noted) := goodIn_app (goodIn_of _ (by decide +kernel)) ggX1_lend_X1_noted
theorem dX1_lend_0 : decode cX1_lend 0 = .ok (.aload_n 0, 1) := by decide +kernel
theorem dX1_lend_1 : decode cX1_lend 1 = .ok (.aload_n 0, 1) := by decide +kernel
theorem dX1_lend_2 : decode cX1_lend 2 = .ok (.iconst 5, 1) := by decide +kernel
theorem dX1_lend_3 : decode cX1_lend 3 = .ok (.iload_n 1, 1) := by decide +kernel
theorem dX1_lend_4 : decode cX1_lend 4 = .ok (.iload_n 2, 1) := by decide +kernel
theorem dX1_lend_5 : decode cX1_lend 5 = .ok (.iload_n 3, 1) := by decide +kernel
theorem dX1_lend_6 : decode cX1_lend 6 = .ok (.invokevirtual 51, 3) := by decide +kernel
theorem dX1_lend_9 : decode cX1_lend 9 = .ok (.invokevirtual 36, 3) := by decide +kernel
theorem dX1_lend_12 : decode cX1_lend 12 = .ok (.ireturn, 1) := by decide +kernel
set_option maxRecDepth 20000 in
theorem ggX1_turn_X1_performed : GoodIn wsX1_turn wsX1_performed := goodIn_r _ [5, 6, 7, 8, 4, 9, 10, 11, 12, 13, 14, 15, 16, 17, 18, 19, 20, 21, 22, 23, 24, 25, 26, 27, 28, 29, 30, 31, 32, 33, 34, 35, 36, 37, 38, 39, 40, 41, 42, 43, 44, 45, 46, 47, 48, 49, 50, 51, 52, 53, 54, 55, 56, 57, 58, 59, 60, 61, 62, 63, 64, 65, 66, 67, 68, 69, 70, 71, 72, 73, 74, 75, 76, 77, 78, 79, 80, 81, 82, 83, 84, 85, 86, 87, 88, 89, 90, 91, 92, 93, 94, 95, 96, 97, 98, 99, 100, 101, 102, 103, 104, 105, 106, 107, 108, 109, 110, 111, 112, 113, 114, 115, 116, 117, 118, 119, 120, 121, 122, 123, 124, 125, 126, 127, 128, 129, 130, 131, 132, 133, 134, 135, 136, 137, 138, 139, 140, 141, 142, 143, 144, 145, 146, 147, 148, 149, 150, 151, 152, 153, 154, 155, 156, 157, 158, 159, 160, 161, 162, 163, 164, 165, 166, 167, 168, 169, 170, 171, 172, 173, 174, 175, 182, 183, 184, 185, 186, 187, 188, 189, 190, 191, 192] (by decide +kernel) (by decide +kernel)
set_option maxRecDepth 20000 in
theorem gX1_turn_X1_performed : GoodIn wsX1_turn (wsV RX1 51 RX1 yX1_performed wsX1_performed) := goodIn_app (goodIn_of _ (by decide +kernel)) ggX1_turn_X1_performed
set_option maxRecDepth 20000 in
theorem ggX1_turn_X1_noted : GoodIn wsX1_turn wsX1_noted := goodIn_r _ [179, 180, 181, 182, 183, 184, 185, 186, 187, 188, 189, 190, 191, 192] (by decide +kernel) (by decide +kernel)
set_option maxRecDepth 20000 in
theorem gX1_turn_X1_noted : GoodIn wsX1_turn (wsV RX1 36 RX1 yX1_noted wsX1_noted) := goodIn_app (goodIn_of _ (by decide +kernel)) ggX1_turn_X1_noted
theorem dX1_turn_0 : decode cX1_turn 0 = .ok (.aload_n 0, 1) := by decide +kernel
theorem dX1_turn_1 : decode cX1_turn 1 = .ok (.aload_n 0, 1) := by decide +kernel
theorem dX1_turn_2 : decode cX1_turn 2 = .ok (.bipush 6, 2) := by decide +kernel
theorem dX1_turn_4 : decode cX1_turn 4 = .ok (.iload_n 1, 1) := by decide +kernel
theorem dX1_turn_5 : decode cX1_turn 5 = .ok (.iconst 0, 1) := by decide +kernel
theorem dX1_turn_6 : decode cX1_turn 6 = .ok (.iload_n 2, 1) := by decide +kernel
theorem dX1_turn_7 : decode cX1_turn 7 = .ok (.invokevirtual 51, 3) := by decide +kernel
theorem dX1_turn_10 : decode cX1_turn 10 = .ok (.invokevirtual 36, 3) := by decide +kernel
theorem dX1_turn_13 : decode cX1_turn 13 = .ok (.ireturn, 1) := by decide +kernel
set_option maxRecDepth 20000 in
theorem ggX1_as_X1_performed : GoodIn wsX1_as wsX1_performed := goodIn_r _ [5, 6, 7, 8, 4, 9, 10, 11, 12, 13, 14, 15, 16, 17, 18, 19, 20, 21, 22, 23, 24, 25, 26, 27, 28, 29, 30, 31, 32, 33, 34, 35, 36, 37, 38, 39, 40, 41, 42, 43, 44, 45, 46, 47, 48, 49, 50, 51, 52, 53, 54, 55, 56, 57, 58, 59, 60, 61, 62, 63, 64, 65, 66, 67, 68, 69, 70, 71, 72, 73, 74, 75, 76, 77, 78, 79, 80, 81, 82, 83, 84, 85, 86, 87, 88, 89, 90, 91, 92, 93, 94, 95, 96, 97, 98, 99, 100, 101, 102, 103, 104, 105, 106, 107, 108, 109, 110, 111, 112, 113, 114, 115, 116, 117, 118, 119, 120, 121, 122, 123, 124, 125, 126, 127, 128, 129, 130, 131, 132, 133, 134, 135, 136, 137, 138, 139, 140, 141, 142, 143, 144, 145, 146, 147, 148, 149, 150, 151, 152, 153, 154, 155, 156, 157, 158, 159, 160, 161, 162, 163, 164, 165, 166, 167, 168, 169, 170, 171, 172, 173, 174, 175, 182, 183, 184, 185, 186, 187, 188, 189, 190, 191, 192] (by decide +kernel) (by decide +kernel)
set_option maxRecDepth 20000 in
theorem gX1_as_X1_performed : GoodIn wsX1_as (wsV RX1 51 RX1 yX1_performed wsX1_performed) := goodIn_app (goodIn_of _ (by decide +kernel)) ggX1_as_X1_performed
set_option maxRecDepth 20000 in
theorem ggX1_as_X1_noted : GoodIn wsX1_as wsX1_noted := goodIn_r _ [179, 180, 181, 182, 183, 184, 185, 186, 187, 188, 189, 190, 191, 192] (by decide +kernel) (by decide +kernel)
set_option maxRecDepth 20000 in
theorem gX1_as_X1_noted : GoodIn wsX1_as (wsV RX1 36 RX1 yX1_noted wsX1_noted) := goodIn_app (goodIn_of _ (by decide +kernel)) ggX1_as_X1_noted
theorem dX1_as_0 : decode cX1_as 0 = .ok (.aload_n 0, 1) := by decide +kernel
theorem dX1_as_1 : decode cX1_as 1 = .ok (.aload_n 0, 1) := by decide +kernel
theorem dX1_as_2 : decode cX1_as 2 = .ok (.bipush 7, 2) := by decide +kernel
theorem dX1_as_4 : decode cX1_as 4 = .ok (.iload_n 1, 1) := by decide +kernel
theorem dX1_as_5 : decode cX1_as 5 = .ok (.iload_n 2, 1) := by decide +kernel
theorem dX1_as_6 : decode cX1_as 6 = .ok (.iload_n 3, 1) := by decide +kernel
theorem dX1_as_7 : decode cX1_as 7 = .ok (.invokevirtual 51, 3) := by decide +kernel
theorem dX1_as_10 : decode cX1_as 10 = .ok (.invokevirtual 36, 3) := by decide +kernel
theorem dX1_as_13 : decode cX1_as 13 = .ok (.ireturn, 1) := by decide +kernel
set_option maxRecDepth 20000 in
theorem ggX1_near_X1_refusalToCompare : GoodIn wsX1_near wsX1_refusalToCompare := goodIn_r _ [8, 1, 9, 10, 11, 7, 12, 13, 14, 15, 16, 17, 18, 19, 20, 21, 22, 23, 24, 25, 26, 27, 28, 29, 30, 31, 32, 33, 34, 35, 36, 37, 38, 39, 40, 41, 42, 43, 64, 65, 66, 67, 68, 69, 70, 71, 72, 73, 74] (by decide +kernel) (by decide +kernel)
set_option maxRecDepth 20000 in
theorem gX1_near_X1_refusalToCompare : GoodIn wsX1_near (wsV RX1 55 RX1 yX1_refusalToCompare wsX1_refusalToCompare) := goodIn_app (goodIn_of _ (by decide +kernel)) ggX1_near_X1_refusalToCompare
set_option maxRecDepth 20000 in
theorem ggX1_near_X1_noted : GoodIn wsX1_near wsX1_noted := goodIn_r _ [47, 48, 49, 64, 65, 66, 67, 68, 69, 70, 71, 72, 73, 74] (by decide +kernel) (by decide +kernel)
set_option maxRecDepth 20000 in
theorem gX1_near_X1_noted : GoodIn wsX1_near (wsV RX1 36 RX1 yX1_noted wsX1_noted) := goodIn_app (goodIn_of _ (by decide +kernel)) ggX1_near_X1_noted
set_option maxRecDepth 20000 in
theorem ggX1_near_X0_fitted : GoodIn wsX1_near wsX0_fitted := goodIn_r _ [25] (by decide +kernel) (by decide +kernel)
set_option maxRecDepth 20000 in
theorem gX1_near_X0_fitted : GoodIn wsX1_near (va_wsS RX1 59 yX0_fitted wsX0_fitted) := goodIn_app (goodIn_of _ (by decide +kernel)) ggX1_near_X0_fitted
set_option maxRecDepth 20000 in
theorem ggX1_near_X0_greater : GoodIn wsX1_near wsX0_greater := goodIn_r _ [53, 54, 55, 18, 56, 20, 21, 22, 57, 58, 59, 60] (by decide +kernel) (by decide +kernel)
set_option maxRecDepth 20000 in
theorem gX1_near_X0_greater : GoodIn wsX1_near (va_wsS RX1 65 yX0_greater wsX0_greater) := goodIn_app (goodIn_of _ (by decide +kernel)) ggX1_near_X0_greater
set_option maxRecDepth 20000 in
theorem ggX1_near_X0_lesser : GoodIn wsX1_near wsX0_lesser := goodIn_r _ [63, 54, 55, 18, 56, 20, 21, 22, 57, 58, 59, 60] (by decide +kernel) (by decide +kernel)
set_option maxRecDepth 20000 in
theorem gX1_near_X0_lesser : GoodIn wsX1_near (va_wsS RX1 69 yX0_lesser wsX0_lesser) := goodIn_app (goodIn_of _ (by decide +kernel)) ggX1_near_X0_lesser
theorem dX1_near_0 : decode cX1_near 0 = .ok (.aload_n 0, 1) := by decide +kernel
theorem dX1_near_1 : decode cX1_near 1 = .ok (.aload_n 0, 1) := by decide +kernel
theorem dX1_near_2 : decode cX1_near 2 = .ok (.iload_n 1, 1) := by decide +kernel
theorem dX1_near_3 : decode cX1_near 3 = .ok (.lload_n 2, 1) := by decide +kernel
theorem dX1_near_4 : decode cX1_near 4 = .ok (.invokevirtual 55, 3) := by decide +kernel
theorem dX1_near_7 : decode cX1_near 7 = .ok (.invokevirtual 36, 3) := by decide +kernel
theorem dX1_near_10 : decode cX1_near 10 = .ok (.ifCond .ge 5, 3) := by decide +kernel
theorem dX1_near_13 : decode cX1_near 13 = .ok (.lconst 0, 1) := by decide +kernel
theorem dX1_near_14 : decode cX1_near 14 = .ok (.lreturn, 1) := by decide +kernel
theorem dX1_near_15 : decode cX1_near 15 = .ok (.aload_n 0, 1) := by decide +kernel
theorem dX1_near_16 : decode cX1_near 16 = .ok (.getfield 9, 3) := by decide +kernel
theorem dX1_near_19 : decode cX1_near 19 = .ok (.iload_n 1, 1) := by decide +kernel
theorem dX1_near_20 : decode cX1_near 20 = .ok (.iaload, 1) := by decide +kernel
theorem dX1_near_21 : decode cX1_near 21 = .ok (.istore 4, 2) := by decide +kernel
theorem dX1_near_23 : decode cX1_near 23 = .ok (.iload 4, 2) := by decide +kernel
theorem dX1_near_25 : decode cX1_near 25 = .ok (.lload_n 2, 1) := by decide +kernel
theorem dX1_near_26 : decode cX1_near 26 = .ok (.invokestatic 59, 3) := by decide +kernel
theorem dX1_near_29 : decode cX1_near 29 = .ok (.lstore 5, 2) := by decide +kernel
theorem dX1_near_31 : decode cX1_near 31 = .ok (.iload 4, 2) := by decide +kernel
theorem dX1_near_33 : decode cX1_near 33 = .ok (.iload 4, 2) := by decide +kernel
theorem dX1_near_35 : decode cX1_near 35 = .ok (.lload 5, 2) := by decide +kernel
theorem dX1_near_37 : decode cX1_near 37 = .ok (.aload_n 0, 1) := by decide +kernel
theorem dX1_near_38 : decode cX1_near 38 = .ok (.getfield 13, 3) := by decide +kernel
theorem dX1_near_41 : decode cX1_near 41 = .ok (.iload_n 1, 1) := by decide +kernel
theorem dX1_near_42 : decode cX1_near 42 = .ok (.laload, 1) := by decide +kernel
theorem dX1_near_43 : decode cX1_near 43 = .ok (.invokestatic 65, 3) := by decide +kernel
theorem dX1_near_46 : decode cX1_near 46 = .ok (.aload_n 0, 1) := by decide +kernel
theorem dX1_near_47 : decode cX1_near 47 = .ok (.getfield 17, 3) := by decide +kernel
theorem dX1_near_50 : decode cX1_near 50 = .ok (.iload_n 1, 1) := by decide +kernel
theorem dX1_near_51 : decode cX1_near 51 = .ok (.laload, 1) := by decide +kernel
theorem dX1_near_52 : decode cX1_near 52 = .ok (.invokestatic 69, 3) := by decide +kernel
theorem dX1_near_55 : decode cX1_near 55 = .ok (.lreturn, 1) := by decide +kernel
set_option maxRecDepth 20000 in
theorem ggX1_has_X1_refusalToCompare : GoodIn wsX1_has wsX1_refusalToCompare := goodIn_r _ [8, 1, 9, 10, 11, 7, 12, 13, 14, 15, 16, 17, 18, 19, 20, 21, 22, 23, 24, 25, 26, 27, 28, 29, 30, 31, 32, 33, 34, 35, 36, 37, 38, 39, 40, 41, 42, 43, 58, 59, 60, 61, 62, 63, 64, 65, 66, 67, 68] (by decide +kernel) (by decide +kernel)
set_option maxRecDepth 20000 in
theorem gX1_has_X1_refusalToCompare : GoodIn wsX1_has (wsV RX1 55 RX1 yX1_refusalToCompare wsX1_refusalToCompare) := goodIn_app (goodIn_of _ (by decide +kernel)) ggX1_has_X1_refusalToCompare
set_option maxRecDepth 20000 in
theorem ggX1_has_X1_noted : GoodIn wsX1_has wsX1_noted := goodIn_r _ [47, 48, 49, 58, 59, 60, 61, 62, 63, 64, 65, 66, 67, 68] (by decide +kernel) (by decide +kernel)
set_option maxRecDepth 20000 in
theorem gX1_has_X1_noted : GoodIn wsX1_has (wsV RX1 36 RX1 yX1_noted wsX1_noted) := goodIn_app (goodIn_of _ (by decide +kernel)) ggX1_has_X1_noted
set_option maxRecDepth 20000 in
theorem ggX1_has_X0_fitted : GoodIn wsX1_has wsX0_fitted := goodIn_r _ [25] (by decide +kernel) (by decide +kernel)
set_option maxRecDepth 20000 in
theorem gX1_has_X0_fitted : GoodIn wsX1_has (va_wsS RX1 59 yX0_fitted wsX0_fitted) := goodIn_app (goodIn_of _ (by decide +kernel)) ggX1_has_X0_fitted
set_option maxRecDepth 20000 in
theorem ggX1_has_X0_isLess : GoodIn wsX1_has wsX0_isLess := goodIn_r _ [53, 20, 21, 18, 22, 54, 55, 56, 57] (by decide +kernel) (by decide +kernel)
set_option maxRecDepth 20000 in
theorem gX1_has_X0_isLess : GoodIn wsX1_has (va_wsS RX1 72 yX0_isLess wsX0_isLess) := goodIn_app (goodIn_of _ (by decide +kernel)) ggX1_has_X0_isLess
theorem dX1_has_0 : decode cX1_has 0 = .ok (.aload_n 0, 1) := by decide +kernel
theorem dX1_has_1 : decode cX1_has 1 = .ok (.iload_n 1, 1) := by decide +kernel
theorem dX1_has_2 : decode cX1_has 2 = .ok (.lload_n 2, 1) := by decide +kernel
theorem dX1_has_3 : decode cX1_has 3 = .ok (.invokevirtual 55, 3) := by decide +kernel
theorem dX1_has_6 : decode cX1_has 6 = .ok (.istore 4, 2) := by decide +kernel
theorem dX1_has_8 : decode cX1_has 8 = .ok (.iload 4, 2) := by decide +kernel
theorem dX1_has_10 : decode cX1_has 10 = .ok (.ifCond .ge 10, 3) := by decide +kernel
theorem dX1_has_13 : decode cX1_has 13 = .ok (.aload_n 0, 1) := by decide +kernel
theorem dX1_has_14 : decode cX1_has 14 = .ok (.iload 4, 2) := by decide +kernel
theorem dX1_has_16 : decode cX1_has 16 = .ok (.invokevirtual 36, 3) := by decide +kernel
theorem dX1_has_19 : decode cX1_has 19 = .ok (.ireturn, 1) := by decide +kernel
theorem dX1_has_20 : decode cX1_has 20 = .ok (.aload_n 0, 1) := by decide +kernel
theorem dX1_has_21 : decode cX1_has 21 = .ok (.getfield 9, 3) := by decide +kernel
theorem dX1_has_24 : decode cX1_has 24 = .ok (.iload_n 1, 1) := by decide +kernel
theorem dX1_has_25 : decode cX1_has 25 = .ok (.iaload, 1) := by decide +kernel
theorem dX1_has_26 : decode cX1_has 26 = .ok (.istore 5, 2) := by decide +kernel
theorem dX1_has_28 : decode cX1_has 28 = .ok (.iload 5, 2) := by decide +kernel
theorem dX1_has_30 : decode cX1_has 30 = .ok (.lload_n 2, 1) := by decide +kernel
theorem dX1_has_31 : decode cX1_has 31 = .ok (.invokestatic 59, 3) := by decide +kernel
theorem dX1_has_34 : decode cX1_has 34 = .ok (.lstore 6, 2) := by decide +kernel
theorem dX1_has_36 : decode cX1_has 36 = .ok (.iload 5, 2) := by decide +kernel
theorem dX1_has_38 : decode cX1_has 38 = .ok (.lload 6, 2) := by decide +kernel
theorem dX1_has_40 : decode cX1_has 40 = .ok (.aload_n 0, 1) := by decide +kernel
theorem dX1_has_41 : decode cX1_has 41 = .ok (.getfield 13, 3) := by decide +kernel
theorem dX1_has_44 : decode cX1_has 44 = .ok (.iload_n 1, 1) := by decide +kernel
theorem dX1_has_45 : decode cX1_has 45 = .ok (.laload, 1) := by decide +kernel
theorem dX1_has_46 : decode cX1_has 46 = .ok (.invokestatic 72, 3) := by decide +kernel
theorem dX1_has_49 : decode cX1_has 49 = .ok (.ifCond .ne 19, 3) := by decide +kernel
theorem dX1_has_52 : decode cX1_has 52 = .ok (.iload 5, 2) := by decide +kernel
theorem dX1_has_54 : decode cX1_has 54 = .ok (.aload_n 0, 1) := by decide +kernel
theorem dX1_has_55 : decode cX1_has 55 = .ok (.getfield 17, 3) := by decide +kernel
theorem dX1_has_58 : decode cX1_has 58 = .ok (.iload_n 1, 1) := by decide +kernel
theorem dX1_has_59 : decode cX1_has 59 = .ok (.laload, 1) := by decide +kernel
theorem dX1_has_60 : decode cX1_has 60 = .ok (.lload 6, 2) := by decide +kernel
theorem dX1_has_62 : decode cX1_has 62 = .ok (.invokestatic 72, 3) := by decide +kernel
theorem dX1_has_65 : decode cX1_has 65 = .ok (.ifCond .eq 7, 3) := by decide +kernel
theorem dX1_has_68 : decode cX1_has 68 = .ok (.iconst 1, 1) := by decide +kernel
theorem dX1_has_69 : decode cX1_has 69 = .ok (.goto 4, 3) := by decide +kernel
theorem dX1_has_72 : decode cX1_has 72 = .ok (.iconst 0, 1) := by decide +kernel
theorem dX1_has_73 : decode cX1_has 73 = .ok (.istore 8, 2) := by decide +kernel
theorem dX1_has_75 : decode cX1_has 75 = .ok (.aload_n 0, 1) := by decide +kernel
theorem dX1_has_76 : decode cX1_has 76 = .ok (.iload 8, 2) := by decide +kernel
theorem dX1_has_78 : decode cX1_has 78 = .ok (.ifCond .eq 7, 3) := by decide +kernel
theorem dX1_has_81 : decode cX1_has 81 = .ok (.iconst 0, 1) := by decide +kernel
theorem dX1_has_82 : decode cX1_has 82 = .ok (.goto 4, 3) := by decide +kernel
theorem dX1_has_85 : decode cX1_has 85 = .ok (.iconst 1, 1) := by decide +kernel
theorem dX1_has_86 : decode cX1_has 86 = .ok (.invokevirtual 36, 3) := by decide +kernel
theorem dX1_has_89 : decode cX1_has 89 = .ok (.ireturn, 1) := by decide +kernel
set_option maxRecDepth 20000 in
theorem ggX1_alike_X1_isSlot : GoodIn wsX1_alike wsX1_isSlot := goodIn_r _ [7] (by decide +kernel) (by decide +kernel)
set_option maxRecDepth 20000 in
theorem gX1_alike_X1_isSlot : GoodIn wsX1_alike (va_wsS RX1 40 yX1_isSlot wsX1_isSlot) := goodIn_app (goodIn_of _ (by decide +kernel)) ggX1_alike_X1_isSlot
set_option maxRecDepth 20000 in
theorem ggX1_alike_X1_noted : GoodIn wsX1_alike wsX1_noted := goodIn_r _ [11, 12, 13, 14, 15, 16, 17, 18, 19, 20, 21, 22, 23, 24] (by decide +kernel) (by decide +kernel)
set_option maxRecDepth 20000 in
theorem gX1_alike_X1_noted : GoodIn wsX1_alike (wsV RX1 36 RX1 yX1_noted wsX1_noted) := goodIn_app (goodIn_of _ (by decide +kernel)) ggX1_alike_X1_noted
theorem dX1_alike_0 : decode cX1_alike 0 = .ok (.iload_n 1, 1) := by decide +kernel
theorem dX1_alike_1 : decode cX1_alike 1 = .ok (.invokestatic 40, 3) := by decide +kernel
theorem dX1_alike_4 : decode cX1_alike 4 = .ok (.ifCond .eq 10, 3) := by decide +kernel
theorem dX1_alike_7 : decode cX1_alike 7 = .ok (.iload_n 2, 1) := by decide +kernel
theorem dX1_alike_8 : decode cX1_alike 8 = .ok (.invokestatic 40, 3) := by decide +kernel
theorem dX1_alike_11 : decode cX1_alike 11 = .ok (.ifCond .ne 10, 3) := by decide +kernel
theorem dX1_alike_14 : decode cX1_alike 14 = .ok (.aload_n 0, 1) := by decide +kernel
theorem dX1_alike_15 : decode cX1_alike 15 = .ok (.bipush (-2), 2) := by decide +kernel
theorem dX1_alike_17 : decode cX1_alike 17 = .ok (.invokevirtual 36, 3) := by decide +kernel
theorem dX1_alike_20 : decode cX1_alike 20 = .ok (.ireturn, 1) := by decide +kernel
theorem dX1_alike_21 : decode cX1_alike 21 = .ok (.aload_n 0, 1) := by decide +kernel
theorem dX1_alike_22 : decode cX1_alike 22 = .ok (.getfield 9, 3) := by decide +kernel
theorem dX1_alike_25 : decode cX1_alike 25 = .ok (.iload_n 1, 1) := by decide +kernel
theorem dX1_alike_26 : decode cX1_alike 26 = .ok (.iaload, 1) := by decide +kernel
theorem dX1_alike_27 : decode cX1_alike 27 = .ok (.iconst (-1), 1) := by decide +kernel
theorem dX1_alike_28 : decode cX1_alike 28 = .ok (.if_icmp .eq 13, 3) := by decide +kernel
theorem dX1_alike_31 : decode cX1_alike 31 = .ok (.aload_n 0, 1) := by decide +kernel
theorem dX1_alike_32 : decode cX1_alike 32 = .ok (.getfield 9, 3) := by decide +kernel
theorem dX1_alike_35 : decode cX1_alike 35 = .ok (.iload_n 2, 1) := by decide +kernel
theorem dX1_alike_36 : decode cX1_alike 36 = .ok (.iaload, 1) := by decide +kernel
theorem dX1_alike_37 : decode cX1_alike 37 = .ok (.iconst (-1), 1) := by decide +kernel
theorem dX1_alike_38 : decode cX1_alike 38 = .ok (.if_icmp .ne 10, 3) := by decide +kernel
theorem dX1_alike_41 : decode cX1_alike 41 = .ok (.aload_n 0, 1) := by decide +kernel
theorem dX1_alike_42 : decode cX1_alike 42 = .ok (.bipush (-3), 2) := by decide +kernel
theorem dX1_alike_44 : decode cX1_alike 44 = .ok (.invokevirtual 36, 3) := by decide +kernel
theorem dX1_alike_47 : decode cX1_alike 47 = .ok (.ireturn, 1) := by decide +kernel
theorem dX1_alike_48 : decode cX1_alike 48 = .ok (.aload_n 0, 1) := by decide +kernel
theorem dX1_alike_49 : decode cX1_alike 49 = .ok (.getfield 9, 3) := by decide +kernel
theorem dX1_alike_52 : decode cX1_alike 52 = .ok (.iload_n 1, 1) := by decide +kernel
theorem dX1_alike_53 : decode cX1_alike 53 = .ok (.iaload, 1) := by decide +kernel
theorem dX1_alike_54 : decode cX1_alike 54 = .ok (.aload_n 0, 1) := by decide +kernel
theorem dX1_alike_55 : decode cX1_alike 55 = .ok (.getfield 9, 3) := by decide +kernel
theorem dX1_alike_58 : decode cX1_alike 58 = .ok (.iload_n 2, 1) := by decide +kernel
theorem dX1_alike_59 : decode cX1_alike 59 = .ok (.iaload, 1) := by decide +kernel
theorem dX1_alike_60 : decode cX1_alike 60 = .ok (.if_icmp .ne 39, 3) := by decide +kernel
theorem dX1_alike_63 : decode cX1_alike 63 = .ok (.aload_n 0, 1) := by decide +kernel
theorem dX1_alike_64 : decode cX1_alike 64 = .ok (.getfield 13, 3) := by decide +kernel
theorem dX1_alike_67 : decode cX1_alike 67 = .ok (.iload_n 1, 1) := by decide +kernel
theorem dX1_alike_68 : decode cX1_alike 68 = .ok (.laload, 1) := by decide +kernel
theorem dX1_alike_69 : decode cX1_alike 69 = .ok (.aload_n 0, 1) := by decide +kernel
theorem dX1_alike_70 : decode cX1_alike 70 = .ok (.getfield 13, 3) := by decide +kernel
theorem dX1_alike_73 : decode cX1_alike 73 = .ok (.iload_n 2, 1) := by decide +kernel
theorem dX1_alike_74 : decode cX1_alike 74 = .ok (.laload, 1) := by decide +kernel
theorem dX1_alike_75 : decode cX1_alike 75 = .ok (.lcmp, 1) := by decide +kernel
theorem dX1_alike_76 : decode cX1_alike 76 = .ok (.ifCond .ne 23, 3) := by decide +kernel
theorem dX1_alike_79 : decode cX1_alike 79 = .ok (.aload_n 0, 1) := by decide +kernel
theorem dX1_alike_80 : decode cX1_alike 80 = .ok (.getfield 17, 3) := by decide +kernel
theorem dX1_alike_83 : decode cX1_alike 83 = .ok (.iload_n 1, 1) := by decide +kernel
theorem dX1_alike_84 : decode cX1_alike 84 = .ok (.laload, 1) := by decide +kernel
theorem dX1_alike_85 : decode cX1_alike 85 = .ok (.aload_n 0, 1) := by decide +kernel
theorem dX1_alike_86 : decode cX1_alike 86 = .ok (.getfield 17, 3) := by decide +kernel
theorem dX1_alike_89 : decode cX1_alike 89 = .ok (.iload_n 2, 1) := by decide +kernel
theorem dX1_alike_90 : decode cX1_alike 90 = .ok (.laload, 1) := by decide +kernel
theorem dX1_alike_91 : decode cX1_alike 91 = .ok (.lcmp, 1) := by decide +kernel
theorem dX1_alike_92 : decode cX1_alike 92 = .ok (.ifCond .ne 7, 3) := by decide +kernel
theorem dX1_alike_95 : decode cX1_alike 95 = .ok (.iconst 1, 1) := by decide +kernel
theorem dX1_alike_96 : decode cX1_alike 96 = .ok (.goto 4, 3) := by decide +kernel
theorem dX1_alike_99 : decode cX1_alike 99 = .ok (.iconst 0, 1) := by decide +kernel
theorem dX1_alike_100 : decode cX1_alike 100 = .ok (.istore_n 3, 1) := by decide +kernel
theorem dX1_alike_101 : decode cX1_alike 101 = .ok (.aload_n 0, 1) := by decide +kernel
theorem dX1_alike_102 : decode cX1_alike 102 = .ok (.iload_n 3, 1) := by decide +kernel
theorem dX1_alike_103 : decode cX1_alike 103 = .ok (.ifCond .eq 7, 3) := by decide +kernel
theorem dX1_alike_106 : decode cX1_alike 106 = .ok (.iconst 1, 1) := by decide +kernel
theorem dX1_alike_107 : decode cX1_alike 107 = .ok (.goto 4, 3) := by decide +kernel
theorem dX1_alike_110 : decode cX1_alike 110 = .ok (.iconst 0, 1) := by decide +kernel
theorem dX1_alike_111 : decode cX1_alike 111 = .ok (.invokevirtual 36, 3) := by decide +kernel
theorem dX1_alike_114 : decode cX1_alike 114 = .ok (.ireturn, 1) := by decide +kernel
set_option maxRecDepth 20000 in
theorem ggX1_step_X1_areSlots : GoodIn wsX1_step wsX1_areSlots := goodIn_r _ [8, 9, 10, 7, 11, 12, 13, 14] (by decide +kernel) (by decide +kernel)
set_option maxRecDepth 20000 in
theorem gX1_step_X1_areSlots : GoodIn wsX1_step (va_wsS RX1 76 yX1_areSlots wsX1_areSlots) := goodIn_app (goodIn_of _ (by decide +kernel)) ggX1_step_X1_areSlots
set_option maxRecDepth 20000 in
theorem ggX1_step_X1_noted : GoodIn wsX1_step wsX1_noted := goodIn_r _ [18, 19, 20, 24, 25, 26, 27, 28, 29, 30, 31, 32, 33, 34] (by decide +kernel) (by decide +kernel)
set_option maxRecDepth 20000 in
theorem gX1_step_X1_noted : GoodIn wsX1_step (wsV RX1 36 RX1 yX1_noted wsX1_noted) := goodIn_app (goodIn_of _ (by decide +kernel)) ggX1_step_X1_noted
set_option maxRecDepth 20000 in
theorem ggX1_step_X1_isStep : GoodIn wsX1_step wsX1_isStep := goodIn_r _ [23] (by decide +kernel) (by decide +kernel)
set_option maxRecDepth 20000 in
theorem gX1_step_X1_isStep : GoodIn wsX1_step (va_wsS RX1 80 yX1_isStep wsX1_isStep) := goodIn_app (goodIn_of _ (by decide +kernel)) ggX1_step_X1_isStep
theorem dX1_step_0 : decode cX1_step 0 = .ok (.iload_n 2, 1) := by decide +kernel
theorem dX1_step_1 : decode cX1_step 1 = .ok (.iload_n 3, 1) := by decide +kernel
theorem dX1_step_2 : decode cX1_step 2 = .ok (.iload 4, 2) := by decide +kernel
theorem dX1_step_4 : decode cX1_step 4 = .ok (.iload 5, 2) := by decide +kernel
theorem dX1_step_6 : decode cX1_step 6 = .ok (.invokestatic 76, 3) := by decide +kernel
theorem dX1_step_9 : decode cX1_step 9 = .ok (.ifCond .ne 10, 3) := by decide +kernel
theorem dX1_step_12 : decode cX1_step 12 = .ok (.aload_n 0, 1) := by decide +kernel
theorem dX1_step_13 : decode cX1_step 13 = .ok (.bipush (-2), 2) := by decide +kernel
theorem dX1_step_15 : decode cX1_step 15 = .ok (.invokevirtual 36, 3) := by decide +kernel
theorem dX1_step_18 : decode cX1_step 18 = .ok (.ireturn, 1) := by decide +kernel
theorem dX1_step_19 : decode cX1_step 19 = .ok (.iload_n 1, 1) := by decide +kernel
theorem dX1_step_20 : decode cX1_step 20 = .ok (.invokestatic 80, 3) := by decide +kernel
theorem dX1_step_23 : decode cX1_step 23 = .ok (.ifCond .eq 13, 3) := by decide +kernel
theorem dX1_step_26 : decode cX1_step 26 = .ok (.iload_n 2, 1) := by decide +kernel
theorem dX1_step_27 : decode cX1_step 27 = .ok (.ifCond .lt 9, 3) := by decide +kernel
theorem dX1_step_30 : decode cX1_step 30 = .ok (.iload_n 2, 1) := by decide +kernel
theorem dX1_step_31 : decode cX1_step 31 = .ok (.bipush 7, 2) := by decide +kernel
theorem dX1_step_33 : decode cX1_step 33 = .ok (.if_icmp .le 10, 3) := by decide +kernel
theorem dX1_step_36 : decode cX1_step 36 = .ok (.aload_n 0, 1) := by decide +kernel
theorem dX1_step_37 : decode cX1_step 37 = .ok (.bipush (-5), 2) := by decide +kernel
theorem dX1_step_39 : decode cX1_step 39 = .ok (.invokevirtual 36, 3) := by decide +kernel
theorem dX1_step_42 : decode cX1_step 42 = .ok (.ireturn, 1) := by decide +kernel
theorem dX1_step_43 : decode cX1_step 43 = .ok (.aload_n 0, 1) := by decide +kernel
theorem dX1_step_44 : decode cX1_step 44 = .ok (.getfield 20, 3) := by decide +kernel
theorem dX1_step_47 : decode cX1_step 47 = .ok (.iload_n 1, 1) := by decide +kernel
theorem dX1_step_48 : decode cX1_step 48 = .ok (.iload_n 2, 1) := by decide +kernel
theorem dX1_step_49 : decode cX1_step 49 = .ok (.iastore, 1) := by decide +kernel
theorem dX1_step_50 : decode cX1_step 50 = .ok (.aload_n 0, 1) := by decide +kernel
theorem dX1_step_51 : decode cX1_step 51 = .ok (.getfield 23, 3) := by decide +kernel
theorem dX1_step_54 : decode cX1_step 54 = .ok (.iload_n 1, 1) := by decide +kernel
theorem dX1_step_55 : decode cX1_step 55 = .ok (.iload_n 3, 1) := by decide +kernel
theorem dX1_step_56 : decode cX1_step 56 = .ok (.iastore, 1) := by decide +kernel
theorem dX1_step_57 : decode cX1_step 57 = .ok (.aload_n 0, 1) := by decide +kernel
theorem dX1_step_58 : decode cX1_step 58 = .ok (.getfield 26, 3) := by decide +kernel
theorem dX1_step_61 : decode cX1_step 61 = .ok (.iload_n 1, 1) := by decide +kernel
theorem dX1_step_62 : decode cX1_step 62 = .ok (.iload 4, 2) := by decide +kernel
theorem dX1_step_64 : decode cX1_step 64 = .ok (.iastore, 1) := by decide +kernel
theorem dX1_step_65 : decode cX1_step 65 = .ok (.aload_n 0, 1) := by decide +kernel
theorem dX1_step_66 : decode cX1_step 66 = .ok (.getfield 29, 3) := by decide +kernel
theorem dX1_step_69 : decode cX1_step 69 = .ok (.iload_n 1, 1) := by decide +kernel
theorem dX1_step_70 : decode cX1_step 70 = .ok (.iload 5, 2) := by decide +kernel
theorem dX1_step_72 : decode cX1_step 72 = .ok (.iastore, 1) := by decide +kernel
theorem dX1_step_73 : decode cX1_step 73 = .ok (.aload_n 0, 1) := by decide +kernel
theorem dX1_step_74 : decode cX1_step 74 = .ok (.iconst 1, 1) := by decide +kernel
theorem dX1_step_75 : decode cX1_step 75 = .ok (.invokevirtual 36, 3) := by decide +kernel
theorem dX1_step_78 : decode cX1_step 78 = .ok (.ireturn, 1) := by decide +kernel
set_option maxRecDepth 20000 in
theorem ggX1_run_X1_isStep : GoodIn wsX1_run wsX1_isStep := goodIn_r _ [10] (by decide +kernel) (by decide +kernel)
set_option maxRecDepth 20000 in
theorem gX1_run_X1_isStep : GoodIn wsX1_run (va_wsS RX1 80 yX1_isStep wsX1_isStep) := goodIn_app (goodIn_of _ (by decide +kernel)) ggX1_run_X1_isStep
set_option maxRecDepth 20000 in
theorem ggX1_run_X1_noted : GoodIn wsX1_run wsX1_noted := goodIn_r _ [14, 1, 15, 190, 191, 192, 193, 194, 195, 196, 197, 198, 199, 200] (by decide +kernel) (by decide +kernel)
set_option maxRecDepth 20000 in
theorem gX1_run_X1_noted : GoodIn wsX1_run (wsV RX1 36 RX1 yX1_noted wsX1_noted) := goodIn_app (goodIn_of _ (by decide +kernel)) ggX1_run_X1_noted
set_option maxRecDepth 20000 in
theorem ggX1_run_X1_performed : GoodIn wsX1_run wsX1_performed := goodIn_r _ [19, 20, 21, 22, 9, 23, 24, 25, 26, 27, 28, 29, 30, 31, 32, 33, 34, 35, 36, 37, 38, 39, 40, 41, 42, 43, 44, 45, 46, 47, 48, 49, 50, 51, 52, 53, 54, 55, 56, 57, 58, 59, 60, 61, 62, 63, 64, 65, 66, 67, 68, 69, 70, 71, 72, 73, 74, 75, 76, 77, 78, 79, 80, 81, 82, 83, 84, 85, 86, 87, 88, 89, 90, 91, 92, 93, 94, 95, 96, 97, 98, 99, 100, 101, 102, 103, 104, 105, 106, 107, 108, 109, 110, 111, 112, 113, 114, 115, 116, 117, 118, 119, 120, 121, 122, 123, 124, 125, 126, 127, 128, 129, 130, 131, 132, 133, 134, 135, 136, 137, 138, 139, 140, 141, 142, 143, 144, 145, 146, 147, 148, 149, 150, 151, 152, 153, 154, 155, 156, 157, 158, 159, 160, 161, 162, 163, 164, 165, 166, 167, 168, 169, 170, 171, 172, 173, 174, 175, 176, 177, 178, 179, 180, 181, 182, 183, 184, 185, 186, 187, 188, 189, 190, 191, 192, 193, 194, 195, 196, 197, 198, 199, 200] (by decide +kernel) (by decide +kernel)
set_option maxRecDepth 20000 in
theorem gX1_run_X1_performed : GoodIn wsX1_run (wsV RX1 51 RX1 yX1_performed wsX1_performed) := goodIn_app (goodIn_of _ (by decide +kernel)) ggX1_run_X1_performed
theorem dX1_run_0 : decode cX1_run 0 = .ok (.iload_n 1, 1) := by decide +kernel
theorem dX1_run_1 : decode cX1_run 1 = .ok (.invokestatic 80, 3) := by decide +kernel
theorem dX1_run_4 : decode cX1_run 4 = .ok (.ifCond .eq 13, 3) := by decide +kernel
theorem dX1_run_7 : decode cX1_run 7 = .ok (.iload_n 2, 1) := by decide +kernel
theorem dX1_run_8 : decode cX1_run 8 = .ok (.ifCond .lt 9, 3) := by decide +kernel
theorem dX1_run_11 : decode cX1_run 11 = .ok (.iload_n 2, 1) := by decide +kernel
theorem dX1_run_12 : decode cX1_run 12 = .ok (.bipush 12, 2) := by decide +kernel
theorem dX1_run_14 : decode cX1_run 14 = .ok (.if_icmp .le 10, 3) := by decide +kernel
theorem dX1_run_17 : decode cX1_run 17 = .ok (.aload_n 0, 1) := by decide +kernel
theorem dX1_run_18 : decode cX1_run 18 = .ok (.bipush (-5), 2) := by decide +kernel
theorem dX1_run_20 : decode cX1_run 20 = .ok (.invokevirtual 36, 3) := by decide +kernel
theorem dX1_run_23 : decode cX1_run 23 = .ok (.ireturn, 1) := by decide +kernel
theorem dX1_run_24 : decode cX1_run 24 = .ok (.aload_n 0, 1) := by decide +kernel
theorem dX1_run_25 : decode cX1_run 25 = .ok (.iconst 0, 1) := by decide +kernel
theorem dX1_run_26 : decode cX1_run 26 = .ok (.putfield 83, 3) := by decide +kernel
theorem dX1_run_29 : decode cX1_run 29 = .ok (.iconst 0, 1) := by decide +kernel
theorem dX1_run_30 : decode cX1_run 30 = .ok (.istore_n 3, 1) := by decide +kernel
theorem dX1_run_31 : decode cX1_run 31 = .ok (.iload_n 1, 1) := by decide +kernel
theorem dX1_run_32 : decode cX1_run 32 = .ok (.istore 4, 2) := by decide +kernel
theorem dX1_run_34 : decode cX1_run 34 = .ok (.iload 4, 2) := by decide +kernel
theorem dX1_run_36 : decode cX1_run 36 = .ok (.bipush 12, 2) := by decide +kernel
theorem dX1_run_38 : decode cX1_run 38 = .ok (.if_icmp .ge 73, 3) := by decide +kernel
theorem dX1_run_41 : decode cX1_run 41 = .ok (.iload_n 3, 1) := by decide +kernel
theorem dX1_run_42 : decode cX1_run 42 = .ok (.iload_n 2, 1) := by decide +kernel
theorem dX1_run_43 : decode cX1_run 43 = .ok (.if_icmp .ge 68, 3) := by decide +kernel
theorem dX1_run_46 : decode cX1_run 46 = .ok (.aload_n 0, 1) := by decide +kernel
theorem dX1_run_47 : decode cX1_run 47 = .ok (.getfield 20, 3) := by decide +kernel
theorem dX1_run_50 : decode cX1_run 50 = .ok (.iload 4, 2) := by decide +kernel
theorem dX1_run_52 : decode cX1_run 52 = .ok (.iaload, 1) := by decide +kernel
theorem dX1_run_53 : decode cX1_run 53 = .ok (.iconst (-1), 1) := by decide +kernel
theorem dX1_run_54 : decode cX1_run 54 = .ok (.if_icmp .ne 6, 3) := by decide +kernel
theorem dX1_run_57 : decode cX1_run 57 = .ok (.goto 54, 3) := by decide +kernel
theorem dX1_run_60 : decode cX1_run 60 = .ok (.aload_n 0, 1) := by decide +kernel
theorem dX1_run_61 : decode cX1_run 61 = .ok (.aload_n 0, 1) := by decide +kernel
theorem dX1_run_62 : decode cX1_run 62 = .ok (.aload_n 0, 1) := by decide +kernel
theorem dX1_run_63 : decode cX1_run 63 = .ok (.getfield 20, 3) := by decide +kernel
theorem dX1_run_66 : decode cX1_run 66 = .ok (.iload 4, 2) := by decide +kernel
theorem dX1_run_68 : decode cX1_run 68 = .ok (.iaload, 1) := by decide +kernel
theorem dX1_run_69 : decode cX1_run 69 = .ok (.aload_n 0, 1) := by decide +kernel
theorem dX1_run_70 : decode cX1_run 70 = .ok (.getfield 23, 3) := by decide +kernel
theorem dX1_run_73 : decode cX1_run 73 = .ok (.iload 4, 2) := by decide +kernel
theorem dX1_run_75 : decode cX1_run 75 = .ok (.iaload, 1) := by decide +kernel
theorem dX1_run_76 : decode cX1_run 76 = .ok (.aload_n 0, 1) := by decide +kernel
theorem dX1_run_77 : decode cX1_run 77 = .ok (.getfield 26, 3) := by decide +kernel
theorem dX1_run_80 : decode cX1_run 80 = .ok (.iload 4, 2) := by decide +kernel
theorem dX1_run_82 : decode cX1_run 82 = .ok (.iaload, 1) := by decide +kernel
theorem dX1_run_83 : decode cX1_run 83 = .ok (.aload_n 0, 1) := by decide +kernel
theorem dX1_run_84 : decode cX1_run 84 = .ok (.getfield 29, 3) := by decide +kernel
theorem dX1_run_87 : decode cX1_run 87 = .ok (.iload 4, 2) := by decide +kernel
theorem dX1_run_89 : decode cX1_run 89 = .ok (.iaload, 1) := by decide +kernel
theorem dX1_run_90 : decode cX1_run 90 = .ok (.invokevirtual 51, 3) := by decide +kernel
theorem dX1_run_93 : decode cX1_run 93 = .ok (.invokevirtual 36, 3) := by decide +kernel
theorem dX1_run_96 : decode cX1_run 96 = .ok (.ifCond .ge 6, 3) := by decide +kernel
theorem dX1_run_99 : decode cX1_run 99 = .ok (.goto 12, 3) := by decide +kernel
theorem dX1_run_102 : decode cX1_run 102 = .ok (.iinc 3 1, 3) := by decide +kernel
theorem dX1_run_105 : decode cX1_run 105 = .ok (.iinc 4 1, 3) := by decide +kernel
theorem dX1_run_108 : decode cX1_run 108 = .ok (.goto (-74), 3) := by decide +kernel
theorem dX1_run_111 : decode cX1_run 111 = .ok (.aload_n 0, 1) := by decide +kernel
theorem dX1_run_112 : decode cX1_run 112 = .ok (.dup, 1) := by decide +kernel
theorem dX1_run_113 : decode cX1_run 113 = .ok (.getfield 86, 3) := by decide +kernel
theorem dX1_run_116 : decode cX1_run 116 = .ok (.iload_n 3, 1) := by decide +kernel
theorem dX1_run_117 : decode cX1_run 117 = .ok (.iadd, 1) := by decide +kernel
theorem dX1_run_118 : decode cX1_run 118 = .ok (.putfield 86, 3) := by decide +kernel
theorem dX1_run_121 : decode cX1_run 121 = .ok (.iload_n 3, 1) := by decide +kernel
theorem dX1_run_122 : decode cX1_run 122 = .ok (.ireturn, 1) := by decide +kernel
theorem dX1_state_0 : decode cX1_state 0 = .ok (.aload_n 0, 1) := by decide +kernel
theorem dX1_state_1 : decode cX1_state 1 = .ok (.getfield 83, 3) := by decide +kernel
theorem dX1_state_4 : decode cX1_state 4 = .ok (.ireturn, 1) := by decide +kernel
set_option maxRecDepth 20000 in
theorem ggX1_about_X1_present : GoodIn wsX1_about wsX1_present := goodIn_r _ [9] (by decide +kernel) (by decide +kernel)
set_option maxRecDepth 20000 in
theorem gX1_about_X1_present : GoodIn wsX1_about (va_wsS RX1 89 yX1_present wsX1_present) := goodIn_app (goodIn_of _ (by decide +kernel)) ggX1_about_X1_present
theorem dX1_about_0 : decode cX1_about 0 = .ok (.iload_n 1, 1) := by decide +kernel
theorem dX1_about_1 : decode cX1_about 1 = .ok (.tableswitch 66 0 4 #[35, 43, 51, 56, 61], 35) := by decide +kernel
theorem dX1_about_36 : decode cX1_about 36 = .ok (.aload_n 0, 1) := by decide +kernel
theorem dX1_about_37 : decode cX1_about 37 = .ok (.getfield 9, 3) := by decide +kernel
theorem dX1_about_40 : decode cX1_about 40 = .ok (.invokestatic 89, 3) := by decide +kernel
theorem dX1_about_43 : decode cX1_about 43 = .ok (.ireturn, 1) := by decide +kernel
theorem dX1_about_44 : decode cX1_about 44 = .ok (.aload_n 0, 1) := by decide +kernel
theorem dX1_about_45 : decode cX1_about 45 = .ok (.getfield 20, 3) := by decide +kernel
theorem dX1_about_48 : decode cX1_about 48 = .ok (.invokestatic 89, 3) := by decide +kernel
theorem dX1_about_51 : decode cX1_about 51 = .ok (.ireturn, 1) := by decide +kernel
theorem dX1_about_52 : decode cX1_about 52 = .ok (.aload_n 0, 1) := by decide +kernel
theorem dX1_about_53 : decode cX1_about 53 = .ok (.getfield 93, 3) := by decide +kernel
theorem dX1_about_56 : decode cX1_about 56 = .ok (.ireturn, 1) := by decide +kernel
theorem dX1_about_57 : decode cX1_about 57 = .ok (.aload_n 0, 1) := by decide +kernel
theorem dX1_about_58 : decode cX1_about 58 = .ok (.getfield 47, 3) := by decide +kernel
theorem dX1_about_61 : decode cX1_about 61 = .ok (.ireturn, 1) := by decide +kernel
theorem dX1_about_62 : decode cX1_about 62 = .ok (.aload_n 0, 1) := by decide +kernel
theorem dX1_about_63 : decode cX1_about 63 = .ok (.getfield 86, 3) := by decide +kernel
theorem dX1_about_66 : decode cX1_about 66 = .ok (.ireturn, 1) := by decide +kernel
theorem dX1_about_67 : decode cX1_about 67 = .ok (.iconst (-1), 1) := by decide +kernel
theorem dX1_about_68 : decode cX1_about 68 = .ok (.ireturn, 1) := by decide +kernel
theorem dX1_noted_0 : decode cX1_noted 0 = .ok (.aload_n 0, 1) := by decide +kernel
theorem dX1_noted_1 : decode cX1_noted 1 = .ok (.iload_n 1, 1) := by decide +kernel
theorem dX1_noted_2 : decode cX1_noted 2 = .ok (.ifCond .ge 7, 3) := by decide +kernel
theorem dX1_noted_5 : decode cX1_noted 5 = .ok (.iload_n 1, 1) := by decide +kernel
theorem dX1_noted_6 : decode cX1_noted 6 = .ok (.goto 4, 3) := by decide +kernel
theorem dX1_noted_9 : decode cX1_noted 9 = .ok (.iconst 0, 1) := by decide +kernel
theorem dX1_noted_10 : decode cX1_noted 10 = .ok (.putfield 83, 3) := by decide +kernel
theorem dX1_noted_13 : decode cX1_noted 13 = .ok (.iload_n 1, 1) := by decide +kernel
theorem dX1_noted_14 : decode cX1_noted 14 = .ok (.ifCond .ge 13, 3) := by decide +kernel
theorem dX1_noted_17 : decode cX1_noted 17 = .ok (.aload_n 0, 1) := by decide +kernel
theorem dX1_noted_18 : decode cX1_noted 18 = .ok (.dup, 1) := by decide +kernel
theorem dX1_noted_19 : decode cX1_noted 19 = .ok (.getfield 93, 3) := by decide +kernel
theorem dX1_noted_22 : decode cX1_noted 22 = .ok (.iconst 1, 1) := by decide +kernel
theorem dX1_noted_23 : decode cX1_noted 23 = .ok (.iadd, 1) := by decide +kernel
theorem dX1_noted_24 : decode cX1_noted 24 = .ok (.putfield 93, 3) := by decide +kernel
theorem dX1_noted_27 : decode cX1_noted 27 = .ok (.iload_n 1, 1) := by decide +kernel
theorem dX1_noted_28 : decode cX1_noted 28 = .ok (.ireturn, 1) := by decide +kernel
theorem dX1_present_0 : decode cX1_present 0 = .ok (.iconst 0, 1) := by decide +kernel
theorem dX1_present_1 : decode cX1_present 1 = .ok (.istore_n 1, 1) := by decide +kernel
theorem dX1_present_2 : decode cX1_present 2 = .ok (.iconst 0, 1) := by decide +kernel
theorem dX1_present_3 : decode cX1_present 3 = .ok (.istore_n 2, 1) := by decide +kernel
theorem dX1_present_4 : decode cX1_present 4 = .ok (.iload_n 2, 1) := by decide +kernel
theorem dX1_present_5 : decode cX1_present 5 = .ok (.aload_n 0, 1) := by decide +kernel
theorem dX1_present_6 : decode cX1_present 6 = .ok (.arraylength, 1) := by decide +kernel
theorem dX1_present_7 : decode cX1_present 7 = .ok (.if_icmp .ge 19, 3) := by decide +kernel
theorem dX1_present_10 : decode cX1_present 10 = .ok (.aload_n 0, 1) := by decide +kernel
theorem dX1_present_11 : decode cX1_present 11 = .ok (.iload_n 2, 1) := by decide +kernel
theorem dX1_present_12 : decode cX1_present 12 = .ok (.iaload, 1) := by decide +kernel
theorem dX1_present_13 : decode cX1_present 13 = .ok (.iconst (-1), 1) := by decide +kernel
theorem dX1_present_14 : decode cX1_present 14 = .ok (.if_icmp .eq 6, 3) := by decide +kernel
theorem dX1_present_17 : decode cX1_present 17 = .ok (.iinc 1 1, 3) := by decide +kernel
theorem dX1_present_20 : decode cX1_present 20 = .ok (.iinc 2 1, 3) := by decide +kernel
theorem dX1_present_23 : decode cX1_present 23 = .ok (.goto (-19), 3) := by decide +kernel
theorem dX1_present_26 : decode cX1_present 26 = .ok (.iload_n 1, 1) := by decide +kernel
theorem dX1_present_27 : decode cX1_present 27 = .ok (.ireturn, 1) := by decide +kernel
theorem dX1_isSlot_0 : decode cX1_isSlot 0 = .ok (.iload_n 0, 1) := by decide +kernel
theorem dX1_isSlot_1 : decode cX1_isSlot 1 = .ok (.ifCond .lt 13, 3) := by decide +kernel
theorem dX1_isSlot_4 : decode cX1_isSlot 4 = .ok (.iload_n 0, 1) := by decide +kernel
theorem dX1_isSlot_5 : decode cX1_isSlot 5 = .ok (.bipush 16, 2) := by decide +kernel
theorem dX1_isSlot_7 : decode cX1_isSlot 7 = .ok (.if_icmp .ge 7, 3) := by decide +kernel
theorem dX1_isSlot_10 : decode cX1_isSlot 10 = .ok (.iconst 1, 1) := by decide +kernel
theorem dX1_isSlot_11 : decode cX1_isSlot 11 = .ok (.goto 4, 3) := by decide +kernel
theorem dX1_isSlot_14 : decode cX1_isSlot 14 = .ok (.iconst 0, 1) := by decide +kernel
theorem dX1_isSlot_15 : decode cX1_isSlot 15 = .ok (.ireturn, 1) := by decide +kernel
theorem dX1_isStep_0 : decode cX1_isStep 0 = .ok (.iload_n 0, 1) := by decide +kernel
theorem dX1_isStep_1 : decode cX1_isStep 1 = .ok (.ifCond .lt 13, 3) := by decide +kernel
theorem dX1_isStep_4 : decode cX1_isStep 4 = .ok (.iload_n 0, 1) := by decide +kernel
theorem dX1_isStep_5 : decode cX1_isStep 5 = .ok (.bipush 12, 2) := by decide +kernel
theorem dX1_isStep_7 : decode cX1_isStep 7 = .ok (.if_icmp .ge 7, 3) := by decide +kernel
theorem dX1_isStep_10 : decode cX1_isStep 10 = .ok (.iconst 1, 1) := by decide +kernel
theorem dX1_isStep_11 : decode cX1_isStep 11 = .ok (.goto 4, 3) := by decide +kernel
theorem dX1_isStep_14 : decode cX1_isStep 14 = .ok (.iconst 0, 1) := by decide +kernel
theorem dX1_isStep_15 : decode cX1_isStep 15 = .ok (.ireturn, 1) := by decide +kernel
theorem dX1_isSort_0 : decode cX1_isSort 0 = .ok (.iload_n 0, 1) := by decide +kernel
theorem dX1_isSort_1 : decode cX1_isSort 1 = .ok (.ifCond .lt 12, 3) := by decide +kernel
theorem dX1_isSort_4 : decode cX1_isSort 4 = .ok (.iload_n 0, 1) := by decide +kernel
theorem dX1_isSort_5 : decode cX1_isSort 5 = .ok (.iconst 3, 1) := by decide +kernel
theorem dX1_isSort_6 : decode cX1_isSort 6 = .ok (.if_icmp .gt 7, 3) := by decide +kernel
theorem dX1_isSort_9 : decode cX1_isSort 9 = .ok (.iconst 1, 1) := by decide +kernel
theorem dX1_isSort_10 : decode cX1_isSort 10 = .ok (.goto 4, 3) := by decide +kernel
theorem dX1_isSort_13 : decode cX1_isSort 13 = .ok (.iconst 0, 1) := by decide +kernel
theorem dX1_isSort_14 : decode cX1_isSort 14 = .ok (.ireturn, 1) := by decide +kernel
theorem dX1_takesTwo_0 : decode cX1_takesTwo 0 = .ok (.iload_n 0, 1) := by decide +kernel
theorem dX1_takesTwo_1 : decode cX1_takesTwo 1 = .ok (.ifCond .eq 13, 3) := by decide +kernel
theorem dX1_takesTwo_4 : decode cX1_takesTwo 4 = .ok (.iload_n 0, 1) := by decide +kernel
theorem dX1_takesTwo_5 : decode cX1_takesTwo 5 = .ok (.iconst 1, 1) := by decide +kernel
theorem dX1_takesTwo_6 : decode cX1_takesTwo 6 = .ok (.if_icmp .eq 8, 3) := by decide +kernel
theorem dX1_takesTwo_9 : decode cX1_takesTwo 9 = .ok (.iload_n 0, 1) := by decide +kernel
theorem dX1_takesTwo_10 : decode cX1_takesTwo 10 = .ok (.iconst 5, 1) := by decide +kernel
theorem dX1_takesTwo_11 : decode cX1_takesTwo 11 = .ok (.if_icmp .ne 7, 3) := by decide +kernel
theorem dX1_takesTwo_14 : decode cX1_takesTwo 14 = .ok (.iconst 1, 1) := by decide +kernel
theorem dX1_takesTwo_15 : decode cX1_takesTwo 15 = .ok (.goto 4, 3) := by decide +kernel
theorem dX1_takesTwo_18 : decode cX1_takesTwo 18 = .ok (.iconst 0, 1) := by decide +kernel
theorem dX1_takesTwo_19 : decode cX1_takesTwo 19 = .ok (.ireturn, 1) := by decide +kernel
set_option maxRecDepth 20000 in
theorem ggX1_areSlots_X1_isSlot : GoodIn wsX1_areSlots wsX1_isSlot := goodIn_r _ [4] (by decide +kernel) (by decide +kernel)
set_option maxRecDepth 20000 in
theorem gX1_areSlots_X1_isSlot : GoodIn wsX1_areSlots (va_wsS RX1 40 yX1_isSlot wsX1_isSlot) := goodIn_app (goodIn_of _ (by decide +kernel)) ggX1_areSlots_X1_isSlot
set_option maxRecDepth 20000 in
theorem ggX1_areSlots_X1_takesTwo : GoodIn wsX1_areSlots wsX1_takesTwo := goodIn_r _ [7] (by decide +kernel) (by decide +kernel)
set_option maxRecDepth 20000 in
theorem gX1_areSlots_X1_takesTwo : GoodIn wsX1_areSlots (va_wsS RX1 96 yX1_takesTwo wsX1_takesTwo) := goodIn_app (goodIn_of _ (by decide +kernel)) ggX1_areSlots_X1_takesTwo
theorem dX1_areSlots_0 : decode cX1_areSlots 0 = .ok (.iload_n 1, 1) := by decide +kernel
theorem dX1_areSlots_1 : decode cX1_areSlots 1 = .ok (.invokestatic 40, 3) := by decide +kernel
theorem dX1_areSlots_4 : decode cX1_areSlots 4 = .ok (.ifCond .eq 28, 3) := by decide +kernel
theorem dX1_areSlots_7 : decode cX1_areSlots 7 = .ok (.iload_n 3, 1) := by decide +kernel
theorem dX1_areSlots_8 : decode cX1_areSlots 8 = .ok (.invokestatic 40, 3) := by decide +kernel
theorem dX1_areSlots_11 : decode cX1_areSlots 11 = .ok (.ifCond .eq 21, 3) := by decide +kernel
theorem dX1_areSlots_14 : decode cX1_areSlots 14 = .ok (.iload_n 0, 1) := by decide +kernel
theorem dX1_areSlots_15 : decode cX1_areSlots 15 = .ok (.invokestatic 96, 3) := by decide +kernel
theorem dX1_areSlots_18 : decode cX1_areSlots 18 = .ok (.ifCond .eq 10, 3) := by decide +kernel
theorem dX1_areSlots_21 : decode cX1_areSlots 21 = .ok (.iload_n 2, 1) := by decide +kernel
theorem dX1_areSlots_22 : decode cX1_areSlots 22 = .ok (.invokestatic 40, 3) := by decide +kernel
theorem dX1_areSlots_25 : decode cX1_areSlots 25 = .ok (.ifCond .eq 7, 3) := by decide +kernel
theorem dX1_areSlots_28 : decode cX1_areSlots 28 = .ok (.iconst 1, 1) := by decide +kernel
theorem dX1_areSlots_29 : decode cX1_areSlots 29 = .ok (.goto 4, 3) := by decide +kernel
theorem dX1_areSlots_32 : decode cX1_areSlots 32 = .ok (.iconst 0, 1) := by decide +kernel
theorem dX1_areSlots_33 : decode cX1_areSlots 33 = .ok (.ireturn, 1) := by decide +kernel
set_option maxRecDepth 20000 in
theorem ggX1_refusalToTake_X1_isSlot : GoodIn wsX1_refusalToTake wsX1_isSlot := goodIn_r _ [5] (by decide +kernel) (by decide +kernel)
set_option maxRecDepth 20000 in
theorem gX1_refusalToTake_X1_isSlot : GoodIn wsX1_refusalToTake (va_wsS RX1 40 yX1_isSlot wsX1_isSlot) := goodIn_app (goodIn_of _ (by decide +kernel)) ggX1_refusalToTake_X1_isSlot
theorem dX1_refusalToTake_0 : decode cX1_refusalToTake 0 = .ok (.iload_n 1, 1) := by decide +kernel
theorem dX1_refusalToTake_1 : decode cX1_refusalToTake 1 = .ok (.invokestatic 40, 3) := by decide +kernel
theorem dX1_refusalToTake_4 : decode cX1_refusalToTake 4 = .ok (.ifCond .ne 6, 3) := by decide +kernel
theorem dX1_refusalToTake_7 : decode cX1_refusalToTake 7 = .ok (.bipush (-2), 2) := by decide +kernel
theorem dX1_refusalToTake_9 : decode cX1_refusalToTake 9 = .ok (.ireturn, 1) := by decide +kernel
theorem dX1_refusalToTake_10 : decode cX1_refusalToTake 10 = .ok (.aload_n 0, 1) := by decide +kernel
theorem dX1_refusalToTake_11 : decode cX1_refusalToTake 11 = .ok (.getfield 9, 3) := by decide +kernel
theorem dX1_refusalToTake_14 : decode cX1_refusalToTake 14 = .ok (.iload_n 1, 1) := by decide +kernel
theorem dX1_refusalToTake_15 : decode cX1_refusalToTake 15 = .ok (.iaload, 1) := by decide +kernel
theorem dX1_refusalToTake_16 : decode cX1_refusalToTake 16 = .ok (.iconst (-1), 1) := by decide +kernel
theorem dX1_refusalToTake_17 : decode cX1_refusalToTake 17 = .ok (.if_icmp .ne 8, 3) := by decide +kernel
theorem dX1_refusalToTake_20 : decode cX1_refusalToTake 20 = .ok (.bipush (-3), 2) := by decide +kernel
theorem dX1_refusalToTake_22 : decode cX1_refusalToTake 22 = .ok (.goto 4, 3) := by decide +kernel
theorem dX1_refusalToTake_25 : decode cX1_refusalToTake 25 = .ok (.iconst 0, 1) := by decide +kernel
theorem dX1_refusalToTake_26 : decode cX1_refusalToTake 26 = .ok (.ireturn, 1) := by decide +kernel
set_option maxRecDepth 20000 in
theorem ggX1_refusalToCompare_X1_refusalToTake : GoodIn wsX1_refusalToCompare wsX1_refusalToTake := goodIn_r _ [6, 1, 7, 8, 5, 9, 38, 39, 40, 41, 42, 43, 44, 45, 46, 47, 48] (by decide +kernel) (by decide +kernel)
set_option maxRecDepth 20000 in
theorem gX1_refusalToCompare_X1_refusalToTake : GoodIn wsX1_refusalToCompare (wsV RX1 44 RX1 yX1_refusalToTake wsX1_refusalToTake) := goodIn_app (goodIn_of _ (by decide +kernel)) ggX1_refusalToCompare_X1_refusalToTake
set_option maxRecDepth 20000 in
theorem ggX1_refusalToCompare_X0_isNumber : GoodIn wsX1_refusalToCompare wsX0_isNumber := goodIn_r _ [13, 14, 15, 12, 16, 17, 18, 19, 20, 21, 22, 23, 24, 25, 26, 27, 28, 29, 30, 31, 32, 33, 34, 35, 36, 37] (by decide +kernel) (by decide +kernel)
set_option maxRecDepth 20000 in
theorem gX1_refusalToCompare_X0_isNumber : GoodIn wsX1_refusalToCompare (va_wsS RX1 99 yX0_isNumber wsX0_isNumber) := goodIn_app (goodIn_of _ (by decide +kernel)) ggX1_refusalToCompare_X0_isNumber
theorem dX1_refusalToCompare_0 : decode cX1_refusalToCompare 0 = .ok (.aload_n 0, 1) := by decide +kernel
theorem dX1_refusalToCompare_1 : decode cX1_refusalToCompare 1 = .ok (.iload_n 1, 1) := by decide +kernel
theorem dX1_refusalToCompare_2 : decode cX1_refusalToCompare 2 = .ok (.invokevirtual 44, 3) := by decide +kernel
theorem dX1_refusalToCompare_5 : decode cX1_refusalToCompare 5 = .ok (.istore 4, 2) := by decide +kernel
theorem dX1_refusalToCompare_7 : decode cX1_refusalToCompare 7 = .ok (.iload 4, 2) := by decide +kernel
theorem dX1_refusalToCompare_9 : decode cX1_refusalToCompare 9 = .ok (.ifCond .ge 6, 3) := by decide +kernel
theorem dX1_refusalToCompare_12 : decode cX1_refusalToCompare 12 = .ok (.iload 4, 2) := by decide +kernel
theorem dX1_refusalToCompare_14 : decode cX1_refusalToCompare 14 = .ok (.ireturn, 1) := by decide +kernel
theorem dX1_refusalToCompare_15 : decode cX1_refusalToCompare 15 = .ok (.aload_n 0, 1) := by decide +kernel
theorem dX1_refusalToCompare_16 : decode cX1_refusalToCompare 16 = .ok (.getfield 9, 3) := by decide +kernel
theorem dX1_refusalToCompare_19 : decode cX1_refusalToCompare 19 = .ok (.iload_n 1, 1) := by decide +kernel
theorem dX1_refusalToCompare_20 : decode cX1_refusalToCompare 20 = .ok (.iaload, 1) := by decide +kernel
theorem dX1_refusalToCompare_21 : decode cX1_refusalToCompare 21 = .ok (.lload_n 2, 1) := by decide +kernel
theorem dX1_refusalToCompare_22 : decode cX1_refusalToCompare 22 = .ok (.invokestatic 99, 3) := by decide +kernel
theorem dX1_refusalToCompare_25 : decode cX1_refusalToCompare 25 = .ok (.ifCond .eq 7, 3) := by decide +kernel
theorem dX1_refusalToCompare_28 : decode cX1_refusalToCompare 28 = .ok (.iconst 0, 1) := by decide +kernel
theorem dX1_refusalToCompare_29 : decode cX1_refusalToCompare 29 = .ok (.goto 5, 3) := by decide +kernel
theorem dX1_refusalToCompare_32 : decode cX1_refusalToCompare 32 = .ok (.bipush (-4), 2) := by decide +kernel
theorem dX1_refusalToCompare_34 : decode cX1_refusalToCompare 34 = .ok (.ireturn, 1) := by decide +kernel
set_option maxRecDepth 20000 in
theorem ggX1_placed_X1_isSlot : GoodIn wsX1_placed wsX1_isSlot := goodIn_r _ [4] (by decide +kernel) (by decide +kernel)
set_option maxRecDepth 20000 in
theorem gX1_placed_X1_isSlot : GoodIn wsX1_placed (va_wsS RX1 40 yX1_isSlot wsX1_isSlot) := goodIn_app (goodIn_of _ (by decide +kernel)) ggX1_placed_X1_isSlot
set_option maxRecDepth 20000 in
theorem ggX1_placed_X1_isSort : GoodIn wsX1_placed wsX1_isSort := goodIn_r _ [7] (by decide +kernel) (by decide +kernel)
set_option maxRecDepth 20000 in
theorem gX1_placed_X1_isSort : GoodIn wsX1_placed (va_wsS RX1 103 yX1_isSort wsX1_isSort) := goodIn_app (goodIn_of _ (by decide +kernel)) ggX1_placed_X1_isSort
set_option maxRecDepth 20000 in
theorem ggX1_placed_X0_isNumber : GoodIn wsX1_placed wsX0_isNumber := goodIn_r _ [11, 12, 13, 10, 14, 15, 16, 17, 18, 19, 20, 21, 22, 23, 24, 25, 26, 27, 28, 29, 30, 31, 32, 33, 34, 35] (by decide +kernel) (by decide +kernel)
set_option maxRecDepth 20000 in
theorem gX1_placed_X0_isNumber : GoodIn wsX1_placed (va_wsS RX1 99 yX0_isNumber wsX0_isNumber) := goodIn_app (goodIn_of _ (by decide +kernel)) ggX1_placed_X0_isNumber
set_option maxRecDepth 20000 in
theorem ggX1_placed_X0_fitted : GoodIn wsX1_placed wsX0_fitted := goodIn_r _ [17] (by decide +kernel) (by decide +kernel)
set_option maxRecDepth 20000 in
theorem gX1_placed_X0_fitted : GoodIn wsX1_placed (va_wsS RX1 59 yX0_fitted wsX0_fitted) := goodIn_app (goodIn_of _ (by decide +kernel)) ggX1_placed_X0_fitted
set_option maxRecDepth 20000 in
theorem ggX1_placed_X0_isLess : GoodIn wsX1_placed wsX0_isLess := goodIn_r _ [39, 12, 13, 10, 14, 40, 41, 42, 43] (by decide +kernel) (by decide +kernel)
set_option maxRecDepth 20000 in
theorem gX1_placed_X0_isLess : GoodIn wsX1_placed (va_wsS RX1 72 yX0_isLess wsX0_isLess) := goodIn_app (goodIn_of _ (by decide +kernel)) ggX1_placed_X0_isLess
set_option maxRecDepth 20000 in
theorem ggX1_placed_X1_put : GoodIn wsX1_placed wsX1_put := goodIn_r _ [47, 48, 49, 50, 51, 52, 53, 54, 55, 56, 57, 58, 59, 60, 61] (by decide +kernel) (by decide +kernel)
set_option maxRecDepth 20000 in
theorem gX1_placed_X1_put : GoodIn wsX1_placed (wsV RX1 106 RX1 yX1_put wsX1_put) := goodIn_app (goodIn_of _ (by decide +kernel)) ggX1_placed_X1_put
theorem dX1_placed_0 : decode cX1_placed 0 = .ok (.iload_n 1, 1) := by decide +kernel
theorem dX1_placed_1 : decode cX1_placed 1 = .ok (.invokestatic 40, 3) := by decide +kernel
theorem dX1_placed_4 : decode cX1_placed 4 = .ok (.ifCond .ne 6, 3) := by decide +kernel
theorem dX1_placed_7 : decode cX1_placed 7 = .ok (.bipush (-2), 2) := by decide +kernel
theorem dX1_placed_9 : decode cX1_placed 9 = .ok (.ireturn, 1) := by decide +kernel
theorem dX1_placed_10 : decode cX1_placed 10 = .ok (.iload_n 2, 1) := by decide +kernel
theorem dX1_placed_11 : decode cX1_placed 11 = .ok (.invokestatic 103, 3) := by decide +kernel
theorem dX1_placed_14 : decode cX1_placed 14 = .ok (.ifCond .eq 20, 3) := by decide +kernel
theorem dX1_placed_17 : decode cX1_placed 17 = .ok (.iload_n 2, 1) := by decide +kernel
theorem dX1_placed_18 : decode cX1_placed 18 = .ok (.lload_n 3, 1) := by decide +kernel
theorem dX1_placed_19 : decode cX1_placed 19 = .ok (.invokestatic 99, 3) := by decide +kernel
theorem dX1_placed_22 : decode cX1_placed 22 = .ok (.ifCond .eq 12, 3) := by decide +kernel
theorem dX1_placed_25 : decode cX1_placed 25 = .ok (.iload_n 2, 1) := by decide +kernel
theorem dX1_placed_26 : decode cX1_placed 26 = .ok (.lload 5, 2) := by decide +kernel
theorem dX1_placed_28 : decode cX1_placed 28 = .ok (.invokestatic 99, 3) := by decide +kernel
theorem dX1_placed_31 : decode cX1_placed 31 = .ok (.ifCond .ne 6, 3) := by decide +kernel
theorem dX1_placed_34 : decode cX1_placed 34 = .ok (.bipush (-4), 2) := by decide +kernel
theorem dX1_placed_36 : decode cX1_placed 36 = .ok (.ireturn, 1) := by decide +kernel
theorem dX1_placed_37 : decode cX1_placed 37 = .ok (.iload_n 2, 1) := by decide +kernel
theorem dX1_placed_38 : decode cX1_placed 38 = .ok (.lload_n 3, 1) := by decide +kernel
theorem dX1_placed_39 : decode cX1_placed 39 = .ok (.invokestatic 59, 3) := by decide +kernel
theorem dX1_placed_42 : decode cX1_placed 42 = .ok (.lstore 7, 2) := by decide +kernel
theorem dX1_placed_44 : decode cX1_placed 44 = .ok (.iload_n 2, 1) := by decide +kernel
theorem dX1_placed_45 : decode cX1_placed 45 = .ok (.lload 5, 2) := by decide +kernel
theorem dX1_placed_47 : decode cX1_placed 47 = .ok (.invokestatic 59, 3) := by decide +kernel
theorem dX1_placed_50 : decode cX1_placed 50 = .ok (.lstore 9, 2) := by decide +kernel
