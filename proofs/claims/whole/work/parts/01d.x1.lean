theorem dX1_init_0 : decode cX1_init 0 = .ok (.aload_n 0, 1) := by decide +kernel
theorem dX1_init_1 : decode cX1_init 1 = .ok (.invokespecial 1, 3) := by decide +kernel
theorem dX1_init_4 : decode cX1_init 4 = .ok (.aload_n 0, 1) := by decide +kernel
theorem dX1_init_5 : decode cX1_init 5 = .ok (.bipush 24, 2) := by decide +kernel
theorem dX1_init_7 : decode cX1_init 7 = .ok (.newarray .int, 2) := by decide +kernel
theorem dX1_init_9 : decode cX1_init 9 = .ok (.putfield 7, 3) := by decide +kernel
theorem dX1_init_12 : decode cX1_init 12 = .ok (.aload_n 0, 1) := by decide +kernel
theorem dX1_init_13 : decode cX1_init 13 = .ok (.bipush 24, 2) := by decide +kernel
theorem dX1_init_15 : decode cX1_init 15 = .ok (.newarray .boolean, 2) := by decide +kernel
theorem dX1_init_17 : decode cX1_init 17 = .ok (.putfield 13, 3) := by decide +kernel
theorem dX1_init_20 : decode cX1_init 20 = .ok (.aload_n 0, 1) := by decide +kernel
theorem dX1_init_21 : decode cX1_init 21 = .ok (.bipush 72, 2) := by decide +kernel
theorem dX1_init_23 : decode cX1_init 23 = .ok (.newarray .int, 2) := by decide +kernel
theorem dX1_init_25 : decode cX1_init 25 = .ok (.putfield 17, 3) := by decide +kernel
theorem dX1_init_28 : decode cX1_init 28 = .ok (.aload_n 0, 1) := by decide +kernel
theorem dX1_init_29 : decode cX1_init 29 = .ok (.bipush 20, 2) := by decide +kernel
theorem dX1_init_31 : decode cX1_init 31 = .ok (.newarray .int, 2) := by decide +kernel
theorem dX1_init_33 : decode cX1_init 33 = .ok (.putfield 20, 3) := by decide +kernel
theorem dX1_init_36 : decode cX1_init 36 = .ok (.aload_n 0, 1) := by decide +kernel
theorem dX1_init_37 : decode cX1_init 37 = .ok (.bipush 20, 2) := by decide +kernel
theorem dX1_init_39 : decode cX1_init 39 = .ok (.newarray .int, 2) := by decide +kernel
theorem dX1_init_41 : decode cX1_init 41 = .ok (.putfield 23, 3) := by decide +kernel
theorem dX1_init_44 : decode cX1_init 44 = .ok (.aload_n 0, 1) := by decide +kernel
theorem dX1_init_45 : decode cX1_init 45 = .ok (.bipush 20, 2) := by decide +kernel
theorem dX1_init_47 : decode cX1_init 47 = .ok (.newarray .int, 2) := by decide +kernel
theorem dX1_init_49 : decode cX1_init 49 = .ok (.putfield 26, 3) := by decide +kernel
theorem dX1_init_52 : decode cX1_init 52 = .ok (.aload_n 0, 1) := by decide +kernel
theorem dX1_init_53 : decode cX1_init 53 = .ok (.bipush 20, 2) := by decide +kernel
theorem dX1_init_55 : decode cX1_init 55 = .ok (.newarray .int, 2) := by decide +kernel
theorem dX1_init_57 : decode cX1_init 57 = .ok (.putfield 29, 3) := by decide +kernel
theorem dX1_init_60 : decode cX1_init 60 = .ok (.aload_n 0, 1) := by decide +kernel
theorem dX1_init_61 : decode cX1_init 61 = .ok (.bipush 20, 2) := by decide +kernel
theorem dX1_init_63 : decode cX1_init 63 = .ok (.newarray .int, 2) := by decide +kernel
theorem dX1_init_65 : decode cX1_init 65 = .ok (.putfield 32, 3) := by decide +kernel
theorem dX1_init_68 : decode cX1_init 68 = .ok (.aload_n 0, 1) := by decide +kernel
theorem dX1_init_69 : decode cX1_init 69 = .ok (.bipush 20, 2) := by decide +kernel
theorem dX1_init_71 : decode cX1_init 71 = .ok (.newarray .int, 2) := by decide +kernel
theorem dX1_init_73 : decode cX1_init 73 = .ok (.putfield 35, 3) := by decide +kernel
theorem dX1_init_76 : decode cX1_init 76 = .ok (.aload_n 0, 1) := by decide +kernel
theorem dX1_init_77 : decode cX1_init 77 = .ok (.bipush 20, 2) := by decide +kernel
theorem dX1_init_79 : decode cX1_init 79 = .ok (.newarray .int, 2) := by decide +kernel
theorem dX1_init_81 : decode cX1_init 81 = .ok (.putfield 38, 3) := by decide +kernel
theorem dX1_init_84 : decode cX1_init 84 = .ok (.aload_n 0, 1) := by decide +kernel
theorem dX1_init_85 : decode cX1_init 85 = .ok (.bipush 20, 2) := by decide +kernel
theorem dX1_init_87 : decode cX1_init 87 = .ok (.newarray .boolean, 2) := by decide +kernel
theorem dX1_init_89 : decode cX1_init 89 = .ok (.putfield 41, 3) := by decide +kernel
theorem dX1_init_92 : decode cX1_init 92 = .ok (.aload_n 0, 1) := by decide +kernel
theorem dX1_init_93 : decode cX1_init 93 = .ok (.sipush 150, 3) := by decide +kernel
theorem dX1_init_96 : decode cX1_init 96 = .ok (.newarray .int, 2) := by decide +kernel
theorem dX1_init_98 : decode cX1_init 98 = .ok (.putfield 44, 3) := by decide +kernel
theorem dX1_init_101 : decode cX1_init 101 = .ok (.aload_n 0, 1) := by decide +kernel
theorem dX1_init_102 : decode cX1_init 102 = .ok (.sipush 150, 3) := by decide +kernel
theorem dX1_init_105 : decode cX1_init 105 = .ok (.newarray .int, 2) := by decide +kernel
theorem dX1_init_107 : decode cX1_init 107 = .ok (.putfield 47, 3) := by decide +kernel
theorem dX1_init_110 : decode cX1_init 110 = .ok (.aload_n 0, 1) := by decide +kernel
theorem dX1_init_111 : decode cX1_init 111 = .ok (.sipush 150, 3) := by decide +kernel
theorem dX1_init_114 : decode cX1_init 114 = .ok (.newarray .int, 2) := by decide +kernel
theorem dX1_init_116 : decode cX1_init 116 = .ok (.putfield 50, 3) := by decide +kernel
theorem dX1_init_119 : decode cX1_init 119 = .ok (.aload_n 0, 1) := by decide +kernel
theorem dX1_init_120 : decode cX1_init 120 = .ok (.sipush 150, 3) := by decide +kernel
theorem dX1_init_123 : decode cX1_init 123 = .ok (.newarray .boolean, 2) := by decide +kernel
theorem dX1_init_125 : decode cX1_init 125 = .ok (.putfield 53, 3) := by decide +kernel
theorem dX1_init_128 : decode cX1_init 128 = .ok (.return_, 1) := by decide +kernel
theorem dX1_thrown_0 : decode cX1_thrown 0 = .ok (.aload_n 0, 1) := by decide +kernel
theorem dX1_thrown_1 : decode cX1_thrown 1 = .ok (.getfield 56, 3) := by decide +kernel
theorem dX1_thrown_4 : decode cX1_thrown 4 = .ok (.ireturn, 1) := by decide +kernel
theorem dX1_in_0 : decode cX1_in 0 = .ok (.iload_n 0, 1) := by decide +kernel
theorem dX1_in_1 : decode cX1_in 1 = .ok (.iload_n 1, 1) := by decide +kernel
theorem dX1_in_2 : decode cX1_in 2 = .ok (.if_icmp .lt 12, 3) := by decide +kernel
theorem dX1_in_5 : decode cX1_in 5 = .ok (.iload_n 0, 1) := by decide +kernel
theorem dX1_in_6 : decode cX1_in 6 = .ok (.iload_n 2, 1) := by decide +kernel
theorem dX1_in_7 : decode cX1_in 7 = .ok (.if_icmp .gt 7, 3) := by decide +kernel
theorem dX1_in_10 : decode cX1_in 10 = .ok (.iconst 1, 1) := by decide +kernel
theorem dX1_in_11 : decode cX1_in 11 = .ok (.goto 4, 3) := by decide +kernel
theorem dX1_in_14 : decode cX1_in 14 = .ok (.iconst 0, 1) := by decide +kernel
theorem dX1_in_15 : decode cX1_in 15 = .ok (.ireturn, 1) := by decide +kernel
theorem dX1_goes_0 : decode cX1_goes 0 = .ok (.aload_n 0, 1) := by decide +kernel
theorem dX1_goes_1 : decode cX1_goes 1 = .ok (.iload_n 1, 1) := by decide +kernel
theorem dX1_goes_2 : decode cX1_goes 2 = .ok (.ifCond .ne 7, 3) := by decide +kernel
theorem dX1_goes_5 : decode cX1_goes 5 = .ok (.iconst 1, 1) := by decide +kernel
theorem dX1_goes_6 : decode cX1_goes 6 = .ok (.goto 20, 3) := by decide +kernel
theorem dX1_goes_9 : decode cX1_goes 9 = .ok (.iload_n 2, 1) := by decide +kernel
theorem dX1_goes_10 : decode cX1_goes 10 = .ok (.ifCond .ne 7, 3) := by decide +kernel
theorem dX1_goes_13 : decode cX1_goes 13 = .ok (.iconst 2, 1) := by decide +kernel
theorem dX1_goes_14 : decode cX1_goes 14 = .ok (.goto 12, 3) := by decide +kernel
theorem dX1_goes_17 : decode cX1_goes 17 = .ok (.iload_n 3, 1) := by decide +kernel
theorem dX1_goes_18 : decode cX1_goes 18 = .ok (.ifCond .ne 7, 3) := by decide +kernel
theorem dX1_goes_21 : decode cX1_goes 21 = .ok (.iconst 3, 1) := by decide +kernel
theorem dX1_goes_22 : decode cX1_goes 22 = .ok (.goto 4, 3) := by decide +kernel
theorem dX1_goes_25 : decode cX1_goes 25 = .ok (.iconst 0, 1) := by decide +kernel
theorem dX1_goes_26 : decode cX1_goes 26 = .ok (.putfield 56, 3) := by decide +kernel
theorem dX1_goes_29 : decode cX1_goes 29 = .ok (.aload_n 0, 1) := by decide +kernel
theorem dX1_goes_30 : decode cX1_goes 30 = .ok (.getfield 56, 3) := by decide +kernel
theorem dX1_goes_33 : decode cX1_goes 33 = .ok (.ifCond .ne 7, 3) := by decide +kernel
theorem dX1_goes_36 : decode cX1_goes 36 = .ok (.iconst 1, 1) := by decide +kernel
theorem dX1_goes_37 : decode cX1_goes 37 = .ok (.goto 4, 3) := by decide +kernel
theorem dX1_goes_40 : decode cX1_goes 40 = .ok (.iconst 0, 1) := by decide +kernel
theorem dX1_goes_41 : decode cX1_goes 41 = .ok (.ireturn, 1) := by decide +kernel
theorem dX1_told_0 : decode cX1_told 0 = .ok (.aload_n 0, 1) := by decide +kernel
theorem dX1_told_1 : decode cX1_told 1 = .ok (.iconst 0, 1) := by decide +kernel
theorem dX1_told_2 : decode cX1_told 2 = .ok (.putfield 56, 3) := by decide +kernel
theorem dX1_told_5 : decode cX1_told 5 = .ok (.iload_n 1, 1) := by decide +kernel
theorem dX1_told_6 : decode cX1_told 6 = .ok (.ireturn, 1) := by decide +kernel
set_option maxRecDepth 20000 in
theorem ggX1_isBreak_X1_in : GoodIn wsX1_isBreak wsX1_in := goodIn_r _ [5] (by decide +kernel) (by decide +kernel)
set_option maxRecDepth 20000 in
theorem gX1_isBreak_X1_in : GoodIn wsX1_isBreak (va_wsS RX1 63 yX1_in wsX1_in) := goodIn_app (goodIn_of _ (by decide +kernel)) ggX1_isBreak_X1_in
theorem dX1_isBreak_0 : decode cX1_isBreak 0 = .ok (.iload_n 1, 1) := by decide +kernel
theorem dX1_isBreak_1 : decode cX1_isBreak 1 = .ok (.iconst 0, 1) := by decide +kernel
theorem dX1_isBreak_2 : decode cX1_isBreak 2 = .ok (.aload_n 0, 1) := by decide +kernel
theorem dX1_isBreak_3 : decode cX1_isBreak 3 = .ok (.getfield 60, 3) := by decide +kernel
theorem dX1_isBreak_6 : decode cX1_isBreak 6 = .ok (.iconst 1, 1) := by decide +kernel
theorem dX1_isBreak_7 : decode cX1_isBreak 7 = .ok (.isub, 1) := by decide +kernel
theorem dX1_isBreak_8 : decode cX1_isBreak 8 = .ok (.invokestatic 63, 3) := by decide +kernel
theorem dX1_isBreak_11 : decode cX1_isBreak 11 = .ok (.ireturn, 1) := by decide +kernel
set_option maxRecDepth 20000 in
theorem ggX1_isOrder_X1_in : GoodIn wsX1_isOrder wsX1_in := goodIn_r _ [5] (by decide +kernel) (by decide +kernel)
set_option maxRecDepth 20000 in
theorem gX1_isOrder_X1_in : GoodIn wsX1_isOrder (va_wsS RX1 63 yX1_in wsX1_in) := goodIn_app (goodIn_of _ (by decide +kernel)) ggX1_isOrder_X1_in
theorem dX1_isOrder_0 : decode cX1_isOrder 0 = .ok (.iload_n 1, 1) := by decide +kernel
theorem dX1_isOrder_1 : decode cX1_isOrder 1 = .ok (.iconst 0, 1) := by decide +kernel
theorem dX1_isOrder_2 : decode cX1_isOrder 2 = .ok (.aload_n 0, 1) := by decide +kernel
theorem dX1_isOrder_3 : decode cX1_isOrder 3 = .ok (.getfield 67, 3) := by decide +kernel
theorem dX1_isOrder_6 : decode cX1_isOrder 6 = .ok (.iconst 1, 1) := by decide +kernel
theorem dX1_isOrder_7 : decode cX1_isOrder 7 = .ok (.isub, 1) := by decide +kernel
theorem dX1_isOrder_8 : decode cX1_isOrder 8 = .ok (.invokestatic 63, 3) := by decide +kernel
theorem dX1_isOrder_11 : decode cX1_isOrder 11 = .ok (.ireturn, 1) := by decide +kernel
set_option maxRecDepth 20000 in
theorem ggX1_isSpot_X1_in : GoodIn wsX1_isSpot wsX1_in := goodIn_r _ [5] (by decide +kernel) (by decide +kernel)
set_option maxRecDepth 20000 in
theorem gX1_isSpot_X1_in : GoodIn wsX1_isSpot (va_wsS RX1 63 yX1_in wsX1_in) := goodIn_app (goodIn_of _ (by decide +kernel)) ggX1_isSpot_X1_in
theorem dX1_isSpot_0 : decode cX1_isSpot 0 = .ok (.iload_n 1, 1) := by decide +kernel
theorem dX1_isSpot_1 : decode cX1_isSpot 1 = .ok (.iconst 0, 1) := by decide +kernel
theorem dX1_isSpot_2 : decode cX1_isSpot 2 = .ok (.aload_n 0, 1) := by decide +kernel
theorem dX1_isSpot_3 : decode cX1_isSpot 3 = .ok (.getfield 70, 3) := by decide +kernel
theorem dX1_isSpot_6 : decode cX1_isSpot 6 = .ok (.iconst 1, 1) := by decide +kernel
theorem dX1_isSpot_7 : decode cX1_isSpot 7 = .ok (.isub, 1) := by decide +kernel
theorem dX1_isSpot_8 : decode cX1_isSpot 8 = .ok (.invokestatic 63, 3) := by decide +kernel
theorem dX1_isSpot_11 : decode cX1_isSpot 11 = .ok (.ireturn, 1) := by decide +kernel
set_option maxRecDepth 20000 in
theorem ggX1_addBreak_X1_in : GoodIn wsX1_addBreak wsX1_in := goodIn_r _ [6] (by decide +kernel) (by decide +kernel)
set_option maxRecDepth 20000 in
theorem gX1_addBreak_X1_in : GoodIn wsX1_addBreak (va_wsS RX1 63 yX1_in wsX1_in) := goodIn_app (goodIn_of _ (by decide +kernel)) ggX1_addBreak_X1_in
set_option maxRecDepth 20000 in
theorem ggX1_addBreak_X1_goes : GoodIn wsX1_addBreak wsX1_goes := goodIn_r _ [10, 11, 12, 13, 14, 15, 16, 17, 18, 19, 20, 21, 22, 23, 24, 25, 26, 27, 28, 29, 30] (by decide +kernel) (by decide +kernel)
set_option maxRecDepth 20000 in
theorem gX1_addBreak_X1_goes : GoodIn wsX1_addBreak (wsV RX1 73 RX1 yX1_goes wsX1_goes) := goodIn_app (goodIn_of _ (by decide +kernel)) ggX1_addBreak_X1_goes
theorem dX1_addBreak_0 : decode cX1_addBreak 0 = .ok (.aload_n 0, 1) := by decide +kernel
theorem dX1_addBreak_1 : decode cX1_addBreak 1 = .ok (.iload_n 1, 1) := by decide +kernel
theorem dX1_addBreak_2 : decode cX1_addBreak 2 = .ok (.bipush 15, 2) := by decide +kernel
theorem dX1_addBreak_4 : decode cX1_addBreak 4 = .ok (.sipush 600, 3) := by decide +kernel
theorem dX1_addBreak_7 : decode cX1_addBreak 7 = .ok (.invokestatic 63, 3) := by decide +kernel
theorem dX1_addBreak_10 : decode cX1_addBreak 10 = .ok (.aload_n 0, 1) := by decide +kernel
theorem dX1_addBreak_11 : decode cX1_addBreak 11 = .ok (.getfield 60, 3) := by decide +kernel
theorem dX1_addBreak_14 : decode cX1_addBreak 14 = .ok (.bipush 24, 2) := by decide +kernel
theorem dX1_addBreak_16 : decode cX1_addBreak 16 = .ok (.if_icmp .ge 7, 3) := by decide +kernel
theorem dX1_addBreak_19 : decode cX1_addBreak 19 = .ok (.iconst 1, 1) := by decide +kernel
theorem dX1_addBreak_20 : decode cX1_addBreak 20 = .ok (.goto 4, 3) := by decide +kernel
theorem dX1_addBreak_23 : decode cX1_addBreak 23 = .ok (.iconst 0, 1) := by decide +kernel
theorem dX1_addBreak_24 : decode cX1_addBreak 24 = .ok (.iconst 1, 1) := by decide +kernel
theorem dX1_addBreak_25 : decode cX1_addBreak 25 = .ok (.invokevirtual 73, 3) := by decide +kernel
theorem dX1_addBreak_28 : decode cX1_addBreak 28 = .ok (.ifCond .ne 5, 3) := by decide +kernel
theorem dX1_addBreak_31 : decode cX1_addBreak 31 = .ok (.iconst 0, 1) := by decide +kernel
theorem dX1_addBreak_32 : decode cX1_addBreak 32 = .ok (.ireturn, 1) := by decide +kernel
theorem dX1_addBreak_33 : decode cX1_addBreak 33 = .ok (.aload_n 0, 1) := by decide +kernel
theorem dX1_addBreak_34 : decode cX1_addBreak 34 = .ok (.getfield 7, 3) := by decide +kernel
theorem dX1_addBreak_37 : decode cX1_addBreak 37 = .ok (.aload_n 0, 1) := by decide +kernel
theorem dX1_addBreak_38 : decode cX1_addBreak 38 = .ok (.getfield 60, 3) := by decide +kernel
theorem dX1_addBreak_41 : decode cX1_addBreak 41 = .ok (.iload_n 1, 1) := by decide +kernel
theorem dX1_addBreak_42 : decode cX1_addBreak 42 = .ok (.iastore, 1) := by decide +kernel
theorem dX1_addBreak_43 : decode cX1_addBreak 43 = .ok (.aload_n 0, 1) := by decide +kernel
theorem dX1_addBreak_44 : decode cX1_addBreak 44 = .ok (.dup, 1) := by decide +kernel
theorem dX1_addBreak_45 : decode cX1_addBreak 45 = .ok (.getfield 60, 3) := by decide +kernel
theorem dX1_addBreak_48 : decode cX1_addBreak 48 = .ok (.iconst 1, 1) := by decide +kernel
theorem dX1_addBreak_49 : decode cX1_addBreak 49 = .ok (.iadd, 1) := by decide +kernel
theorem dX1_addBreak_50 : decode cX1_addBreak 50 = .ok (.putfield 60, 3) := by decide +kernel
theorem dX1_addBreak_53 : decode cX1_addBreak 53 = .ok (.aload_n 0, 1) := by decide +kernel
theorem dX1_addBreak_54 : decode cX1_addBreak 54 = .ok (.getfield 60, 3) := by decide +kernel
theorem dX1_addBreak_57 : decode cX1_addBreak 57 = .ok (.iconst 1, 1) := by decide +kernel
theorem dX1_addBreak_58 : decode cX1_addBreak 58 = .ok (.isub, 1) := by decide +kernel
theorem dX1_addBreak_59 : decode cX1_addBreak 59 = .ok (.ireturn, 1) := by decide +kernel
set_option maxRecDepth 20000 in
theorem ggX1_rate_X1_isBreak : GoodIn wsX1_rate wsX1_isBreak := goodIn_r _ [7, 8, 9, 10, 6, 11, 17, 18, 19, 20, 21, 22, 23, 24, 25, 26, 27, 28, 29, 30, 31, 32, 33, 34, 35] (by decide +kernel) (by decide +kernel)
set_option maxRecDepth 20000 in
theorem gX1_rate_X1_isBreak : GoodIn wsX1_rate (wsV RX1 77 RX1 yX1_isBreak wsX1_isBreak) := goodIn_app (goodIn_of _ (by decide +kernel)) ggX1_rate_X1_isBreak
set_option maxRecDepth 20000 in
theorem ggX1_rate_X1_in : GoodIn wsX1_rate wsX1_in := goodIn_r _ [11] (by decide +kernel) (by decide +kernel)
set_option maxRecDepth 20000 in
theorem gX1_rate_X1_in : GoodIn wsX1_rate (va_wsS RX1 63 yX1_in wsX1_in) := goodIn_app (goodIn_of _ (by decide +kernel)) ggX1_rate_X1_in
set_option maxRecDepth 20000 in
theorem ggX1_rate_X1_goes : GoodIn wsX1_rate wsX1_goes := goodIn_r _ [15, 16, 17, 18, 19, 20, 21, 22, 23, 24, 25, 26, 27, 28, 29, 30, 31, 32, 33, 34, 35] (by decide +kernel) (by decide +kernel)
set_option maxRecDepth 20000 in
theorem gX1_rate_X1_goes : GoodIn wsX1_rate (wsV RX1 73 RX1 yX1_goes wsX1_goes) := goodIn_app (goodIn_of _ (by decide +kernel)) ggX1_rate_X1_goes
theorem dX1_rate_0 : decode cX1_rate 0 = .ok (.aload_n 0, 1) := by decide +kernel
theorem dX1_rate_1 : decode cX1_rate 1 = .ok (.aload_n 0, 1) := by decide +kernel
theorem dX1_rate_2 : decode cX1_rate 2 = .ok (.iload_n 1, 1) := by decide +kernel
theorem dX1_rate_3 : decode cX1_rate 3 = .ok (.invokevirtual 77, 3) := by decide +kernel
theorem dX1_rate_6 : decode cX1_rate 6 = .ok (.iload_n 2, 1) := by decide +kernel
theorem dX1_rate_7 : decode cX1_rate 7 = .ok (.iconst 0, 1) := by decide +kernel
theorem dX1_rate_8 : decode cX1_rate 8 = .ok (.iconst 2, 1) := by decide +kernel
theorem dX1_rate_9 : decode cX1_rate 9 = .ok (.invokestatic 63, 3) := by decide +kernel
theorem dX1_rate_12 : decode cX1_rate 12 = .ok (.ifCond .eq 17, 3) := by decide +kernel
theorem dX1_rate_15 : decode cX1_rate 15 = .ok (.iload_n 3, 1) := by decide +kernel
theorem dX1_rate_16 : decode cX1_rate 16 = .ok (.iconst 0, 1) := by decide +kernel
theorem dX1_rate_17 : decode cX1_rate 17 = .ok (.ldc 81, 2) := by decide +kernel
theorem dX1_rate_19 : decode cX1_rate 19 = .ok (.invokestatic 63, 3) := by decide +kernel
theorem dX1_rate_22 : decode cX1_rate 22 = .ok (.ifCond .eq 7, 3) := by decide +kernel
theorem dX1_rate_25 : decode cX1_rate 25 = .ok (.iconst 1, 1) := by decide +kernel
theorem dX1_rate_26 : decode cX1_rate 26 = .ok (.goto 4, 3) := by decide +kernel
theorem dX1_rate_29 : decode cX1_rate 29 = .ok (.iconst 0, 1) := by decide +kernel
theorem dX1_rate_30 : decode cX1_rate 30 = .ok (.iconst 1, 1) := by decide +kernel
theorem dX1_rate_31 : decode cX1_rate 31 = .ok (.invokevirtual 73, 3) := by decide +kernel
theorem dX1_rate_34 : decode cX1_rate 34 = .ok (.ifCond .ne 5, 3) := by decide +kernel
theorem dX1_rate_37 : decode cX1_rate 37 = .ok (.iconst 0, 1) := by decide +kernel
theorem dX1_rate_38 : decode cX1_rate 38 = .ok (.ireturn, 1) := by decide +kernel
theorem dX1_rate_39 : decode cX1_rate 39 = .ok (.aload_n 0, 1) := by decide +kernel
theorem dX1_rate_40 : decode cX1_rate 40 = .ok (.getfield 17, 3) := by decide +kernel
theorem dX1_rate_43 : decode cX1_rate 43 = .ok (.iconst 3, 1) := by decide +kernel
theorem dX1_rate_44 : decode cX1_rate 44 = .ok (.iload_n 1, 1) := by decide +kernel
theorem dX1_rate_45 : decode cX1_rate 45 = .ok (.imul, 1) := by decide +kernel
theorem dX1_rate_46 : decode cX1_rate 46 = .ok (.iload_n 2, 1) := by decide +kernel
theorem dX1_rate_47 : decode cX1_rate 47 = .ok (.iadd, 1) := by decide +kernel
theorem dX1_rate_48 : decode cX1_rate 48 = .ok (.iaload, 1) := by decide +kernel
theorem dX1_rate_49 : decode cX1_rate 49 = .ok (.istore 4, 2) := by decide +kernel
theorem dX1_rate_51 : decode cX1_rate 51 = .ok (.aload_n 0, 1) := by decide +kernel
theorem dX1_rate_52 : decode cX1_rate 52 = .ok (.getfield 17, 3) := by decide +kernel
theorem dX1_rate_55 : decode cX1_rate 55 = .ok (.iconst 3, 1) := by decide +kernel
theorem dX1_rate_56 : decode cX1_rate 56 = .ok (.iload_n 1, 1) := by decide +kernel
theorem dX1_rate_57 : decode cX1_rate 57 = .ok (.imul, 1) := by decide +kernel
theorem dX1_rate_58 : decode cX1_rate 58 = .ok (.iload_n 2, 1) := by decide +kernel
theorem dX1_rate_59 : decode cX1_rate 59 = .ok (.iadd, 1) := by decide +kernel
theorem dX1_rate_60 : decode cX1_rate 60 = .ok (.iload_n 3, 1) := by decide +kernel
theorem dX1_rate_61 : decode cX1_rate 61 = .ok (.iastore, 1) := by decide +kernel
theorem dX1_rate_62 : decode cX1_rate 62 = .ok (.iload 4, 2) := by decide +kernel
theorem dX1_rate_64 : decode cX1_rate 64 = .ok (.ireturn, 1) := by decide +kernel
set_option maxRecDepth 20000 in
theorem ggX1_air_X1_isBreak : GoodIn wsX1_air wsX1_isBreak := goodIn_r _ [9, 10, 11, 12, 8, 13, 19, 20, 21, 22, 23, 24, 25, 26, 27, 28, 29, 30, 31, 32, 33, 34, 35, 36, 37] (by decide +kernel) (by decide +kernel)
set_option maxRecDepth 20000 in
theorem gX1_air_X1_isBreak : GoodIn wsX1_air (wsV RX1 77 RX1 yX1_isBreak wsX1_isBreak) := goodIn_app (goodIn_of _ (by decide +kernel)) ggX1_air_X1_isBreak
set_option maxRecDepth 20000 in
theorem ggX1_air_X1_goes : GoodIn wsX1_air wsX1_goes := goodIn_r _ [17, 18, 19, 20, 21, 22, 23, 24, 25, 26, 27, 28, 29, 30, 31, 32, 33, 34, 35, 36, 37] (by decide +kernel) (by decide +kernel)
set_option maxRecDepth 20000 in
theorem gX1_air_X1_goes : GoodIn wsX1_air (wsV RX1 73 RX1 yX1_goes wsX1_goes) := goodIn_app (goodIn_of _ (by decide +kernel)) ggX1_air_X1_goes
theorem dX1_air_0 : decode cX1_air 0 = .ok (.aload_n 0, 1) := by decide +kernel
theorem dX1_air_1 : decode cX1_air 1 = .ok (.iload_n 1, 1) := by decide +kernel
theorem dX1_air_2 : decode cX1_air 2 = .ok (.invokevirtual 77, 3) := by decide +kernel
theorem dX1_air_5 : decode cX1_air 5 = .ok (.istore_n 2, 1) := by decide +kernel
theorem dX1_air_6 : decode cX1_air 6 = .ok (.aload_n 0, 1) := by decide +kernel
theorem dX1_air_7 : decode cX1_air 7 = .ok (.iload_n 2, 1) := by decide +kernel
theorem dX1_air_8 : decode cX1_air 8 = .ok (.iload_n 2, 1) := by decide +kernel
theorem dX1_air_9 : decode cX1_air 9 = .ok (.ifCond .eq 16, 3) := by decide +kernel
theorem dX1_air_12 : decode cX1_air 12 = .ok (.aload_n 0, 1) := by decide +kernel
theorem dX1_air_13 : decode cX1_air 13 = .ok (.getfield 13, 3) := by decide +kernel
theorem dX1_air_16 : decode cX1_air 16 = .ok (.iload_n 1, 1) := by decide +kernel
theorem dX1_air_17 : decode cX1_air 17 = .ok (.baload, 1) := by decide +kernel
theorem dX1_air_18 : decode cX1_air 18 = .ok (.ifCond .ne 7, 3) := by decide +kernel
theorem dX1_air_21 : decode cX1_air 21 = .ok (.iconst 1, 1) := by decide +kernel
theorem dX1_air_22 : decode cX1_air 22 = .ok (.goto 4, 3) := by decide +kernel
theorem dX1_air_25 : decode cX1_air 25 = .ok (.iconst 0, 1) := by decide +kernel
theorem dX1_air_26 : decode cX1_air 26 = .ok (.iconst 1, 1) := by decide +kernel
theorem dX1_air_27 : decode cX1_air 27 = .ok (.invokevirtual 73, 3) := by decide +kernel
theorem dX1_air_30 : decode cX1_air 30 = .ok (.ifCond .ne 5, 3) := by decide +kernel
theorem dX1_air_33 : decode cX1_air 33 = .ok (.iconst 0, 1) := by decide +kernel
theorem dX1_air_34 : decode cX1_air 34 = .ok (.ireturn, 1) := by decide +kernel
theorem dX1_air_35 : decode cX1_air 35 = .ok (.iconst 0, 1) := by decide +kernel
theorem dX1_air_36 : decode cX1_air 36 = .ok (.istore_n 3, 1) := by decide +kernel
theorem dX1_air_37 : decode cX1_air 37 = .ok (.aload_n 0, 1) := by decide +kernel
theorem dX1_air_38 : decode cX1_air 38 = .ok (.getfield 13, 3) := by decide +kernel
theorem dX1_air_41 : decode cX1_air 41 = .ok (.iload_n 1, 1) := by decide +kernel
theorem dX1_air_42 : decode cX1_air 42 = .ok (.iconst 1, 1) := by decide +kernel
theorem dX1_air_43 : decode cX1_air 43 = .ok (.bastore, 1) := by decide +kernel
theorem dX1_air_44 : decode cX1_air 44 = .ok (.iconst 0, 1) := by decide +kernel
theorem dX1_air_45 : decode cX1_air 45 = .ok (.istore 4, 2) := by decide +kernel
theorem dX1_air_47 : decode cX1_air 47 = .ok (.iload 4, 2) := by decide +kernel
theorem dX1_air_49 : decode cX1_air 49 = .ok (.aload_n 0, 1) := by decide +kernel
theorem dX1_air_50 : decode cX1_air 50 = .ok (.getfield 70, 3) := by decide +kernel
theorem dX1_air_53 : decode cX1_air 53 = .ok (.if_icmp .ge 41, 3) := by decide +kernel
theorem dX1_air_56 : decode cX1_air 56 = .ok (.aload_n 0, 1) := by decide +kernel
theorem dX1_air_57 : decode cX1_air 57 = .ok (.getfield 47, 3) := by decide +kernel
theorem dX1_air_60 : decode cX1_air 60 = .ok (.iload 4, 2) := by decide +kernel
theorem dX1_air_62 : decode cX1_air 62 = .ok (.iaload, 1) := by decide +kernel
theorem dX1_air_63 : decode cX1_air 63 = .ok (.iload_n 1, 1) := by decide +kernel
theorem dX1_air_64 : decode cX1_air 64 = .ok (.if_icmp .ne 24, 3) := by decide +kernel
theorem dX1_air_67 : decode cX1_air 67 = .ok (.aload_n 0, 1) := by decide +kernel
theorem dX1_air_68 : decode cX1_air 68 = .ok (.getfield 50, 3) := by decide +kernel
theorem dX1_air_71 : decode cX1_air 71 = .ok (.iload 4, 2) := by decide +kernel
theorem dX1_air_73 : decode cX1_air 73 = .ok (.iaload, 1) := by decide +kernel
theorem dX1_air_74 : decode cX1_air 74 = .ok (.ifCond .ne 14, 3) := by decide +kernel
theorem dX1_air_77 : decode cX1_air 77 = .ok (.aload_n 0, 1) := by decide +kernel
theorem dX1_air_78 : decode cX1_air 78 = .ok (.getfield 50, 3) := by decide +kernel
theorem dX1_air_81 : decode cX1_air 81 = .ok (.iload 4, 2) := by decide +kernel
theorem dX1_air_83 : decode cX1_air 83 = .ok (.iconst 1, 1) := by decide +kernel
theorem dX1_air_84 : decode cX1_air 84 = .ok (.iastore, 1) := by decide +kernel
theorem dX1_air_85 : decode cX1_air 85 = .ok (.iinc 3 1, 3) := by decide +kernel
theorem dX1_air_88 : decode cX1_air 88 = .ok (.iinc 4 1, 3) := by decide +kernel
theorem dX1_air_91 : decode cX1_air 91 = .ok (.goto (-44), 3) := by decide +kernel
theorem dX1_air_94 : decode cX1_air 94 = .ok (.iload_n 3, 1) := by decide +kernel
theorem dX1_air_95 : decode cX1_air 95 = .ok (.ireturn, 1) := by decide +kernel
set_option maxRecDepth 20000 in
theorem ggX1_breaks_X1_told : GoodIn wsX1_breaks wsX1_told := goodIn_r _ [6, 7, 8, 9, 10, 11, 12, 13, 14, 15, 16, 17, 18, 19, 20, 21, 22, 23, 24, 25, 26] (by decide +kernel) (by decide +kernel)
set_option maxRecDepth 20000 in
theorem gX1_breaks_X1_told : GoodIn wsX1_breaks (wsV RX1 82 RX1 yX1_told wsX1_told) := goodIn_app (goodIn_of _ (by decide +kernel)) ggX1_breaks_X1_told
theorem dX1_breaks_0 : decode cX1_breaks 0 = .ok (.aload_n 0, 1) := by decide +kernel
theorem dX1_breaks_1 : decode cX1_breaks 1 = .ok (.aload_n 0, 1) := by decide +kernel
theorem dX1_breaks_2 : decode cX1_breaks 2 = .ok (.getfield 60, 3) := by decide +kernel
theorem dX1_breaks_5 : decode cX1_breaks 5 = .ok (.invokevirtual 82, 3) := by decide +kernel
theorem dX1_breaks_8 : decode cX1_breaks 8 = .ok (.ireturn, 1) := by decide +kernel
set_option maxRecDepth 20000 in
theorem ggX1_isAired_X1_isBreak : GoodIn wsX1_isAired wsX1_isBreak := goodIn_r _ [6, 7, 8, 9, 5, 10, 16, 17, 18, 19, 20, 21, 22, 23, 24, 25, 26, 27, 28, 29, 30, 31, 32, 33, 34] (by decide +kernel) (by decide +kernel)
set_option maxRecDepth 20000 in
theorem gX1_isAired_X1_isBreak : GoodIn wsX1_isAired (wsV RX1 77 RX1 yX1_isBreak wsX1_isBreak) := goodIn_app (goodIn_of _ (by decide +kernel)) ggX1_isAired_X1_isBreak
set_option maxRecDepth 20000 in
theorem ggX1_isAired_X1_goes : GoodIn wsX1_isAired wsX1_goes := goodIn_r _ [14, 15, 16, 17, 18, 19, 20, 21, 22, 23, 24, 25, 26, 27, 28, 29, 30, 31, 32, 33, 34] (by decide +kernel) (by decide +kernel)
set_option maxRecDepth 20000 in
theorem gX1_isAired_X1_goes : GoodIn wsX1_isAired (wsV RX1 73 RX1 yX1_goes wsX1_goes) := goodIn_app (goodIn_of _ (by decide +kernel)) ggX1_isAired_X1_goes
theorem dX1_isAired_0 : decode cX1_isAired 0 = .ok (.aload_n 0, 1) := by decide +kernel
theorem dX1_isAired_1 : decode cX1_isAired 1 = .ok (.aload_n 0, 1) := by decide +kernel
theorem dX1_isAired_2 : decode cX1_isAired 2 = .ok (.iload_n 1, 1) := by decide +kernel
theorem dX1_isAired_3 : decode cX1_isAired 3 = .ok (.invokevirtual 77, 3) := by decide +kernel
theorem dX1_isAired_6 : decode cX1_isAired 6 = .ok (.iconst 1, 1) := by decide +kernel
theorem dX1_isAired_7 : decode cX1_isAired 7 = .ok (.iconst 1, 1) := by decide +kernel
theorem dX1_isAired_8 : decode cX1_isAired 8 = .ok (.invokevirtual 73, 3) := by decide +kernel
theorem dX1_isAired_11 : decode cX1_isAired 11 = .ok (.ifCond .eq 16, 3) := by decide +kernel
theorem dX1_isAired_14 : decode cX1_isAired 14 = .ok (.aload_n 0, 1) := by decide +kernel
theorem dX1_isAired_15 : decode cX1_isAired 15 = .ok (.getfield 13, 3) := by decide +kernel
theorem dX1_isAired_18 : decode cX1_isAired 18 = .ok (.iload_n 1, 1) := by decide +kernel
theorem dX1_isAired_19 : decode cX1_isAired 19 = .ok (.baload, 1) := by decide +kernel
theorem dX1_isAired_20 : decode cX1_isAired 20 = .ok (.ifCond .eq 7, 3) := by decide +kernel
theorem dX1_isAired_23 : decode cX1_isAired 23 = .ok (.iconst 1, 1) := by decide +kernel
theorem dX1_isAired_24 : decode cX1_isAired 24 = .ok (.goto 4, 3) := by decide +kernel
theorem dX1_isAired_27 : decode cX1_isAired 27 = .ok (.iconst 0, 1) := by decide +kernel
theorem dX1_isAired_28 : decode cX1_isAired 28 = .ok (.ireturn, 1) := by decide +kernel
theorem dX1_stands_0 : decode cX1_stands 0 = .ok (.aload_n 0, 1) := by decide +kernel
theorem dX1_stands_1 : decode cX1_stands 1 = .ok (.getfield 47, 3) := by decide +kernel
theorem dX1_stands_4 : decode cX1_stands 4 = .ok (.iload_n 1, 1) := by decide +kernel
theorem dX1_stands_5 : decode cX1_stands 5 = .ok (.iaload, 1) := by decide +kernel
theorem dX1_stands_6 : decode cX1_stands 6 = .ok (.iload_n 2, 1) := by decide +kernel
theorem dX1_stands_7 : decode cX1_stands 7 = .ok (.if_icmp .ne 26, 3) := by decide +kernel
theorem dX1_stands_10 : decode cX1_stands 10 = .ok (.aload_n 0, 1) := by decide +kernel
theorem dX1_stands_11 : decode cX1_stands 11 = .ok (.getfield 50, 3) := by decide +kernel
theorem dX1_stands_14 : decode cX1_stands 14 = .ok (.iload_n 1, 1) := by decide +kernel
theorem dX1_stands_15 : decode cX1_stands 15 = .ok (.iaload, 1) := by decide +kernel
theorem dX1_stands_16 : decode cX1_stands 16 = .ok (.ifCond .eq 13, 3) := by decide +kernel
theorem dX1_stands_19 : decode cX1_stands 19 = .ok (.aload_n 0, 1) := by decide +kernel
theorem dX1_stands_20 : decode cX1_stands 20 = .ok (.getfield 50, 3) := by decide +kernel
theorem dX1_stands_23 : decode cX1_stands 23 = .ok (.iload_n 1, 1) := by decide +kernel
theorem dX1_stands_24 : decode cX1_stands 24 = .ok (.iaload, 1) := by decide +kernel
theorem dX1_stands_25 : decode cX1_stands 25 = .ok (.iconst 1, 1) := by decide +kernel
theorem dX1_stands_26 : decode cX1_stands 26 = .ok (.if_icmp .ne 7, 3) := by decide +kernel
theorem dX1_stands_29 : decode cX1_stands 29 = .ok (.iconst 1, 1) := by decide +kernel
theorem dX1_stands_30 : decode cX1_stands 30 = .ok (.goto 4, 3) := by decide +kernel
theorem dX1_stands_33 : decode cX1_stands 33 = .ok (.iconst 0, 1) := by decide +kernel
theorem dX1_stands_34 : decode cX1_stands 34 = .ok (.ireturn, 1) := by decide +kernel
set_option maxRecDepth 20000 in
theorem ggX1_roomWithout_X1_stands : GoodIn wsX1_roomWithout wsX1_stands := goodIn_r _ [9, 10, 11, 12, 13, 14, 15, 16, 17, 18, 19, 20, 21, 22, 23, 24, 25, 26, 27, 28, 29, 30] (by decide +kernel) (by decide +kernel)
set_option maxRecDepth 20000 in
theorem gX1_roomWithout_X1_stands : GoodIn wsX1_roomWithout (wsV RX1 86 RX1 yX1_stands wsX1_stands) := goodIn_app (goodIn_of _ (by decide +kernel)) ggX1_roomWithout_X1_stands
theorem dX1_roomWithout_0 : decode cX1_roomWithout 0 = .ok (.aload_n 0, 1) := by decide +kernel
theorem dX1_roomWithout_1 : decode cX1_roomWithout 1 = .ok (.getfield 7, 3) := by decide +kernel
theorem dX1_roomWithout_4 : decode cX1_roomWithout 4 = .ok (.iload_n 1, 1) := by decide +kernel
theorem dX1_roomWithout_5 : decode cX1_roomWithout 5 = .ok (.iaload, 1) := by decide +kernel
theorem dX1_roomWithout_6 : decode cX1_roomWithout 6 = .ok (.istore_n 3, 1) := by decide +kernel
theorem dX1_roomWithout_7 : decode cX1_roomWithout 7 = .ok (.iconst 0, 1) := by decide +kernel
theorem dX1_roomWithout_8 : decode cX1_roomWithout 8 = .ok (.istore 4, 2) := by decide +kernel
theorem dX1_roomWithout_10 : decode cX1_roomWithout 10 = .ok (.iload 4, 2) := by decide +kernel
theorem dX1_roomWithout_12 : decode cX1_roomWithout 12 = .ok (.aload_n 0, 1) := by decide +kernel
theorem dX1_roomWithout_13 : decode cX1_roomWithout 13 = .ok (.getfield 70, 3) := by decide +kernel
theorem dX1_roomWithout_16 : decode cX1_roomWithout 16 = .ok (.if_icmp .ge 44, 3) := by decide +kernel
theorem dX1_roomWithout_19 : decode cX1_roomWithout 19 = .ok (.iload_n 3, 1) := by decide +kernel
theorem dX1_roomWithout_20 : decode cX1_roomWithout 20 = .ok (.iload 4, 2) := by decide +kernel
theorem dX1_roomWithout_22 : decode cX1_roomWithout 22 = .ok (.iload_n 2, 1) := by decide +kernel
theorem dX1_roomWithout_23 : decode cX1_roomWithout 23 = .ok (.if_icmp .eq 28, 3) := by decide +kernel
theorem dX1_roomWithout_26 : decode cX1_roomWithout 26 = .ok (.aload_n 0, 1) := by decide +kernel
theorem dX1_roomWithout_27 : decode cX1_roomWithout 27 = .ok (.iload 4, 2) := by decide +kernel
theorem dX1_roomWithout_29 : decode cX1_roomWithout 29 = .ok (.iload_n 1, 1) := by decide +kernel
theorem dX1_roomWithout_30 : decode cX1_roomWithout 30 = .ok (.invokevirtual 86, 3) := by decide +kernel
theorem dX1_roomWithout_33 : decode cX1_roomWithout 33 = .ok (.ifCond .eq 18, 3) := by decide +kernel
theorem dX1_roomWithout_36 : decode cX1_roomWithout 36 = .ok (.aload_n 0, 1) := by decide +kernel
theorem dX1_roomWithout_37 : decode cX1_roomWithout 37 = .ok (.getfield 29, 3) := by decide +kernel
theorem dX1_roomWithout_40 : decode cX1_roomWithout 40 = .ok (.aload_n 0, 1) := by decide +kernel
theorem dX1_roomWithout_41 : decode cX1_roomWithout 41 = .ok (.getfield 44, 3) := by decide +kernel
theorem dX1_roomWithout_44 : decode cX1_roomWithout 44 = .ok (.iload 4, 2) := by decide +kernel
theorem dX1_roomWithout_46 : decode cX1_roomWithout 46 = .ok (.iaload, 1) := by decide +kernel
theorem dX1_roomWithout_47 : decode cX1_roomWithout 47 = .ok (.iaload, 1) := by decide +kernel
theorem dX1_roomWithout_48 : decode cX1_roomWithout 48 = .ok (.goto 4, 3) := by decide +kernel
theorem dX1_roomWithout_51 : decode cX1_roomWithout 51 = .ok (.iconst 0, 1) := by decide +kernel
theorem dX1_roomWithout_52 : decode cX1_roomWithout 52 = .ok (.isub, 1) := by decide +kernel
theorem dX1_roomWithout_53 : decode cX1_roomWithout 53 = .ok (.istore_n 3, 1) := by decide +kernel
theorem dX1_roomWithout_54 : decode cX1_roomWithout 54 = .ok (.iinc 4 1, 3) := by decide +kernel
theorem dX1_roomWithout_57 : decode cX1_roomWithout 57 = .ok (.goto (-47), 3) := by decide +kernel
theorem dX1_roomWithout_60 : decode cX1_roomWithout 60 = .ok (.iload_n 3, 1) := by decide +kernel
theorem dX1_roomWithout_61 : decode cX1_roomWithout 61 = .ok (.ireturn, 1) := by decide +kernel
set_option maxRecDepth 20000 in
theorem ggX1_room_X1_isBreak : GoodIn wsX1_room wsX1_isBreak := goodIn_r _ [5, 6, 7, 8, 4, 9, 29, 30, 31, 32, 33, 34, 35, 36, 37, 38, 39, 40, 41, 42, 43, 44, 45, 46, 47] (by decide +kernel) (by decide +kernel)
set_option maxRecDepth 20000 in
theorem gX1_room_X1_isBreak : GoodIn wsX1_room (wsV RX1 77 RX1 yX1_isBreak wsX1_isBreak) := goodIn_app (goodIn_of _ (by decide +kernel)) ggX1_room_X1_isBreak
set_option maxRecDepth 20000 in
theorem ggX1_room_X1_goes : GoodIn wsX1_room wsX1_goes := goodIn_r _ [13, 14, 29, 30, 31, 32, 33, 34, 35, 36, 37, 38, 39, 40, 41, 42, 43, 44, 45, 46, 47] (by decide +kernel) (by decide +kernel)
set_option maxRecDepth 20000 in
theorem gX1_room_X1_goes : GoodIn wsX1_room (wsV RX1 73 RX1 yX1_goes wsX1_goes) := goodIn_app (goodIn_of _ (by decide +kernel)) ggX1_room_X1_goes
set_option maxRecDepth 20000 in
theorem ggX1_room_X1_roomWithout : GoodIn wsX1_room wsX1_roomWithout := goodIn_r _ [18, 19, 20, 21, 22, 23, 24, 25, 4, 26, 27, 28, 29, 30, 31, 32, 33, 34, 35, 36, 37, 38, 39, 40, 41, 42, 43, 44, 45, 46, 47] (by decide +kernel) (by decide +kernel)
set_option maxRecDepth 20000 in
theorem gX1_room_X1_roomWithout : GoodIn wsX1_room (wsV RX1 90 RX1 yX1_roomWithout wsX1_roomWithout) := goodIn_app (goodIn_of _ (by decide +kernel)) ggX1_room_X1_roomWithout
theorem dX1_room_0 : decode cX1_room 0 = .ok (.aload_n 0, 1) := by decide +kernel
theorem dX1_room_1 : decode cX1_room 1 = .ok (.aload_n 0, 1) := by decide +kernel
theorem dX1_room_2 : decode cX1_room 2 = .ok (.iload_n 1, 1) := by decide +kernel
theorem dX1_room_3 : decode cX1_room 3 = .ok (.invokevirtual 77, 3) := by decide +kernel
theorem dX1_room_6 : decode cX1_room 6 = .ok (.iconst 1, 1) := by decide +kernel
theorem dX1_room_7 : decode cX1_room 7 = .ok (.iconst 1, 1) := by decide +kernel
theorem dX1_room_8 : decode cX1_room 8 = .ok (.invokevirtual 73, 3) := by decide +kernel
theorem dX1_room_11 : decode cX1_room 11 = .ok (.ifCond .eq 12, 3) := by decide +kernel
theorem dX1_room_14 : decode cX1_room 14 = .ok (.aload_n 0, 1) := by decide +kernel
theorem dX1_room_15 : decode cX1_room 15 = .ok (.iload_n 1, 1) := by decide +kernel
theorem dX1_room_16 : decode cX1_room 16 = .ok (.iconst (-1), 1) := by decide +kernel
theorem dX1_room_17 : decode cX1_room 17 = .ok (.invokevirtual 90, 3) := by decide +kernel
theorem dX1_room_20 : decode cX1_room 20 = .ok (.goto 4, 3) := by decide +kernel
theorem dX1_room_23 : decode cX1_room 23 = .ok (.iconst 0, 1) := by decide +kernel
theorem dX1_room_24 : decode cX1_room 24 = .ok (.ireturn, 1) := by decide +kernel
set_option maxRecDepth 20000 in
theorem ggX1_rating_X1_isBreak : GoodIn wsX1_rating wsX1_isBreak := goodIn_r _ [6, 7, 8, 9, 5, 10, 16, 17, 18, 19, 20, 21, 22, 23, 24, 25, 26, 27, 28, 29, 30, 31, 32, 33, 34] (by decide +kernel) (by decide +kernel)
set_option maxRecDepth 20000 in
theorem gX1_rating_X1_isBreak : GoodIn wsX1_rating (wsV RX1 77 RX1 yX1_isBreak wsX1_isBreak) := goodIn_app (goodIn_of _ (by decide +kernel)) ggX1_rating_X1_isBreak
set_option maxRecDepth 20000 in
theorem ggX1_rating_X1_in : GoodIn wsX1_rating wsX1_in := goodIn_r _ [10] (by decide +kernel) (by decide +kernel)
set_option maxRecDepth 20000 in
theorem gX1_rating_X1_in : GoodIn wsX1_rating (va_wsS RX1 63 yX1_in wsX1_in) := goodIn_app (goodIn_of _ (by decide +kernel)) ggX1_rating_X1_in
set_option maxRecDepth 20000 in
theorem ggX1_rating_X1_goes : GoodIn wsX1_rating wsX1_goes := goodIn_r _ [14, 15, 16, 17, 18, 19, 20, 21, 22, 23, 24, 25, 26, 27, 28, 29, 30, 31, 32, 33, 34] (by decide +kernel) (by decide +kernel)
set_option maxRecDepth 20000 in
theorem gX1_rating_X1_goes : GoodIn wsX1_rating (wsV RX1 73 RX1 yX1_goes wsX1_goes) := goodIn_app (goodIn_of _ (by decide +kernel)) ggX1_rating_X1_goes
theorem dX1_rating_0 : decode cX1_rating 0 = .ok (.aload_n 0, 1) := by decide +kernel
theorem dX1_rating_1 : decode cX1_rating 1 = .ok (.aload_n 0, 1) := by decide +kernel
theorem dX1_rating_2 : decode cX1_rating 2 = .ok (.iload_n 1, 1) := by decide +kernel
theorem dX1_rating_3 : decode cX1_rating 3 = .ok (.invokevirtual 77, 3) := by decide +kernel
theorem dX1_rating_6 : decode cX1_rating 6 = .ok (.iload_n 2, 1) := by decide +kernel
theorem dX1_rating_7 : decode cX1_rating 7 = .ok (.iconst 0, 1) := by decide +kernel
theorem dX1_rating_8 : decode cX1_rating 8 = .ok (.iconst 2, 1) := by decide +kernel
theorem dX1_rating_9 : decode cX1_rating 9 = .ok (.invokestatic 63, 3) := by decide +kernel
theorem dX1_rating_12 : decode cX1_rating 12 = .ok (.iconst 1, 1) := by decide +kernel
theorem dX1_rating_13 : decode cX1_rating 13 = .ok (.invokevirtual 73, 3) := by decide +kernel
theorem dX1_rating_16 : decode cX1_rating 16 = .ok (.ifCond .eq 16, 3) := by decide +kernel
theorem dX1_rating_19 : decode cX1_rating 19 = .ok (.aload_n 0, 1) := by decide +kernel
theorem dX1_rating_20 : decode cX1_rating 20 = .ok (.getfield 17, 3) := by decide +kernel
theorem dX1_rating_23 : decode cX1_rating 23 = .ok (.iconst 3, 1) := by decide +kernel
theorem dX1_rating_24 : decode cX1_rating 24 = .ok (.iload_n 1, 1) := by decide +kernel
theorem dX1_rating_25 : decode cX1_rating 25 = .ok (.imul, 1) := by decide +kernel
theorem dX1_rating_26 : decode cX1_rating 26 = .ok (.iload_n 2, 1) := by decide +kernel
theorem dX1_rating_27 : decode cX1_rating 27 = .ok (.iadd, 1) := by decide +kernel
theorem dX1_rating_28 : decode cX1_rating 28 = .ok (.iaload, 1) := by decide +kernel
theorem dX1_rating_29 : decode cX1_rating 29 = .ok (.goto 4, 3) := by decide +kernel
theorem dX1_rating_32 : decode cX1_rating 32 = .ok (.iconst 0, 1) := by decide +kernel
theorem dX1_rating_33 : decode cX1_rating 33 = .ok (.ireturn, 1) := by decide +kernel
set_option maxRecDepth 20000 in
theorem ggX1_addOrder_X1_in : GoodIn wsX1_addOrder wsX1_in := goodIn_r _ [14] (by decide +kernel) (by decide +kernel)
set_option maxRecDepth 20000 in
theorem gX1_addOrder_X1_in : GoodIn wsX1_addOrder (va_wsS RX1 63 yX1_in wsX1_in) := goodIn_app (goodIn_of _ (by decide +kernel)) ggX1_addOrder_X1_in
set_option maxRecDepth 20000 in
theorem ggX1_addOrder_X1_goes : GoodIn wsX1_addOrder wsX1_goes := goodIn_r _ [18, 19, 20, 21, 22, 23, 24, 25, 26, 27, 28, 29, 30, 31, 32, 33, 34, 35, 36, 37, 38] (by decide +kernel) (by decide +kernel)
set_option maxRecDepth 20000 in
theorem gX1_addOrder_X1_goes : GoodIn wsX1_addOrder (wsV RX1 73 RX1 yX1_goes wsX1_goes) := goodIn_app (goodIn_of _ (by decide +kernel)) ggX1_addOrder_X1_goes
theorem dX1_addOrder_0 : decode cX1_addOrder 0 = .ok (.iload_n 1, 1) := by decide +kernel
theorem dX1_addOrder_1 : decode cX1_addOrder 1 = .ok (.iconst 0, 1) := by decide +kernel
theorem dX1_addOrder_2 : decode cX1_addOrder 2 = .ok (.bipush 9, 2) := by decide +kernel
theorem dX1_addOrder_4 : decode cX1_addOrder 4 = .ok (.invokestatic 63, 3) := by decide +kernel
theorem dX1_addOrder_7 : decode cX1_addOrder 7 = .ok (.ifCond .eq 47, 3) := by decide +kernel
theorem dX1_addOrder_10 : decode cX1_addOrder 10 = .ok (.iload_n 2, 1) := by decide +kernel
theorem dX1_addOrder_11 : decode cX1_addOrder 11 = .ok (.iconst 0, 1) := by decide +kernel
theorem dX1_addOrder_12 : decode cX1_addOrder 12 = .ok (.bipush 7, 2) := by decide +kernel
theorem dX1_addOrder_14 : decode cX1_addOrder 14 = .ok (.invokestatic 63, 3) := by decide +kernel
theorem dX1_addOrder_17 : decode cX1_addOrder 17 = .ok (.ifCond .eq 37, 3) := by decide +kernel
theorem dX1_addOrder_20 : decode cX1_addOrder 20 = .ok (.iload_n 3, 1) := by decide +kernel
theorem dX1_addOrder_21 : decode cX1_addOrder 21 = .ok (.iconst 0, 1) := by decide +kernel
theorem dX1_addOrder_22 : decode cX1_addOrder 22 = .ok (.iconst 2, 1) := by decide +kernel
theorem dX1_addOrder_23 : decode cX1_addOrder 23 = .ok (.invokestatic 63, 3) := by decide +kernel
theorem dX1_addOrder_26 : decode cX1_addOrder 26 = .ok (.ifCond .eq 28, 3) := by decide +kernel
theorem dX1_addOrder_29 : decode cX1_addOrder 29 = .ok (.iload 4, 2) := by decide +kernel
theorem dX1_addOrder_31 : decode cX1_addOrder 31 = .ok (.bipush 15, 2) := by decide +kernel
theorem dX1_addOrder_33 : decode cX1_addOrder 33 = .ok (.if_icmp .eq 17, 3) := by decide +kernel
theorem dX1_addOrder_36 : decode cX1_addOrder 36 = .ok (.iload 4, 2) := by decide +kernel
theorem dX1_addOrder_38 : decode cX1_addOrder 38 = .ok (.bipush 30, 2) := by decide +kernel
theorem dX1_addOrder_40 : decode cX1_addOrder 40 = .ok (.if_icmp .eq 10, 3) := by decide +kernel
theorem dX1_addOrder_43 : decode cX1_addOrder 43 = .ok (.iload 4, 2) := by decide +kernel
theorem dX1_addOrder_45 : decode cX1_addOrder 45 = .ok (.bipush 60, 2) := by decide +kernel
theorem dX1_addOrder_47 : decode cX1_addOrder 47 = .ok (.if_icmp .ne 7, 3) := by decide +kernel
theorem dX1_addOrder_50 : decode cX1_addOrder 50 = .ok (.iconst 1, 1) := by decide +kernel
theorem dX1_addOrder_51 : decode cX1_addOrder 51 = .ok (.goto 4, 3) := by decide +kernel
theorem dX1_addOrder_54 : decode cX1_addOrder 54 = .ok (.iconst 0, 1) := by decide +kernel
theorem dX1_addOrder_55 : decode cX1_addOrder 55 = .ok (.istore 8, 2) := by decide +kernel
theorem dX1_addOrder_57 : decode cX1_addOrder 57 = .ok (.aload_n 0, 1) := by decide +kernel
theorem dX1_addOrder_58 : decode cX1_addOrder 58 = .ok (.iload 8, 2) := by decide +kernel
theorem dX1_addOrder_60 : decode cX1_addOrder 60 = .ok (.ifCond .eq 40, 3) := by decide +kernel
theorem dX1_addOrder_63 : decode cX1_addOrder 63 = .ok (.iload 5, 2) := by decide +kernel
theorem dX1_addOrder_65 : decode cX1_addOrder 65 = .ok (.iconst 0, 1) := by decide +kernel
theorem dX1_addOrder_66 : decode cX1_addOrder 66 = .ok (.ldc 94, 2) := by decide +kernel
theorem dX1_addOrder_68 : decode cX1_addOrder 68 = .ok (.invokestatic 63, 3) := by decide +kernel
theorem dX1_addOrder_71 : decode cX1_addOrder 71 = .ok (.ifCond .eq 29, 3) := by decide +kernel
theorem dX1_addOrder_74 : decode cX1_addOrder 74 = .ok (.iload 6, 2) := by decide +kernel
theorem dX1_addOrder_76 : decode cX1_addOrder 76 = .ok (.iconst 0, 1) := by decide +kernel
theorem dX1_addOrder_77 : decode cX1_addOrder 77 = .ok (.ldc 94, 2) := by decide +kernel
theorem dX1_addOrder_79 : decode cX1_addOrder 79 = .ok (.invokestatic 63, 3) := by decide +kernel
theorem dX1_addOrder_82 : decode cX1_addOrder 82 = .ok (.ifCond .eq 18, 3) := by decide +kernel
theorem dX1_addOrder_85 : decode cX1_addOrder 85 = .ok (.iload 7, 2) := by decide +kernel
theorem dX1_addOrder_87 : decode cX1_addOrder 87 = .ok (.iconst 0, 1) := by decide +kernel
theorem dX1_addOrder_88 : decode cX1_addOrder 88 = .ok (.ldc 81, 2) := by decide +kernel
theorem dX1_addOrder_90 : decode cX1_addOrder 90 = .ok (.invokestatic 63, 3) := by decide +kernel
theorem dX1_addOrder_93 : decode cX1_addOrder 93 = .ok (.ifCond .eq 7, 3) := by decide +kernel
theorem dX1_addOrder_96 : decode cX1_addOrder 96 = .ok (.iconst 1, 1) := by decide +kernel
theorem dX1_addOrder_97 : decode cX1_addOrder 97 = .ok (.goto 4, 3) := by decide +kernel
theorem dX1_addOrder_100 : decode cX1_addOrder 100 = .ok (.iconst 0, 1) := by decide +kernel
theorem dX1_addOrder_101 : decode cX1_addOrder 101 = .ok (.aload_n 0, 1) := by decide +kernel
theorem dX1_addOrder_102 : decode cX1_addOrder 102 = .ok (.getfield 67, 3) := by decide +kernel
theorem dX1_addOrder_105 : decode cX1_addOrder 105 = .ok (.bipush 20, 2) := by decide +kernel
theorem dX1_addOrder_107 : decode cX1_addOrder 107 = .ok (.if_icmp .ge 7, 3) := by decide +kernel
theorem dX1_addOrder_110 : decode cX1_addOrder 110 = .ok (.iconst 1, 1) := by decide +kernel
theorem dX1_addOrder_111 : decode cX1_addOrder 111 = .ok (.goto 4, 3) := by decide +kernel
theorem dX1_addOrder_114 : decode cX1_addOrder 114 = .ok (.iconst 0, 1) := by decide +kernel
theorem dX1_addOrder_115 : decode cX1_addOrder 115 = .ok (.iconst 1, 1) := by decide +kernel
theorem dX1_addOrder_116 : decode cX1_addOrder 116 = .ok (.invokevirtual 73, 3) := by decide +kernel
theorem dX1_addOrder_119 : decode cX1_addOrder 119 = .ok (.ifCond .ne 5, 3) := by decide +kernel
theorem dX1_addOrder_122 : decode cX1_addOrder 122 = .ok (.iconst 0, 1) := by decide +kernel
theorem dX1_addOrder_123 : decode cX1_addOrder 123 = .ok (.ireturn, 1) := by decide +kernel
theorem dX1_addOrder_124 : decode cX1_addOrder 124 = .ok (.aload_n 0, 1) := by decide +kernel
theorem dX1_addOrder_125 : decode cX1_addOrder 125 = .ok (.getfield 20, 3) := by decide +kernel
theorem dX1_addOrder_128 : decode cX1_addOrder 128 = .ok (.aload_n 0, 1) := by decide +kernel
theorem dX1_addOrder_129 : decode cX1_addOrder 129 = .ok (.getfield 67, 3) := by decide +kernel
theorem dX1_addOrder_132 : decode cX1_addOrder 132 = .ok (.iload_n 1, 1) := by decide +kernel
theorem dX1_addOrder_133 : decode cX1_addOrder 133 = .ok (.iastore, 1) := by decide +kernel
theorem dX1_addOrder_134 : decode cX1_addOrder 134 = .ok (.aload_n 0, 1) := by decide +kernel
theorem dX1_addOrder_135 : decode cX1_addOrder 135 = .ok (.getfield 23, 3) := by decide +kernel
theorem dX1_addOrder_138 : decode cX1_addOrder 138 = .ok (.aload_n 0, 1) := by decide +kernel
theorem dX1_addOrder_139 : decode cX1_addOrder 139 = .ok (.getfield 67, 3) := by decide +kernel
theorem dX1_addOrder_142 : decode cX1_addOrder 142 = .ok (.iload_n 2, 1) := by decide +kernel
theorem dX1_addOrder_143 : decode cX1_addOrder 143 = .ok (.iastore, 1) := by decide +kernel
theorem dX1_addOrder_144 : decode cX1_addOrder 144 = .ok (.aload_n 0, 1) := by decide +kernel
theorem dX1_addOrder_145 : decode cX1_addOrder 145 = .ok (.getfield 26, 3) := by decide +kernel
theorem dX1_addOrder_148 : decode cX1_addOrder 148 = .ok (.aload_n 0, 1) := by decide +kernel
theorem dX1_addOrder_149 : decode cX1_addOrder 149 = .ok (.getfield 67, 3) := by decide +kernel
theorem dX1_addOrder_152 : decode cX1_addOrder 152 = .ok (.iload_n 3, 1) := by decide +kernel
theorem dX1_addOrder_153 : decode cX1_addOrder 153 = .ok (.iastore, 1) := by decide +kernel
theorem dX1_addOrder_154 : decode cX1_addOrder 154 = .ok (.aload_n 0, 1) := by decide +kernel
theorem dX1_addOrder_155 : decode cX1_addOrder 155 = .ok (.getfield 29, 3) := by decide +kernel
theorem dX1_addOrder_158 : decode cX1_addOrder 158 = .ok (.aload_n 0, 1) := by decide +kernel
theorem dX1_addOrder_159 : decode cX1_addOrder 159 = .ok (.getfield 67, 3) := by decide +kernel
theorem dX1_addOrder_162 : decode cX1_addOrder 162 = .ok (.iload 4, 2) := by decide +kernel
theorem dX1_addOrder_164 : decode cX1_addOrder 164 = .ok (.iastore, 1) := by decide +kernel
theorem dX1_addOrder_165 : decode cX1_addOrder 165 = .ok (.aload_n 0, 1) := by decide +kernel
theorem dX1_addOrder_166 : decode cX1_addOrder 166 = .ok (.getfield 32, 3) := by decide +kernel
theorem dX1_addOrder_169 : decode cX1_addOrder 169 = .ok (.aload_n 0, 1) := by decide +kernel
theorem dX1_addOrder_170 : decode cX1_addOrder 170 = .ok (.getfield 67, 3) := by decide +kernel
theorem dX1_addOrder_173 : decode cX1_addOrder 173 = .ok (.iload 5, 2) := by decide +kernel
theorem dX1_addOrder_175 : decode cX1_addOrder 175 = .ok (.iastore, 1) := by decide +kernel
theorem dX1_addOrder_176 : decode cX1_addOrder 176 = .ok (.aload_n 0, 1) := by decide +kernel
theorem dX1_addOrder_177 : decode cX1_addOrder 177 = .ok (.getfield 35, 3) := by decide +kernel
theorem dX1_addOrder_180 : decode cX1_addOrder 180 = .ok (.aload_n 0, 1) := by decide +kernel
theorem dX1_addOrder_181 : decode cX1_addOrder 181 = .ok (.getfield 67, 3) := by decide +kernel
theorem dX1_addOrder_184 : decode cX1_addOrder 184 = .ok (.iload 6, 2) := by decide +kernel
theorem dX1_addOrder_186 : decode cX1_addOrder 186 = .ok (.iastore, 1) := by decide +kernel
theorem dX1_addOrder_187 : decode cX1_addOrder 187 = .ok (.aload_n 0, 1) := by decide +kernel
theorem dX1_addOrder_188 : decode cX1_addOrder 188 = .ok (.getfield 38, 3) := by decide +kernel
theorem dX1_addOrder_191 : decode cX1_addOrder 191 = .ok (.aload_n 0, 1) := by decide +kernel
theorem dX1_addOrder_192 : decode cX1_addOrder 192 = .ok (.getfield 67, 3) := by decide +kernel
theorem dX1_addOrder_195 : decode cX1_addOrder 195 = .ok (.iload 7, 2) := by decide +kernel
theorem dX1_addOrder_197 : decode cX1_addOrder 197 = .ok (.iastore, 1) := by decide +kernel
theorem dX1_addOrder_198 : decode cX1_addOrder 198 = .ok (.aload_n 0, 1) := by decide +kernel
theorem dX1_addOrder_199 : decode cX1_addOrder 199 = .ok (.dup, 1) := by decide +kernel
theorem dX1_addOrder_200 : decode cX1_addOrder 200 = .ok (.getfield 67, 3) := by decide +kernel
theorem dX1_addOrder_203 : decode cX1_addOrder 203 = .ok (.iconst 1, 1) := by decide +kernel
theorem dX1_addOrder_204 : decode cX1_addOrder 204 = .ok (.iadd, 1) := by decide +kernel
theorem dX1_addOrder_205 : decode cX1_addOrder 205 = .ok (.putfield 67, 3) := by decide +kernel
theorem dX1_addOrder_208 : decode cX1_addOrder 208 = .ok (.aload_n 0, 1) := by decide +kernel
theorem dX1_addOrder_209 : decode cX1_addOrder 209 = .ok (.getfield 67, 3) := by decide +kernel
theorem dX1_addOrder_212 : decode cX1_addOrder 212 = .ok (.iconst 1, 1) := by decide +kernel
theorem dX1_addOrder_213 : decode cX1_addOrder 213 = .ok (.isub, 1) := by decide +kernel
theorem dX1_addOrder_214 : decode cX1_addOrder 214 = .ok (.ireturn, 1) := by decide +kernel
theorem dX1_ratingFor_0 : decode cX1_ratingFor 0 = .ok (.aload_n 0, 1) := by decide +kernel
theorem dX1_ratingFor_1 : decode cX1_ratingFor 1 = .ok (.getfield 17, 3) := by decide +kernel
theorem dX1_ratingFor_4 : decode cX1_ratingFor 4 = .ok (.iconst 3, 1) := by decide +kernel
theorem dX1_ratingFor_5 : decode cX1_ratingFor 5 = .ok (.iload_n 2, 1) := by decide +kernel
theorem dX1_ratingFor_6 : decode cX1_ratingFor 6 = .ok (.imul, 1) := by decide +kernel
theorem dX1_ratingFor_7 : decode cX1_ratingFor 7 = .ok (.aload_n 0, 1) := by decide +kernel
theorem dX1_ratingFor_8 : decode cX1_ratingFor 8 = .ok (.getfield 26, 3) := by decide +kernel
theorem dX1_ratingFor_11 : decode cX1_ratingFor 11 = .ok (.iload_n 1, 1) := by decide +kernel
theorem dX1_ratingFor_12 : decode cX1_ratingFor 12 = .ok (.iaload, 1) := by decide +kernel
theorem dX1_ratingFor_13 : decode cX1_ratingFor 13 = .ok (.iadd, 1) := by decide +kernel
theorem dX1_ratingFor_14 : decode cX1_ratingFor 14 = .ok (.iaload, 1) := by decide +kernel
theorem dX1_ratingFor_15 : decode cX1_ratingFor 15 = .ok (.ireturn, 1) := by decide +kernel
set_option maxRecDepth 20000 in
theorem ggX1_sums_X1_ratingFor : GoodIn wsX1_sums wsX1_ratingFor := goodIn_r _ [10, 11, 12, 13, 14, 15, 16, 17, 18, 19, 20, 21, 22, 23, 24, 25, 26, 27, 28, 29, 30, 31] (by decide +kernel) (by decide +kernel)
set_option maxRecDepth 20000 in
theorem gX1_sums_X1_ratingFor : GoodIn wsX1_sums (wsV RX1 95 RX1 yX1_ratingFor wsX1_ratingFor) := goodIn_app (goodIn_of _ (by decide +kernel)) ggX1_sums_X1_ratingFor
theorem dX1_sums_0 : decode cX1_sums 0 = .ok (.iconst 0, 1) := by decide +kernel
theorem dX1_sums_1 : decode cX1_sums 1 = .ok (.istore 4, 2) := by decide +kernel
theorem dX1_sums_3 : decode cX1_sums 3 = .ok (.iconst 0, 1) := by decide +kernel
theorem dX1_sums_4 : decode cX1_sums 4 = .ok (.istore 5, 2) := by decide +kernel
theorem dX1_sums_6 : decode cX1_sums 6 = .ok (.iload 5, 2) := by decide +kernel
theorem dX1_sums_8 : decode cX1_sums 8 = .ok (.aload_n 0, 1) := by decide +kernel
theorem dX1_sums_9 : decode cX1_sums 9 = .ok (.getfield 70, 3) := by decide +kernel
theorem dX1_sums_12 : decode cX1_sums 12 = .ok (.if_icmp .ge 66, 3) := by decide +kernel
theorem dX1_sums_15 : decode cX1_sums 15 = .ok (.iload 4, 2) := by decide +kernel
theorem dX1_sums_17 : decode cX1_sums 17 = .ok (.aload_n 0, 1) := by decide +kernel
theorem dX1_sums_18 : decode cX1_sums 18 = .ok (.getfield 44, 3) := by decide +kernel
theorem dX1_sums_21 : decode cX1_sums 21 = .ok (.iload 5, 2) := by decide +kernel
theorem dX1_sums_23 : decode cX1_sums 23 = .ok (.iaload, 1) := by decide +kernel
theorem dX1_sums_24 : decode cX1_sums 24 = .ok (.iload_n 1, 1) := by decide +kernel
theorem dX1_sums_25 : decode cX1_sums 25 = .ok (.if_icmp .ne 43, 3) := by decide +kernel
theorem dX1_sums_28 : decode cX1_sums 28 = .ok (.aload_n 0, 1) := by decide +kernel
theorem dX1_sums_29 : decode cX1_sums 29 = .ok (.getfield 50, 3) := by decide +kernel
theorem dX1_sums_32 : decode cX1_sums 32 = .ok (.iload 5, 2) := by decide +kernel
theorem dX1_sums_34 : decode cX1_sums 34 = .ok (.iaload, 1) := by decide +kernel
theorem dX1_sums_35 : decode cX1_sums 35 = .ok (.iload_n 2, 1) := by decide +kernel
theorem dX1_sums_36 : decode cX1_sums 36 = .ok (.if_icmp .ne 32, 3) := by decide +kernel
theorem dX1_sums_39 : decode cX1_sums 39 = .ok (.aload_n 0, 1) := by decide +kernel
theorem dX1_sums_40 : decode cX1_sums 40 = .ok (.getfield 53, 3) := by decide +kernel
theorem dX1_sums_43 : decode cX1_sums 43 = .ok (.iload 5, 2) := by decide +kernel
theorem dX1_sums_45 : decode cX1_sums 45 = .ok (.baload, 1) := by decide +kernel
theorem dX1_sums_46 : decode cX1_sums 46 = .ok (.ifCond .ne 7, 3) := by decide +kernel
theorem dX1_sums_49 : decode cX1_sums 49 = .ok (.iload_n 3, 1) := by decide +kernel
theorem dX1_sums_50 : decode cX1_sums 50 = .ok (.ifCond .ne 18, 3) := by decide +kernel
theorem dX1_sums_53 : decode cX1_sums 53 = .ok (.aload_n 0, 1) := by decide +kernel
theorem dX1_sums_54 : decode cX1_sums 54 = .ok (.iload_n 1, 1) := by decide +kernel
theorem dX1_sums_55 : decode cX1_sums 55 = .ok (.aload_n 0, 1) := by decide +kernel
theorem dX1_sums_56 : decode cX1_sums 56 = .ok (.getfield 47, 3) := by decide +kernel
theorem dX1_sums_59 : decode cX1_sums 59 = .ok (.iload 5, 2) := by decide +kernel
theorem dX1_sums_61 : decode cX1_sums 61 = .ok (.iaload, 1) := by decide +kernel
theorem dX1_sums_62 : decode cX1_sums 62 = .ok (.invokevirtual 95, 3) := by decide +kernel
theorem dX1_sums_65 : decode cX1_sums 65 = .ok (.goto 4, 3) := by decide +kernel
theorem dX1_sums_68 : decode cX1_sums 68 = .ok (.iconst 0, 1) := by decide +kernel
theorem dX1_sums_69 : decode cX1_sums 69 = .ok (.iadd, 1) := by decide +kernel
theorem dX1_sums_70 : decode cX1_sums 70 = .ok (.istore 4, 2) := by decide +kernel
theorem dX1_sums_72 : decode cX1_sums 72 = .ok (.iinc 5 1, 3) := by decide +kernel
theorem dX1_sums_75 : decode cX1_sums 75 = .ok (.goto (-69), 3) := by decide +kernel
theorem dX1_sums_78 : decode cX1_sums 78 = .ok (.iload 4, 2) := by decide +kernel
theorem dX1_sums_80 : decode cX1_sums 80 = .ok (.ireturn, 1) := by decide +kernel
set_option maxRecDepth 20000 in
theorem ggX1_owes_X1_sums : GoodIn wsX1_owes wsX1_sums := goodIn_r _ [7, 8, 9, 10, 11, 12, 13, 14, 15, 6, 16, 17, 18, 19, 20, 21, 22, 23, 24, 25, 26, 27, 28, 29, 30, 31, 32, 33, 34, 35, 36, 37] (by decide +kernel) (by decide +kernel)
set_option maxRecDepth 20000 in
theorem gX1_owes_X1_sums : GoodIn wsX1_owes (wsV RX1 98 RX1 yX1_sums wsX1_sums) := goodIn_app (goodIn_of _ (by decide +kernel)) ggX1_owes_X1_sums
theorem dX1_owes_0 : decode cX1_owes 0 = .ok (.aload_n 0, 1) := by decide +kernel
theorem dX1_owes_1 : decode cX1_owes 1 = .ok (.getfield 35, 3) := by decide +kernel
theorem dX1_owes_4 : decode cX1_owes 4 = .ok (.iload_n 1, 1) := by decide +kernel
theorem dX1_owes_5 : decode cX1_owes 5 = .ok (.iaload, 1) := by decide +kernel
theorem dX1_owes_6 : decode cX1_owes 6 = .ok (.aload_n 0, 1) := by decide +kernel
theorem dX1_owes_7 : decode cX1_owes 7 = .ok (.iload_n 1, 1) := by decide +kernel
theorem dX1_owes_8 : decode cX1_owes 8 = .ok (.iconst 1, 1) := by decide +kernel
theorem dX1_owes_9 : decode cX1_owes 9 = .ok (.iconst 0, 1) := by decide +kernel
theorem dX1_owes_10 : decode cX1_owes 10 = .ok (.invokevirtual 98, 3) := by decide +kernel
theorem dX1_owes_13 : decode cX1_owes 13 = .ok (.isub, 1) := by decide +kernel
theorem dX1_owes_14 : decode cX1_owes 14 = .ok (.istore_n 2, 1) := by decide +kernel
theorem dX1_owes_15 : decode cX1_owes 15 = .ok (.aload_n 0, 1) := by decide +kernel
theorem dX1_owes_16 : decode cX1_owes 16 = .ok (.getfield 41, 3) := by decide +kernel
theorem dX1_owes_19 : decode cX1_owes 19 = .ok (.iload_n 1, 1) := by decide +kernel
theorem dX1_owes_20 : decode cX1_owes 20 = .ok (.baload, 1) := by decide +kernel
theorem dX1_owes_21 : decode cX1_owes 21 = .ok (.ifCond .eq 11, 3) := by decide +kernel
theorem dX1_owes_24 : decode cX1_owes 24 = .ok (.iload_n 2, 1) := by decide +kernel
theorem dX1_owes_25 : decode cX1_owes 25 = .ok (.ifCond .le 7, 3) := by decide +kernel
theorem dX1_owes_28 : decode cX1_owes 28 = .ok (.iload_n 2, 1) := by decide +kernel
theorem dX1_owes_29 : decode cX1_owes 29 = .ok (.goto 4, 3) := by decide +kernel
theorem dX1_owes_32 : decode cX1_owes 32 = .ok (.iconst 0, 1) := by decide +kernel
theorem dX1_owes_33 : decode cX1_owes 33 = .ok (.ireturn, 1) := by decide +kernel
set_option maxRecDepth 20000 in
theorem ggX1_left_X1_owes : GoodIn wsX1_left wsX1_owes := goodIn_r _ [5, 6, 7, 8, 9, 10, 4, 11, 12, 13, 14, 15, 16, 17, 18, 19, 20, 21, 22, 23, 24, 25, 26, 27, 28, 29, 30, 31, 32, 33, 34, 35, 36, 37, 38, 39, 40, 41] (by decide +kernel) (by decide +kernel)
set_option maxRecDepth 20000 in
theorem gX1_left_X1_owes : GoodIn wsX1_left (wsV RX1 102 RX1 yX1_owes wsX1_owes) := goodIn_app (goodIn_of _ (by decide +kernel)) ggX1_left_X1_owes
set_option maxRecDepth 20000 in
theorem ggX1_left_X1_sums : GoodIn wsX1_left wsX1_sums := goodIn_r _ [11, 12, 13, 14, 15, 16, 17, 18, 19, 4, 20, 21, 22, 23, 24, 25, 26, 27, 28, 29, 30, 31, 32, 33, 34, 35, 36, 37, 38, 39, 40, 41] (by decide +kernel) (by decide +kernel)
set_option maxRecDepth 20000 in
theorem gX1_left_X1_sums : GoodIn wsX1_left (wsV RX1 98 RX1 yX1_sums wsX1_sums) := goodIn_app (goodIn_of _ (by decide +kernel)) ggX1_left_X1_sums
theorem dX1_left_0 : decode cX1_left 0 = .ok (.aload_n 0, 1) := by decide +kernel
theorem dX1_left_1 : decode cX1_left 1 = .ok (.iload_n 1, 1) := by decide +kernel
theorem dX1_left_2 : decode cX1_left 2 = .ok (.invokevirtual 102, 3) := by decide +kernel
theorem dX1_left_5 : decode cX1_left 5 = .ok (.aload_n 0, 1) := by decide +kernel
theorem dX1_left_6 : decode cX1_left 6 = .ok (.iload_n 1, 1) := by decide +kernel
theorem dX1_left_7 : decode cX1_left 7 = .ok (.iconst 0, 1) := by decide +kernel
theorem dX1_left_8 : decode cX1_left 8 = .ok (.iconst 1, 1) := by decide +kernel
theorem dX1_left_9 : decode cX1_left 9 = .ok (.invokevirtual 98, 3) := by decide +kernel
theorem dX1_left_12 : decode cX1_left 12 = .ok (.isub, 1) := by decide +kernel
theorem dX1_left_13 : decode cX1_left 13 = .ok (.istore_n 2, 1) := by decide +kernel
theorem dX1_left_14 : decode cX1_left 14 = .ok (.iload_n 2, 1) := by decide +kernel
theorem dX1_left_15 : decode cX1_left 15 = .ok (.ifCond .le 7, 3) := by decide +kernel
theorem dX1_left_18 : decode cX1_left 18 = .ok (.iload_n 2, 1) := by decide +kernel
theorem dX1_left_19 : decode cX1_left 19 = .ok (.goto 4, 3) := by decide +kernel
theorem dX1_left_22 : decode cX1_left 22 = .ok (.iconst 0, 1) := by decide +kernel
theorem dX1_left_23 : decode cX1_left 23 = .ok (.ireturn, 1) := by decide +kernel
set_option maxRecDepth 20000 in
theorem ggX1_close_X1_isOrder : GoodIn wsX1_close wsX1_isOrder := goodIn_r _ [9, 10, 11, 12, 8, 13, 36, 37, 38, 39, 40, 41, 42, 43, 44, 45, 46, 47, 48, 49, 50, 51, 52, 53, 54] (by decide +kernel) (by decide +kernel)
set_option maxRecDepth 20000 in
theorem gX1_close_X1_isOrder : GoodIn wsX1_close (wsV RX1 105 RX1 yX1_isOrder wsX1_isOrder) := goodIn_app (goodIn_of _ (by decide +kernel)) ggX1_close_X1_isOrder
set_option maxRecDepth 20000 in
theorem ggX1_close_X1_goes : GoodIn wsX1_close wsX1_goes := goodIn_r _ [17, 18, 36, 37, 38, 39, 40, 41, 42, 43, 44, 45, 46, 47, 48, 49, 50, 51, 52, 53, 54] (by decide +kernel) (by decide +kernel)
set_option maxRecDepth 20000 in
theorem gX1_close_X1_goes : GoodIn wsX1_close (wsV RX1 73 RX1 yX1_goes wsX1_goes) := goodIn_app (goodIn_of _ (by decide +kernel)) ggX1_close_X1_goes
set_option maxRecDepth 20000 in
theorem ggX1_close_X1_owes : GoodIn wsX1_close wsX1_owes := goodIn_r _ [22, 23, 1, 24, 25, 26, 8, 27, 2, 4, 3, 28, 29, 30, 31, 32, 33, 34, 35, 36, 37, 38, 39, 40, 41, 42, 43, 44, 45, 46, 47, 48, 49, 50, 51, 52, 53, 54] (by decide +kernel) (by decide +kernel)
set_option maxRecDepth 20000 in
theorem gX1_close_X1_owes : GoodIn wsX1_close (wsV RX1 102 RX1 yX1_owes wsX1_owes) := goodIn_app (goodIn_of _ (by decide +kernel)) ggX1_close_X1_owes
theorem dX1_close_0 : decode cX1_close 0 = .ok (.aload_n 0, 1) := by decide +kernel
theorem dX1_close_1 : decode cX1_close 1 = .ok (.iload_n 1, 1) := by decide +kernel
theorem dX1_close_2 : decode cX1_close 2 = .ok (.invokevirtual 105, 3) := by decide +kernel
theorem dX1_close_5 : decode cX1_close 5 = .ok (.istore_n 2, 1) := by decide +kernel
theorem dX1_close_6 : decode cX1_close 6 = .ok (.aload_n 0, 1) := by decide +kernel
theorem dX1_close_7 : decode cX1_close 7 = .ok (.iload_n 2, 1) := by decide +kernel
theorem dX1_close_8 : decode cX1_close 8 = .ok (.iload_n 2, 1) := by decide +kernel
theorem dX1_close_9 : decode cX1_close 9 = .ok (.ifCond .eq 16, 3) := by decide +kernel
theorem dX1_close_12 : decode cX1_close 12 = .ok (.aload_n 0, 1) := by decide +kernel
theorem dX1_close_13 : decode cX1_close 13 = .ok (.getfield 41, 3) := by decide +kernel
theorem dX1_close_16 : decode cX1_close 16 = .ok (.iload_n 1, 1) := by decide +kernel
theorem dX1_close_17 : decode cX1_close 17 = .ok (.baload, 1) := by decide +kernel
theorem dX1_close_18 : decode cX1_close 18 = .ok (.ifCond .ne 7, 3) := by decide +kernel
theorem dX1_close_21 : decode cX1_close 21 = .ok (.iconst 1, 1) := by decide +kernel
theorem dX1_close_22 : decode cX1_close 22 = .ok (.goto 4, 3) := by decide +kernel
theorem dX1_close_25 : decode cX1_close 25 = .ok (.iconst 0, 1) := by decide +kernel
theorem dX1_close_26 : decode cX1_close 26 = .ok (.iconst 1, 1) := by decide +kernel
theorem dX1_close_27 : decode cX1_close 27 = .ok (.invokevirtual 73, 3) := by decide +kernel
theorem dX1_close_30 : decode cX1_close 30 = .ok (.ifCond .ne 5, 3) := by decide +kernel
theorem dX1_close_33 : decode cX1_close 33 = .ok (.iconst 0, 1) := by decide +kernel
theorem dX1_close_34 : decode cX1_close 34 = .ok (.ireturn, 1) := by decide +kernel
theorem dX1_close_35 : decode cX1_close 35 = .ok (.aload_n 0, 1) := by decide +kernel
theorem dX1_close_36 : decode cX1_close 36 = .ok (.getfield 41, 3) := by decide +kernel
theorem dX1_close_39 : decode cX1_close 39 = .ok (.iload_n 1, 1) := by decide +kernel
theorem dX1_close_40 : decode cX1_close 40 = .ok (.iconst 1, 1) := by decide +kernel
theorem dX1_close_41 : decode cX1_close 41 = .ok (.bastore, 1) := by decide +kernel
theorem dX1_close_42 : decode cX1_close 42 = .ok (.iconst 0, 1) := by decide +kernel
theorem dX1_close_43 : decode cX1_close 43 = .ok (.istore_n 3, 1) := by decide +kernel
theorem dX1_close_44 : decode cX1_close 44 = .ok (.iload_n 3, 1) := by decide +kernel
theorem dX1_close_45 : decode cX1_close 45 = .ok (.aload_n 0, 1) := by decide +kernel
theorem dX1_close_46 : decode cX1_close 46 = .ok (.getfield 70, 3) := by decide +kernel
theorem dX1_close_49 : decode cX1_close 49 = .ok (.if_icmp .ge 44, 3) := by decide +kernel
theorem dX1_close_52 : decode cX1_close 52 = .ok (.aload_n 0, 1) := by decide +kernel
theorem dX1_close_53 : decode cX1_close 53 = .ok (.getfield 50, 3) := by decide +kernel
theorem dX1_close_56 : decode cX1_close 56 = .ok (.iload_n 3, 1) := by decide +kernel
theorem dX1_close_57 : decode cX1_close 57 = .ok (.aload_n 0, 1) := by decide +kernel
theorem dX1_close_58 : decode cX1_close 58 = .ok (.getfield 44, 3) := by decide +kernel
theorem dX1_close_61 : decode cX1_close 61 = .ok (.iload_n 3, 1) := by decide +kernel
theorem dX1_close_62 : decode cX1_close 62 = .ok (.iaload, 1) := by decide +kernel
theorem dX1_close_63 : decode cX1_close 63 = .ok (.iload_n 1, 1) := by decide +kernel
theorem dX1_close_64 : decode cX1_close 64 = .ok (.if_icmp .ne 16, 3) := by decide +kernel
theorem dX1_close_67 : decode cX1_close 67 = .ok (.aload_n 0, 1) := by decide +kernel
theorem dX1_close_68 : decode cX1_close 68 = .ok (.getfield 50, 3) := by decide +kernel
theorem dX1_close_71 : decode cX1_close 71 = .ok (.iload_n 3, 1) := by decide +kernel
theorem dX1_close_72 : decode cX1_close 72 = .ok (.iaload, 1) := by decide +kernel
theorem dX1_close_73 : decode cX1_close 73 = .ok (.ifCond .ne 7, 3) := by decide +kernel
theorem dX1_close_76 : decode cX1_close 76 = .ok (.iconst 3, 1) := by decide +kernel
theorem dX1_close_77 : decode cX1_close 77 = .ok (.goto 9, 3) := by decide +kernel
theorem dX1_close_80 : decode cX1_close 80 = .ok (.aload_n 0, 1) := by decide +kernel
theorem dX1_close_81 : decode cX1_close 81 = .ok (.getfield 50, 3) := by decide +kernel
theorem dX1_close_84 : decode cX1_close 84 = .ok (.iload_n 3, 1) := by decide +kernel
theorem dX1_close_85 : decode cX1_close 85 = .ok (.iaload, 1) := by decide +kernel
theorem dX1_close_86 : decode cX1_close 86 = .ok (.iastore, 1) := by decide +kernel
theorem dX1_close_87 : decode cX1_close 87 = .ok (.iinc 3 1, 3) := by decide +kernel
theorem dX1_close_90 : decode cX1_close 90 = .ok (.goto (-46), 3) := by decide +kernel
theorem dX1_close_93 : decode cX1_close 93 = .ok (.aload_n 0, 1) := by decide +kernel
theorem dX1_close_94 : decode cX1_close 94 = .ok (.iload_n 1, 1) := by decide +kernel
theorem dX1_close_95 : decode cX1_close 95 = .ok (.invokevirtual 102, 3) := by decide +kernel
theorem dX1_close_98 : decode cX1_close 98 = .ok (.ireturn, 1) := by decide +kernel
set_option maxRecDepth 20000 in
theorem ggX1_orders_X1_told : GoodIn wsX1_orders wsX1_told := goodIn_r _ [6, 7, 8, 9, 10, 11, 12, 13, 14, 15, 16, 17, 18, 19, 20, 21, 22, 23, 24, 25, 26] (by decide +kernel) (by decide +kernel)
set_option maxRecDepth 20000 in
theorem gX1_orders_X1_told : GoodIn wsX1_orders (wsV RX1 82 RX1 yX1_told wsX1_told) := goodIn_app (goodIn_of _ (by decide +kernel)) ggX1_orders_X1_told
theorem dX1_orders_0 : decode cX1_orders 0 = .ok (.aload_n 0, 1) := by decide +kernel
theorem dX1_orders_1 : decode cX1_orders 1 = .ok (.aload_n 0, 1) := by decide +kernel
theorem dX1_orders_2 : decode cX1_orders 2 = .ok (.getfield 67, 3) := by decide +kernel
theorem dX1_orders_5 : decode cX1_orders 5 = .ok (.invokevirtual 82, 3) := by decide +kernel
theorem dX1_orders_8 : decode cX1_orders 8 = .ok (.ireturn, 1) := by decide +kernel
set_option maxRecDepth 20000 in
theorem ggX1_isThere_X1_stands : GoodIn wsX1_isThere wsX1_stands := goodIn_r _ [9, 10, 11, 12, 13, 14, 15, 16, 17, 18, 19, 20, 21, 22, 23, 24, 25, 26, 27, 28, 29, 30] (by decide +kernel) (by decide +kernel)
set_option maxRecDepth 20000 in
theorem gX1_isThere_X1_stands : GoodIn wsX1_isThere (wsV RX1 86 RX1 yX1_stands wsX1_stands) := goodIn_app (goodIn_of _ (by decide +kernel)) ggX1_isThere_X1_stands
theorem dX1_isThere_0 : decode cX1_isThere 0 = .ok (.iconst 0, 1) := by decide +kernel
theorem dX1_isThere_1 : decode cX1_isThere 1 = .ok (.istore 5, 2) := by decide +kernel
theorem dX1_isThere_3 : decode cX1_isThere 3 = .ok (.iconst 0, 1) := by decide +kernel
theorem dX1_isThere_4 : decode cX1_isThere 4 = .ok (.istore 6, 2) := by decide +kernel
theorem dX1_isThere_6 : decode cX1_isThere 6 = .ok (.iload 6, 2) := by decide +kernel
theorem dX1_isThere_8 : decode cX1_isThere 8 = .ok (.aload_n 0, 1) := by decide +kernel
theorem dX1_isThere_9 : decode cX1_isThere 9 = .ok (.getfield 70, 3) := by decide +kernel
theorem dX1_isThere_12 : decode cX1_isThere 12 = .ok (.if_icmp .ge 113, 3) := by decide +kernel
theorem dX1_isThere_15 : decode cX1_isThere 15 = .ok (.aload_n 0, 1) := by decide +kernel
theorem dX1_isThere_16 : decode cX1_isThere 16 = .ok (.getfield 20, 3) := by decide +kernel
theorem dX1_isThere_19 : decode cX1_isThere 19 = .ok (.aload_n 0, 1) := by decide +kernel
theorem dX1_isThere_20 : decode cX1_isThere 20 = .ok (.getfield 44, 3) := by decide +kernel
theorem dX1_isThere_23 : decode cX1_isThere 23 = .ok (.iload 6, 2) := by decide +kernel
theorem dX1_isThere_25 : decode cX1_isThere 25 = .ok (.iaload, 1) := by decide +kernel
theorem dX1_isThere_26 : decode cX1_isThere 26 = .ok (.iaload, 1) := by decide +kernel
theorem dX1_isThere_27 : decode cX1_isThere 27 = .ok (.aload_n 0, 1) := by decide +kernel
theorem dX1_isThere_28 : decode cX1_isThere 28 = .ok (.getfield 20, 3) := by decide +kernel
theorem dX1_isThere_31 : decode cX1_isThere 31 = .ok (.iload_n 1, 1) := by decide +kernel
theorem dX1_isThere_32 : decode cX1_isThere 32 = .ok (.iaload, 1) := by decide +kernel
theorem dX1_isThere_33 : decode cX1_isThere 33 = .ok (.if_icmp .ne 7, 3) := by decide +kernel
theorem dX1_isThere_36 : decode cX1_isThere 36 = .ok (.iconst 1, 1) := by decide +kernel
theorem dX1_isThere_37 : decode cX1_isThere 37 = .ok (.goto 4, 3) := by decide +kernel
theorem dX1_isThere_40 : decode cX1_isThere 40 = .ok (.iconst 0, 1) := by decide +kernel
theorem dX1_isThere_41 : decode cX1_isThere 41 = .ok (.istore 7, 2) := by decide +kernel
theorem dX1_isThere_43 : decode cX1_isThere 43 = .ok (.iload 4, 2) := by decide +kernel
theorem dX1_isThere_45 : decode cX1_isThere 45 = .ok (.ifCond .eq 37, 3) := by decide +kernel
theorem dX1_isThere_48 : decode cX1_isThere 48 = .ok (.iload 7, 2) := by decide +kernel
theorem dX1_isThere_50 : decode cX1_isThere 50 = .ok (.ifCond .ne 28, 3) := by decide +kernel
theorem dX1_isThere_53 : decode cX1_isThere 53 = .ok (.aload_n 0, 1) := by decide +kernel
theorem dX1_isThere_54 : decode cX1_isThere 54 = .ok (.getfield 23, 3) := by decide +kernel
theorem dX1_isThere_57 : decode cX1_isThere 57 = .ok (.aload_n 0, 1) := by decide +kernel
theorem dX1_isThere_58 : decode cX1_isThere 58 = .ok (.getfield 44, 3) := by decide +kernel
theorem dX1_isThere_61 : decode cX1_isThere 61 = .ok (.iload 6, 2) := by decide +kernel
theorem dX1_isThere_63 : decode cX1_isThere 63 = .ok (.iaload, 1) := by decide +kernel
theorem dX1_isThere_64 : decode cX1_isThere 64 = .ok (.iaload, 1) := by decide +kernel
theorem dX1_isThere_65 : decode cX1_isThere 65 = .ok (.aload_n 0, 1) := by decide +kernel
theorem dX1_isThere_66 : decode cX1_isThere 66 = .ok (.getfield 23, 3) := by decide +kernel
theorem dX1_isThere_69 : decode cX1_isThere 69 = .ok (.iload_n 1, 1) := by decide +kernel
theorem dX1_isThere_70 : decode cX1_isThere 70 = .ok (.iaload, 1) := by decide +kernel
theorem dX1_isThere_71 : decode cX1_isThere 71 = .ok (.if_icmp .ne 7, 3) := by decide +kernel
theorem dX1_isThere_74 : decode cX1_isThere 74 = .ok (.iconst 1, 1) := by decide +kernel
theorem dX1_isThere_75 : decode cX1_isThere 75 = .ok (.goto 9, 3) := by decide +kernel
theorem dX1_isThere_78 : decode cX1_isThere 78 = .ok (.iconst 0, 1) := by decide +kernel
theorem dX1_isThere_79 : decode cX1_isThere 79 = .ok (.goto 5, 3) := by decide +kernel
theorem dX1_isThere_82 : decode cX1_isThere 82 = .ok (.iload 7, 2) := by decide +kernel
theorem dX1_isThere_84 : decode cX1_isThere 84 = .ok (.istore 8, 2) := by decide +kernel
theorem dX1_isThere_86 : decode cX1_isThere 86 = .ok (.iload 5, 2) := by decide +kernel
theorem dX1_isThere_88 : decode cX1_isThere 88 = .ok (.ifCond .ne 24, 3) := by decide +kernel
theorem dX1_isThere_91 : decode cX1_isThere 91 = .ok (.iload 6, 2) := by decide +kernel
theorem dX1_isThere_93 : decode cX1_isThere 93 = .ok (.iload_n 3, 1) := by decide +kernel
theorem dX1_isThere_94 : decode cX1_isThere 94 = .ok (.if_icmp .eq 22, 3) := by decide +kernel
theorem dX1_isThere_97 : decode cX1_isThere 97 = .ok (.aload_n 0, 1) := by decide +kernel
theorem dX1_isThere_98 : decode cX1_isThere 98 = .ok (.iload 6, 2) := by decide +kernel
theorem dX1_isThere_100 : decode cX1_isThere 100 = .ok (.iload_n 2, 1) := by decide +kernel
theorem dX1_isThere_101 : decode cX1_isThere 101 = .ok (.invokevirtual 86, 3) := by decide +kernel
theorem dX1_isThere_104 : decode cX1_isThere 104 = .ok (.ifCond .eq 12, 3) := by decide +kernel
theorem dX1_isThere_107 : decode cX1_isThere 107 = .ok (.iload 8, 2) := by decide +kernel
theorem dX1_isThere_109 : decode cX1_isThere 109 = .ok (.ifCond .eq 7, 3) := by decide +kernel
theorem dX1_isThere_112 : decode cX1_isThere 112 = .ok (.iconst 1, 1) := by decide +kernel
theorem dX1_isThere_113 : decode cX1_isThere 113 = .ok (.goto 4, 3) := by decide +kernel
theorem dX1_isThere_116 : decode cX1_isThere 116 = .ok (.iconst 0, 1) := by decide +kernel
theorem dX1_isThere_117 : decode cX1_isThere 117 = .ok (.istore 5, 2) := by decide +kernel
theorem dX1_isThere_119 : decode cX1_isThere 119 = .ok (.iinc 6 1, 3) := by decide +kernel
theorem dX1_isThere_122 : decode cX1_isThere 122 = .ok (.goto (-116), 3) := by decide +kernel
theorem dX1_isThere_125 : decode cX1_isThere 125 = .ok (.iload 5, 2) := by decide +kernel
theorem dX1_isThere_127 : decode cX1_isThere 127 = .ok (.ireturn, 1) := by decide +kernel
set_option maxRecDepth 20000 in
theorem ggX1_why_X1_roomWithout : GoodIn wsX1_why wsX1_roomWithout := goodIn_r _ [9, 10, 11, 2, 12, 13, 14, 15, 8, 16, 17, 18, 31, 32, 33, 34, 35, 36, 37, 38, 39, 40, 41, 42, 43, 44, 45, 46, 47, 48, 49] (by decide +kernel) (by decide +kernel)
set_option maxRecDepth 20000 in
theorem gX1_why_X1_roomWithout : GoodIn wsX1_why (wsV RX1 90 RX1 yX1_roomWithout wsX1_roomWithout) := goodIn_app (goodIn_of _ (by decide +kernel)) ggX1_why_X1_roomWithout
set_option maxRecDepth 20000 in
theorem ggX1_why_X1_ratingFor : GoodIn wsX1_why wsX1_ratingFor := goodIn_r _ [22, 23, 24, 31, 32, 33, 34, 35, 36, 37, 38, 39, 40, 41, 42, 43, 44, 45, 46, 47, 48, 49] (by decide +kernel) (by decide +kernel)
set_option maxRecDepth 20000 in
theorem gX1_why_X1_ratingFor : GoodIn wsX1_why (wsV RX1 95 RX1 yX1_ratingFor wsX1_ratingFor) := goodIn_app (goodIn_of _ (by decide +kernel)) ggX1_why_X1_ratingFor
set_option maxRecDepth 20000 in
theorem ggX1_why_X1_isThere : GoodIn wsX1_why wsX1_isThere := goodIn_r _ [28, 11, 29, 12, 30, 13, 14, 15, 8, 16, 17, 18, 31, 32, 33, 34, 35, 36, 37, 38, 39, 40, 41, 42, 43, 44, 45, 46, 47, 48, 49] (by decide +kernel) (by decide +kernel)
set_option maxRecDepth 20000 in
theorem gX1_why_X1_isThere : GoodIn wsX1_why (wsV RX1 108 RX1 yX1_isThere wsX1_isThere) := goodIn_app (goodIn_of _ (by decide +kernel)) ggX1_why_X1_isThere
theorem dX1_why_0 : decode cX1_why 0 = .ok (.aload_n 0, 1) := by decide +kernel
theorem dX1_why_1 : decode cX1_why 1 = .ok (.getfield 13, 3) := by decide +kernel
theorem dX1_why_4 : decode cX1_why 4 = .ok (.iload_n 2, 1) := by decide +kernel
theorem dX1_why_5 : decode cX1_why 5 = .ok (.baload, 1) := by decide +kernel
theorem dX1_why_6 : decode cX1_why 6 = .ok (.ifCond .eq 5, 3) := by decide +kernel
theorem dX1_why_9 : decode cX1_why 9 = .ok (.iconst 1, 1) := by decide +kernel
theorem dX1_why_10 : decode cX1_why 10 = .ok (.ireturn, 1) := by decide +kernel
theorem dX1_why_11 : decode cX1_why 11 = .ok (.aload_n 0, 1) := by decide +kernel
theorem dX1_why_12 : decode cX1_why 12 = .ok (.iload_n 2, 1) := by decide +kernel
theorem dX1_why_13 : decode cX1_why 13 = .ok (.iload_n 3, 1) := by decide +kernel
theorem dX1_why_14 : decode cX1_why 14 = .ok (.invokevirtual 90, 3) := by decide +kernel
theorem dX1_why_17 : decode cX1_why 17 = .ok (.aload_n 0, 1) := by decide +kernel
theorem dX1_why_18 : decode cX1_why 18 = .ok (.getfield 29, 3) := by decide +kernel
theorem dX1_why_21 : decode cX1_why 21 = .ok (.iload_n 1, 1) := by decide +kernel
theorem dX1_why_22 : decode cX1_why 22 = .ok (.iaload, 1) := by decide +kernel
theorem dX1_why_23 : decode cX1_why 23 = .ok (.if_icmp .ge 5, 3) := by decide +kernel
theorem dX1_why_26 : decode cX1_why 26 = .ok (.iconst 2, 1) := by decide +kernel
theorem dX1_why_27 : decode cX1_why 27 = .ok (.ireturn, 1) := by decide +kernel
theorem dX1_why_28 : decode cX1_why 28 = .ok (.aload_n 0, 1) := by decide +kernel
theorem dX1_why_29 : decode cX1_why 29 = .ok (.iload_n 1, 1) := by decide +kernel
theorem dX1_why_30 : decode cX1_why 30 = .ok (.iload_n 2, 1) := by decide +kernel
theorem dX1_why_31 : decode cX1_why 31 = .ok (.invokevirtual 95, 3) := by decide +kernel
theorem dX1_why_34 : decode cX1_why 34 = .ok (.aload_n 0, 1) := by decide +kernel
theorem dX1_why_35 : decode cX1_why 35 = .ok (.getfield 38, 3) := by decide +kernel
theorem dX1_why_38 : decode cX1_why 38 = .ok (.iload_n 1, 1) := by decide +kernel
theorem dX1_why_39 : decode cX1_why 39 = .ok (.iaload, 1) := by decide +kernel
theorem dX1_why_40 : decode cX1_why 40 = .ok (.if_icmp .ge 5, 3) := by decide +kernel
theorem dX1_why_43 : decode cX1_why 43 = .ok (.iconst 3, 1) := by decide +kernel
theorem dX1_why_44 : decode cX1_why 44 = .ok (.ireturn, 1) := by decide +kernel
theorem dX1_why_45 : decode cX1_why 45 = .ok (.aload_n 0, 1) := by decide +kernel
theorem dX1_why_46 : decode cX1_why 46 = .ok (.iload_n 1, 1) := by decide +kernel
theorem dX1_why_47 : decode cX1_why 47 = .ok (.iload_n 2, 1) := by decide +kernel
theorem dX1_why_48 : decode cX1_why 48 = .ok (.iload_n 3, 1) := by decide +kernel
theorem dX1_why_49 : decode cX1_why 49 = .ok (.iconst 0, 1) := by decide +kernel
theorem dX1_why_50 : decode cX1_why 50 = .ok (.invokevirtual 108, 3) := by decide +kernel
theorem dX1_why_53 : decode cX1_why 53 = .ok (.ifCond .eq 5, 3) := by decide +kernel
theorem dX1_why_56 : decode cX1_why 56 = .ok (.iconst 4, 1) := by decide +kernel
theorem dX1_why_57 : decode cX1_why 57 = .ok (.ireturn, 1) := by decide +kernel
theorem dX1_why_58 : decode cX1_why 58 = .ok (.iload_n 2, 1) := by decide +kernel
theorem dX1_why_59 : decode cX1_why 59 = .ok (.ifCond .le 16, 3) := by decide +kernel
theorem dX1_why_62 : decode cX1_why 62 = .ok (.aload_n 0, 1) := by decide +kernel
theorem dX1_why_63 : decode cX1_why 63 = .ok (.iload_n 1, 1) := by decide +kernel
theorem dX1_why_64 : decode cX1_why 64 = .ok (.iload_n 2, 1) := by decide +kernel
theorem dX1_why_65 : decode cX1_why 65 = .ok (.iconst 1, 1) := by decide +kernel
theorem dX1_why_66 : decode cX1_why 66 = .ok (.isub, 1) := by decide +kernel
theorem dX1_why_67 : decode cX1_why 67 = .ok (.iload_n 3, 1) := by decide +kernel
theorem dX1_why_68 : decode cX1_why 68 = .ok (.iconst 1, 1) := by decide +kernel
theorem dX1_why_69 : decode cX1_why 69 = .ok (.invokevirtual 108, 3) := by decide +kernel
theorem dX1_why_72 : decode cX1_why 72 = .ok (.ifCond .ne 26, 3) := by decide +kernel
theorem dX1_why_75 : decode cX1_why 75 = .ok (.iload_n 2, 1) := by decide +kernel
theorem dX1_why_76 : decode cX1_why 76 = .ok (.iconst 1, 1) := by decide +kernel
theorem dX1_why_77 : decode cX1_why 77 = .ok (.iadd, 1) := by decide +kernel
theorem dX1_why_78 : decode cX1_why 78 = .ok (.aload_n 0, 1) := by decide +kernel
theorem dX1_why_79 : decode cX1_why 79 = .ok (.getfield 60, 3) := by decide +kernel
theorem dX1_why_82 : decode cX1_why 82 = .ok (.if_icmp .ge 20, 3) := by decide +kernel
theorem dX1_why_85 : decode cX1_why 85 = .ok (.aload_n 0, 1) := by decide +kernel
theorem dX1_why_86 : decode cX1_why 86 = .ok (.iload_n 1, 1) := by decide +kernel
theorem dX1_why_87 : decode cX1_why 87 = .ok (.iload_n 2, 1) := by decide +kernel
theorem dX1_why_88 : decode cX1_why 88 = .ok (.iconst 1, 1) := by decide +kernel
theorem dX1_why_89 : decode cX1_why 89 = .ok (.iadd, 1) := by decide +kernel
theorem dX1_why_90 : decode cX1_why 90 = .ok (.iload_n 3, 1) := by decide +kernel
theorem dX1_why_91 : decode cX1_why 91 = .ok (.iconst 1, 1) := by decide +kernel
theorem dX1_why_92 : decode cX1_why 92 = .ok (.invokevirtual 108, 3) := by decide +kernel
theorem dX1_why_95 : decode cX1_why 95 = .ok (.ifCond .eq 7, 3) := by decide +kernel
theorem dX1_why_98 : decode cX1_why 98 = .ok (.iconst 1, 1) := by decide +kernel
theorem dX1_why_99 : decode cX1_why 99 = .ok (.goto 4, 3) := by decide +kernel
theorem dX1_why_102 : decode cX1_why 102 = .ok (.iconst 0, 1) := by decide +kernel
theorem dX1_why_103 : decode cX1_why 103 = .ok (.istore 4, 2) := by decide +kernel
theorem dX1_why_105 : decode cX1_why 105 = .ok (.aload_n 0, 1) := by decide +kernel
theorem dX1_why_106 : decode cX1_why 106 = .ok (.iload_n 1, 1) := by decide +kernel
theorem dX1_why_107 : decode cX1_why 107 = .ok (.iload_n 2, 1) := by decide +kernel
theorem dX1_why_108 : decode cX1_why 108 = .ok (.iload_n 3, 1) := by decide +kernel
theorem dX1_why_109 : decode cX1_why 109 = .ok (.iconst 1, 1) := by decide +kernel
theorem dX1_why_110 : decode cX1_why 110 = .ok (.invokevirtual 108, 3) := by decide +kernel
theorem dX1_why_113 : decode cX1_why 113 = .ok (.ifCond .eq 7, 3) := by decide +kernel
theorem dX1_why_116 : decode cX1_why 116 = .ok (.iconst 5, 1) := by decide +kernel
theorem dX1_why_117 : decode cX1_why 117 = .ok (.goto 14, 3) := by decide +kernel
theorem dX1_why_120 : decode cX1_why 120 = .ok (.iload 4, 2) := by decide +kernel
theorem dX1_why_122 : decode cX1_why 122 = .ok (.ifCond .eq 8, 3) := by decide +kernel
theorem dX1_why_125 : decode cX1_why 125 = .ok (.bipush 6, 2) := by decide +kernel
theorem dX1_why_127 : decode cX1_why 127 = .ok (.goto 4, 3) := by decide +kernel
theorem dX1_why_130 : decode cX1_why 130 = .ok (.iconst 0, 1) := by decide +kernel
theorem dX1_why_131 : decode cX1_why 131 = .ok (.ireturn, 1) := by decide +kernel
set_option maxRecDepth 20000 in
theorem ggX1_whyNot_X1_isOrder : GoodIn wsX1_whyNot wsX1_isOrder := goodIn_r _ [5, 6, 7, 8, 4, 9, 52, 53, 54, 55, 56, 57, 58, 59, 60, 61, 62, 63, 64, 65, 66, 67, 68, 69, 70] (by decide +kernel) (by decide +kernel)
set_option maxRecDepth 20000 in
theorem gX1_whyNot_X1_isOrder : GoodIn wsX1_whyNot (wsV RX1 105 RX1 yX1_isOrder wsX1_isOrder) := goodIn_app (goodIn_of _ (by decide +kernel)) ggX1_whyNot_X1_isOrder
set_option maxRecDepth 20000 in
theorem ggX1_whyNot_X1_isBreak : GoodIn wsX1_whyNot wsX1_isBreak := goodIn_r _ [13, 14, 7, 8, 4, 9, 52, 53, 54, 55, 56, 57, 58, 59, 60, 61, 62, 63, 64, 65, 66, 67, 68, 69, 70] (by decide +kernel) (by decide +kernel)
set_option maxRecDepth 20000 in
theorem gX1_whyNot_X1_isBreak : GoodIn wsX1_whyNot (wsV RX1 77 RX1 yX1_isBreak wsX1_isBreak) := goodIn_app (goodIn_of _ (by decide +kernel)) ggX1_whyNot_X1_isBreak
set_option maxRecDepth 20000 in
theorem ggX1_whyNot_X1_goes : GoodIn wsX1_whyNot wsX1_goes := goodIn_r _ [18, 19, 52, 53, 54, 55, 56, 57, 58, 59, 60, 61, 62, 63, 64, 65, 66, 67, 68, 69, 70] (by decide +kernel) (by decide +kernel)
set_option maxRecDepth 20000 in
theorem gX1_whyNot_X1_goes : GoodIn wsX1_whyNot (wsV RX1 73 RX1 yX1_goes wsX1_goes) := goodIn_app (goodIn_of _ (by decide +kernel)) ggX1_whyNot_X1_goes
set_option maxRecDepth 20000 in
theorem ggX1_whyNot_X1_why : GoodIn wsX1_whyNot wsX1_why := goodIn_r _ [23, 24, 25, 26, 14, 27, 28, 29, 4, 30, 31, 32, 33, 34, 35, 36, 37, 38, 39, 40, 41, 42, 43, 44, 45, 46, 47, 48, 49, 50, 51, 52, 53, 54, 55, 56, 57, 58, 59, 60, 61, 62, 63, 64, 65, 66, 67, 68, 69, 70] (by decide +kernel) (by decide +kernel)
set_option maxRecDepth 20000 in
theorem gX1_whyNot_X1_why : GoodIn wsX1_whyNot (wsV RX1 112 RX1 yX1_why wsX1_why) := goodIn_app (goodIn_of _ (by decide +kernel)) ggX1_whyNot_X1_why
theorem dX1_whyNot_0 : decode cX1_whyNot 0 = .ok (.aload_n 0, 1) := by decide +kernel
theorem dX1_whyNot_1 : decode cX1_whyNot 1 = .ok (.aload_n 0, 1) := by decide +kernel
theorem dX1_whyNot_2 : decode cX1_whyNot 2 = .ok (.iload_n 1, 1) := by decide +kernel
theorem dX1_whyNot_3 : decode cX1_whyNot 3 = .ok (.invokevirtual 105, 3) := by decide +kernel
theorem dX1_whyNot_6 : decode cX1_whyNot 6 = .ok (.ifCond .eq 15, 3) := by decide +kernel
theorem dX1_whyNot_9 : decode cX1_whyNot 9 = .ok (.aload_n 0, 1) := by decide +kernel
theorem dX1_whyNot_10 : decode cX1_whyNot 10 = .ok (.iload_n 2, 1) := by decide +kernel
theorem dX1_whyNot_11 : decode cX1_whyNot 11 = .ok (.invokevirtual 77, 3) := by decide +kernel
theorem dX1_whyNot_14 : decode cX1_whyNot 14 = .ok (.ifCond .eq 7, 3) := by decide +kernel
theorem dX1_whyNot_17 : decode cX1_whyNot 17 = .ok (.iconst 1, 1) := by decide +kernel
theorem dX1_whyNot_18 : decode cX1_whyNot 18 = .ok (.goto 4, 3) := by decide +kernel
theorem dX1_whyNot_21 : decode cX1_whyNot 21 = .ok (.iconst 0, 1) := by decide +kernel
theorem dX1_whyNot_22 : decode cX1_whyNot 22 = .ok (.iconst 1, 1) := by decide +kernel
theorem dX1_whyNot_23 : decode cX1_whyNot 23 = .ok (.iconst 1, 1) := by decide +kernel
theorem dX1_whyNot_24 : decode cX1_whyNot 24 = .ok (.invokevirtual 73, 3) := by decide +kernel
theorem dX1_whyNot_27 : decode cX1_whyNot 27 = .ok (.ifCond .eq 13, 3) := by decide +kernel
theorem dX1_whyNot_30 : decode cX1_whyNot 30 = .ok (.aload_n 0, 1) := by decide +kernel
theorem dX1_whyNot_31 : decode cX1_whyNot 31 = .ok (.iload_n 1, 1) := by decide +kernel
theorem dX1_whyNot_32 : decode cX1_whyNot 32 = .ok (.iload_n 2, 1) := by decide +kernel
theorem dX1_whyNot_33 : decode cX1_whyNot 33 = .ok (.iconst (-1), 1) := by decide +kernel
theorem dX1_whyNot_34 : decode cX1_whyNot 34 = .ok (.invokevirtual 112, 3) := by decide +kernel
theorem dX1_whyNot_37 : decode cX1_whyNot 37 = .ok (.goto 4, 3) := by decide +kernel
theorem dX1_whyNot_40 : decode cX1_whyNot 40 = .ok (.iconst 0, 1) := by decide +kernel
theorem dX1_whyNot_41 : decode cX1_whyNot 41 = .ok (.ireturn, 1) := by decide +kernel
theorem dX1_adds_0 : decode cX1_adds 0 = .ok (.aload_n 0, 1) := by decide +kernel
theorem dX1_adds_1 : decode cX1_adds 1 = .ok (.getfield 44, 3) := by decide +kernel
theorem dX1_adds_4 : decode cX1_adds 4 = .ok (.aload_n 0, 1) := by decide +kernel
theorem dX1_adds_5 : decode cX1_adds 5 = .ok (.getfield 70, 3) := by decide +kernel
theorem dX1_adds_8 : decode cX1_adds 8 = .ok (.iload_n 1, 1) := by decide +kernel
theorem dX1_adds_9 : decode cX1_adds 9 = .ok (.iastore, 1) := by decide +kernel
theorem dX1_adds_10 : decode cX1_adds 10 = .ok (.aload_n 0, 1) := by decide +kernel
theorem dX1_adds_11 : decode cX1_adds 11 = .ok (.getfield 47, 3) := by decide +kernel
theorem dX1_adds_14 : decode cX1_adds 14 = .ok (.aload_n 0, 1) := by decide +kernel
theorem dX1_adds_15 : decode cX1_adds 15 = .ok (.getfield 70, 3) := by decide +kernel
theorem dX1_adds_18 : decode cX1_adds 18 = .ok (.iload_n 2, 1) := by decide +kernel
theorem dX1_adds_19 : decode cX1_adds 19 = .ok (.iastore, 1) := by decide +kernel
theorem dX1_adds_20 : decode cX1_adds 20 = .ok (.aload_n 0, 1) := by decide +kernel
theorem dX1_adds_21 : decode cX1_adds 21 = .ok (.getfield 50, 3) := by decide +kernel
theorem dX1_adds_24 : decode cX1_adds 24 = .ok (.aload_n 0, 1) := by decide +kernel
theorem dX1_adds_25 : decode cX1_adds 25 = .ok (.getfield 70, 3) := by decide +kernel
theorem dX1_adds_28 : decode cX1_adds 28 = .ok (.iconst 0, 1) := by decide +kernel
theorem dX1_adds_29 : decode cX1_adds 29 = .ok (.iastore, 1) := by decide +kernel
theorem dX1_adds_30 : decode cX1_adds 30 = .ok (.aload_n 0, 1) := by decide +kernel
theorem dX1_adds_31 : decode cX1_adds 31 = .ok (.getfield 53, 3) := by decide +kernel
theorem dX1_adds_34 : decode cX1_adds 34 = .ok (.aload_n 0, 1) := by decide +kernel
theorem dX1_adds_35 : decode cX1_adds 35 = .ok (.getfield 70, 3) := by decide +kernel
theorem dX1_adds_38 : decode cX1_adds 38 = .ok (.iload_n 3, 1) := by decide +kernel
theorem dX1_adds_39 : decode cX1_adds 39 = .ok (.bastore, 1) := by decide +kernel
theorem dX1_adds_40 : decode cX1_adds 40 = .ok (.aload_n 0, 1) := by decide +kernel
theorem dX1_adds_41 : decode cX1_adds 41 = .ok (.dup, 1) := by decide +kernel
theorem dX1_adds_42 : decode cX1_adds 42 = .ok (.getfield 70, 3) := by decide +kernel
theorem dX1_adds_45 : decode cX1_adds 45 = .ok (.iconst 1, 1) := by decide +kernel
theorem dX1_adds_46 : decode cX1_adds 46 = .ok (.iadd, 1) := by decide +kernel
theorem dX1_adds_47 : decode cX1_adds 47 = .ok (.putfield 70, 3) := by decide +kernel
theorem dX1_adds_50 : decode cX1_adds 50 = .ok (.aload_n 0, 1) := by decide +kernel
theorem dX1_adds_51 : decode cX1_adds 51 = .ok (.getfield 70, 3) := by decide +kernel
theorem dX1_adds_54 : decode cX1_adds 54 = .ok (.iconst 1, 1) := by decide +kernel
theorem dX1_adds_55 : decode cX1_adds 55 = .ok (.isub, 1) := by decide +kernel
theorem dX1_adds_56 : decode cX1_adds 56 = .ok (.ireturn, 1) := by decide +kernel
set_option maxRecDepth 20000 in
theorem ggX1_place_X1_isOrder : GoodIn wsX1_place wsX1_isOrder := goodIn_r _ [7, 8, 9, 10, 6, 11, 58, 59, 60, 61, 62, 63, 64, 65, 66, 67, 68, 69, 70, 71, 72, 73, 74, 75, 76] (by decide +kernel) (by decide +kernel)
set_option maxRecDepth 20000 in
theorem gX1_place_X1_isOrder : GoodIn wsX1_place (wsV RX1 105 RX1 yX1_isOrder wsX1_isOrder) := goodIn_app (goodIn_of _ (by decide +kernel)) ggX1_place_X1_isOrder
set_option maxRecDepth 20000 in
theorem ggX1_place_X1_isBreak : GoodIn wsX1_place wsX1_isBreak := goodIn_r _ [15, 16, 9, 10, 6, 11, 58, 59, 60, 61, 62, 63, 64, 65, 66, 67, 68, 69, 70, 71, 72, 73, 74, 75, 76] (by decide +kernel) (by decide +kernel)
set_option maxRecDepth 20000 in
theorem gX1_place_X1_isBreak : GoodIn wsX1_place (wsV RX1 77 RX1 yX1_isBreak wsX1_isBreak) := goodIn_app (goodIn_of _ (by decide +kernel)) ggX1_place_X1_isBreak
set_option maxRecDepth 20000 in
theorem ggX1_place_X1_why : GoodIn wsX1_place wsX1_why := goodIn_r _ [20, 21, 22, 23, 16, 24, 25, 26, 6, 27, 28, 2, 29, 30, 31, 32, 33, 34, 35, 36, 37, 38, 39, 40, 41, 42, 43, 44, 45, 46, 47, 58, 59, 60, 61, 62, 63, 64, 65, 66, 67, 68, 69, 70, 71, 72, 73, 74, 75, 76] (by decide +kernel) (by decide +kernel)
set_option maxRecDepth 20000 in
theorem gX1_place_X1_why : GoodIn wsX1_place (wsV RX1 112 RX1 yX1_why wsX1_why) := goodIn_app (goodIn_of _ (by decide +kernel)) ggX1_place_X1_why
set_option maxRecDepth 20000 in
theorem ggX1_place_X1_goes : GoodIn wsX1_place wsX1_goes := goodIn_r _ [51, 52, 58, 59, 60, 61, 62, 63, 64, 65, 66, 67, 68, 69, 70, 71, 72, 73, 74, 75, 76] (by decide +kernel) (by decide +kernel)
set_option maxRecDepth 20000 in
theorem gX1_place_X1_goes : GoodIn wsX1_place (wsV RX1 73 RX1 yX1_goes wsX1_goes) := goodIn_app (goodIn_of _ (by decide +kernel)) ggX1_place_X1_goes
set_option maxRecDepth 20000 in
theorem ggX1_place_X1_adds : GoodIn wsX1_place wsX1_adds := goodIn_r _ [56, 29, 2, 34, 35, 57, 58, 59, 60, 61, 62, 63, 64, 65, 66, 67, 68, 69, 70, 71, 72, 73, 74, 75, 76] (by decide +kernel) (by decide +kernel)
set_option maxRecDepth 20000 in
theorem gX1_place_X1_adds : GoodIn wsX1_place (wsV RX1 116 RX1 yX1_adds wsX1_adds) := goodIn_app (goodIn_of _ (by decide +kernel)) ggX1_place_X1_adds
theorem dX1_place_0 : decode cX1_place 0 = .ok (.aload_n 0, 1) := by decide +kernel
theorem dX1_place_1 : decode cX1_place 1 = .ok (.iload_n 1, 1) := by decide +kernel
theorem dX1_place_2 : decode cX1_place 2 = .ok (.invokevirtual 105, 3) := by decide +kernel
theorem dX1_place_5 : decode cX1_place 5 = .ok (.ifCond .eq 15, 3) := by decide +kernel
theorem dX1_place_8 : decode cX1_place 8 = .ok (.aload_n 0, 1) := by decide +kernel
theorem dX1_place_9 : decode cX1_place 9 = .ok (.iload_n 2, 1) := by decide +kernel
theorem dX1_place_10 : decode cX1_place 10 = .ok (.invokevirtual 77, 3) := by decide +kernel
theorem dX1_place_13 : decode cX1_place 13 = .ok (.ifCond .eq 7, 3) := by decide +kernel
theorem dX1_place_16 : decode cX1_place 16 = .ok (.iconst 1, 1) := by decide +kernel
theorem dX1_place_17 : decode cX1_place 17 = .ok (.goto 4, 3) := by decide +kernel
theorem dX1_place_20 : decode cX1_place 20 = .ok (.iconst 0, 1) := by decide +kernel
theorem dX1_place_21 : decode cX1_place 21 = .ok (.istore_n 3, 1) := by decide +kernel
theorem dX1_place_22 : decode cX1_place 22 = .ok (.iload_n 3, 1) := by decide +kernel
theorem dX1_place_23 : decode cX1_place 23 = .ok (.ifCond .eq 36, 3) := by decide +kernel
theorem dX1_place_26 : decode cX1_place 26 = .ok (.aload_n 0, 1) := by decide +kernel
theorem dX1_place_27 : decode cX1_place 27 = .ok (.getfield 41, 3) := by decide +kernel
theorem dX1_place_30 : decode cX1_place 30 = .ok (.iload_n 1, 1) := by decide +kernel
theorem dX1_place_31 : decode cX1_place 31 = .ok (.baload, 1) := by decide +kernel
theorem dX1_place_32 : decode cX1_place 32 = .ok (.ifCond .ne 27, 3) := by decide +kernel
theorem dX1_place_35 : decode cX1_place 35 = .ok (.aload_n 0, 1) := by decide +kernel
theorem dX1_place_36 : decode cX1_place 36 = .ok (.getfield 70, 3) := by decide +kernel
theorem dX1_place_39 : decode cX1_place 39 = .ok (.sipush 150, 3) := by decide +kernel
theorem dX1_place_42 : decode cX1_place 42 = .ok (.if_icmp .ge 17, 3) := by decide +kernel
theorem dX1_place_45 : decode cX1_place 45 = .ok (.aload_n 0, 1) := by decide +kernel
theorem dX1_place_46 : decode cX1_place 46 = .ok (.iload_n 1, 1) := by decide +kernel
theorem dX1_place_47 : decode cX1_place 47 = .ok (.iload_n 2, 1) := by decide +kernel
theorem dX1_place_48 : decode cX1_place 48 = .ok (.iconst (-1), 1) := by decide +kernel
theorem dX1_place_49 : decode cX1_place 49 = .ok (.invokevirtual 112, 3) := by decide +kernel
theorem dX1_place_52 : decode cX1_place 52 = .ok (.ifCond .ne 7, 3) := by decide +kernel
theorem dX1_place_55 : decode cX1_place 55 = .ok (.iconst 1, 1) := by decide +kernel
theorem dX1_place_56 : decode cX1_place 56 = .ok (.goto 4, 3) := by decide +kernel
theorem dX1_place_59 : decode cX1_place 59 = .ok (.iconst 0, 1) := by decide +kernel
theorem dX1_place_60 : decode cX1_place 60 = .ok (.istore 4, 2) := by decide +kernel
theorem dX1_place_62 : decode cX1_place 62 = .ok (.aload_n 0, 1) := by decide +kernel
theorem dX1_place_63 : decode cX1_place 63 = .ok (.iload_n 3, 1) := by decide +kernel
theorem dX1_place_64 : decode cX1_place 64 = .ok (.iload 4, 2) := by decide +kernel
theorem dX1_place_66 : decode cX1_place 66 = .ok (.iconst 1, 1) := by decide +kernel
theorem dX1_place_67 : decode cX1_place 67 = .ok (.invokevirtual 73, 3) := by decide +kernel
theorem dX1_place_70 : decode cX1_place 70 = .ok (.ifCond .eq 13, 3) := by decide +kernel
theorem dX1_place_73 : decode cX1_place 73 = .ok (.aload_n 0, 1) := by decide +kernel
theorem dX1_place_74 : decode cX1_place 74 = .ok (.iload_n 1, 1) := by decide +kernel
theorem dX1_place_75 : decode cX1_place 75 = .ok (.iload_n 2, 1) := by decide +kernel
theorem dX1_place_76 : decode cX1_place 76 = .ok (.iconst 0, 1) := by decide +kernel
theorem dX1_place_77 : decode cX1_place 77 = .ok (.invokevirtual 116, 3) := by decide +kernel
theorem dX1_place_80 : decode cX1_place 80 = .ok (.goto 4, 3) := by decide +kernel
theorem dX1_place_83 : decode cX1_place 83 = .ok (.iconst 0, 1) := by decide +kernel
theorem dX1_place_84 : decode cX1_place 84 = .ok (.ireturn, 1) := by decide +kernel
set_option maxRecDepth 20000 in
theorem ggX1_give_X1_isOrder : GoodIn wsX1_give wsX1_isOrder := goodIn_r _ [6, 7, 8, 9, 5, 10, 71, 72, 73, 74, 75, 76, 77, 78, 79, 80, 81, 82, 83, 84, 85, 86, 87, 88, 89] (by decide +kernel) (by decide +kernel)
set_option maxRecDepth 20000 in
theorem gX1_give_X1_isOrder : GoodIn wsX1_give (wsV RX1 105 RX1 yX1_isOrder wsX1_isOrder) := goodIn_app (goodIn_of _ (by decide +kernel)) ggX1_give_X1_isOrder
set_option maxRecDepth 20000 in
theorem ggX1_give_X1_isBreak : GoodIn wsX1_give wsX1_isBreak := goodIn_r _ [14, 15, 8, 9, 5, 10, 71, 72, 73, 74, 75, 76, 77, 78, 79, 80, 81, 82, 83, 84, 85, 86, 87, 88, 89] (by decide +kernel) (by decide +kernel)
set_option maxRecDepth 20000 in
theorem gX1_give_X1_isBreak : GoodIn wsX1_give (wsV RX1 77 RX1 yX1_isBreak wsX1_isBreak) := goodIn_app (goodIn_of _ (by decide +kernel)) ggX1_give_X1_isBreak
set_option maxRecDepth 20000 in
theorem ggX1_give_X1_left : GoodIn wsX1_give wsX1_left := goodIn_r _ [19, 20, 21, 22, 5, 23, 24, 25, 26, 27, 28, 29, 1, 30, 31, 32, 33, 34, 35, 36, 37, 38, 39, 71, 72, 73, 74, 75, 76, 77, 78, 79, 80, 81, 82, 83, 84, 85, 86, 87, 88, 89] (by decide +kernel) (by decide +kernel)
set_option maxRecDepth 20000 in
theorem gX1_give_X1_left : GoodIn wsX1_give (wsV RX1 119 RX1 yX1_left wsX1_left) := goodIn_app (goodIn_of _ (by decide +kernel)) ggX1_give_X1_left
set_option maxRecDepth 20000 in
theorem ggX1_give_X1_why : GoodIn wsX1_give wsX1_why := goodIn_r _ [43, 44, 45, 46, 15, 47, 48, 49, 5, 50, 51, 1, 30, 52, 53, 54, 55, 33, 31, 34, 35, 36, 37, 38, 39, 56, 57, 58, 59, 60, 61, 71, 72, 73, 74, 75, 76, 77, 78, 79, 80, 81, 82, 83, 84, 85, 86, 87, 88, 89] (by decide +kernel) (by decide +kernel)
set_option maxRecDepth 20000 in
theorem gX1_give_X1_why : GoodIn wsX1_give (wsV RX1 112 RX1 yX1_why wsX1_why) := goodIn_app (goodIn_of _ (by decide +kernel)) ggX1_give_X1_why
set_option maxRecDepth 20000 in
theorem ggX1_give_X1_goes : GoodIn wsX1_give wsX1_goes := goodIn_r _ [65, 66, 71, 72, 73, 74, 75, 76, 77, 78, 79, 80, 81, 82, 83, 84, 85, 86, 87, 88, 89] (by decide +kernel) (by decide +kernel)
set_option maxRecDepth 20000 in
theorem gX1_give_X1_goes : GoodIn wsX1_give (wsV RX1 73 RX1 yX1_goes wsX1_goes) := goodIn_app (goodIn_of _ (by decide +kernel)) ggX1_give_X1_goes
set_option maxRecDepth 20000 in
theorem ggX1_give_X1_adds : GoodIn wsX1_give wsX1_adds := goodIn_r _ [70, 30, 1, 33, 31, 32, 71, 72, 73, 74, 75, 76, 77, 78, 79, 80, 81, 82, 83, 84, 85, 86, 87, 88, 89] (by decide +kernel) (by decide +kernel)
set_option maxRecDepth 20000 in
theorem gX1_give_X1_adds : GoodIn wsX1_give (wsV RX1 116 RX1 yX1_adds wsX1_adds) := goodIn_app (goodIn_of _ (by decide +kernel)) ggX1_give_X1_adds
theorem dX1_give_0 : decode cX1_give 0 = .ok (.aload_n 0, 1) := by decide +kernel
theorem dX1_give_1 : decode cX1_give 1 = .ok (.iload_n 1, 1) := by decide +kernel
theorem dX1_give_2 : decode cX1_give 2 = .ok (.invokevirtual 105, 3) := by decide +kernel
theorem dX1_give_5 : decode cX1_give 5 = .ok (.ifCond .eq 15, 3) := by decide +kernel
theorem dX1_give_8 : decode cX1_give 8 = .ok (.aload_n 0, 1) := by decide +kernel
theorem dX1_give_9 : decode cX1_give 9 = .ok (.iload_n 2, 1) := by decide +kernel
theorem dX1_give_10 : decode cX1_give 10 = .ok (.invokevirtual 77, 3) := by decide +kernel
theorem dX1_give_13 : decode cX1_give 13 = .ok (.ifCond .eq 7, 3) := by decide +kernel
theorem dX1_give_16 : decode cX1_give 16 = .ok (.iconst 1, 1) := by decide +kernel
theorem dX1_give_17 : decode cX1_give 17 = .ok (.goto 4, 3) := by decide +kernel
theorem dX1_give_20 : decode cX1_give 20 = .ok (.iconst 0, 1) := by decide +kernel
theorem dX1_give_21 : decode cX1_give 21 = .ok (.istore_n 3, 1) := by decide +kernel
theorem dX1_give_22 : decode cX1_give 22 = .ok (.iload_n 3, 1) := by decide +kernel
theorem dX1_give_23 : decode cX1_give 23 = .ok (.ifCond .eq 35, 3) := by decide +kernel
theorem dX1_give_26 : decode cX1_give 26 = .ok (.aload_n 0, 1) := by decide +kernel
theorem dX1_give_27 : decode cX1_give 27 = .ok (.iload_n 1, 1) := by decide +kernel
theorem dX1_give_28 : decode cX1_give 28 = .ok (.invokevirtual 119, 3) := by decide +kernel
theorem dX1_give_31 : decode cX1_give 31 = .ok (.ifCond .le 27, 3) := by decide +kernel
theorem dX1_give_34 : decode cX1_give 34 = .ok (.aload_n 0, 1) := by decide +kernel
theorem dX1_give_35 : decode cX1_give 35 = .ok (.getfield 70, 3) := by decide +kernel
theorem dX1_give_38 : decode cX1_give 38 = .ok (.sipush 150, 3) := by decide +kernel
theorem dX1_give_41 : decode cX1_give 41 = .ok (.if_icmp .ge 17, 3) := by decide +kernel
theorem dX1_give_44 : decode cX1_give 44 = .ok (.aload_n 0, 1) := by decide +kernel
theorem dX1_give_45 : decode cX1_give 45 = .ok (.iload_n 1, 1) := by decide +kernel
theorem dX1_give_46 : decode cX1_give 46 = .ok (.iload_n 2, 1) := by decide +kernel
theorem dX1_give_47 : decode cX1_give 47 = .ok (.iconst (-1), 1) := by decide +kernel
theorem dX1_give_48 : decode cX1_give 48 = .ok (.invokevirtual 112, 3) := by decide +kernel
theorem dX1_give_51 : decode cX1_give 51 = .ok (.ifCond .ne 7, 3) := by decide +kernel
theorem dX1_give_54 : decode cX1_give 54 = .ok (.iconst 1, 1) := by decide +kernel
theorem dX1_give_55 : decode cX1_give 55 = .ok (.goto 4, 3) := by decide +kernel
theorem dX1_give_58 : decode cX1_give 58 = .ok (.iconst 0, 1) := by decide +kernel
theorem dX1_give_59 : decode cX1_give 59 = .ok (.istore 4, 2) := by decide +kernel
theorem dX1_give_61 : decode cX1_give 61 = .ok (.aload_n 0, 1) := by decide +kernel
theorem dX1_give_62 : decode cX1_give 62 = .ok (.iload_n 3, 1) := by decide +kernel
theorem dX1_give_63 : decode cX1_give 63 = .ok (.iload 4, 2) := by decide +kernel
theorem dX1_give_65 : decode cX1_give 65 = .ok (.iconst 1, 1) := by decide +kernel
theorem dX1_give_66 : decode cX1_give 66 = .ok (.invokevirtual 73, 3) := by decide +kernel
theorem dX1_give_69 : decode cX1_give 69 = .ok (.ifCond .eq 13, 3) := by decide +kernel
theorem dX1_give_72 : decode cX1_give 72 = .ok (.aload_n 0, 1) := by decide +kernel
theorem dX1_give_73 : decode cX1_give 73 = .ok (.iload_n 1, 1) := by decide +kernel
theorem dX1_give_74 : decode cX1_give 74 = .ok (.iload_n 2, 1) := by decide +kernel
theorem dX1_give_75 : decode cX1_give 75 = .ok (.iconst 1, 1) := by decide +kernel
theorem dX1_give_76 : decode cX1_give 76 = .ok (.invokevirtual 116, 3) := by decide +kernel
theorem dX1_give_79 : decode cX1_give 79 = .ok (.goto 4, 3) := by decide +kernel
theorem dX1_give_82 : decode cX1_give 82 = .ok (.iconst 0, 1) := by decide +kernel
theorem dX1_give_83 : decode cX1_give 83 = .ok (.ireturn, 1) := by decide +kernel
set_option maxRecDepth 20000 in
theorem ggX1_best_X1_why : GoodIn wsX1_best wsX1_why := goodIn_r _ [6, 7, 8, 9, 1, 10, 11, 12, 5, 13, 14, 15, 16, 17, 18, 19, 20, 21, 22, 23, 24, 25, 26, 27, 28, 29, 30, 31, 32, 33, 34, 35, 36, 37, 38, 39, 40, 41, 42, 43, 44, 45, 46, 47, 48, 49, 50, 51, 52, 53] (by decide +kernel) (by decide +kernel)
set_option maxRecDepth 20000 in
theorem gX1_best_X1_why : GoodIn wsX1_best (wsV RX1 112 RX1 yX1_why wsX1_why) := goodIn_app (goodIn_of _ (by decide +kernel)) ggX1_best_X1_why
set_option maxRecDepth 20000 in
theorem ggX1_best_X1_ratingFor : GoodIn wsX1_best wsX1_ratingFor := goodIn_r _ [26, 27, 28, 35, 36, 37, 38, 39, 40, 41, 42, 43, 44, 45, 46, 47, 48, 49, 50, 51, 52, 53] (by decide +kernel) (by decide +kernel)
set_option maxRecDepth 20000 in
theorem gX1_best_X1_ratingFor : GoodIn wsX1_best (wsV RX1 95 RX1 yX1_ratingFor wsX1_ratingFor) := goodIn_app (goodIn_of _ (by decide +kernel)) ggX1_best_X1_ratingFor
theorem dX1_best_0 : decode cX1_best 0 = .ok (.iconst (-1), 1) := by decide +kernel
theorem dX1_best_1 : decode cX1_best 1 = .ok (.istore_n 2, 1) := by decide +kernel
theorem dX1_best_2 : decode cX1_best 2 = .ok (.iconst 0, 1) := by decide +kernel
theorem dX1_best_3 : decode cX1_best 3 = .ok (.istore_n 3, 1) := by decide +kernel
theorem dX1_best_4 : decode cX1_best 4 = .ok (.iload_n 3, 1) := by decide +kernel
theorem dX1_best_5 : decode cX1_best 5 = .ok (.aload_n 0, 1) := by decide +kernel
theorem dX1_best_6 : decode cX1_best 6 = .ok (.getfield 60, 3) := by decide +kernel
theorem dX1_best_9 : decode cX1_best 9 = .ok (.if_icmp .ge 57, 3) := by decide +kernel
theorem dX1_best_12 : decode cX1_best 12 = .ok (.aload_n 0, 1) := by decide +kernel
theorem dX1_best_13 : decode cX1_best 13 = .ok (.iload_n 1, 1) := by decide +kernel
theorem dX1_best_14 : decode cX1_best 14 = .ok (.iload_n 3, 1) := by decide +kernel
theorem dX1_best_15 : decode cX1_best 15 = .ok (.iconst (-1), 1) := by decide +kernel
theorem dX1_best_16 : decode cX1_best 16 = .ok (.invokevirtual 112, 3) := by decide +kernel
theorem dX1_best_19 : decode cX1_best 19 = .ok (.ifCond .ne 27, 3) := by decide +kernel
theorem dX1_best_22 : decode cX1_best 22 = .ok (.iload_n 2, 1) := by decide +kernel
theorem dX1_best_23 : decode cX1_best 23 = .ok (.iconst (-1), 1) := by decide +kernel
theorem dX1_best_24 : decode cX1_best 24 = .ok (.if_icmp .eq 18, 3) := by decide +kernel
theorem dX1_best_27 : decode cX1_best 27 = .ok (.aload_n 0, 1) := by decide +kernel
theorem dX1_best_28 : decode cX1_best 28 = .ok (.iload_n 1, 1) := by decide +kernel
theorem dX1_best_29 : decode cX1_best 29 = .ok (.iload_n 3, 1) := by decide +kernel
theorem dX1_best_30 : decode cX1_best 30 = .ok (.invokevirtual 95, 3) := by decide +kernel
theorem dX1_best_33 : decode cX1_best 33 = .ok (.aload_n 0, 1) := by decide +kernel
theorem dX1_best_34 : decode cX1_best 34 = .ok (.iload_n 1, 1) := by decide +kernel
theorem dX1_best_35 : decode cX1_best 35 = .ok (.iload_n 2, 1) := by decide +kernel
theorem dX1_best_36 : decode cX1_best 36 = .ok (.invokevirtual 95, 3) := by decide +kernel
theorem dX1_best_39 : decode cX1_best 39 = .ok (.if_icmp .le 7, 3) := by decide +kernel
theorem dX1_best_42 : decode cX1_best 42 = .ok (.iconst 1, 1) := by decide +kernel
theorem dX1_best_43 : decode cX1_best 43 = .ok (.goto 4, 3) := by decide +kernel
theorem dX1_best_46 : decode cX1_best 46 = .ok (.iconst 0, 1) := by decide +kernel
theorem dX1_best_47 : decode cX1_best 47 = .ok (.istore 4, 2) := by decide +kernel
theorem dX1_best_49 : decode cX1_best 49 = .ok (.iload 4, 2) := by decide +kernel
theorem dX1_best_51 : decode cX1_best 51 = .ok (.ifCond .eq 7, 3) := by decide +kernel
theorem dX1_best_54 : decode cX1_best 54 = .ok (.iload_n 3, 1) := by decide +kernel
theorem dX1_best_55 : decode cX1_best 55 = .ok (.goto 4, 3) := by decide +kernel
theorem dX1_best_58 : decode cX1_best 58 = .ok (.iload_n 2, 1) := by decide +kernel
theorem dX1_best_59 : decode cX1_best 59 = .ok (.istore_n 2, 1) := by decide +kernel
theorem dX1_best_60 : decode cX1_best 60 = .ok (.iinc 3 1, 3) := by decide +kernel
theorem dX1_best_63 : decode cX1_best 63 = .ok (.goto (-59), 3) := by decide +kernel
theorem dX1_best_66 : decode cX1_best 66 = .ok (.iload_n 2, 1) := by decide +kernel
theorem dX1_best_67 : decode cX1_best 67 = .ok (.ireturn, 1) := by decide +kernel
set_option maxRecDepth 20000 in
theorem ggX1_fill_X1_isOrder : GoodIn wsX1_fill wsX1_isOrder := goodIn_r _ [8, 9, 10, 11, 7, 12, 63, 64, 65, 66, 67, 68, 69, 70, 71, 72, 73, 74, 75, 76, 77, 78, 79, 80, 81] (by decide +kernel) (by decide +kernel)
set_option maxRecDepth 20000 in
theorem gX1_fill_X1_isOrder : GoodIn wsX1_fill (wsV RX1 105 RX1 yX1_isOrder wsX1_isOrder) := goodIn_app (goodIn_of _ (by decide +kernel)) ggX1_fill_X1_isOrder
set_option maxRecDepth 20000 in
theorem ggX1_fill_X1_in : GoodIn wsX1_fill wsX1_in := goodIn_r _ [12] (by decide +kernel) (by decide +kernel)
set_option maxRecDepth 20000 in
theorem gX1_fill_X1_in : GoodIn wsX1_fill (va_wsS RX1 63 yX1_in wsX1_in) := goodIn_app (goodIn_of _ (by decide +kernel)) ggX1_fill_X1_in
set_option maxRecDepth 20000 in
theorem ggX1_fill_X1_goes : GoodIn wsX1_fill wsX1_goes := goodIn_r _ [16, 17, 63, 64, 65, 66, 67, 68, 69, 70, 71, 72, 73, 74, 75, 76, 77, 78, 79, 80, 81] (by decide +kernel) (by decide +kernel)
set_option maxRecDepth 20000 in
theorem gX1_fill_X1_goes : GoodIn wsX1_fill (wsV RX1 73 RX1 yX1_goes wsX1_goes) := goodIn_app (goodIn_of _ (by decide +kernel)) ggX1_fill_X1_goes
set_option maxRecDepth 20000 in
theorem ggX1_fill_X1_sums : GoodIn wsX1_fill wsX1_sums := goodIn_r _ [21, 2, 22, 23, 24, 25, 26, 27, 28, 7, 29, 30, 31, 63, 64, 65, 66, 67, 68, 69, 70, 71, 72, 73, 74, 75, 76, 77, 78, 79, 80, 81] (by decide +kernel) (by decide +kernel)
set_option maxRecDepth 20000 in
theorem gX1_fill_X1_sums : GoodIn wsX1_fill (wsV RX1 98 RX1 yX1_sums wsX1_sums) := goodIn_app (goodIn_of _ (by decide +kernel)) ggX1_fill_X1_sums
set_option maxRecDepth 20000 in
theorem ggX1_fill_X1_best : GoodIn wsX1_fill wsX1_best := goodIn_r _ [35, 36, 37, 38, 39, 7, 40, 41, 42, 43, 44, 45, 46, 47, 48, 2, 22, 49, 50, 51, 52, 25, 23, 26, 27, 28, 29, 30, 31, 53, 54, 55, 56, 57, 58, 63, 64, 65, 66, 67, 68, 69, 70, 71, 72, 73, 74, 75, 76, 77, 78, 79, 80, 81] (by decide +kernel) (by decide +kernel)
set_option maxRecDepth 20000 in
theorem gX1_fill_X1_best : GoodIn wsX1_fill (wsV RX1 122 RX1 yX1_best wsX1_best) := goodIn_app (goodIn_of _ (by decide +kernel)) ggX1_fill_X1_best
set_option maxRecDepth 20000 in
theorem ggX1_fill_X1_adds : GoodIn wsX1_fill wsX1_adds := goodIn_r _ [62, 22, 2, 25, 23, 24, 63, 64, 65, 66, 67, 68, 69, 70, 71, 72, 73, 74, 75, 76, 77, 78, 79, 80, 81] (by decide +kernel) (by decide +kernel)
set_option maxRecDepth 20000 in
theorem gX1_fill_X1_adds : GoodIn wsX1_fill (wsV RX1 116 RX1 yX1_adds wsX1_adds) := goodIn_app (goodIn_of _ (by decide +kernel)) ggX1_fill_X1_adds
theorem dX1_fill_0 : decode cX1_fill 0 = .ok (.aload_n 0, 1) := by decide +kernel
theorem dX1_fill_1 : decode cX1_fill 1 = .ok (.iload_n 1, 1) := by decide +kernel
theorem dX1_fill_2 : decode cX1_fill 2 = .ok (.invokevirtual 105, 3) := by decide +kernel
theorem dX1_fill_5 : decode cX1_fill 5 = .ok (.istore_n 3, 1) := by decide +kernel
theorem dX1_fill_6 : decode cX1_fill 6 = .ok (.aload_n 0, 1) := by decide +kernel
theorem dX1_fill_7 : decode cX1_fill 7 = .ok (.iload_n 3, 1) := by decide +kernel
theorem dX1_fill_8 : decode cX1_fill 8 = .ok (.iload_n 2, 1) := by decide +kernel
theorem dX1_fill_9 : decode cX1_fill 9 = .ok (.iconst 1, 1) := by decide +kernel
theorem dX1_fill_10 : decode cX1_fill 10 = .ok (.bipush 24, 2) := by decide +kernel
theorem dX1_fill_12 : decode cX1_fill 12 = .ok (.invokestatic 63, 3) := by decide +kernel
theorem dX1_fill_15 : decode cX1_fill 15 = .ok (.iload_n 3, 1) := by decide +kernel
theorem dX1_fill_16 : decode cX1_fill 16 = .ok (.ifCond .eq 16, 3) := by decide +kernel
theorem dX1_fill_19 : decode cX1_fill 19 = .ok (.aload_n 0, 1) := by decide +kernel
theorem dX1_fill_20 : decode cX1_fill 20 = .ok (.getfield 41, 3) := by decide +kernel
theorem dX1_fill_23 : decode cX1_fill 23 = .ok (.iload_n 1, 1) := by decide +kernel
theorem dX1_fill_24 : decode cX1_fill 24 = .ok (.baload, 1) := by decide +kernel
theorem dX1_fill_25 : decode cX1_fill 25 = .ok (.ifCond .ne 7, 3) := by decide +kernel
theorem dX1_fill_28 : decode cX1_fill 28 = .ok (.iconst 1, 1) := by decide +kernel
theorem dX1_fill_29 : decode cX1_fill 29 = .ok (.goto 4, 3) := by decide +kernel
theorem dX1_fill_32 : decode cX1_fill 32 = .ok (.iconst 0, 1) := by decide +kernel
theorem dX1_fill_33 : decode cX1_fill 33 = .ok (.invokevirtual 73, 3) := by decide +kernel
theorem dX1_fill_36 : decode cX1_fill 36 = .ok (.ifCond .ne 5, 3) := by decide +kernel
theorem dX1_fill_39 : decode cX1_fill 39 = .ok (.iconst 0, 1) := by decide +kernel
theorem dX1_fill_40 : decode cX1_fill 40 = .ok (.ireturn, 1) := by decide +kernel
theorem dX1_fill_41 : decode cX1_fill 41 = .ok (.iconst 0, 1) := by decide +kernel
theorem dX1_fill_42 : decode cX1_fill 42 = .ok (.istore 4, 2) := by decide +kernel
theorem dX1_fill_44 : decode cX1_fill 44 = .ok (.iload 4, 2) := by decide +kernel
theorem dX1_fill_46 : decode cX1_fill 46 = .ok (.iload_n 2, 1) := by decide +kernel
theorem dX1_fill_47 : decode cX1_fill 47 = .ok (.if_icmp .ge 65, 3) := by decide +kernel
theorem dX1_fill_50 : decode cX1_fill 50 = .ok (.aload_n 0, 1) := by decide +kernel
theorem dX1_fill_51 : decode cX1_fill 51 = .ok (.getfield 70, 3) := by decide +kernel
theorem dX1_fill_54 : decode cX1_fill 54 = .ok (.sipush 150, 3) := by decide +kernel
theorem dX1_fill_57 : decode cX1_fill 57 = .ok (.if_icmp .ge 55, 3) := by decide +kernel
theorem dX1_fill_60 : decode cX1_fill 60 = .ok (.aload_n 0, 1) := by decide +kernel
theorem dX1_fill_61 : decode cX1_fill 61 = .ok (.iload_n 1, 1) := by decide +kernel
theorem dX1_fill_62 : decode cX1_fill 62 = .ok (.iconst 1, 1) := by decide +kernel
theorem dX1_fill_63 : decode cX1_fill 63 = .ok (.iconst 0, 1) := by decide +kernel
theorem dX1_fill_64 : decode cX1_fill 64 = .ok (.invokevirtual 98, 3) := by decide +kernel
theorem dX1_fill_67 : decode cX1_fill 67 = .ok (.aload_n 0, 1) := by decide +kernel
theorem dX1_fill_68 : decode cX1_fill 68 = .ok (.iload_n 1, 1) := by decide +kernel
theorem dX1_fill_69 : decode cX1_fill 69 = .ok (.iconst 0, 1) := by decide +kernel
theorem dX1_fill_70 : decode cX1_fill 70 = .ok (.iconst 0, 1) := by decide +kernel
theorem dX1_fill_71 : decode cX1_fill 71 = .ok (.invokevirtual 98, 3) := by decide +kernel
theorem dX1_fill_74 : decode cX1_fill 74 = .ok (.iadd, 1) := by decide +kernel
theorem dX1_fill_75 : decode cX1_fill 75 = .ok (.aload_n 0, 1) := by decide +kernel
theorem dX1_fill_76 : decode cX1_fill 76 = .ok (.getfield 35, 3) := by decide +kernel
theorem dX1_fill_79 : decode cX1_fill 79 = .ok (.iload_n 1, 1) := by decide +kernel
theorem dX1_fill_80 : decode cX1_fill 80 = .ok (.iaload, 1) := by decide +kernel
theorem dX1_fill_81 : decode cX1_fill 81 = .ok (.if_icmp .ge 31, 3) := by decide +kernel
theorem dX1_fill_84 : decode cX1_fill 84 = .ok (.aload_n 0, 1) := by decide +kernel
theorem dX1_fill_85 : decode cX1_fill 85 = .ok (.iload_n 1, 1) := by decide +kernel
theorem dX1_fill_86 : decode cX1_fill 86 = .ok (.invokevirtual 122, 3) := by decide +kernel
theorem dX1_fill_89 : decode cX1_fill 89 = .ok (.iconst (-1), 1) := by decide +kernel
theorem dX1_fill_90 : decode cX1_fill 90 = .ok (.if_icmp .eq 22, 3) := by decide +kernel
theorem dX1_fill_93 : decode cX1_fill 93 = .ok (.aload_n 0, 1) := by decide +kernel
theorem dX1_fill_94 : decode cX1_fill 94 = .ok (.iload_n 1, 1) := by decide +kernel
theorem dX1_fill_95 : decode cX1_fill 95 = .ok (.aload_n 0, 1) := by decide +kernel
theorem dX1_fill_96 : decode cX1_fill 96 = .ok (.iload_n 1, 1) := by decide +kernel
theorem dX1_fill_97 : decode cX1_fill 97 = .ok (.invokevirtual 122, 3) := by decide +kernel
theorem dX1_fill_100 : decode cX1_fill 100 = .ok (.iconst 0, 1) := by decide +kernel
theorem dX1_fill_101 : decode cX1_fill 101 = .ok (.invokevirtual 116, 3) := by decide +kernel
theorem dX1_fill_104 : decode cX1_fill 104 = .ok (.istore 5, 2) := by decide +kernel
theorem dX1_fill_106 : decode cX1_fill 106 = .ok (.iinc 4 1, 3) := by decide +kernel
theorem dX1_fill_109 : decode cX1_fill 109 = .ok (.goto (-65), 3) := by decide +kernel
theorem dX1_fill_112 : decode cX1_fill 112 = .ok (.iload 4, 2) := by decide +kernel
theorem dX1_fill_114 : decode cX1_fill 114 = .ok (.ireturn, 1) := by decide +kernel
set_option maxRecDepth 20000 in
theorem ggX1_move_X1_isSpot : GoodIn wsX1_move wsX1_isSpot := goodIn_r _ [8, 9, 10, 11, 7, 12, 51, 52, 53, 54, 55, 56, 57, 58, 59, 60, 61, 62, 63, 64, 65, 66, 67, 68, 69] (by decide +kernel) (by decide +kernel)
set_option maxRecDepth 20000 in
theorem gX1_move_X1_isSpot : GoodIn wsX1_move (wsV RX1 125 RX1 yX1_isSpot wsX1_isSpot) := goodIn_app (goodIn_of _ (by decide +kernel)) ggX1_move_X1_isSpot
set_option maxRecDepth 20000 in
theorem ggX1_move_X1_isBreak : GoodIn wsX1_move wsX1_isBreak := goodIn_r _ [16, 17, 10, 11, 7, 12, 51, 52, 53, 54, 55, 56, 57, 58, 59, 60, 61, 62, 63, 64, 65, 66, 67, 68, 69] (by decide +kernel) (by decide +kernel)
set_option maxRecDepth 20000 in
theorem gX1_move_X1_isBreak : GoodIn wsX1_move (wsV RX1 77 RX1 yX1_isBreak wsX1_isBreak) := goodIn_app (goodIn_of _ (by decide +kernel)) ggX1_move_X1_isBreak
set_option maxRecDepth 20000 in
theorem ggX1_move_X1_why : GoodIn wsX1_move wsX1_why := goodIn_r _ [21, 22, 23, 24, 17, 25, 26, 27, 7, 28, 29, 9, 3, 30, 31, 32, 33, 2, 1, 34, 35, 36, 37, 38, 39, 40, 41, 42, 43, 44, 45, 51, 52, 53, 54, 55, 56, 57, 58, 59, 60, 61, 62, 63, 64, 65, 66, 67, 68, 69] (by decide +kernel) (by decide +kernel)
set_option maxRecDepth 20000 in
theorem gX1_move_X1_why : GoodIn wsX1_move (wsV RX1 112 RX1 yX1_why wsX1_why) := goodIn_app (goodIn_of _ (by decide +kernel)) ggX1_move_X1_why
set_option maxRecDepth 20000 in
theorem ggX1_move_X1_goes : GoodIn wsX1_move wsX1_goes := goodIn_r _ [49, 50, 51, 52, 53, 54, 55, 56, 57, 58, 59, 60, 61, 62, 63, 64, 65, 66, 67, 68, 69] (by decide +kernel) (by decide +kernel)
set_option maxRecDepth 20000 in
theorem gX1_move_X1_goes : GoodIn wsX1_move (wsV RX1 73 RX1 yX1_goes wsX1_goes) := goodIn_app (goodIn_of _ (by decide +kernel)) ggX1_move_X1_goes
theorem dX1_move_0 : decode cX1_move 0 = .ok (.aload_n 0, 1) := by decide +kernel
theorem dX1_move_1 : decode cX1_move 1 = .ok (.iload_n 1, 1) := by decide +kernel
theorem dX1_move_2 : decode cX1_move 2 = .ok (.invokevirtual 125, 3) := by decide +kernel
theorem dX1_move_5 : decode cX1_move 5 = .ok (.ifCond .eq 15, 3) := by decide +kernel
theorem dX1_move_8 : decode cX1_move 8 = .ok (.aload_n 0, 1) := by decide +kernel
theorem dX1_move_9 : decode cX1_move 9 = .ok (.iload_n 2, 1) := by decide +kernel
theorem dX1_move_10 : decode cX1_move 10 = .ok (.invokevirtual 77, 3) := by decide +kernel
theorem dX1_move_13 : decode cX1_move 13 = .ok (.ifCond .eq 7, 3) := by decide +kernel
theorem dX1_move_16 : decode cX1_move 16 = .ok (.iconst 1, 1) := by decide +kernel
theorem dX1_move_17 : decode cX1_move 17 = .ok (.goto 4, 3) := by decide +kernel
theorem dX1_move_20 : decode cX1_move 20 = .ok (.iconst 0, 1) := by decide +kernel
theorem dX1_move_21 : decode cX1_move 21 = .ok (.istore_n 3, 1) := by decide +kernel
theorem dX1_move_22 : decode cX1_move 22 = .ok (.iload_n 3, 1) := by decide +kernel
theorem dX1_move_23 : decode cX1_move 23 = .ok (.ifCond .eq 41, 3) := by decide +kernel
theorem dX1_move_26 : decode cX1_move 26 = .ok (.aload_n 0, 1) := by decide +kernel
theorem dX1_move_27 : decode cX1_move 27 = .ok (.getfield 50, 3) := by decide +kernel
theorem dX1_move_30 : decode cX1_move 30 = .ok (.iload_n 1, 1) := by decide +kernel
theorem dX1_move_31 : decode cX1_move 31 = .ok (.iaload, 1) := by decide +kernel
theorem dX1_move_32 : decode cX1_move 32 = .ok (.ifCond .ne 32, 3) := by decide +kernel
theorem dX1_move_35 : decode cX1_move 35 = .ok (.aload_n 0, 1) := by decide +kernel
theorem dX1_move_36 : decode cX1_move 36 = .ok (.getfield 47, 3) := by decide +kernel
theorem dX1_move_39 : decode cX1_move 39 = .ok (.iload_n 1, 1) := by decide +kernel
theorem dX1_move_40 : decode cX1_move 40 = .ok (.iaload, 1) := by decide +kernel
theorem dX1_move_41 : decode cX1_move 41 = .ok (.iload_n 2, 1) := by decide +kernel
theorem dX1_move_42 : decode cX1_move 42 = .ok (.if_icmp .eq 18, 3) := by decide +kernel
theorem dX1_move_45 : decode cX1_move 45 = .ok (.aload_n 0, 1) := by decide +kernel
theorem dX1_move_46 : decode cX1_move 46 = .ok (.aload_n 0, 1) := by decide +kernel
theorem dX1_move_47 : decode cX1_move 47 = .ok (.getfield 44, 3) := by decide +kernel
theorem dX1_move_50 : decode cX1_move 50 = .ok (.iload_n 1, 1) := by decide +kernel
theorem dX1_move_51 : decode cX1_move 51 = .ok (.iaload, 1) := by decide +kernel
theorem dX1_move_52 : decode cX1_move 52 = .ok (.iload_n 2, 1) := by decide +kernel
theorem dX1_move_53 : decode cX1_move 53 = .ok (.iload_n 1, 1) := by decide +kernel
theorem dX1_move_54 : decode cX1_move 54 = .ok (.invokevirtual 112, 3) := by decide +kernel
theorem dX1_move_57 : decode cX1_move 57 = .ok (.ifCond .ne 7, 3) := by decide +kernel
theorem dX1_move_60 : decode cX1_move 60 = .ok (.iconst 1, 1) := by decide +kernel
theorem dX1_move_61 : decode cX1_move 61 = .ok (.goto 4, 3) := by decide +kernel
theorem dX1_move_64 : decode cX1_move 64 = .ok (.iconst 0, 1) := by decide +kernel
theorem dX1_move_65 : decode cX1_move 65 = .ok (.istore 4, 2) := by decide +kernel
theorem dX1_move_67 : decode cX1_move 67 = .ok (.aload_n 0, 1) := by decide +kernel
theorem dX1_move_68 : decode cX1_move 68 = .ok (.iload_n 3, 1) := by decide +kernel
theorem dX1_move_69 : decode cX1_move 69 = .ok (.iload 4, 2) := by decide +kernel
theorem dX1_move_71 : decode cX1_move 71 = .ok (.iconst 1, 1) := by decide +kernel
theorem dX1_move_72 : decode cX1_move 72 = .ok (.invokevirtual 73, 3) := by decide +kernel
theorem dX1_move_75 : decode cX1_move 75 = .ok (.ifCond .ne 5, 3) := by decide +kernel
theorem dX1_move_78 : decode cX1_move 78 = .ok (.iconst 0, 1) := by decide +kernel
theorem dX1_move_79 : decode cX1_move 79 = .ok (.ireturn, 1) := by decide +kernel
theorem dX1_move_80 : decode cX1_move 80 = .ok (.aload_n 0, 1) := by decide +kernel
theorem dX1_move_81 : decode cX1_move 81 = .ok (.getfield 47, 3) := by decide +kernel
theorem dX1_move_84 : decode cX1_move 84 = .ok (.iload_n 1, 1) := by decide +kernel
theorem dX1_move_85 : decode cX1_move 85 = .ok (.iaload, 1) := by decide +kernel
theorem dX1_move_86 : decode cX1_move 86 = .ok (.istore 5, 2) := by decide +kernel
theorem dX1_move_88 : decode cX1_move 88 = .ok (.aload_n 0, 1) := by decide +kernel
theorem dX1_move_89 : decode cX1_move 89 = .ok (.getfield 47, 3) := by decide +kernel
theorem dX1_move_92 : decode cX1_move 92 = .ok (.iload_n 1, 1) := by decide +kernel
theorem dX1_move_93 : decode cX1_move 93 = .ok (.iload_n 2, 1) := by decide +kernel
theorem dX1_move_94 : decode cX1_move 94 = .ok (.iastore, 1) := by decide +kernel
theorem dX1_move_95 : decode cX1_move 95 = .ok (.iload 5, 2) := by decide +kernel
theorem dX1_move_97 : decode cX1_move 97 = .ok (.ireturn, 1) := by decide +kernel
set_option maxRecDepth 20000 in
theorem ggX1_miss_X1_isSpot : GoodIn wsX1_miss wsX1_isSpot := goodIn_r _ [6, 7, 8, 9, 5, 10, 16, 17, 18, 19, 20, 21, 22, 23, 24, 25, 26, 27, 28, 29, 30, 31, 32, 33, 34] (by decide +kernel) (by decide +kernel)
set_option maxRecDepth 20000 in
theorem gX1_miss_X1_isSpot : GoodIn wsX1_miss (wsV RX1 125 RX1 yX1_isSpot wsX1_isSpot) := goodIn_app (goodIn_of _ (by decide +kernel)) ggX1_miss_X1_isSpot
set_option maxRecDepth 20000 in
theorem ggX1_miss_X1_goes : GoodIn wsX1_miss wsX1_goes := goodIn_r _ [14, 15, 16, 17, 18, 19, 20, 21, 22, 23, 24, 25, 26, 27, 28, 29, 30, 31, 32, 33, 34] (by decide +kernel) (by decide +kernel)
set_option maxRecDepth 20000 in
theorem gX1_miss_X1_goes : GoodIn wsX1_miss (wsV RX1 73 RX1 yX1_goes wsX1_goes) := goodIn_app (goodIn_of _ (by decide +kernel)) ggX1_miss_X1_goes
theorem dX1_miss_0 : decode cX1_miss 0 = .ok (.aload_n 0, 1) := by decide +kernel
theorem dX1_miss_1 : decode cX1_miss 1 = .ok (.iload_n 1, 1) := by decide +kernel
theorem dX1_miss_2 : decode cX1_miss 2 = .ok (.invokevirtual 125, 3) := by decide +kernel
theorem dX1_miss_5 : decode cX1_miss 5 = .ok (.istore_n 2, 1) := by decide +kernel
theorem dX1_miss_6 : decode cX1_miss 6 = .ok (.aload_n 0, 1) := by decide +kernel
theorem dX1_miss_7 : decode cX1_miss 7 = .ok (.iload_n 2, 1) := by decide +kernel
theorem dX1_miss_8 : decode cX1_miss 8 = .ok (.iload_n 2, 1) := by decide +kernel
theorem dX1_miss_9 : decode cX1_miss 9 = .ok (.ifCond .eq 26, 3) := by decide +kernel
theorem dX1_miss_12 : decode cX1_miss 12 = .ok (.aload_n 0, 1) := by decide +kernel
theorem dX1_miss_13 : decode cX1_miss 13 = .ok (.getfield 50, 3) := by decide +kernel
theorem dX1_miss_16 : decode cX1_miss 16 = .ok (.iload_n 1, 1) := by decide +kernel
theorem dX1_miss_17 : decode cX1_miss 17 = .ok (.iaload, 1) := by decide +kernel
theorem dX1_miss_18 : decode cX1_miss 18 = .ok (.ifCond .eq 13, 3) := by decide +kernel
theorem dX1_miss_21 : decode cX1_miss 21 = .ok (.aload_n 0, 1) := by decide +kernel
theorem dX1_miss_22 : decode cX1_miss 22 = .ok (.getfield 50, 3) := by decide +kernel
theorem dX1_miss_25 : decode cX1_miss 25 = .ok (.iload_n 1, 1) := by decide +kernel
theorem dX1_miss_26 : decode cX1_miss 26 = .ok (.iaload, 1) := by decide +kernel
theorem dX1_miss_27 : decode cX1_miss 27 = .ok (.iconst 1, 1) := by decide +kernel
theorem dX1_miss_28 : decode cX1_miss 28 = .ok (.if_icmp .ne 7, 3) := by decide +kernel
theorem dX1_miss_31 : decode cX1_miss 31 = .ok (.iconst 1, 1) := by decide +kernel
theorem dX1_miss_32 : decode cX1_miss 32 = .ok (.goto 4, 3) := by decide +kernel
theorem dX1_miss_35 : decode cX1_miss 35 = .ok (.iconst 0, 1) := by decide +kernel
theorem dX1_miss_36 : decode cX1_miss 36 = .ok (.iconst 1, 1) := by decide +kernel
theorem dX1_miss_37 : decode cX1_miss 37 = .ok (.invokevirtual 73, 3) := by decide +kernel
theorem dX1_miss_40 : decode cX1_miss 40 = .ok (.ifCond .ne 5, 3) := by decide +kernel
theorem dX1_miss_43 : decode cX1_miss 43 = .ok (.iconst 0, 1) := by decide +kernel
theorem dX1_miss_44 : decode cX1_miss 44 = .ok (.ireturn, 1) := by decide +kernel
theorem dX1_miss_45 : decode cX1_miss 45 = .ok (.aload_n 0, 1) := by decide +kernel
theorem dX1_miss_46 : decode cX1_miss 46 = .ok (.getfield 50, 3) := by decide +kernel
theorem dX1_miss_49 : decode cX1_miss 49 = .ok (.iload_n 1, 1) := by decide +kernel
theorem dX1_miss_50 : decode cX1_miss 50 = .ok (.iaload, 1) := by decide +kernel
theorem dX1_miss_51 : decode cX1_miss 51 = .ok (.iconst 1, 1) := by decide +kernel
theorem dX1_miss_52 : decode cX1_miss 52 = .ok (.if_icmp .ne 7, 3) := by decide +kernel
theorem dX1_miss_55 : decode cX1_miss 55 = .ok (.iconst 1, 1) := by decide +kernel
theorem dX1_miss_56 : decode cX1_miss 56 = .ok (.goto 4, 3) := by decide +kernel
theorem dX1_miss_59 : decode cX1_miss 59 = .ok (.iconst 0, 1) := by decide +kernel
theorem dX1_miss_60 : decode cX1_miss 60 = .ok (.istore_n 3, 1) := by decide +kernel
theorem dX1_miss_61 : decode cX1_miss 61 = .ok (.aload_n 0, 1) := by decide +kernel
theorem dX1_miss_62 : decode cX1_miss 62 = .ok (.getfield 50, 3) := by decide +kernel
theorem dX1_miss_65 : decode cX1_miss 65 = .ok (.iload_n 1, 1) := by decide +kernel
theorem dX1_miss_66 : decode cX1_miss 66 = .ok (.iconst 2, 1) := by decide +kernel
theorem dX1_miss_67 : decode cX1_miss 67 = .ok (.iastore, 1) := by decide +kernel
theorem dX1_miss_68 : decode cX1_miss 68 = .ok (.iload_n 3, 1) := by decide +kernel
theorem dX1_miss_69 : decode cX1_miss 69 = .ok (.ireturn, 1) := by decide +kernel
set_option maxRecDepth 20000 in
theorem ggX1_drop_X1_isSpot : GoodIn wsX1_drop wsX1_isSpot := goodIn_r _ [6, 7, 8, 9, 5, 10, 16, 17, 18, 19, 20, 21, 22, 23, 24, 25, 26, 27, 28, 29, 30, 31, 32, 33, 34] (by decide +kernel) (by decide +kernel)
set_option maxRecDepth 20000 in
theorem gX1_drop_X1_isSpot : GoodIn wsX1_drop (wsV RX1 125 RX1 yX1_isSpot wsX1_isSpot) := goodIn_app (goodIn_of _ (by decide +kernel)) ggX1_drop_X1_isSpot
set_option maxRecDepth 20000 in
theorem ggX1_drop_X1_goes : GoodIn wsX1_drop wsX1_goes := goodIn_r _ [14, 15, 16, 17, 18, 19, 20, 21, 22, 23, 24, 25, 26, 27, 28, 29, 30, 31, 32, 33, 34] (by decide +kernel) (by decide +kernel)
set_option maxRecDepth 20000 in
theorem gX1_drop_X1_goes : GoodIn wsX1_drop (wsV RX1 73 RX1 yX1_goes wsX1_goes) := goodIn_app (goodIn_of _ (by decide +kernel)) ggX1_drop_X1_goes
theorem dX1_drop_0 : decode cX1_drop 0 = .ok (.aload_n 0, 1) := by decide +kernel
theorem dX1_drop_1 : decode cX1_drop 1 = .ok (.iload_n 1, 1) := by decide +kernel
theorem dX1_drop_2 : decode cX1_drop 2 = .ok (.invokevirtual 125, 3) := by decide +kernel
theorem dX1_drop_5 : decode cX1_drop 5 = .ok (.istore_n 2, 1) := by decide +kernel
theorem dX1_drop_6 : decode cX1_drop 6 = .ok (.aload_n 0, 1) := by decide +kernel
theorem dX1_drop_7 : decode cX1_drop 7 = .ok (.iload_n 2, 1) := by decide +kernel
theorem dX1_drop_8 : decode cX1_drop 8 = .ok (.iload_n 2, 1) := by decide +kernel
theorem dX1_drop_9 : decode cX1_drop 9 = .ok (.ifCond .eq 16, 3) := by decide +kernel
theorem dX1_drop_12 : decode cX1_drop 12 = .ok (.aload_n 0, 1) := by decide +kernel
theorem dX1_drop_13 : decode cX1_drop 13 = .ok (.getfield 50, 3) := by decide +kernel
theorem dX1_drop_16 : decode cX1_drop 16 = .ok (.iload_n 1, 1) := by decide +kernel
theorem dX1_drop_17 : decode cX1_drop 17 = .ok (.iaload, 1) := by decide +kernel
theorem dX1_drop_18 : decode cX1_drop 18 = .ok (.ifCond .ne 7, 3) := by decide +kernel
theorem dX1_drop_21 : decode cX1_drop 21 = .ok (.iconst 1, 1) := by decide +kernel
theorem dX1_drop_22 : decode cX1_drop 22 = .ok (.goto 4, 3) := by decide +kernel
theorem dX1_drop_25 : decode cX1_drop 25 = .ok (.iconst 0, 1) := by decide +kernel
theorem dX1_drop_26 : decode cX1_drop 26 = .ok (.iconst 1, 1) := by decide +kernel
theorem dX1_drop_27 : decode cX1_drop 27 = .ok (.invokevirtual 73, 3) := by decide +kernel
theorem dX1_drop_30 : decode cX1_drop 30 = .ok (.ifCond .eq 10, 3) := by decide +kernel
theorem dX1_drop_33 : decode cX1_drop 33 = .ok (.aload_n 0, 1) := by decide +kernel
theorem dX1_drop_34 : decode cX1_drop 34 = .ok (.getfield 50, 3) := by decide +kernel
theorem dX1_drop_37 : decode cX1_drop 37 = .ok (.iload_n 1, 1) := by decide +kernel
theorem dX1_drop_38 : decode cX1_drop 38 = .ok (.iconst 3, 1) := by decide +kernel
theorem dX1_drop_39 : decode cX1_drop 39 = .ok (.iastore, 1) := by decide +kernel
theorem dX1_drop_40 : decode cX1_drop 40 = .ok (.return_, 1) := by decide +kernel
set_option maxRecDepth 20000 in
theorem ggX1_spots_X1_told : GoodIn wsX1_spots wsX1_told := goodIn_r _ [6, 7, 8, 9, 10, 11, 12, 13, 14, 15, 16, 17, 18, 19, 20, 21, 22, 23, 24, 25, 26] (by decide +kernel) (by decide +kernel)
set_option maxRecDepth 20000 in
theorem gX1_spots_X1_told : GoodIn wsX1_spots (wsV RX1 82 RX1 yX1_told wsX1_told) := goodIn_app (goodIn_of _ (by decide +kernel)) ggX1_spots_X1_told
theorem dX1_spots_0 : decode cX1_spots 0 = .ok (.aload_n 0, 1) := by decide +kernel
theorem dX1_spots_1 : decode cX1_spots 1 = .ok (.aload_n 0, 1) := by decide +kernel
theorem dX1_spots_2 : decode cX1_spots 2 = .ok (.getfield 70, 3) := by decide +kernel
theorem dX1_spots_5 : decode cX1_spots 5 = .ok (.invokevirtual 82, 3) := by decide +kernel
theorem dX1_spots_8 : decode cX1_spots 8 = .ok (.ireturn, 1) := by decide +kernel
set_option maxRecDepth 20000 in
theorem ggX1_stateOf_X1_isSpot : GoodIn wsX1_stateOf wsX1_isSpot := goodIn_r _ [6, 7, 8, 9, 5, 10, 16, 17, 18, 19, 20, 21, 22, 23, 24, 25, 26, 27, 28, 29, 30, 31, 32, 33, 34] (by decide +kernel) (by decide +kernel)
set_option maxRecDepth 20000 in
theorem gX1_stateOf_X1_isSpot : GoodIn wsX1_stateOf (wsV RX1 125 RX1 yX1_isSpot wsX1_isSpot) := goodIn_app (goodIn_of _ (by decide +kernel)) ggX1_stateOf_X1_isSpot
set_option maxRecDepth 20000 in
theorem ggX1_stateOf_X1_goes : GoodIn wsX1_stateOf wsX1_goes := goodIn_r _ [14, 15, 16, 17, 18, 19, 20, 21, 22, 23, 24, 25, 26, 27, 28, 29, 30, 31, 32, 33, 34] (by decide +kernel) (by decide +kernel)
set_option maxRecDepth 20000 in
theorem gX1_stateOf_X1_goes : GoodIn wsX1_stateOf (wsV RX1 73 RX1 yX1_goes wsX1_goes) := goodIn_app (goodIn_of _ (by decide +kernel)) ggX1_stateOf_X1_goes
theorem dX1_stateOf_0 : decode cX1_stateOf 0 = .ok (.aload_n 0, 1) := by decide +kernel
theorem dX1_stateOf_1 : decode cX1_stateOf 1 = .ok (.aload_n 0, 1) := by decide +kernel
theorem dX1_stateOf_2 : decode cX1_stateOf 2 = .ok (.iload_n 1, 1) := by decide +kernel
theorem dX1_stateOf_3 : decode cX1_stateOf 3 = .ok (.invokevirtual 125, 3) := by decide +kernel
theorem dX1_stateOf_6 : decode cX1_stateOf 6 = .ok (.iconst 1, 1) := by decide +kernel
theorem dX1_stateOf_7 : decode cX1_stateOf 7 = .ok (.iconst 1, 1) := by decide +kernel
theorem dX1_stateOf_8 : decode cX1_stateOf 8 = .ok (.invokevirtual 73, 3) := by decide +kernel
theorem dX1_stateOf_11 : decode cX1_stateOf 11 = .ok (.ifCond .eq 12, 3) := by decide +kernel
theorem dX1_stateOf_14 : decode cX1_stateOf 14 = .ok (.aload_n 0, 1) := by decide +kernel
theorem dX1_stateOf_15 : decode cX1_stateOf 15 = .ok (.getfield 50, 3) := by decide +kernel
theorem dX1_stateOf_18 : decode cX1_stateOf 18 = .ok (.iload_n 1, 1) := by decide +kernel
theorem dX1_stateOf_19 : decode cX1_stateOf 19 = .ok (.iaload, 1) := by decide +kernel
theorem dX1_stateOf_20 : decode cX1_stateOf 20 = .ok (.goto 4, 3) := by decide +kernel
theorem dX1_stateOf_23 : decode cX1_stateOf 23 = .ok (.iconst 0, 1) := by decide +kernel
theorem dX1_stateOf_24 : decode cX1_stateOf 24 = .ok (.ireturn, 1) := by decide +kernel
set_option maxRecDepth 20000 in
theorem ggX1_breakOf_X1_isSpot : GoodIn wsX1_breakOf wsX1_isSpot := goodIn_r _ [6, 7, 8, 9, 5, 10, 16, 17, 18, 19, 20, 21, 22, 23, 24, 25, 26, 27, 28, 29, 30, 31, 32, 33, 34] (by decide +kernel) (by decide +kernel)
set_option maxRecDepth 20000 in
theorem gX1_breakOf_X1_isSpot : GoodIn wsX1_breakOf (wsV RX1 125 RX1 yX1_isSpot wsX1_isSpot) := goodIn_app (goodIn_of _ (by decide +kernel)) ggX1_breakOf_X1_isSpot
set_option maxRecDepth 20000 in
theorem ggX1_breakOf_X1_goes : GoodIn wsX1_breakOf wsX1_goes := goodIn_r _ [14, 15, 16, 17, 18, 19, 20, 21, 22, 23, 24, 25, 26, 27, 28, 29, 30, 31, 32, 33, 34] (by decide +kernel) (by decide +kernel)
set_option maxRecDepth 20000 in
theorem gX1_breakOf_X1_goes : GoodIn wsX1_breakOf (wsV RX1 73 RX1 yX1_goes wsX1_goes) := goodIn_app (goodIn_of _ (by decide +kernel)) ggX1_breakOf_X1_goes
theorem dX1_breakOf_0 : decode cX1_breakOf 0 = .ok (.aload_n 0, 1) := by decide +kernel
theorem dX1_breakOf_1 : decode cX1_breakOf 1 = .ok (.aload_n 0, 1) := by decide +kernel
theorem dX1_breakOf_2 : decode cX1_breakOf 2 = .ok (.iload_n 1, 1) := by decide +kernel
theorem dX1_breakOf_3 : decode cX1_breakOf 3 = .ok (.invokevirtual 125, 3) := by decide +kernel
theorem dX1_breakOf_6 : decode cX1_breakOf 6 = .ok (.iconst 1, 1) := by decide +kernel
theorem dX1_breakOf_7 : decode cX1_breakOf 7 = .ok (.iconst 1, 1) := by decide +kernel
theorem dX1_breakOf_8 : decode cX1_breakOf 8 = .ok (.invokevirtual 73, 3) := by decide +kernel
theorem dX1_breakOf_11 : decode cX1_breakOf 11 = .ok (.ifCond .eq 12, 3) := by decide +kernel
theorem dX1_breakOf_14 : decode cX1_breakOf 14 = .ok (.aload_n 0, 1) := by decide +kernel
theorem dX1_breakOf_15 : decode cX1_breakOf 15 = .ok (.getfield 47, 3) := by decide +kernel
theorem dX1_breakOf_18 : decode cX1_breakOf 18 = .ok (.iload_n 1, 1) := by decide +kernel
theorem dX1_breakOf_19 : decode cX1_breakOf 19 = .ok (.iaload, 1) := by decide +kernel
theorem dX1_breakOf_20 : decode cX1_breakOf 20 = .ok (.goto 4, 3) := by decide +kernel
theorem dX1_breakOf_23 : decode cX1_breakOf 23 = .ok (.iconst 0, 1) := by decide +kernel
theorem dX1_breakOf_24 : decode cX1_breakOf 24 = .ok (.ireturn, 1) := by decide +kernel
set_option maxRecDepth 20000 in
theorem ggX1_delivered_X1_isOrder : GoodIn wsX1_delivered wsX1_isOrder := goodIn_r _ [5, 6, 7, 8, 4, 9, 30, 31, 32, 33, 34, 35, 36, 37, 38, 39, 40, 41, 42, 43, 44, 45, 46, 47, 48] (by decide +kernel) (by decide +kernel)
set_option maxRecDepth 20000 in
theorem gX1_delivered_X1_isOrder : GoodIn wsX1_delivered (wsV RX1 105 RX1 yX1_isOrder wsX1_isOrder) := goodIn_app (goodIn_of _ (by decide +kernel)) ggX1_delivered_X1_isOrder
set_option maxRecDepth 20000 in
theorem ggX1_delivered_X1_goes : GoodIn wsX1_delivered wsX1_goes := goodIn_r _ [13, 14, 30, 31, 32, 33, 34, 35, 36, 37, 38, 39, 40, 41, 42, 43, 44, 45, 46, 47, 48] (by decide +kernel) (by decide +kernel)
set_option maxRecDepth 20000 in
theorem gX1_delivered_X1_goes : GoodIn wsX1_delivered (wsV RX1 73 RX1 yX1_goes wsX1_goes) := goodIn_app (goodIn_of _ (by decide +kernel)) ggX1_delivered_X1_goes
set_option maxRecDepth 20000 in
theorem ggX1_delivered_X1_sums : GoodIn wsX1_delivered wsX1_sums := goodIn_r _ [18, 19, 20, 21, 22, 23, 24, 25, 26, 4, 27, 28, 29, 30, 31, 32, 33, 34, 35, 36, 37, 38, 39, 40, 41, 42, 43, 44, 45, 46, 47, 48] (by decide +kernel) (by decide +kernel)
set_option maxRecDepth 20000 in
theorem gX1_delivered_X1_sums : GoodIn wsX1_delivered (wsV RX1 98 RX1 yX1_sums wsX1_sums) := goodIn_app (goodIn_of _ (by decide +kernel)) ggX1_delivered_X1_sums
theorem dX1_delivered_0 : decode cX1_delivered 0 = .ok (.aload_n 0, 1) := by decide +kernel
theorem dX1_delivered_1 : decode cX1_delivered 1 = .ok (.aload_n 0, 1) := by decide +kernel
theorem dX1_delivered_2 : decode cX1_delivered 2 = .ok (.iload_n 1, 1) := by decide +kernel
theorem dX1_delivered_3 : decode cX1_delivered 3 = .ok (.invokevirtual 105, 3) := by decide +kernel
theorem dX1_delivered_6 : decode cX1_delivered 6 = .ok (.iconst 1, 1) := by decide +kernel
theorem dX1_delivered_7 : decode cX1_delivered 7 = .ok (.iconst 1, 1) := by decide +kernel
theorem dX1_delivered_8 : decode cX1_delivered 8 = .ok (.invokevirtual 73, 3) := by decide +kernel
theorem dX1_delivered_11 : decode cX1_delivered 11 = .ok (.ifCond .eq 13, 3) := by decide +kernel
theorem dX1_delivered_14 : decode cX1_delivered 14 = .ok (.aload_n 0, 1) := by decide +kernel
theorem dX1_delivered_15 : decode cX1_delivered 15 = .ok (.iload_n 1, 1) := by decide +kernel
theorem dX1_delivered_16 : decode cX1_delivered 16 = .ok (.iconst 1, 1) := by decide +kernel
theorem dX1_delivered_17 : decode cX1_delivered 17 = .ok (.iconst 0, 1) := by decide +kernel
theorem dX1_delivered_18 : decode cX1_delivered 18 = .ok (.invokevirtual 98, 3) := by decide +kernel
theorem dX1_delivered_21 : decode cX1_delivered 21 = .ok (.goto 4, 3) := by decide +kernel
theorem dX1_delivered_24 : decode cX1_delivered 24 = .ok (.iconst 0, 1) := by decide +kernel
theorem dX1_delivered_25 : decode cX1_delivered 25 = .ok (.ireturn, 1) := by decide +kernel
set_option maxRecDepth 20000 in
theorem ggX1_owed_X1_isOrder : GoodIn wsX1_owed wsX1_isOrder := goodIn_r _ [5, 6, 7, 8, 4, 9, 36, 37, 38, 39, 40, 41, 42, 43, 44, 45, 46, 47, 48, 49, 50, 51, 52, 53, 54] (by decide +kernel) (by decide +kernel)
set_option maxRecDepth 20000 in
theorem gX1_owed_X1_isOrder : GoodIn wsX1_owed (wsV RX1 105 RX1 yX1_isOrder wsX1_isOrder) := goodIn_app (goodIn_of _ (by decide +kernel)) ggX1_owed_X1_isOrder
set_option maxRecDepth 20000 in
theorem ggX1_owed_X1_goes : GoodIn wsX1_owed wsX1_goes := goodIn_r _ [13, 14, 36, 37, 38, 39, 40, 41, 42, 43, 44, 45, 46, 47, 48, 49, 50, 51, 52, 53, 54] (by decide +kernel) (by decide +kernel)
set_option maxRecDepth 20000 in
theorem gX1_owed_X1_goes : GoodIn wsX1_owed (wsV RX1 73 RX1 yX1_goes wsX1_goes) := goodIn_app (goodIn_of _ (by decide +kernel)) ggX1_owed_X1_goes
set_option maxRecDepth 20000 in
theorem ggX1_owed_X1_owes : GoodIn wsX1_owed wsX1_owes := goodIn_r _ [18, 19, 20, 21, 22, 23, 4, 24, 25, 26, 27, 28, 29, 30, 31, 32, 33, 34, 35, 36, 37, 38, 39, 40, 41, 42, 43, 44, 45, 46, 47, 48, 49, 50, 51, 52, 53, 54] (by decide +kernel) (by decide +kernel)
set_option maxRecDepth 20000 in
theorem gX1_owed_X1_owes : GoodIn wsX1_owed (wsV RX1 102 RX1 yX1_owes wsX1_owes) := goodIn_app (goodIn_of _ (by decide +kernel)) ggX1_owed_X1_owes
theorem dX1_owed_0 : decode cX1_owed 0 = .ok (.aload_n 0, 1) := by decide +kernel
theorem dX1_owed_1 : decode cX1_owed 1 = .ok (.aload_n 0, 1) := by decide +kernel
theorem dX1_owed_2 : decode cX1_owed 2 = .ok (.iload_n 1, 1) := by decide +kernel
theorem dX1_owed_3 : decode cX1_owed 3 = .ok (.invokevirtual 105, 3) := by decide +kernel
theorem dX1_owed_6 : decode cX1_owed 6 = .ok (.iconst 1, 1) := by decide +kernel
theorem dX1_owed_7 : decode cX1_owed 7 = .ok (.iconst 1, 1) := by decide +kernel
theorem dX1_owed_8 : decode cX1_owed 8 = .ok (.invokevirtual 73, 3) := by decide +kernel
theorem dX1_owed_11 : decode cX1_owed 11 = .ok (.ifCond .eq 11, 3) := by decide +kernel
theorem dX1_owed_14 : decode cX1_owed 14 = .ok (.aload_n 0, 1) := by decide +kernel
theorem dX1_owed_15 : decode cX1_owed 15 = .ok (.iload_n 1, 1) := by decide +kernel
theorem dX1_owed_16 : decode cX1_owed 16 = .ok (.invokevirtual 102, 3) := by decide +kernel
theorem dX1_owed_19 : decode cX1_owed 19 = .ok (.goto 4, 3) := by decide +kernel
theorem dX1_owed_22 : decode cX1_owed 22 = .ok (.iconst 0, 1) := by decide +kernel
theorem dX1_owed_23 : decode cX1_owed 23 = .ok (.ireturn, 1) := by decide +kernel
set_option maxRecDepth 20000 in
theorem ggX1_rest_X1_isOrder : GoodIn wsX1_rest wsX1_isOrder := goodIn_r _ [5, 6, 7, 8, 4, 9, 40, 41, 42, 43, 44, 45, 46, 47, 48, 49, 50, 51, 52, 53, 54, 55, 56, 57, 58] (by decide +kernel) (by decide +kernel)
set_option maxRecDepth 20000 in
theorem gX1_rest_X1_isOrder : GoodIn wsX1_rest (wsV RX1 105 RX1 yX1_isOrder wsX1_isOrder) := goodIn_app (goodIn_of _ (by decide +kernel)) ggX1_rest_X1_isOrder
set_option maxRecDepth 20000 in
theorem ggX1_rest_X1_goes : GoodIn wsX1_rest wsX1_goes := goodIn_r _ [13, 14, 40, 41, 42, 43, 44, 45, 46, 47, 48, 49, 50, 51, 52, 53, 54, 55, 56, 57, 58] (by decide +kernel) (by decide +kernel)
set_option maxRecDepth 20000 in
theorem gX1_rest_X1_goes : GoodIn wsX1_rest (wsV RX1 73 RX1 yX1_goes wsX1_goes) := goodIn_app (goodIn_of _ (by decide +kernel)) ggX1_rest_X1_goes
set_option maxRecDepth 20000 in
theorem ggX1_rest_X1_left : GoodIn wsX1_rest wsX1_left := goodIn_r _ [18, 19, 20, 21, 4, 22, 23, 24, 25, 26, 27, 28, 29, 30, 31, 32, 33, 34, 35, 36, 37, 38, 39, 40, 41, 42, 43, 44, 45, 46, 47, 48, 49, 50, 51, 52, 53, 54, 55, 56, 57, 58] (by decide +kernel) (by decide +kernel)
set_option maxRecDepth 20000 in
theorem gX1_rest_X1_left : GoodIn wsX1_rest (wsV RX1 119 RX1 yX1_left wsX1_left) := goodIn_app (goodIn_of _ (by decide +kernel)) ggX1_rest_X1_left
theorem dX1_rest_0 : decode cX1_rest 0 = .ok (.aload_n 0, 1) := by decide +kernel
theorem dX1_rest_1 : decode cX1_rest 1 = .ok (.aload_n 0, 1) := by decide +kernel
theorem dX1_rest_2 : decode cX1_rest 2 = .ok (.iload_n 1, 1) := by decide +kernel
theorem dX1_rest_3 : decode cX1_rest 3 = .ok (.invokevirtual 105, 3) := by decide +kernel
theorem dX1_rest_6 : decode cX1_rest 6 = .ok (.iconst 1, 1) := by decide +kernel
theorem dX1_rest_7 : decode cX1_rest 7 = .ok (.iconst 1, 1) := by decide +kernel
theorem dX1_rest_8 : decode cX1_rest 8 = .ok (.invokevirtual 73, 3) := by decide +kernel
theorem dX1_rest_11 : decode cX1_rest 11 = .ok (.ifCond .eq 11, 3) := by decide +kernel
theorem dX1_rest_14 : decode cX1_rest 14 = .ok (.aload_n 0, 1) := by decide +kernel
theorem dX1_rest_15 : decode cX1_rest 15 = .ok (.iload_n 1, 1) := by decide +kernel
theorem dX1_rest_16 : decode cX1_rest 16 = .ok (.invokevirtual 119, 3) := by decide +kernel
theorem dX1_rest_19 : decode cX1_rest 19 = .ok (.goto 4, 3) := by decide +kernel
theorem dX1_rest_22 : decode cX1_rest 22 = .ok (.iconst 0, 1) := by decide +kernel
theorem dX1_rest_23 : decode cX1_rest 23 = .ok (.ireturn, 1) := by decide +kernel
theorem dX1_billOf_0 : decode cX1_billOf 0 = .ok (.iconst 0, 1) := by decide +kernel
theorem dX1_billOf_1 : decode cX1_billOf 1 = .ok (.istore_n 2, 1) := by decide +kernel
theorem dX1_billOf_2 : decode cX1_billOf 2 = .ok (.iconst 0, 1) := by decide +kernel
theorem dX1_billOf_3 : decode cX1_billOf 3 = .ok (.istore_n 3, 1) := by decide +kernel
theorem dX1_billOf_4 : decode cX1_billOf 4 = .ok (.iload_n 3, 1) := by decide +kernel
theorem dX1_billOf_5 : decode cX1_billOf 5 = .ok (.aload_n 0, 1) := by decide +kernel
theorem dX1_billOf_6 : decode cX1_billOf 6 = .ok (.getfield 70, 3) := by decide +kernel
theorem dX1_billOf_9 : decode cX1_billOf 9 = .ok (.if_icmp .ge 51, 3) := by decide +kernel
theorem dX1_billOf_12 : decode cX1_billOf 12 = .ok (.iload_n 2, 1) := by decide +kernel
theorem dX1_billOf_13 : decode cX1_billOf 13 = .ok (.aload_n 0, 1) := by decide +kernel
theorem dX1_billOf_14 : decode cX1_billOf 14 = .ok (.getfield 44, 3) := by decide +kernel
theorem dX1_billOf_17 : decode cX1_billOf 17 = .ok (.iload_n 3, 1) := by decide +kernel
theorem dX1_billOf_18 : decode cX1_billOf 18 = .ok (.iaload, 1) := by decide +kernel
theorem dX1_billOf_19 : decode cX1_billOf 19 = .ok (.iload_n 1, 1) := by decide +kernel
theorem dX1_billOf_20 : decode cX1_billOf 20 = .ok (.if_icmp .ne 31, 3) := by decide +kernel
theorem dX1_billOf_23 : decode cX1_billOf 23 = .ok (.aload_n 0, 1) := by decide +kernel
theorem dX1_billOf_24 : decode cX1_billOf 24 = .ok (.getfield 50, 3) := by decide +kernel
theorem dX1_billOf_27 : decode cX1_billOf 27 = .ok (.iload_n 3, 1) := by decide +kernel
theorem dX1_billOf_28 : decode cX1_billOf 28 = .ok (.iaload, 1) := by decide +kernel
theorem dX1_billOf_29 : decode cX1_billOf 29 = .ok (.iconst 1, 1) := by decide +kernel
theorem dX1_billOf_30 : decode cX1_billOf 30 = .ok (.if_icmp .ne 21, 3) := by decide +kernel
theorem dX1_billOf_33 : decode cX1_billOf 33 = .ok (.aload_n 0, 1) := by decide +kernel
theorem dX1_billOf_34 : decode cX1_billOf 34 = .ok (.getfield 53, 3) := by decide +kernel
theorem dX1_billOf_37 : decode cX1_billOf 37 = .ok (.iload_n 3, 1) := by decide +kernel
theorem dX1_billOf_38 : decode cX1_billOf 38 = .ok (.baload, 1) := by decide +kernel
theorem dX1_billOf_39 : decode cX1_billOf 39 = .ok (.ifCond .ne 12, 3) := by decide +kernel
theorem dX1_billOf_42 : decode cX1_billOf 42 = .ok (.aload_n 0, 1) := by decide +kernel
theorem dX1_billOf_43 : decode cX1_billOf 43 = .ok (.getfield 32, 3) := by decide +kernel
theorem dX1_billOf_46 : decode cX1_billOf 46 = .ok (.iload_n 1, 1) := by decide +kernel
theorem dX1_billOf_47 : decode cX1_billOf 47 = .ok (.iaload, 1) := by decide +kernel
theorem dX1_billOf_48 : decode cX1_billOf 48 = .ok (.goto 4, 3) := by decide +kernel
theorem dX1_billOf_51 : decode cX1_billOf 51 = .ok (.iconst 0, 1) := by decide +kernel
theorem dX1_billOf_52 : decode cX1_billOf 52 = .ok (.iadd, 1) := by decide +kernel
theorem dX1_billOf_53 : decode cX1_billOf 53 = .ok (.istore_n 2, 1) := by decide +kernel
theorem dX1_billOf_54 : decode cX1_billOf 54 = .ok (.iinc 3 1, 3) := by decide +kernel
theorem dX1_billOf_57 : decode cX1_billOf 57 = .ok (.goto (-53), 3) := by decide +kernel
theorem dX1_billOf_60 : decode cX1_billOf 60 = .ok (.iload_n 2, 1) := by decide +kernel
theorem dX1_billOf_61 : decode cX1_billOf 61 = .ok (.ireturn, 1) := by decide +kernel
set_option maxRecDepth 20000 in
theorem ggX1_bill_X1_isOrder : GoodIn wsX1_bill wsX1_isOrder := goodIn_r _ [5, 6, 7, 8, 4, 9, 24, 25, 26, 27, 28, 29, 30, 31, 32, 33, 34, 35, 36, 37, 38, 39, 40, 41, 42] (by decide +kernel) (by decide +kernel)
set_option maxRecDepth 20000 in
theorem gX1_bill_X1_isOrder : GoodIn wsX1_bill (wsV RX1 105 RX1 yX1_isOrder wsX1_isOrder) := goodIn_app (goodIn_of _ (by decide +kernel)) ggX1_bill_X1_isOrder
set_option maxRecDepth 20000 in
theorem ggX1_bill_X1_goes : GoodIn wsX1_bill wsX1_goes := goodIn_r _ [13, 14, 24, 25, 26, 27, 28, 29, 30, 31, 32, 33, 34, 35, 36, 37, 38, 39, 40, 41, 42] (by decide +kernel) (by decide +kernel)
set_option maxRecDepth 20000 in
theorem gX1_bill_X1_goes : GoodIn wsX1_bill (wsV RX1 73 RX1 yX1_goes wsX1_goes) := goodIn_app (goodIn_of _ (by decide +kernel)) ggX1_bill_X1_goes
set_option maxRecDepth 20000 in
theorem ggX1_bill_X1_billOf : GoodIn wsX1_bill wsX1_billOf := goodIn_r _ [18, 19, 20, 21, 22, 23, 24, 25, 26, 27, 28, 29, 30, 31, 32, 33, 34, 35, 36, 37, 38, 39, 40, 41, 42] (by decide +kernel) (by decide +kernel)
set_option maxRecDepth 20000 in
theorem gX1_bill_X1_billOf : GoodIn wsX1_bill (wsV RX1 128 RX1 yX1_billOf wsX1_billOf) := goodIn_app (goodIn_of _ (by decide +kernel)) ggX1_bill_X1_billOf
theorem dX1_bill_0 : decode cX1_bill 0 = .ok (.aload_n 0, 1) := by decide +kernel
theorem dX1_bill_1 : decode cX1_bill 1 = .ok (.aload_n 0, 1) := by decide +kernel
theorem dX1_bill_2 : decode cX1_bill 2 = .ok (.iload_n 1, 1) := by decide +kernel
theorem dX1_bill_3 : decode cX1_bill 3 = .ok (.invokevirtual 105, 3) := by decide +kernel
theorem dX1_bill_6 : decode cX1_bill 6 = .ok (.iconst 1, 1) := by decide +kernel
theorem dX1_bill_7 : decode cX1_bill 7 = .ok (.iconst 1, 1) := by decide +kernel
theorem dX1_bill_8 : decode cX1_bill 8 = .ok (.invokevirtual 73, 3) := by decide +kernel
theorem dX1_bill_11 : decode cX1_bill 11 = .ok (.ifCond .eq 11, 3) := by decide +kernel
theorem dX1_bill_14 : decode cX1_bill 14 = .ok (.aload_n 0, 1) := by decide +kernel
theorem dX1_bill_15 : decode cX1_bill 15 = .ok (.iload_n 1, 1) := by decide +kernel
theorem dX1_bill_16 : decode cX1_bill 16 = .ok (.invokevirtual 128, 3) := by decide +kernel
theorem dX1_bill_19 : decode cX1_bill 19 = .ok (.goto 4, 3) := by decide +kernel
theorem dX1_bill_22 : decode cX1_bill 22 = .ok (.iconst 0, 1) := by decide +kernel
theorem dX1_bill_23 : decode cX1_bill 23 = .ok (.ireturn, 1) := by decide +kernel
set_option maxRecDepth 20000 in
theorem ggX1_billTo_X1_in : GoodIn wsX1_billTo wsX1_in := goodIn_r _ [6] (by decide +kernel) (by decide +kernel)
set_option maxRecDepth 20000 in
theorem gX1_billTo_X1_in : GoodIn wsX1_billTo (va_wsS RX1 63 yX1_in wsX1_in) := goodIn_app (goodIn_of _ (by decide +kernel)) ggX1_billTo_X1_in
set_option maxRecDepth 20000 in
theorem ggX1_billTo_X1_goes : GoodIn wsX1_billTo wsX1_goes := goodIn_r _ [10, 11, 21, 22, 23, 24, 25, 26, 27, 28, 29, 30, 31, 32, 33, 34, 35, 36, 37, 38, 39] (by decide +kernel) (by decide +kernel)
set_option maxRecDepth 20000 in
theorem gX1_billTo_X1_goes : GoodIn wsX1_billTo (wsV RX1 73 RX1 yX1_goes wsX1_goes) := goodIn_app (goodIn_of _ (by decide +kernel)) ggX1_billTo_X1_goes
set_option maxRecDepth 20000 in
theorem ggX1_billTo_X1_billOf : GoodIn wsX1_billTo wsX1_billOf := goodIn_r _ [15, 16, 17, 18, 19, 20, 21, 22, 23, 24, 25, 26, 27, 28, 29, 30, 31, 32, 33, 34, 35, 36, 37, 38, 39] (by decide +kernel) (by decide +kernel)
set_option maxRecDepth 20000 in
theorem gX1_billTo_X1_billOf : GoodIn wsX1_billTo (wsV RX1 128 RX1 yX1_billOf wsX1_billOf) := goodIn_app (goodIn_of _ (by decide +kernel)) ggX1_billTo_X1_billOf
theorem dX1_billTo_0 : decode cX1_billTo 0 = .ok (.iconst 0, 1) := by decide +kernel
theorem dX1_billTo_1 : decode cX1_billTo 1 = .ok (.istore_n 2, 1) := by decide +kernel
theorem dX1_billTo_2 : decode cX1_billTo 2 = .ok (.aload_n 0, 1) := by decide +kernel
theorem dX1_billTo_3 : decode cX1_billTo 3 = .ok (.iload_n 1, 1) := by decide +kernel
theorem dX1_billTo_4 : decode cX1_billTo 4 = .ok (.iconst 0, 1) := by decide +kernel
theorem dX1_billTo_5 : decode cX1_billTo 5 = .ok (.bipush 9, 2) := by decide +kernel
theorem dX1_billTo_7 : decode cX1_billTo 7 = .ok (.invokestatic 63, 3) := by decide +kernel
theorem dX1_billTo_10 : decode cX1_billTo 10 = .ok (.iconst 1, 1) := by decide +kernel
theorem dX1_billTo_11 : decode cX1_billTo 11 = .ok (.iconst 1, 1) := by decide +kernel
theorem dX1_billTo_12 : decode cX1_billTo 12 = .ok (.invokevirtual 73, 3) := by decide +kernel
theorem dX1_billTo_15 : decode cX1_billTo 15 = .ok (.istore_n 3, 1) := by decide +kernel
theorem dX1_billTo_16 : decode cX1_billTo 16 = .ok (.iconst 0, 1) := by decide +kernel
theorem dX1_billTo_17 : decode cX1_billTo 17 = .ok (.istore 4, 2) := by decide +kernel
theorem dX1_billTo_19 : decode cX1_billTo 19 = .ok (.iload 4, 2) := by decide +kernel
theorem dX1_billTo_21 : decode cX1_billTo 21 = .ok (.aload_n 0, 1) := by decide +kernel
theorem dX1_billTo_22 : decode cX1_billTo 22 = .ok (.getfield 67, 3) := by decide +kernel
theorem dX1_billTo_25 : decode cX1_billTo 25 = .ok (.if_icmp .ge 37, 3) := by decide +kernel
theorem dX1_billTo_28 : decode cX1_billTo 28 = .ok (.iload_n 3, 1) := by decide +kernel
theorem dX1_billTo_29 : decode cX1_billTo 29 = .ok (.ifCond .eq 33, 3) := by decide +kernel
theorem dX1_billTo_32 : decode cX1_billTo 32 = .ok (.iload_n 2, 1) := by decide +kernel
theorem dX1_billTo_33 : decode cX1_billTo 33 = .ok (.aload_n 0, 1) := by decide +kernel
theorem dX1_billTo_34 : decode cX1_billTo 34 = .ok (.getfield 20, 3) := by decide +kernel
theorem dX1_billTo_37 : decode cX1_billTo 37 = .ok (.iload 4, 2) := by decide +kernel
theorem dX1_billTo_39 : decode cX1_billTo 39 = .ok (.iaload, 1) := by decide +kernel
theorem dX1_billTo_40 : decode cX1_billTo 40 = .ok (.iload_n 1, 1) := by decide +kernel
theorem dX1_billTo_41 : decode cX1_billTo 41 = .ok (.if_icmp .ne 12, 3) := by decide +kernel
theorem dX1_billTo_44 : decode cX1_billTo 44 = .ok (.aload_n 0, 1) := by decide +kernel
theorem dX1_billTo_45 : decode cX1_billTo 45 = .ok (.iload 4, 2) := by decide +kernel
theorem dX1_billTo_47 : decode cX1_billTo 47 = .ok (.invokevirtual 128, 3) := by decide +kernel
theorem dX1_billTo_50 : decode cX1_billTo 50 = .ok (.goto 4, 3) := by decide +kernel
theorem dX1_billTo_53 : decode cX1_billTo 53 = .ok (.iconst 0, 1) := by decide +kernel
theorem dX1_billTo_54 : decode cX1_billTo 54 = .ok (.iadd, 1) := by decide +kernel
theorem dX1_billTo_55 : decode cX1_billTo 55 = .ok (.istore_n 2, 1) := by decide +kernel
theorem dX1_billTo_56 : decode cX1_billTo 56 = .ok (.iinc 4 1, 3) := by decide +kernel
theorem dX1_billTo_59 : decode cX1_billTo 59 = .ok (.goto (-40), 3) := by decide +kernel
theorem dX1_billTo_62 : decode cX1_billTo 62 = .ok (.iload_n 2, 1) := by decide +kernel
theorem dX1_billTo_63 : decode cX1_billTo 63 = .ok (.ireturn, 1) := by decide +kernel
set_option maxRecDepth 20000 in
theorem ggX1_mostOwed_X1_left : GoodIn wsX1_mostOwed wsX1_left := goodIn_r _ [6, 7, 8, 9, 5, 10, 11, 12, 13, 14, 15, 16, 17, 18, 19, 20, 21, 22, 23, 24, 25, 26, 27, 33, 34, 35, 36, 37, 38, 39, 40, 41, 42, 43, 44, 45, 46, 47, 48, 49, 50, 51] (by decide +kernel) (by decide +kernel)
set_option maxRecDepth 20000 in
theorem gX1_mostOwed_X1_left : GoodIn wsX1_mostOwed (wsV RX1 119 RX1 yX1_left wsX1_left) := goodIn_app (goodIn_of _ (by decide +kernel)) ggX1_mostOwed_X1_left
set_option maxRecDepth 20000 in
theorem ggX1_mostOwed_X1_told : GoodIn wsX1_mostOwed wsX1_told := goodIn_r _ [31, 32, 33, 34, 35, 36, 37, 38, 39, 40, 41, 42, 43, 44, 45, 46, 47, 48, 49, 50, 51] (by decide +kernel) (by decide +kernel)
set_option maxRecDepth 20000 in
theorem gX1_mostOwed_X1_told : GoodIn wsX1_mostOwed (wsV RX1 82 RX1 yX1_told wsX1_told) := goodIn_app (goodIn_of _ (by decide +kernel)) ggX1_mostOwed_X1_told
theorem dX1_mostOwed_0 : decode cX1_mostOwed 0 = .ok (.iconst (-1), 1) := by decide +kernel
theorem dX1_mostOwed_1 : decode cX1_mostOwed 1 = .ok (.istore_n 1, 1) := by decide +kernel
theorem dX1_mostOwed_2 : decode cX1_mostOwed 2 = .ok (.iconst 0, 1) := by decide +kernel
theorem dX1_mostOwed_3 : decode cX1_mostOwed 3 = .ok (.istore_n 2, 1) := by decide +kernel
theorem dX1_mostOwed_4 : decode cX1_mostOwed 4 = .ok (.iconst 0, 1) := by decide +kernel
theorem dX1_mostOwed_5 : decode cX1_mostOwed 5 = .ok (.istore_n 3, 1) := by decide +kernel
theorem dX1_mostOwed_6 : decode cX1_mostOwed 6 = .ok (.iload_n 3, 1) := by decide +kernel
theorem dX1_mostOwed_7 : decode cX1_mostOwed 7 = .ok (.aload_n 0, 1) := by decide +kernel
theorem dX1_mostOwed_8 : decode cX1_mostOwed 8 = .ok (.getfield 67, 3) := by decide +kernel
theorem dX1_mostOwed_11 : decode cX1_mostOwed 11 = .ok (.if_icmp .ge 41, 3) := by decide +kernel
theorem dX1_mostOwed_14 : decode cX1_mostOwed 14 = .ok (.aload_n 0, 1) := by decide +kernel
theorem dX1_mostOwed_15 : decode cX1_mostOwed 15 = .ok (.iload_n 3, 1) := by decide +kernel
theorem dX1_mostOwed_16 : decode cX1_mostOwed 16 = .ok (.invokevirtual 119, 3) := by decide +kernel
theorem dX1_mostOwed_19 : decode cX1_mostOwed 19 = .ok (.istore 4, 2) := by decide +kernel
theorem dX1_mostOwed_21 : decode cX1_mostOwed 21 = .ok (.iload 4, 2) := by decide +kernel
theorem dX1_mostOwed_23 : decode cX1_mostOwed 23 = .ok (.iload_n 2, 1) := by decide +kernel
theorem dX1_mostOwed_24 : decode cX1_mostOwed 24 = .ok (.if_icmp .le 7, 3) := by decide +kernel
theorem dX1_mostOwed_27 : decode cX1_mostOwed 27 = .ok (.iload_n 3, 1) := by decide +kernel
theorem dX1_mostOwed_28 : decode cX1_mostOwed 28 = .ok (.goto 4, 3) := by decide +kernel
theorem dX1_mostOwed_31 : decode cX1_mostOwed 31 = .ok (.iload_n 1, 1) := by decide +kernel
theorem dX1_mostOwed_32 : decode cX1_mostOwed 32 = .ok (.istore_n 1, 1) := by decide +kernel
theorem dX1_mostOwed_33 : decode cX1_mostOwed 33 = .ok (.iload 4, 2) := by decide +kernel
theorem dX1_mostOwed_35 : decode cX1_mostOwed 35 = .ok (.iload_n 2, 1) := by decide +kernel
theorem dX1_mostOwed_36 : decode cX1_mostOwed 36 = .ok (.if_icmp .le 8, 3) := by decide +kernel
theorem dX1_mostOwed_39 : decode cX1_mostOwed 39 = .ok (.iload 4, 2) := by decide +kernel
theorem dX1_mostOwed_41 : decode cX1_mostOwed 41 = .ok (.goto 4, 3) := by decide +kernel
theorem dX1_mostOwed_44 : decode cX1_mostOwed 44 = .ok (.iload_n 2, 1) := by decide +kernel
theorem dX1_mostOwed_45 : decode cX1_mostOwed 45 = .ok (.istore_n 2, 1) := by decide +kernel
theorem dX1_mostOwed_46 : decode cX1_mostOwed 46 = .ok (.iinc 3 1, 3) := by decide +kernel
theorem dX1_mostOwed_49 : decode cX1_mostOwed 49 = .ok (.goto (-43), 3) := by decide +kernel
theorem dX1_mostOwed_52 : decode cX1_mostOwed 52 = .ok (.aload_n 0, 1) := by decide +kernel
theorem dX1_mostOwed_53 : decode cX1_mostOwed 53 = .ok (.iload_n 1, 1) := by decide +kernel
theorem dX1_mostOwed_54 : decode cX1_mostOwed 54 = .ok (.invokevirtual 82, 3) := by decide +kernel
theorem dX1_mostOwed_57 : decode cX1_mostOwed 57 = .ok (.ireturn, 1) := by decide +kernel
theorem dJ9_max_7cf53_0 : decode cJ9_max_7cf53 0 = .ok (.iload_n 0, 1) := by decide +kernel
theorem dJ9_max_7cf53_1 : decode cJ9_max_7cf53 1 = .ok (.iload_n 1, 1) := by decide +kernel
theorem dJ9_max_7cf53_2 : decode cJ9_max_7cf53 2 = .ok (.if_icmp .lt 7, 3) := by decide +kernel
theorem dJ9_max_7cf53_5 : decode cJ9_max_7cf53 5 = .ok (.iload_n 0, 1) := by decide +kernel
theorem dJ9_max_7cf53_6 : decode cJ9_max_7cf53 6 = .ok (.goto 4, 3) := by decide +kernel
theorem dJ9_max_7cf53_9 : decode cJ9_max_7cf53 9 = .ok (.iload_n 1, 1) := by decide +kernel
theorem dJ9_max_7cf53_10 : decode cJ9_max_7cf53 10 = .ok (.ireturn, 1) := by decide +kernel
