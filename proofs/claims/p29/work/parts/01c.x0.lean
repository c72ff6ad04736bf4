theorem dX0_init_0 : decode cX0_init 0 = .ok (.aload_n 0, 1) := by decide +kernel
theorem dX0_init_1 : decode cX0_init 1 = .ok (.invokespecial 1, 3) := by decide +kernel
theorem dX0_init_4 : decode cX0_init 4 = .ok (.aload_n 0, 1) := by decide +kernel
theorem dX0_init_5 : decode cX0_init 5 = .ok (.bipush 24, 2) := by decide +kernel
theorem dX0_init_7 : decode cX0_init 7 = .ok (.newarray .int, 2) := by decide +kernel
theorem dX0_init_9 : decode cX0_init 9 = .ok (.putfield 9, 3) := by decide +kernel
theorem dX0_init_12 : decode cX0_init 12 = .ok (.aload_n 0, 1) := by decide +kernel
theorem dX0_init_13 : decode cX0_init 13 = .ok (.bipush 24, 2) := by decide +kernel
theorem dX0_init_15 : decode cX0_init 15 = .ok (.newarray .boolean, 2) := by decide +kernel
theorem dX0_init_17 : decode cX0_init 17 = .ok (.putfield 13, 3) := by decide +kernel
theorem dX0_init_20 : decode cX0_init 20 = .ok (.aload_n 0, 1) := by decide +kernel
theorem dX0_init_21 : decode cX0_init 21 = .ok (.bipush 72, 2) := by decide +kernel
theorem dX0_init_23 : decode cX0_init 23 = .ok (.newarray .int, 2) := by decide +kernel
theorem dX0_init_25 : decode cX0_init 25 = .ok (.putfield 17, 3) := by decide +kernel
theorem dX0_init_28 : decode cX0_init 28 = .ok (.aload_n 0, 1) := by decide +kernel
theorem dX0_init_29 : decode cX0_init 29 = .ok (.bipush 20, 2) := by decide +kernel
theorem dX0_init_31 : decode cX0_init 31 = .ok (.newarray .int, 2) := by decide +kernel
theorem dX0_init_33 : decode cX0_init 33 = .ok (.putfield 20, 3) := by decide +kernel
theorem dX0_init_36 : decode cX0_init 36 = .ok (.aload_n 0, 1) := by decide +kernel
theorem dX0_init_37 : decode cX0_init 37 = .ok (.bipush 20, 2) := by decide +kernel
theorem dX0_init_39 : decode cX0_init 39 = .ok (.newarray .int, 2) := by decide +kernel
theorem dX0_init_41 : decode cX0_init 41 = .ok (.putfield 23, 3) := by decide +kernel
theorem dX0_init_44 : decode cX0_init 44 = .ok (.aload_n 0, 1) := by decide +kernel
theorem dX0_init_45 : decode cX0_init 45 = .ok (.bipush 20, 2) := by decide +kernel
theorem dX0_init_47 : decode cX0_init 47 = .ok (.newarray .int, 2) := by decide +kernel
theorem dX0_init_49 : decode cX0_init 49 = .ok (.putfield 26, 3) := by decide +kernel
theorem dX0_init_52 : decode cX0_init 52 = .ok (.aload_n 0, 1) := by decide +kernel
theorem dX0_init_53 : decode cX0_init 53 = .ok (.bipush 20, 2) := by decide +kernel
theorem dX0_init_55 : decode cX0_init 55 = .ok (.newarray .int, 2) := by decide +kernel
theorem dX0_init_57 : decode cX0_init 57 = .ok (.putfield 29, 3) := by decide +kernel
theorem dX0_init_60 : decode cX0_init 60 = .ok (.aload_n 0, 1) := by decide +kernel
theorem dX0_init_61 : decode cX0_init 61 = .ok (.bipush 20, 2) := by decide +kernel
theorem dX0_init_63 : decode cX0_init 63 = .ok (.newarray .int, 2) := by decide +kernel
theorem dX0_init_65 : decode cX0_init 65 = .ok (.putfield 32, 3) := by decide +kernel
theorem dX0_init_68 : decode cX0_init 68 = .ok (.aload_n 0, 1) := by decide +kernel
theorem dX0_init_69 : decode cX0_init 69 = .ok (.bipush 20, 2) := by decide +kernel
theorem dX0_init_71 : decode cX0_init 71 = .ok (.newarray .int, 2) := by decide +kernel
theorem dX0_init_73 : decode cX0_init 73 = .ok (.putfield 35, 3) := by decide +kernel
theorem dX0_init_76 : decode cX0_init 76 = .ok (.aload_n 0, 1) := by decide +kernel
theorem dX0_init_77 : decode cX0_init 77 = .ok (.bipush 20, 2) := by decide +kernel
theorem dX0_init_79 : decode cX0_init 79 = .ok (.newarray .int, 2) := by decide +kernel
theorem dX0_init_81 : decode cX0_init 81 = .ok (.putfield 38, 3) := by decide +kernel
theorem dX0_init_84 : decode cX0_init 84 = .ok (.aload_n 0, 1) := by decide +kernel
theorem dX0_init_85 : decode cX0_init 85 = .ok (.bipush 20, 2) := by decide +kernel
theorem dX0_init_87 : decode cX0_init 87 = .ok (.newarray .boolean, 2) := by decide +kernel
theorem dX0_init_89 : decode cX0_init 89 = .ok (.putfield 41, 3) := by decide +kernel
theorem dX0_init_92 : decode cX0_init 92 = .ok (.aload_n 0, 1) := by decide +kernel
theorem dX0_init_93 : decode cX0_init 93 = .ok (.sipush 150, 3) := by decide +kernel
theorem dX0_init_96 : decode cX0_init 96 = .ok (.newarray .int, 2) := by decide +kernel
theorem dX0_init_98 : decode cX0_init 98 = .ok (.putfield 44, 3) := by decide +kernel
theorem dX0_init_101 : decode cX0_init 101 = .ok (.aload_n 0, 1) := by decide +kernel
theorem dX0_init_102 : decode cX0_init 102 = .ok (.sipush 150, 3) := by decide +kernel
theorem dX0_init_105 : decode cX0_init 105 = .ok (.newarray .int, 2) := by decide +kernel
theorem dX0_init_107 : decode cX0_init 107 = .ok (.putfield 47, 3) := by decide +kernel
theorem dX0_init_110 : decode cX0_init 110 = .ok (.aload_n 0, 1) := by decide +kernel
theorem dX0_init_111 : decode cX0_init 111 = .ok (.sipush 150, 3) := by decide +kernel
theorem dX0_init_114 : decode cX0_init 114 = .ok (.newarray .int, 2) := by decide +kernel
theorem dX0_init_116 : decode cX0_init 116 = .ok (.putfield 50, 3) := by decide +kernel
theorem dX0_init_119 : decode cX0_init 119 = .ok (.aload_n 0, 1) := by decide +kernel
theorem dX0_init_120 : decode cX0_init 120 = .ok (.sipush 150, 3) := by decide +kernel
theorem dX0_init_123 : decode cX0_init 123 = .ok (.newarray .boolean, 2) := by decide +kernel
theorem dX0_init_125 : decode cX0_init 125 = .ok (.putfield 53, 3) := by decide +kernel
theorem dX0_init_128 : decode cX0_init 128 = .ok (.return_, 1) := by decide +kernel
set_option maxRecDepth 20000 in
theorem ggX0_addBreak_X0_isWithin : GoodIn wsX0_addBreak wsX0_isWithin := goodIn_r _ [6] (by decide +kernel) (by decide +kernel)
set_option maxRecDepth 20000 in
theorem gX0_addBreak_X0_isWithin : GoodIn wsX0_addBreak (va_wsS RX0 56 yX0_isWithin wsX0_isWithin) := goodIn_app (goodIn_of _ (by decide +kernel)) ggX0_addBreak_X0_isWithin
set_option maxRecDepth 20000 in
theorem ggX0_addBreak_X0_checkArgument : GoodIn wsX0_addBreak wsX0_checkArgument := goodIn_ca (goodIn_r _ [9, 10, 11] (by decide +kernel) (by decide +kernel)) (goodIn_sub (fun _ h => List.mem_cons_of_mem _ (List.mem_append_left _ (List.mem_append_right _ h))) (by decide +kernel))
set_option maxRecDepth 20000 in
theorem gX0_addBreak_X0_checkArgument : GoodIn wsX0_addBreak (va_wsS RX0 60 yX0_checkArgument wsX0_checkArgument) := goodIn_app (goodIn_of _ (by decide +kernel)) ggX0_addBreak_X0_checkArgument
set_option maxRecDepth 20000 in
theorem ggX0_addBreak_X0_checkState : GoodIn wsX0_addBreak wsX0_checkState := goodIn_ca (goodIn_r _ [14, 15, 16] (by decide +kernel) (by decide +kernel)) (goodIn_sub (fun _ h => List.mem_cons_of_mem _ (List.mem_append_right _ h)) (by decide +kernel))
set_option maxRecDepth 20000 in
theorem gX0_addBreak_X0_checkState : GoodIn wsX0_addBreak (va_wsS RX0 68 yX0_checkState wsX0_checkState) := goodIn_app (goodIn_of _ (by decide +kernel)) ggX0_addBreak_X0_checkState
theorem dX0_addBreak_0 : decode cX0_addBreak 0 = .ok (.iload_n 1, 1) := by decide +kernel
theorem dX0_addBreak_1 : decode cX0_addBreak 1 = .ok (.bipush 15, 2) := by decide +kernel
theorem dX0_addBreak_3 : decode cX0_addBreak 3 = .ok (.sipush 600, 3) := by decide +kernel
theorem dX0_addBreak_6 : decode cX0_addBreak 6 = .ok (.invokestatic 56, 3) := by decide +kernel
theorem dX0_addBreak_9 : decode cX0_addBreak 9 = .ok (.invokestatic 60, 3) := by decide +kernel
theorem dX0_addBreak_12 : decode cX0_addBreak 12 = .ok (.aload_n 0, 1) := by decide +kernel
theorem dX0_addBreak_13 : decode cX0_addBreak 13 = .ok (.getfield 64, 3) := by decide +kernel
theorem dX0_addBreak_16 : decode cX0_addBreak 16 = .ok (.bipush 24, 2) := by decide +kernel
theorem dX0_addBreak_18 : decode cX0_addBreak 18 = .ok (.if_icmp .ge 7, 3) := by decide +kernel
theorem dX0_addBreak_21 : decode cX0_addBreak 21 = .ok (.iconst 1, 1) := by decide +kernel
theorem dX0_addBreak_22 : decode cX0_addBreak 22 = .ok (.goto 4, 3) := by decide +kernel
theorem dX0_addBreak_25 : decode cX0_addBreak 25 = .ok (.iconst 0, 1) := by decide +kernel
theorem dX0_addBreak_26 : decode cX0_addBreak 26 = .ok (.invokestatic 68, 3) := by decide +kernel
theorem dX0_addBreak_29 : decode cX0_addBreak 29 = .ok (.aload_n 0, 1) := by decide +kernel
theorem dX0_addBreak_30 : decode cX0_addBreak 30 = .ok (.getfield 64, 3) := by decide +kernel
theorem dX0_addBreak_33 : decode cX0_addBreak 33 = .ok (.istore_n 2, 1) := by decide +kernel
theorem dX0_addBreak_34 : decode cX0_addBreak 34 = .ok (.aload_n 0, 1) := by decide +kernel
theorem dX0_addBreak_35 : decode cX0_addBreak 35 = .ok (.getfield 9, 3) := by decide +kernel
theorem dX0_addBreak_38 : decode cX0_addBreak 38 = .ok (.iload_n 2, 1) := by decide +kernel
theorem dX0_addBreak_39 : decode cX0_addBreak 39 = .ok (.iload_n 1, 1) := by decide +kernel
theorem dX0_addBreak_40 : decode cX0_addBreak 40 = .ok (.iastore, 1) := by decide +kernel
theorem dX0_addBreak_41 : decode cX0_addBreak 41 = .ok (.aload_n 0, 1) := by decide +kernel
theorem dX0_addBreak_42 : decode cX0_addBreak 42 = .ok (.dup, 1) := by decide +kernel
theorem dX0_addBreak_43 : decode cX0_addBreak 43 = .ok (.getfield 64, 3) := by decide +kernel
theorem dX0_addBreak_46 : decode cX0_addBreak 46 = .ok (.iconst 1, 1) := by decide +kernel
theorem dX0_addBreak_47 : decode cX0_addBreak 47 = .ok (.iadd, 1) := by decide +kernel
theorem dX0_addBreak_48 : decode cX0_addBreak 48 = .ok (.putfield 64, 3) := by decide +kernel
theorem dX0_addBreak_51 : decode cX0_addBreak 51 = .ok (.iload_n 2, 1) := by decide +kernel
theorem dX0_addBreak_52 : decode cX0_addBreak 52 = .ok (.ireturn, 1) := by decide +kernel
set_option maxRecDepth 20000 in
theorem ggX0_rate_X0_checkBreak : GoodIn wsX0_rate wsX0_checkBreak := goodIn_ca (goodIn_r _ [7, 8, 9, 10, 6, 11, 12, 13, 28, 29, 30, 31, 32, 33, 34, 35, 36, 37, 38, 39, 40, 41, 42, 43, 44, 45] (by decide +kernel) (by decide +kernel)) (goodIn_sub (fun _ h => List.mem_cons_of_mem _ (List.mem_append_left _ (List.mem_append_right _ h))) (by decide +kernel))
set_option maxRecDepth 20000 in
theorem gX0_rate_X0_checkBreak : GoodIn wsX0_rate (wsV RX0 71 RX0 yX0_checkBreak wsX0_checkBreak) := goodIn_app (goodIn_of _ (by decide +kernel)) ggX0_rate_X0_checkBreak
set_option maxRecDepth 20000 in
theorem ggX0_rate_X0_isGroup : GoodIn wsX0_rate wsX0_isGroup := goodIn_r _ [16, 17, 18, 6, 19] (by decide +kernel) (by decide +kernel)
set_option maxRecDepth 20000 in
theorem gX0_rate_X0_isGroup : GoodIn wsX0_rate (va_wsS RX0 75 yX0_isGroup wsX0_isGroup) := goodIn_app (goodIn_of _ (by decide +kernel)) ggX0_rate_X0_isGroup
set_option maxRecDepth 20000 in
theorem ggX0_rate_X0_isWithin : GoodIn wsX0_rate wsX0_isWithin := goodIn_r _ [19] (by decide +kernel) (by decide +kernel)
set_option maxRecDepth 20000 in
theorem gX0_rate_X0_isWithin : GoodIn wsX0_rate (va_wsS RX0 56 yX0_isWithin wsX0_isWithin) := goodIn_app (goodIn_of _ (by decide +kernel)) ggX0_rate_X0_isWithin
set_option maxRecDepth 20000 in
theorem ggX0_rate_X0_checkArgument : GoodIn wsX0_rate wsX0_checkArgument := goodIn_ca (goodIn_r _ [22, 23, 24] (by decide +kernel) (by decide +kernel)) (goodIn_sub (fun _ h => List.mem_cons_of_mem _ (List.mem_append_right _ h)) (by decide +kernel))
set_option maxRecDepth 20000 in
theorem gX0_rate_X0_checkArgument : GoodIn wsX0_rate (va_wsS RX0 60 yX0_checkArgument wsX0_checkArgument) := goodIn_app (goodIn_of _ (by decide +kernel)) ggX0_rate_X0_checkArgument
set_option maxRecDepth 20000 in
theorem ggX0_rate_X0_ratingCell : GoodIn wsX0_rate wsX0_ratingCell := goodIn_r _ [27] (by decide +kernel) (by decide +kernel)
set_option maxRecDepth 20000 in
theorem gX0_rate_X0_ratingCell : GoodIn wsX0_rate (va_wsS RX0 80 yX0_ratingCell wsX0_ratingCell) := goodIn_app (goodIn_of _ (by decide +kernel)) ggX0_rate_X0_ratingCell
theorem dX0_rate_0 : decode cX0_rate 0 = .ok (.aload_n 0, 1) := by decide +kernel
theorem dX0_rate_1 : decode cX0_rate 1 = .ok (.iload_n 1, 1) := by decide +kernel
theorem dX0_rate_2 : decode cX0_rate 2 = .ok (.invokevirtual 71, 3) := by decide +kernel
theorem dX0_rate_5 : decode cX0_rate 5 = .ok (.iload_n 2, 1) := by decide +kernel
theorem dX0_rate_6 : decode cX0_rate 6 = .ok (.invokestatic 75, 3) := by decide +kernel
theorem dX0_rate_9 : decode cX0_rate 9 = .ok (.ifCond .eq 17, 3) := by decide +kernel
theorem dX0_rate_12 : decode cX0_rate 12 = .ok (.iload_n 3, 1) := by decide +kernel
theorem dX0_rate_13 : decode cX0_rate 13 = .ok (.iconst 0, 1) := by decide +kernel
theorem dX0_rate_14 : decode cX0_rate 14 = .ok (.ldc 79, 2) := by decide +kernel
theorem dX0_rate_16 : decode cX0_rate 16 = .ok (.invokestatic 56, 3) := by decide +kernel
theorem dX0_rate_19 : decode cX0_rate 19 = .ok (.ifCond .eq 7, 3) := by decide +kernel
theorem dX0_rate_22 : decode cX0_rate 22 = .ok (.iconst 1, 1) := by decide +kernel
theorem dX0_rate_23 : decode cX0_rate 23 = .ok (.goto 4, 3) := by decide +kernel
theorem dX0_rate_26 : decode cX0_rate 26 = .ok (.iconst 0, 1) := by decide +kernel
theorem dX0_rate_27 : decode cX0_rate 27 = .ok (.invokestatic 60, 3) := by decide +kernel
theorem dX0_rate_30 : decode cX0_rate 30 = .ok (.iload_n 1, 1) := by decide +kernel
theorem dX0_rate_31 : decode cX0_rate 31 = .ok (.iload_n 2, 1) := by decide +kernel
theorem dX0_rate_32 : decode cX0_rate 32 = .ok (.invokestatic 80, 3) := by decide +kernel
theorem dX0_rate_35 : decode cX0_rate 35 = .ok (.istore 4, 2) := by decide +kernel
theorem dX0_rate_37 : decode cX0_rate 37 = .ok (.aload_n 0, 1) := by decide +kernel
theorem dX0_rate_38 : decode cX0_rate 38 = .ok (.getfield 17, 3) := by decide +kernel
theorem dX0_rate_41 : decode cX0_rate 41 = .ok (.iload 4, 2) := by decide +kernel
theorem dX0_rate_43 : decode cX0_rate 43 = .ok (.iaload, 1) := by decide +kernel
theorem dX0_rate_44 : decode cX0_rate 44 = .ok (.istore 5, 2) := by decide +kernel
theorem dX0_rate_46 : decode cX0_rate 46 = .ok (.aload_n 0, 1) := by decide +kernel
theorem dX0_rate_47 : decode cX0_rate 47 = .ok (.getfield 17, 3) := by decide +kernel
theorem dX0_rate_50 : decode cX0_rate 50 = .ok (.iload 4, 2) := by decide +kernel
theorem dX0_rate_52 : decode cX0_rate 52 = .ok (.iload_n 3, 1) := by decide +kernel
theorem dX0_rate_53 : decode cX0_rate 53 = .ok (.iastore, 1) := by decide +kernel
theorem dX0_rate_54 : decode cX0_rate 54 = .ok (.iload 5, 2) := by decide +kernel
theorem dX0_rate_56 : decode cX0_rate 56 = .ok (.ireturn, 1) := by decide +kernel
set_option maxRecDepth 20000 in
theorem ggX0_air_X0_checkBreak : GoodIn wsX0_air wsX0_checkBreak := goodIn_ca (goodIn_r _ [9, 10, 11, 12, 8, 13, 14, 15, 21, 22, 23, 24, 25, 26, 27, 28, 29, 30, 31, 32, 33, 34, 35, 36, 37, 38] (by decide +kernel) (by decide +kernel)) (goodIn_sub (fun _ h => List.mem_cons_of_mem _ (List.mem_append_left _ (List.mem_append_right _ h))) (by decide +kernel))
set_option maxRecDepth 20000 in
theorem gX0_air_X0_checkBreak : GoodIn wsX0_air (wsV RX0 71 RX0 yX0_checkBreak wsX0_checkBreak) := goodIn_app (goodIn_of _ (by decide +kernel)) ggX0_air_X0_checkBreak
set_option maxRecDepth 20000 in
theorem ggX0_air_X0_checkState : GoodIn wsX0_air wsX0_checkState := goodIn_ca (goodIn_r _ [18, 19, 20] (by decide +kernel) (by decide +kernel)) (goodIn_sub (fun _ h => List.mem_cons_of_mem _ (List.mem_append_right _ h)) (by decide +kernel))
set_option maxRecDepth 20000 in
theorem gX0_air_X0_checkState : GoodIn wsX0_air (va_wsS RX0 68 yX0_checkState wsX0_checkState) := goodIn_app (goodIn_of _ (by decide +kernel)) ggX0_air_X0_checkState
theorem dX0_air_0 : decode cX0_air 0 = .ok (.aload_n 0, 1) := by decide +kernel
theorem dX0_air_1 : decode cX0_air 1 = .ok (.iload_n 1, 1) := by decide +kernel
theorem dX0_air_2 : decode cX0_air 2 = .ok (.invokevirtual 71, 3) := by decide +kernel
theorem dX0_air_5 : decode cX0_air 5 = .ok (.aload_n 0, 1) := by decide +kernel
theorem dX0_air_6 : decode cX0_air 6 = .ok (.getfield 13, 3) := by decide +kernel
theorem dX0_air_9 : decode cX0_air 9 = .ok (.iload_n 1, 1) := by decide +kernel
theorem dX0_air_10 : decode cX0_air 10 = .ok (.baload, 1) := by decide +kernel
theorem dX0_air_11 : decode cX0_air 11 = .ok (.ifCond .ne 7, 3) := by decide +kernel
theorem dX0_air_14 : decode cX0_air 14 = .ok (.iconst 1, 1) := by decide +kernel
theorem dX0_air_15 : decode cX0_air 15 = .ok (.goto 4, 3) := by decide +kernel
theorem dX0_air_18 : decode cX0_air 18 = .ok (.iconst 0, 1) := by decide +kernel
theorem dX0_air_19 : decode cX0_air 19 = .ok (.invokestatic 68, 3) := by decide +kernel
theorem dX0_air_22 : decode cX0_air 22 = .ok (.aload_n 0, 1) := by decide +kernel
theorem dX0_air_23 : decode cX0_air 23 = .ok (.getfield 13, 3) := by decide +kernel
theorem dX0_air_26 : decode cX0_air 26 = .ok (.iload_n 1, 1) := by decide +kernel
theorem dX0_air_27 : decode cX0_air 27 = .ok (.iconst 1, 1) := by decide +kernel
theorem dX0_air_28 : decode cX0_air 28 = .ok (.bastore, 1) := by decide +kernel
theorem dX0_air_29 : decode cX0_air 29 = .ok (.iconst 0, 1) := by decide +kernel
theorem dX0_air_30 : decode cX0_air 30 = .ok (.istore_n 2, 1) := by decide +kernel
theorem dX0_air_31 : decode cX0_air 31 = .ok (.iconst 0, 1) := by decide +kernel
theorem dX0_air_32 : decode cX0_air 32 = .ok (.istore_n 3, 1) := by decide +kernel
theorem dX0_air_33 : decode cX0_air 33 = .ok (.iload_n 3, 1) := by decide +kernel
theorem dX0_air_34 : decode cX0_air 34 = .ok (.aload_n 0, 1) := by decide +kernel
theorem dX0_air_35 : decode cX0_air 35 = .ok (.getfield 84, 3) := by decide +kernel
theorem dX0_air_38 : decode cX0_air 38 = .ok (.if_icmp .ge 38, 3) := by decide +kernel
theorem dX0_air_41 : decode cX0_air 41 = .ok (.aload_n 0, 1) := by decide +kernel
theorem dX0_air_42 : decode cX0_air 42 = .ok (.getfield 47, 3) := by decide +kernel
theorem dX0_air_45 : decode cX0_air 45 = .ok (.iload_n 3, 1) := by decide +kernel
theorem dX0_air_46 : decode cX0_air 46 = .ok (.iaload, 1) := by decide +kernel
theorem dX0_air_47 : decode cX0_air 47 = .ok (.iload_n 1, 1) := by decide +kernel
theorem dX0_air_48 : decode cX0_air 48 = .ok (.if_icmp .ne 22, 3) := by decide +kernel
theorem dX0_air_51 : decode cX0_air 51 = .ok (.aload_n 0, 1) := by decide +kernel
theorem dX0_air_52 : decode cX0_air 52 = .ok (.getfield 50, 3) := by decide +kernel
theorem dX0_air_55 : decode cX0_air 55 = .ok (.iload_n 3, 1) := by decide +kernel
theorem dX0_air_56 : decode cX0_air 56 = .ok (.iaload, 1) := by decide +kernel
theorem dX0_air_57 : decode cX0_air 57 = .ok (.ifCond .ne 13, 3) := by decide +kernel
theorem dX0_air_60 : decode cX0_air 60 = .ok (.aload_n 0, 1) := by decide +kernel
theorem dX0_air_61 : decode cX0_air 61 = .ok (.getfield 50, 3) := by decide +kernel
theorem dX0_air_64 : decode cX0_air 64 = .ok (.iload_n 3, 1) := by decide +kernel
theorem dX0_air_65 : decode cX0_air 65 = .ok (.iconst 1, 1) := by decide +kernel
theorem dX0_air_66 : decode cX0_air 66 = .ok (.iastore, 1) := by decide +kernel
theorem dX0_air_67 : decode cX0_air 67 = .ok (.iinc 2 1, 3) := by decide +kernel
theorem dX0_air_70 : decode cX0_air 70 = .ok (.iinc 3 1, 3) := by decide +kernel
theorem dX0_air_73 : decode cX0_air 73 = .ok (.goto (-40), 3) := by decide +kernel
theorem dX0_air_76 : decode cX0_air 76 = .ok (.iload_n 2, 1) := by decide +kernel
theorem dX0_air_77 : decode cX0_air 77 = .ok (.ireturn, 1) := by decide +kernel
theorem dX0_breaks_0 : decode cX0_breaks 0 = .ok (.aload_n 0, 1) := by decide +kernel
theorem dX0_breaks_1 : decode cX0_breaks 1 = .ok (.getfield 64, 3) := by decide +kernel
theorem dX0_breaks_4 : decode cX0_breaks 4 = .ok (.ireturn, 1) := by decide +kernel
set_option maxRecDepth 20000 in
theorem ggX0_isAired_X0_checkBreak : GoodIn wsX0_isAired wsX0_checkBreak := goodIn_ca (goodIn_r _ [6, 7, 8, 9, 5, 10, 11, 12, 13, 14, 15, 16, 17, 18, 19, 20, 21, 22, 23, 24, 25, 26, 27, 28, 29, 30] (by decide +kernel) (by decide +kernel)) (goodIn_sub (fun _ h => List.mem_cons_of_mem _ (List.mem_append_right _ h)) (by decide +kernel))
set_option maxRecDepth 20000 in
theorem gX0_isAired_X0_checkBreak : GoodIn wsX0_isAired (wsV RX0 71 RX0 yX0_checkBreak wsX0_checkBreak) := goodIn_app (goodIn_of _ (by decide +kernel)) ggX0_isAired_X0_checkBreak
theorem dX0_isAired_0 : decode cX0_isAired 0 = .ok (.aload_n 0, 1) := by decide +kernel
theorem dX0_isAired_1 : decode cX0_isAired 1 = .ok (.iload_n 1, 1) := by decide +kernel
theorem dX0_isAired_2 : decode cX0_isAired 2 = .ok (.invokevirtual 71, 3) := by decide +kernel
theorem dX0_isAired_5 : decode cX0_isAired 5 = .ok (.aload_n 0, 1) := by decide +kernel
theorem dX0_isAired_6 : decode cX0_isAired 6 = .ok (.getfield 13, 3) := by decide +kernel
theorem dX0_isAired_9 : decode cX0_isAired 9 = .ok (.iload_n 1, 1) := by decide +kernel
theorem dX0_isAired_10 : decode cX0_isAired 10 = .ok (.baload, 1) := by decide +kernel
theorem dX0_isAired_11 : decode cX0_isAired 11 = .ok (.ireturn, 1) := by decide +kernel
set_option maxRecDepth 20000 in
theorem ggX0_room_X0_checkBreak : GoodIn wsX0_room wsX0_checkBreak := goodIn_ca (goodIn_r _ [5, 6, 7, 8, 4, 9, 10, 11, 26, 27, 28, 29, 30, 31, 32, 33, 34, 35, 36, 37, 38, 39, 40, 41, 42, 43] (by decide +kernel) (by decide +kernel)) (goodIn_sub (fun _ h => List.mem_cons_of_mem _ (List.mem_append_right _ h)) (by decide +kernel))
set_option maxRecDepth 20000 in
theorem gX0_room_X0_checkBreak : GoodIn wsX0_room (wsV RX0 71 RX0 yX0_checkBreak wsX0_checkBreak) := goodIn_app (goodIn_of _ (by decide +kernel)) ggX0_room_X0_checkBreak
set_option maxRecDepth 20000 in
theorem ggX0_room_X0_secondsLeft : GoodIn wsX0_room wsX0_secondsLeft := goodIn_r _ [15, 16, 17, 18, 19, 20, 21, 22, 23, 4, 24, 25, 26, 27, 28, 29, 30, 31, 32, 33, 34, 35, 36, 37, 38, 39, 40, 41, 42, 43] (by decide +kernel) (by decide +kernel)
set_option maxRecDepth 20000 in
theorem gX0_room_X0_secondsLeft : GoodIn wsX0_room (wsV RX0 87 RX0 yX0_secondsLeft wsX0_secondsLeft) := goodIn_app (goodIn_of _ (by decide +kernel)) ggX0_room_X0_secondsLeft
theorem dX0_room_0 : decode cX0_room 0 = .ok (.aload_n 0, 1) := by decide +kernel
theorem dX0_room_1 : decode cX0_room 1 = .ok (.iload_n 1, 1) := by decide +kernel
theorem dX0_room_2 : decode cX0_room 2 = .ok (.invokevirtual 71, 3) := by decide +kernel
theorem dX0_room_5 : decode cX0_room 5 = .ok (.aload_n 0, 1) := by decide +kernel
theorem dX0_room_6 : decode cX0_room 6 = .ok (.iload_n 1, 1) := by decide +kernel
theorem dX0_room_7 : decode cX0_room 7 = .ok (.invokevirtual 87, 3) := by decide +kernel
theorem dX0_room_10 : decode cX0_room 10 = .ok (.ireturn, 1) := by decide +kernel
set_option maxRecDepth 20000 in
theorem ggX0_rating_X0_checkBreak : GoodIn wsX0_rating wsX0_checkBreak := goodIn_ca (goodIn_r _ [6, 7, 8, 9, 5, 10, 11, 12, 27, 28, 29, 30, 31, 32, 33, 34, 35, 36, 37, 38, 39, 40, 41, 42, 43, 44] (by decide +kernel) (by decide +kernel)) (goodIn_sub (fun _ h => List.mem_cons_of_mem _ (List.mem_append_left _ (List.mem_append_right _ h))) (by decide +kernel))
set_option maxRecDepth 20000 in
theorem gX0_rating_X0_checkBreak : GoodIn wsX0_rating (wsV RX0 71 RX0 yX0_checkBreak wsX0_checkBreak) := goodIn_app (goodIn_of _ (by decide +kernel)) ggX0_rating_X0_checkBreak
set_option maxRecDepth 20000 in
theorem ggX0_rating_X0_isGroup : GoodIn wsX0_rating wsX0_isGroup := goodIn_r _ [15, 16, 17, 5, 18] (by decide +kernel) (by decide +kernel)
set_option maxRecDepth 20000 in
theorem gX0_rating_X0_isGroup : GoodIn wsX0_rating (va_wsS RX0 75 yX0_isGroup wsX0_isGroup) := goodIn_app (goodIn_of _ (by decide +kernel)) ggX0_rating_X0_isGroup
set_option maxRecDepth 20000 in
theorem ggX0_rating_X0_checkArgument : GoodIn wsX0_rating wsX0_checkArgument := goodIn_ca (goodIn_r _ [21, 22, 23] (by decide +kernel) (by decide +kernel)) (goodIn_sub (fun _ h => List.mem_cons_of_mem _ (List.mem_append_right _ h)) (by decide +kernel))
set_option maxRecDepth 20000 in
theorem gX0_rating_X0_checkArgument : GoodIn wsX0_rating (va_wsS RX0 60 yX0_checkArgument wsX0_checkArgument) := goodIn_app (goodIn_of _ (by decide +kernel)) ggX0_rating_X0_checkArgument
set_option maxRecDepth 20000 in
theorem ggX0_rating_X0_ratingCell : GoodIn wsX0_rating wsX0_ratingCell := goodIn_r _ [26] (by decide +kernel) (by decide +kernel)
set_option maxRecDepth 20000 in
theorem gX0_rating_X0_ratingCell : GoodIn wsX0_rating (va_wsS RX0 80 yX0_ratingCell wsX0_ratingCell) := goodIn_app (goodIn_of _ (by decide +kernel)) ggX0_rating_X0_ratingCell
theorem dX0_rating_0 : decode cX0_rating 0 = .ok (.aload_n 0, 1) := by decide +kernel
theorem dX0_rating_1 : decode cX0_rating 1 = .ok (.iload_n 1, 1) := by decide +kernel
theorem dX0_rating_2 : decode cX0_rating 2 = .ok (.invokevirtual 71, 3) := by decide +kernel
theorem dX0_rating_5 : decode cX0_rating 5 = .ok (.iload_n 2, 1) := by decide +kernel
theorem dX0_rating_6 : decode cX0_rating 6 = .ok (.invokestatic 75, 3) := by decide +kernel
theorem dX0_rating_9 : decode cX0_rating 9 = .ok (.invokestatic 60, 3) := by decide +kernel
theorem dX0_rating_12 : decode cX0_rating 12 = .ok (.aload_n 0, 1) := by decide +kernel
theorem dX0_rating_13 : decode cX0_rating 13 = .ok (.getfield 17, 3) := by decide +kernel
theorem dX0_rating_16 : decode cX0_rating 16 = .ok (.iload_n 1, 1) := by decide +kernel
theorem dX0_rating_17 : decode cX0_rating 17 = .ok (.iload_n 2, 1) := by decide +kernel
theorem dX0_rating_18 : decode cX0_rating 18 = .ok (.invokestatic 80, 3) := by decide +kernel
theorem dX0_rating_21 : decode cX0_rating 21 = .ok (.iaload, 1) := by decide +kernel
theorem dX0_rating_22 : decode cX0_rating 22 = .ok (.ireturn, 1) := by decide +kernel
set_option maxRecDepth 20000 in
theorem ggX0_addOrder_X0_isAdvertiser : GoodIn wsX0_addOrder wsX0_isAdvertiser := goodIn_r _ [14, 15, 16, 13, 17] (by decide +kernel) (by decide +kernel)
set_option maxRecDepth 20000 in
theorem gX0_addOrder_X0_isAdvertiser : GoodIn wsX0_addOrder (va_wsS RX0 91 yX0_isAdvertiser wsX0_isAdvertiser) := goodIn_app (goodIn_of _ (by decide +kernel)) ggX0_addOrder_X0_isAdvertiser
set_option maxRecDepth 20000 in
theorem ggX0_addOrder_X0_checkArgument : GoodIn wsX0_addOrder wsX0_checkArgument := goodIn_ca (goodIn_r _ [20, 21, 22] (by decide +kernel) (by decide +kernel)) (goodIn_sub (fun _ h => List.mem_cons_of_mem _ (List.mem_append_left _ (List.mem_append_right _ h))) (by decide +kernel))
set_option maxRecDepth 20000 in
theorem gX0_addOrder_X0_checkArgument : GoodIn wsX0_addOrder (va_wsS RX0 60 yX0_checkArgument wsX0_checkArgument) := goodIn_app (goodIn_of _ (by decide +kernel)) ggX0_addOrder_X0_checkArgument
set_option maxRecDepth 20000 in
theorem ggX0_addOrder_X0_isWithin : GoodIn wsX0_addOrder wsX0_isWithin := goodIn_r _ [17] (by decide +kernel) (by decide +kernel)
set_option maxRecDepth 20000 in
theorem gX0_addOrder_X0_isWithin : GoodIn wsX0_addOrder (va_wsS RX0 56 yX0_isWithin wsX0_isWithin) := goodIn_app (goodIn_of _ (by decide +kernel)) ggX0_addOrder_X0_isWithin
set_option maxRecDepth 20000 in
theorem ggX0_addOrder_X0_isGroup : GoodIn wsX0_addOrder wsX0_isGroup := goodIn_r _ [25, 15, 16, 13, 17] (by decide +kernel) (by decide +kernel)
set_option maxRecDepth 20000 in
theorem gX0_addOrder_X0_isGroup : GoodIn wsX0_addOrder (va_wsS RX0 75 yX0_isGroup wsX0_isGroup) := goodIn_app (goodIn_of _ (by decide +kernel)) ggX0_addOrder_X0_isGroup
set_option maxRecDepth 20000 in
theorem ggX0_addOrder_X0_isSpotLength : GoodIn wsX0_addOrder wsX0_isSpotLength := goodIn_r _ [28] (by decide +kernel) (by decide +kernel)
set_option maxRecDepth 20000 in
theorem gX0_addOrder_X0_isSpotLength : GoodIn wsX0_addOrder (va_wsS RX0 94 yX0_isSpotLength wsX0_isSpotLength) := goodIn_app (goodIn_of _ (by decide +kernel)) ggX0_addOrder_X0_isSpotLength
set_option maxRecDepth 20000 in
theorem ggX0_addOrder_X0_checkState : GoodIn wsX0_addOrder wsX0_checkState := goodIn_ca (goodIn_r _ [31, 32, 33] (by decide +kernel) (by decide +kernel)) (goodIn_sub (fun _ h => List.mem_cons_of_mem _ (List.mem_append_right _ h)) (by decide +kernel))
set_option maxRecDepth 20000 in
theorem gX0_addOrder_X0_checkState : GoodIn wsX0_addOrder (va_wsS RX0 68 yX0_checkState wsX0_checkState) := goodIn_app (goodIn_of _ (by decide +kernel)) ggX0_addOrder_X0_checkState
theorem dX0_addOrder_0 : decode cX0_addOrder 0 = .ok (.iload_n 1, 1) := by decide +kernel
theorem dX0_addOrder_1 : decode cX0_addOrder 1 = .ok (.invokestatic 91, 3) := by decide +kernel
theorem dX0_addOrder_4 : decode cX0_addOrder 4 = .ok (.invokestatic 60, 3) := by decide +kernel
theorem dX0_addOrder_7 : decode cX0_addOrder 7 = .ok (.iload_n 2, 1) := by decide +kernel
theorem dX0_addOrder_8 : decode cX0_addOrder 8 = .ok (.iconst 0, 1) := by decide +kernel
theorem dX0_addOrder_9 : decode cX0_addOrder 9 = .ok (.bipush 7, 2) := by decide +kernel
theorem dX0_addOrder_11 : decode cX0_addOrder 11 = .ok (.invokestatic 56, 3) := by decide +kernel
theorem dX0_addOrder_14 : decode cX0_addOrder 14 = .ok (.invokestatic 60, 3) := by decide +kernel
theorem dX0_addOrder_17 : decode cX0_addOrder 17 = .ok (.iload_n 3, 1) := by decide +kernel
theorem dX0_addOrder_18 : decode cX0_addOrder 18 = .ok (.invokestatic 75, 3) := by decide +kernel
theorem dX0_addOrder_21 : decode cX0_addOrder 21 = .ok (.invokestatic 60, 3) := by decide +kernel
theorem dX0_addOrder_24 : decode cX0_addOrder 24 = .ok (.iload 4, 2) := by decide +kernel
theorem dX0_addOrder_26 : decode cX0_addOrder 26 = .ok (.invokestatic 94, 3) := by decide +kernel
theorem dX0_addOrder_29 : decode cX0_addOrder 29 = .ok (.invokestatic 60, 3) := by decide +kernel
theorem dX0_addOrder_32 : decode cX0_addOrder 32 = .ok (.iload 5, 2) := by decide +kernel
theorem dX0_addOrder_34 : decode cX0_addOrder 34 = .ok (.iconst 0, 1) := by decide +kernel
theorem dX0_addOrder_35 : decode cX0_addOrder 35 = .ok (.ldc 97, 2) := by decide +kernel
theorem dX0_addOrder_37 : decode cX0_addOrder 37 = .ok (.invokestatic 56, 3) := by decide +kernel
theorem dX0_addOrder_40 : decode cX0_addOrder 40 = .ok (.invokestatic 60, 3) := by decide +kernel
theorem dX0_addOrder_43 : decode cX0_addOrder 43 = .ok (.iload 6, 2) := by decide +kernel
theorem dX0_addOrder_45 : decode cX0_addOrder 45 = .ok (.iconst 0, 1) := by decide +kernel
theorem dX0_addOrder_46 : decode cX0_addOrder 46 = .ok (.ldc 97, 2) := by decide +kernel
theorem dX0_addOrder_48 : decode cX0_addOrder 48 = .ok (.invokestatic 56, 3) := by decide +kernel
theorem dX0_addOrder_51 : decode cX0_addOrder 51 = .ok (.invokestatic 60, 3) := by decide +kernel
theorem dX0_addOrder_54 : decode cX0_addOrder 54 = .ok (.iload 7, 2) := by decide +kernel
theorem dX0_addOrder_56 : decode cX0_addOrder 56 = .ok (.iconst 0, 1) := by decide +kernel
theorem dX0_addOrder_57 : decode cX0_addOrder 57 = .ok (.ldc 79, 2) := by decide +kernel
theorem dX0_addOrder_59 : decode cX0_addOrder 59 = .ok (.invokestatic 56, 3) := by decide +kernel
theorem dX0_addOrder_62 : decode cX0_addOrder 62 = .ok (.invokestatic 60, 3) := by decide +kernel
theorem dX0_addOrder_65 : decode cX0_addOrder 65 = .ok (.aload_n 0, 1) := by decide +kernel
theorem dX0_addOrder_66 : decode cX0_addOrder 66 = .ok (.getfield 98, 3) := by decide +kernel
theorem dX0_addOrder_69 : decode cX0_addOrder 69 = .ok (.bipush 20, 2) := by decide +kernel
theorem dX0_addOrder_71 : decode cX0_addOrder 71 = .ok (.if_icmp .ge 7, 3) := by decide +kernel
theorem dX0_addOrder_74 : decode cX0_addOrder 74 = .ok (.iconst 1, 1) := by decide +kernel
theorem dX0_addOrder_75 : decode cX0_addOrder 75 = .ok (.goto 4, 3) := by decide +kernel
theorem dX0_addOrder_78 : decode cX0_addOrder 78 = .ok (.iconst 0, 1) := by decide +kernel
theorem dX0_addOrder_79 : decode cX0_addOrder 79 = .ok (.invokestatic 68, 3) := by decide +kernel
theorem dX0_addOrder_82 : decode cX0_addOrder 82 = .ok (.aload_n 0, 1) := by decide +kernel
theorem dX0_addOrder_83 : decode cX0_addOrder 83 = .ok (.getfield 98, 3) := by decide +kernel
theorem dX0_addOrder_86 : decode cX0_addOrder 86 = .ok (.istore 8, 2) := by decide +kernel
theorem dX0_addOrder_88 : decode cX0_addOrder 88 = .ok (.aload_n 0, 1) := by decide +kernel
theorem dX0_addOrder_89 : decode cX0_addOrder 89 = .ok (.getfield 20, 3) := by decide +kernel
theorem dX0_addOrder_92 : decode cX0_addOrder 92 = .ok (.iload 8, 2) := by decide +kernel
theorem dX0_addOrder_94 : decode cX0_addOrder 94 = .ok (.iload_n 1, 1) := by decide +kernel
theorem dX0_addOrder_95 : decode cX0_addOrder 95 = .ok (.iastore, 1) := by decide +kernel
theorem dX0_addOrder_96 : decode cX0_addOrder 96 = .ok (.aload_n 0, 1) := by decide +kernel
theorem dX0_addOrder_97 : decode cX0_addOrder 97 = .ok (.getfield 23, 3) := by decide +kernel
theorem dX0_addOrder_100 : decode cX0_addOrder 100 = .ok (.iload 8, 2) := by decide +kernel
theorem dX0_addOrder_102 : decode cX0_addOrder 102 = .ok (.iload_n 2, 1) := by decide +kernel
theorem dX0_addOrder_103 : decode cX0_addOrder 103 = .ok (.iastore, 1) := by decide +kernel
theorem dX0_addOrder_104 : decode cX0_addOrder 104 = .ok (.aload_n 0, 1) := by decide +kernel
theorem dX0_addOrder_105 : decode cX0_addOrder 105 = .ok (.getfield 26, 3) := by decide +kernel
theorem dX0_addOrder_108 : decode cX0_addOrder 108 = .ok (.iload 8, 2) := by decide +kernel
theorem dX0_addOrder_110 : decode cX0_addOrder 110 = .ok (.iload_n 3, 1) := by decide +kernel
theorem dX0_addOrder_111 : decode cX0_addOrder 111 = .ok (.iastore, 1) := by decide +kernel
theorem dX0_addOrder_112 : decode cX0_addOrder 112 = .ok (.aload_n 0, 1) := by decide +kernel
theorem dX0_addOrder_113 : decode cX0_addOrder 113 = .ok (.getfield 29, 3) := by decide +kernel
theorem dX0_addOrder_116 : decode cX0_addOrder 116 = .ok (.iload 8, 2) := by decide +kernel
theorem dX0_addOrder_118 : decode cX0_addOrder 118 = .ok (.iload 4, 2) := by decide +kernel
theorem dX0_addOrder_120 : decode cX0_addOrder 120 = .ok (.iastore, 1) := by decide +kernel
theorem dX0_addOrder_121 : decode cX0_addOrder 121 = .ok (.aload_n 0, 1) := by decide +kernel
theorem dX0_addOrder_122 : decode cX0_addOrder 122 = .ok (.getfield 32, 3) := by decide +kernel
theorem dX0_addOrder_125 : decode cX0_addOrder 125 = .ok (.iload 8, 2) := by decide +kernel
theorem dX0_addOrder_127 : decode cX0_addOrder 127 = .ok (.iload 5, 2) := by decide +kernel
theorem dX0_addOrder_129 : decode cX0_addOrder 129 = .ok (.iastore, 1) := by decide +kernel
theorem dX0_addOrder_130 : decode cX0_addOrder 130 = .ok (.aload_n 0, 1) := by decide +kernel
theorem dX0_addOrder_131 : decode cX0_addOrder 131 = .ok (.getfield 35, 3) := by decide +kernel
theorem dX0_addOrder_134 : decode cX0_addOrder 134 = .ok (.iload 8, 2) := by decide +kernel
theorem dX0_addOrder_136 : decode cX0_addOrder 136 = .ok (.iload 6, 2) := by decide +kernel
theorem dX0_addOrder_138 : decode cX0_addOrder 138 = .ok (.iastore, 1) := by decide +kernel
theorem dX0_addOrder_139 : decode cX0_addOrder 139 = .ok (.aload_n 0, 1) := by decide +kernel
theorem dX0_addOrder_140 : decode cX0_addOrder 140 = .ok (.getfield 38, 3) := by decide +kernel
theorem dX0_addOrder_143 : decode cX0_addOrder 143 = .ok (.iload 8, 2) := by decide +kernel
theorem dX0_addOrder_145 : decode cX0_addOrder 145 = .ok (.iload 7, 2) := by decide +kernel
theorem dX0_addOrder_147 : decode cX0_addOrder 147 = .ok (.iastore, 1) := by decide +kernel
theorem dX0_addOrder_148 : decode cX0_addOrder 148 = .ok (.aload_n 0, 1) := by decide +kernel
theorem dX0_addOrder_149 : decode cX0_addOrder 149 = .ok (.dup, 1) := by decide +kernel
theorem dX0_addOrder_150 : decode cX0_addOrder 150 = .ok (.getfield 98, 3) := by decide +kernel
theorem dX0_addOrder_153 : decode cX0_addOrder 153 = .ok (.iconst 1, 1) := by decide +kernel
theorem dX0_addOrder_154 : decode cX0_addOrder 154 = .ok (.iadd, 1) := by decide +kernel
theorem dX0_addOrder_155 : decode cX0_addOrder 155 = .ok (.putfield 98, 3) := by decide +kernel
theorem dX0_addOrder_158 : decode cX0_addOrder 158 = .ok (.iload 8, 2) := by decide +kernel
theorem dX0_addOrder_160 : decode cX0_addOrder 160 = .ok (.ireturn, 1) := by decide +kernel
set_option maxRecDepth 20000 in
theorem ggX0_close_X0_checkOrder : GoodIn wsX0_close wsX0_checkOrder := goodIn_ca (goodIn_r _ [9, 10, 11, 12, 8, 13, 14, 15, 44, 45, 46, 47, 48, 49, 50, 51, 52, 53, 54, 55, 56, 57, 58, 59, 60, 61] (by decide +kernel) (by decide +kernel)) (goodIn_sub (fun _ h => List.mem_cons_of_mem _ (List.mem_append_left _ (List.mem_append_right _ h))) (by decide +kernel))
set_option maxRecDepth 20000 in
theorem gX0_close_X0_checkOrder : GoodIn wsX0_close (wsV RX0 101 RX0 yX0_checkOrder wsX0_checkOrder) := goodIn_app (goodIn_of _ (by decide +kernel)) ggX0_close_X0_checkOrder
set_option maxRecDepth 20000 in
theorem ggX0_close_X0_checkState : GoodIn wsX0_close wsX0_checkState := goodIn_ca (goodIn_r _ [18, 19, 20] (by decide +kernel) (by decide +kernel)) (goodIn_sub (fun _ h => List.mem_cons_of_mem _ (List.mem_append_right _ h)) (by decide +kernel))
set_option maxRecDepth 20000 in
theorem gX0_close_X0_checkState : GoodIn wsX0_close (va_wsS RX0 68 yX0_checkState wsX0_checkState) := goodIn_app (goodIn_of _ (by decide +kernel)) ggX0_close_X0_checkState
set_option maxRecDepth 20000 in
theorem ggX0_close_X0_owedTo : GoodIn wsX0_close wsX0_owedTo := goodIn_r _ [24, 1, 25, 26, 27, 28, 29, 30, 31, 32, 8, 33, 2, 3, 4, 34, 35, 36, 37, 38, 39, 40, 41, 42, 43, 44, 45, 46, 47, 48, 49, 50, 51, 52, 53, 54, 55, 56, 57, 58, 59, 60, 61] (by decide +kernel) (by decide +kernel)
set_option maxRecDepth 20000 in
theorem gX0_close_X0_owedTo : GoodIn wsX0_close (wsV RX0 104 RX0 yX0_owedTo wsX0_owedTo) := goodIn_app (goodIn_of _ (by decide +kernel)) ggX0_close_X0_owedTo
theorem dX0_close_0 : decode cX0_close 0 = .ok (.aload_n 0, 1) := by decide +kernel
theorem dX0_close_1 : decode cX0_close 1 = .ok (.iload_n 1, 1) := by decide +kernel
theorem dX0_close_2 : decode cX0_close 2 = .ok (.invokevirtual 101, 3) := by decide +kernel
theorem dX0_close_5 : decode cX0_close 5 = .ok (.aload_n 0, 1) := by decide +kernel
theorem dX0_close_6 : decode cX0_close 6 = .ok (.getfield 41, 3) := by decide +kernel
theorem dX0_close_9 : decode cX0_close 9 = .ok (.iload_n 1, 1) := by decide +kernel
theorem dX0_close_10 : decode cX0_close 10 = .ok (.baload, 1) := by decide +kernel
theorem dX0_close_11 : decode cX0_close 11 = .ok (.ifCond .ne 7, 3) := by decide +kernel
theorem dX0_close_14 : decode cX0_close 14 = .ok (.iconst 1, 1) := by decide +kernel
theorem dX0_close_15 : decode cX0_close 15 = .ok (.goto 4, 3) := by decide +kernel
theorem dX0_close_18 : decode cX0_close 18 = .ok (.iconst 0, 1) := by decide +kernel
theorem dX0_close_19 : decode cX0_close 19 = .ok (.invokestatic 68, 3) := by decide +kernel
theorem dX0_close_22 : decode cX0_close 22 = .ok (.aload_n 0, 1) := by decide +kernel
theorem dX0_close_23 : decode cX0_close 23 = .ok (.getfield 41, 3) := by decide +kernel
theorem dX0_close_26 : decode cX0_close 26 = .ok (.iload_n 1, 1) := by decide +kernel
theorem dX0_close_27 : decode cX0_close 27 = .ok (.iconst 1, 1) := by decide +kernel
theorem dX0_close_28 : decode cX0_close 28 = .ok (.bastore, 1) := by decide +kernel
theorem dX0_close_29 : decode cX0_close 29 = .ok (.iconst 0, 1) := by decide +kernel
theorem dX0_close_30 : decode cX0_close 30 = .ok (.istore_n 2, 1) := by decide +kernel
theorem dX0_close_31 : decode cX0_close 31 = .ok (.iload_n 2, 1) := by decide +kernel
theorem dX0_close_32 : decode cX0_close 32 = .ok (.aload_n 0, 1) := by decide +kernel
theorem dX0_close_33 : decode cX0_close 33 = .ok (.getfield 84, 3) := by decide +kernel
theorem dX0_close_36 : decode cX0_close 36 = .ok (.if_icmp .ge 35, 3) := by decide +kernel
theorem dX0_close_39 : decode cX0_close 39 = .ok (.aload_n 0, 1) := by decide +kernel
theorem dX0_close_40 : decode cX0_close 40 = .ok (.getfield 44, 3) := by decide +kernel
theorem dX0_close_43 : decode cX0_close 43 = .ok (.iload_n 2, 1) := by decide +kernel
theorem dX0_close_44 : decode cX0_close 44 = .ok (.iaload, 1) := by decide +kernel
theorem dX0_close_45 : decode cX0_close 45 = .ok (.iload_n 1, 1) := by decide +kernel
theorem dX0_close_46 : decode cX0_close 46 = .ok (.if_icmp .ne 19, 3) := by decide +kernel
theorem dX0_close_49 : decode cX0_close 49 = .ok (.aload_n 0, 1) := by decide +kernel
theorem dX0_close_50 : decode cX0_close 50 = .ok (.getfield 50, 3) := by decide +kernel
theorem dX0_close_53 : decode cX0_close 53 = .ok (.iload_n 2, 1) := by decide +kernel
theorem dX0_close_54 : decode cX0_close 54 = .ok (.iaload, 1) := by decide +kernel
theorem dX0_close_55 : decode cX0_close 55 = .ok (.ifCond .ne 10, 3) := by decide +kernel
theorem dX0_close_58 : decode cX0_close 58 = .ok (.aload_n 0, 1) := by decide +kernel
theorem dX0_close_59 : decode cX0_close 59 = .ok (.getfield 50, 3) := by decide +kernel
theorem dX0_close_62 : decode cX0_close 62 = .ok (.iload_n 2, 1) := by decide +kernel
theorem dX0_close_63 : decode cX0_close 63 = .ok (.iconst 3, 1) := by decide +kernel
theorem dX0_close_64 : decode cX0_close 64 = .ok (.iastore, 1) := by decide +kernel
theorem dX0_close_65 : decode cX0_close 65 = .ok (.iinc 2 1, 3) := by decide +kernel
theorem dX0_close_68 : decode cX0_close 68 = .ok (.goto (-37), 3) := by decide +kernel
theorem dX0_close_71 : decode cX0_close 71 = .ok (.aload_n 0, 1) := by decide +kernel
theorem dX0_close_72 : decode cX0_close 72 = .ok (.iload_n 1, 1) := by decide +kernel
theorem dX0_close_73 : decode cX0_close 73 = .ok (.invokevirtual 104, 3) := by decide +kernel
theorem dX0_close_76 : decode cX0_close 76 = .ok (.ireturn, 1) := by decide +kernel
theorem dX0_orders_0 : decode cX0_orders 0 = .ok (.aload_n 0, 1) := by decide +kernel
theorem dX0_orders_1 : decode cX0_orders 1 = .ok (.getfield 98, 3) := by decide +kernel
theorem dX0_orders_4 : decode cX0_orders 4 = .ok (.ireturn, 1) := by decide +kernel
set_option maxRecDepth 20000 in
theorem ggX0_whyNot_X0_checkOrder : GoodIn wsX0_whyNot wsX0_checkOrder := goodIn_ca (goodIn_r _ [5, 6, 7, 8, 4, 9, 10, 11, 60, 61, 62, 63, 64, 65, 66, 67, 68, 69, 70, 71, 72, 73, 74, 75, 76, 77] (by decide +kernel) (by decide +kernel)) (goodIn_sub (fun _ h => List.mem_cons_of_mem _ (List.mem_append_right _ h)) (by decide +kernel))
set_option maxRecDepth 20000 in
theorem gX0_whyNot_X0_checkOrder : GoodIn wsX0_whyNot (wsV RX0 101 RX0 yX0_checkOrder wsX0_checkOrder) := goodIn_app (goodIn_of _ (by decide +kernel)) ggX0_whyNot_X0_checkOrder
set_option maxRecDepth 20000 in
theorem ggX0_whyNot_X0_checkBreak : GoodIn wsX0_whyNot wsX0_checkBreak := goodIn_ca (goodIn_r _ [15, 16, 7, 8, 4, 9, 10, 11, 60, 61, 62, 63, 64, 65, 66, 67, 68, 69, 70, 71, 72, 73, 74, 75, 76, 77] (by decide +kernel) (by decide +kernel)) (goodIn_sub (fun _ h => List.mem_cons_of_mem _ (List.mem_append_right _ h)) (by decide +kernel))
set_option maxRecDepth 20000 in
theorem gX0_whyNot_X0_checkBreak : GoodIn wsX0_whyNot (wsV RX0 71 RX0 yX0_checkBreak wsX0_checkBreak) := goodIn_app (goodIn_of _ (by decide +kernel)) ggX0_whyNot_X0_checkBreak
set_option maxRecDepth 20000 in
theorem ggX0_whyNot_X0_obstacle : GoodIn wsX0_whyNot wsX0_obstacle := goodIn_r _ [20, 21, 22, 23, 24, 25, 26, 27, 4, 28, 29, 30, 31, 32, 33, 34, 35, 36, 37, 38, 39, 40, 41, 42, 43, 44, 45, 46, 47, 48, 49, 50, 51, 52, 53, 54, 55, 56, 57, 58, 59, 60, 61, 62, 63, 64, 65, 66, 67, 68, 69, 70, 71, 72, 73, 74, 75, 76, 77] (by decide +kernel) (by decide +kernel)
set_option maxRecDepth 20000 in
theorem gX0_whyNot_X0_obstacle : GoodIn wsX0_whyNot (wsV RX0 107 RX0 yX0_obstacle wsX0_obstacle) := goodIn_app (goodIn_of _ (by decide +kernel)) ggX0_whyNot_X0_obstacle
theorem dX0_whyNot_0 : decode cX0_whyNot 0 = .ok (.aload_n 0, 1) := by decide +kernel
theorem dX0_whyNot_1 : decode cX0_whyNot 1 = .ok (.iload_n 1, 1) := by decide +kernel
theorem dX0_whyNot_2 : decode cX0_whyNot 2 = .ok (.invokevirtual 101, 3) := by decide +kernel
theorem dX0_whyNot_5 : decode cX0_whyNot 5 = .ok (.aload_n 0, 1) := by decide +kernel
theorem dX0_whyNot_6 : decode cX0_whyNot 6 = .ok (.iload_n 2, 1) := by decide +kernel
theorem dX0_whyNot_7 : decode cX0_whyNot 7 = .ok (.invokevirtual 71, 3) := by decide +kernel
theorem dX0_whyNot_10 : decode cX0_whyNot 10 = .ok (.aload_n 0, 1) := by decide +kernel
theorem dX0_whyNot_11 : decode cX0_whyNot 11 = .ok (.iload_n 1, 1) := by decide +kernel
theorem dX0_whyNot_12 : decode cX0_whyNot 12 = .ok (.iload_n 2, 1) := by decide +kernel
theorem dX0_whyNot_13 : decode cX0_whyNot 13 = .ok (.invokevirtual 107, 3) := by decide +kernel
theorem dX0_whyNot_16 : decode cX0_whyNot 16 = .ok (.ireturn, 1) := by decide +kernel
set_option maxRecDepth 20000 in
theorem ggX0_place_X0_checkOrder : GoodIn wsX0_place wsX0_checkOrder := goodIn_ca (goodIn_r _ [7, 8, 9, 10, 6, 11, 12, 13, 71, 72, 73, 74, 75, 76, 77, 78, 79, 80, 81, 82, 83, 84, 85, 86, 87, 88] (by decide +kernel) (by decide +kernel)) (goodIn_sub (fun _ h => List.mem_cons_of_mem _ (List.mem_append_left _ (List.mem_append_right _ h))) (by decide +kernel))
set_option maxRecDepth 20000 in
theorem gX0_place_X0_checkOrder : GoodIn wsX0_place (wsV RX0 101 RX0 yX0_checkOrder wsX0_checkOrder) := goodIn_app (goodIn_of _ (by decide +kernel)) ggX0_place_X0_checkOrder
set_option maxRecDepth 20000 in
theorem ggX0_place_X0_checkBreak : GoodIn wsX0_place wsX0_checkBreak := goodIn_ca (goodIn_r _ [17, 18, 9, 10, 6, 11, 12, 13, 71, 72, 73, 74, 75, 76, 77, 78, 79, 80, 81, 82, 83, 84, 85, 86, 87, 88] (by decide +kernel) (by decide +kernel)) (goodIn_sub (fun _ h => List.mem_cons_of_mem _ (List.mem_append_left _ (List.mem_append_right _ h))) (by decide +kernel))
set_option maxRecDepth 20000 in
theorem gX0_place_X0_checkBreak : GoodIn wsX0_place (wsV RX0 71 RX0 yX0_checkBreak wsX0_checkBreak) := goodIn_app (goodIn_of _ (by decide +kernel)) ggX0_place_X0_checkBreak
set_option maxRecDepth 20000 in
theorem ggX0_place_X0_checkState : GoodIn wsX0_place wsX0_checkState := goodIn_ca (goodIn_r _ [21, 22, 23] (by decide +kernel) (by decide +kernel)) (goodIn_sub (fun _ h => List.mem_cons_of_mem _ (List.mem_append_right _ h)) (by decide +kernel))
set_option maxRecDepth 20000 in
theorem gX0_place_X0_checkState : GoodIn wsX0_place (va_wsS RX0 68 yX0_checkState wsX0_checkState) := goodIn_app (goodIn_of _ (by decide +kernel)) ggX0_place_X0_checkState
set_option maxRecDepth 20000 in
theorem ggX0_place_X0_obstacle : GoodIn wsX0_place wsX0_obstacle := goodIn_r _ [27, 28, 29, 30, 31, 32, 33, 34, 6, 35, 36, 2, 37, 38, 39, 40, 41, 42, 43, 44, 45, 46, 47, 48, 49, 50, 51, 52, 53, 54, 55, 56, 57, 58, 59, 60, 61, 62, 63, 64, 65, 71, 72, 73, 74, 75, 76, 77, 78, 79, 80, 81, 82, 83, 84, 85, 86, 87, 88] (by decide +kernel) (by decide +kernel)
set_option maxRecDepth 20000 in
theorem gX0_place_X0_obstacle : GoodIn wsX0_place (wsV RX0 107 RX0 yX0_obstacle wsX0_obstacle) := goodIn_app (goodIn_of _ (by decide +kernel)) ggX0_place_X0_obstacle
set_option maxRecDepth 20000 in
theorem ggX0_place_X0_addSpot : GoodIn wsX0_place wsX0_addSpot := goodIn_r _ [69, 2, 38, 37, 43, 70, 71, 72, 73, 74, 75, 76, 77, 78, 79, 80, 81, 82, 83, 84, 85, 86, 87, 88] (by decide +kernel) (by decide +kernel)
set_option maxRecDepth 20000 in
theorem gX0_place_X0_addSpot : GoodIn wsX0_place (wsV RX0 110 RX0 yX0_addSpot wsX0_addSpot) := goodIn_app (goodIn_of _ (by decide +kernel)) ggX0_place_X0_addSpot
theorem dX0_place_0 : decode cX0_place 0 = .ok (.aload_n 0, 1) := by decide +kernel
theorem dX0_place_1 : decode cX0_place 1 = .ok (.iload_n 1, 1) := by decide +kernel
theorem dX0_place_2 : decode cX0_place 2 = .ok (.invokevirtual 101, 3) := by decide +kernel
theorem dX0_place_5 : decode cX0_place 5 = .ok (.aload_n 0, 1) := by decide +kernel
theorem dX0_place_6 : decode cX0_place 6 = .ok (.iload_n 2, 1) := by decide +kernel
theorem dX0_place_7 : decode cX0_place 7 = .ok (.invokevirtual 71, 3) := by decide +kernel
theorem dX0_place_10 : decode cX0_place 10 = .ok (.aload_n 0, 1) := by decide +kernel
theorem dX0_place_11 : decode cX0_place 11 = .ok (.getfield 41, 3) := by decide +kernel
theorem dX0_place_14 : decode cX0_place 14 = .ok (.iload_n 1, 1) := by decide +kernel
theorem dX0_place_15 : decode cX0_place 15 = .ok (.baload, 1) := by decide +kernel
theorem dX0_place_16 : decode cX0_place 16 = .ok (.ifCond .ne 7, 3) := by decide +kernel
theorem dX0_place_19 : decode cX0_place 19 = .ok (.iconst 1, 1) := by decide +kernel
theorem dX0_place_20 : decode cX0_place 20 = .ok (.goto 4, 3) := by decide +kernel
theorem dX0_place_23 : decode cX0_place 23 = .ok (.iconst 0, 1) := by decide +kernel
theorem dX0_place_24 : decode cX0_place 24 = .ok (.invokestatic 68, 3) := by decide +kernel
theorem dX0_place_27 : decode cX0_place 27 = .ok (.aload_n 0, 1) := by decide +kernel
theorem dX0_place_28 : decode cX0_place 28 = .ok (.iload_n 1, 1) := by decide +kernel
theorem dX0_place_29 : decode cX0_place 29 = .ok (.iload_n 2, 1) := by decide +kernel
theorem dX0_place_30 : decode cX0_place 30 = .ok (.invokevirtual 107, 3) := by decide +kernel
theorem dX0_place_33 : decode cX0_place 33 = .ok (.ifCond .ne 7, 3) := by decide +kernel
theorem dX0_place_36 : decode cX0_place 36 = .ok (.iconst 1, 1) := by decide +kernel
theorem dX0_place_37 : decode cX0_place 37 = .ok (.goto 4, 3) := by decide +kernel
theorem dX0_place_40 : decode cX0_place 40 = .ok (.iconst 0, 1) := by decide +kernel
theorem dX0_place_41 : decode cX0_place 41 = .ok (.invokestatic 68, 3) := by decide +kernel
theorem dX0_place_44 : decode cX0_place 44 = .ok (.aload_n 0, 1) := by decide +kernel
theorem dX0_place_45 : decode cX0_place 45 = .ok (.getfield 84, 3) := by decide +kernel
theorem dX0_place_48 : decode cX0_place 48 = .ok (.sipush 150, 3) := by decide +kernel
theorem dX0_place_51 : decode cX0_place 51 = .ok (.if_icmp .ge 7, 3) := by decide +kernel
theorem dX0_place_54 : decode cX0_place 54 = .ok (.iconst 1, 1) := by decide +kernel
theorem dX0_place_55 : decode cX0_place 55 = .ok (.goto 4, 3) := by decide +kernel
theorem dX0_place_58 : decode cX0_place 58 = .ok (.iconst 0, 1) := by decide +kernel
theorem dX0_place_59 : decode cX0_place 59 = .ok (.invokestatic 68, 3) := by decide +kernel
theorem dX0_place_62 : decode cX0_place 62 = .ok (.aload_n 0, 1) := by decide +kernel
theorem dX0_place_63 : decode cX0_place 63 = .ok (.iload_n 1, 1) := by decide +kernel
theorem dX0_place_64 : decode cX0_place 64 = .ok (.iload_n 2, 1) := by decide +kernel
theorem dX0_place_65 : decode cX0_place 65 = .ok (.iconst 0, 1) := by decide +kernel
theorem dX0_place_66 : decode cX0_place 66 = .ok (.invokevirtual 110, 3) := by decide +kernel
theorem dX0_place_69 : decode cX0_place 69 = .ok (.ireturn, 1) := by decide +kernel
set_option maxRecDepth 20000 in
theorem ggX0_give_X0_checkOrder : GoodIn wsX0_give wsX0_checkOrder := goodIn_ca (goodIn_r _ [6, 7, 8, 9, 5, 10, 11, 12, 88, 89, 90, 91, 92, 93, 94, 95, 96, 97, 98, 99, 100, 101, 102, 103, 104, 105] (by decide +kernel) (by decide +kernel)) (goodIn_sub (fun _ h => List.mem_cons_of_mem _ (List.mem_append_left _ (List.mem_append_right _ h))) (by decide +kernel))
set_option maxRecDepth 20000 in
theorem gX0_give_X0_checkOrder : GoodIn wsX0_give (wsV RX0 101 RX0 yX0_checkOrder wsX0_checkOrder) := goodIn_app (goodIn_of _ (by decide +kernel)) ggX0_give_X0_checkOrder
set_option maxRecDepth 20000 in
theorem ggX0_give_X0_checkBreak : GoodIn wsX0_give wsX0_checkBreak := goodIn_ca (goodIn_r _ [16, 17, 8, 9, 5, 10, 11, 12, 88, 89, 90, 91, 92, 93, 94, 95, 96, 97, 98, 99, 100, 101, 102, 103, 104, 105] (by decide +kernel) (by decide +kernel)) (goodIn_sub (fun _ h => List.mem_cons_of_mem _ (List.mem_append_left _ (List.mem_append_right _ h))) (by decide +kernel))
set_option maxRecDepth 20000 in
theorem gX0_give_X0_checkBreak : GoodIn wsX0_give (wsV RX0 71 RX0 yX0_checkBreak wsX0_checkBreak) := goodIn_app (goodIn_of _ (by decide +kernel)) ggX0_give_X0_checkBreak
set_option maxRecDepth 20000 in
theorem ggX0_give_X0_restOf : GoodIn wsX0_give wsX0_restOf := goodIn_r _ [21, 1, 22, 23, 24, 25, 26, 27, 28, 29, 30, 31, 32, 5, 33, 34, 35, 36, 37, 38, 39, 40, 41, 42, 43, 44, 45, 46, 47, 48, 88, 89, 90, 91, 92, 93, 94, 95, 96, 97, 98, 99, 100, 101, 102, 103, 104, 105] (by decide +kernel) (by decide +kernel)
set_option maxRecDepth 20000 in
theorem gX0_give_X0_restOf : GoodIn wsX0_give (wsV RX0 114 RX0 yX0_restOf wsX0_restOf) := goodIn_app (goodIn_of _ (by decide +kernel)) ggX0_give_X0_restOf
set_option maxRecDepth 20000 in
theorem ggX0_give_X0_checkState : GoodIn wsX0_give wsX0_checkState := goodIn_ca (goodIn_r _ [51, 52, 53] (by decide +kernel) (by decide +kernel)) (goodIn_sub (fun _ h => List.mem_cons_of_mem _ (List.mem_append_right _ h)) (by decide +kernel))
set_option maxRecDepth 20000 in
theorem gX0_give_X0_checkState : GoodIn wsX0_give (va_wsS RX0 68 yX0_checkState wsX0_checkState) := goodIn_app (goodIn_of _ (by decide +kernel)) ggX0_give_X0_checkState
set_option maxRecDepth 20000 in
theorem ggX0_give_X0_obstacle : GoodIn wsX0_give wsX0_obstacle := goodIn_r _ [57, 58, 59, 60, 61, 62, 63, 64, 5, 65, 66, 1, 25, 22, 67, 68, 69, 70, 24, 40, 41, 42, 43, 44, 45, 46, 47, 48, 71, 72, 73, 74, 75, 76, 77, 78, 79, 80, 81, 82, 83, 88, 89, 90, 91, 92, 93, 94, 95, 96, 97, 98, 99, 100, 101, 102, 103, 104, 105] (by decide +kernel) (by decide +kernel)
set_option maxRecDepth 20000 in
theorem gX0_give_X0_obstacle : GoodIn wsX0_give (wsV RX0 107 RX0 yX0_obstacle wsX0_obstacle) := goodIn_app (goodIn_of _ (by decide +kernel)) ggX0_give_X0_obstacle
set_option maxRecDepth 20000 in
theorem ggX0_give_X0_addSpot : GoodIn wsX0_give wsX0_addSpot := goodIn_r _ [87, 1, 22, 25, 24, 23, 88, 89, 90, 91, 92, 93, 94, 95, 96, 97, 98, 99, 100, 101, 102, 103, 104, 105] (by decide +kernel) (by decide +kernel)
set_option maxRecDepth 20000 in
theorem gX0_give_X0_addSpot : GoodIn wsX0_give (wsV RX0 110 RX0 yX0_addSpot wsX0_addSpot) := goodIn_app (goodIn_of _ (by decide +kernel)) ggX0_give_X0_addSpot
theorem dX0_give_0 : decode cX0_give 0 = .ok (.aload_n 0, 1) := by decide +kernel
theorem dX0_give_1 : decode cX0_give 1 = .ok (.iload_n 1, 1) := by decide +kernel
theorem dX0_give_2 : decode cX0_give 2 = .ok (.invokevirtual 101, 3) := by decide +kernel
theorem dX0_give_5 : decode cX0_give 5 = .ok (.aload_n 0, 1) := by decide +kernel
theorem dX0_give_6 : decode cX0_give 6 = .ok (.iload_n 2, 1) := by decide +kernel
theorem dX0_give_7 : decode cX0_give 7 = .ok (.invokevirtual 71, 3) := by decide +kernel
theorem dX0_give_10 : decode cX0_give 10 = .ok (.aload_n 0, 1) := by decide +kernel
theorem dX0_give_11 : decode cX0_give 11 = .ok (.iload_n 1, 1) := by decide +kernel
theorem dX0_give_12 : decode cX0_give 12 = .ok (.invokevirtual 114, 3) := by decide +kernel
theorem dX0_give_15 : decode cX0_give 15 = .ok (.ifCond .le 7, 3) := by decide +kernel
theorem dX0_give_18 : decode cX0_give 18 = .ok (.iconst 1, 1) := by decide +kernel
theorem dX0_give_19 : decode cX0_give 19 = .ok (.goto 4, 3) := by decide +kernel
theorem dX0_give_22 : decode cX0_give 22 = .ok (.iconst 0, 1) := by decide +kernel
theorem dX0_give_23 : decode cX0_give 23 = .ok (.invokestatic 68, 3) := by decide +kernel
theorem dX0_give_26 : decode cX0_give 26 = .ok (.aload_n 0, 1) := by decide +kernel
theorem dX0_give_27 : decode cX0_give 27 = .ok (.iload_n 1, 1) := by decide +kernel
theorem dX0_give_28 : decode cX0_give 28 = .ok (.iload_n 2, 1) := by decide +kernel
theorem dX0_give_29 : decode cX0_give 29 = .ok (.invokevirtual 107, 3) := by decide +kernel
theorem dX0_give_32 : decode cX0_give 32 = .ok (.ifCond .ne 7, 3) := by decide +kernel
theorem dX0_give_35 : decode cX0_give 35 = .ok (.iconst 1, 1) := by decide +kernel
theorem dX0_give_36 : decode cX0_give 36 = .ok (.goto 4, 3) := by decide +kernel
theorem dX0_give_39 : decode cX0_give 39 = .ok (.iconst 0, 1) := by decide +kernel
theorem dX0_give_40 : decode cX0_give 40 = .ok (.invokestatic 68, 3) := by decide +kernel
theorem dX0_give_43 : decode cX0_give 43 = .ok (.aload_n 0, 1) := by decide +kernel
theorem dX0_give_44 : decode cX0_give 44 = .ok (.getfield 84, 3) := by decide +kernel
theorem dX0_give_47 : decode cX0_give 47 = .ok (.sipush 150, 3) := by decide +kernel
theorem dX0_give_50 : decode cX0_give 50 = .ok (.if_icmp .ge 7, 3) := by decide +kernel
theorem dX0_give_53 : decode cX0_give 53 = .ok (.iconst 1, 1) := by decide +kernel
theorem dX0_give_54 : decode cX0_give 54 = .ok (.goto 4, 3) := by decide +kernel
theorem dX0_give_57 : decode cX0_give 57 = .ok (.iconst 0, 1) := by decide +kernel
theorem dX0_give_58 : decode cX0_give 58 = .ok (.invokestatic 68, 3) := by decide +kernel
theorem dX0_give_61 : decode cX0_give 61 = .ok (.aload_n 0, 1) := by decide +kernel
theorem dX0_give_62 : decode cX0_give 62 = .ok (.iload_n 1, 1) := by decide +kernel
theorem dX0_give_63 : decode cX0_give 63 = .ok (.iload_n 2, 1) := by decide +kernel
theorem dX0_give_64 : decode cX0_give 64 = .ok (.iconst 1, 1) := by decide +kernel
theorem dX0_give_65 : decode cX0_give 65 = .ok (.invokevirtual 110, 3) := by decide +kernel
theorem dX0_give_68 : decode cX0_give 68 = .ok (.ireturn, 1) := by decide +kernel
set_option maxRecDepth 20000 in
theorem ggX0_fill_X0_checkOrder : GoodIn wsX0_fill wsX0_checkOrder := goodIn_ca (goodIn_r _ [7, 8, 9, 10, 6, 11, 12, 13, 88, 89, 90, 91, 92, 93, 94, 95, 96, 97, 98, 99, 100, 101, 102, 103, 104, 105] (by decide +kernel) (by decide +kernel)) (goodIn_sub (fun _ h => List.mem_cons_of_mem _ (List.mem_append_left _ (List.mem_append_left _ (List.mem_append_right _ h)))) (by decide +kernel))
set_option maxRecDepth 20000 in
theorem gX0_fill_X0_checkOrder : GoodIn wsX0_fill (wsV RX0 101 RX0 yX0_checkOrder wsX0_checkOrder) := goodIn_app (goodIn_of _ (by decide +kernel)) ggX0_fill_X0_checkOrder
set_option maxRecDepth 20000 in
theorem ggX0_fill_X0_isWithin : GoodIn wsX0_fill wsX0_isWithin := goodIn_r _ [16] (by decide +kernel) (by decide +kernel)
set_option maxRecDepth 20000 in
theorem gX0_fill_X0_isWithin : GoodIn wsX0_fill (va_wsS RX0 56 yX0_isWithin wsX0_isWithin) := goodIn_app (goodIn_of _ (by decide +kernel)) ggX0_fill_X0_isWithin
set_option maxRecDepth 20000 in
theorem ggX0_fill_X0_checkArgument : GoodIn wsX0_fill wsX0_checkArgument := goodIn_ca (goodIn_r _ [19, 20, 21] (by decide +kernel) (by decide +kernel)) (goodIn_sub (fun _ h => List.mem_cons_of_mem _ (List.mem_append_left _ (List.mem_append_right _ h))) (by decide +kernel))
set_option maxRecDepth 20000 in
theorem gX0_fill_X0_checkArgument : GoodIn wsX0_fill (va_wsS RX0 60 yX0_checkArgument wsX0_checkArgument) := goodIn_app (goodIn_of _ (by decide +kernel)) ggX0_fill_X0_checkArgument
set_option maxRecDepth 20000 in
theorem ggX0_fill_X0_checkState : GoodIn wsX0_fill wsX0_checkState := goodIn_ca (goodIn_r _ [24, 25, 26] (by decide +kernel) (by decide +kernel)) (goodIn_sub (fun _ h => List.mem_cons_of_mem _ (List.mem_append_right _ h)) (by decide +kernel))
set_option maxRecDepth 20000 in
theorem gX0_fill_X0_checkState : GoodIn wsX0_fill (va_wsS RX0 68 yX0_checkState wsX0_checkState) := goodIn_app (goodIn_of _ (by decide +kernel)) ggX0_fill_X0_checkState
set_option maxRecDepth 20000 in
theorem ggX0_fill_X0_isShortOfPromise : GoodIn wsX0_fill wsX0_isShortOfPromise := goodIn_r _ [30, 31, 32, 33, 34, 6, 35, 2, 36, 37, 38, 39, 40, 41, 42, 43, 44, 45, 46, 47, 88, 89, 90, 91, 92, 93, 94, 95, 96, 97, 98, 99, 100, 101, 102, 103, 104, 105] (by decide +kernel) (by decide +kernel)
set_option maxRecDepth 20000 in
theorem gX0_fill_X0_isShortOfPromise : GoodIn wsX0_fill (wsV RX0 117 RX0 yX0_isShortOfPromise wsX0_isShortOfPromise) := goodIn_app (goodIn_of _ (by decide +kernel)) ggX0_fill_X0_isShortOfPromise
set_option maxRecDepth 20000 in
theorem ggX0_fill_X0_bestBreak : GoodIn wsX0_fill wsX0_bestBreak := goodIn_r _ [51, 52, 39, 40, 41, 6, 42, 43, 44, 45, 46, 47, 53, 54, 55, 56, 57, 58, 59, 60, 61, 62, 63, 64, 65, 2, 38, 36, 66, 67, 68, 69, 37, 70, 71, 72, 73, 74, 75, 76, 77, 78, 79, 80, 81, 82, 88, 89, 90, 91, 92, 93, 94, 95, 96, 97, 98, 99, 100, 101, 102, 103, 104, 105] (by decide +kernel) (by decide +kernel)
set_option maxRecDepth 20000 in
theorem gX0_fill_X0_bestBreak : GoodIn wsX0_fill (wsV RX0 120 RX0 yX0_bestBreak wsX0_bestBreak) := goodIn_app (goodIn_of _ (by decide +kernel)) ggX0_fill_X0_bestBreak
set_option maxRecDepth 20000 in
theorem ggX0_fill_X0_addSpot : GoodIn wsX0_fill wsX0_addSpot := goodIn_r _ [86, 2, 36, 38, 37, 87, 88, 89, 90, 91, 92, 93, 94, 95, 96, 97, 98, 99, 100, 101, 102, 103, 104, 105] (by decide +kernel) (by decide +kernel)
set_option maxRecDepth 20000 in
theorem gX0_fill_X0_addSpot : GoodIn wsX0_fill (wsV RX0 110 RX0 yX0_addSpot wsX0_addSpot) := goodIn_app (goodIn_of _ (by decide +kernel)) ggX0_fill_X0_addSpot
theorem dX0_fill_0 : decode cX0_fill 0 = .ok (.aload_n 0, 1) := by decide +kernel
theorem dX0_fill_1 : decode cX0_fill 1 = .ok (.iload_n 1, 1) := by decide +kernel
theorem dX0_fill_2 : decode cX0_fill 2 = .ok (.invokevirtual 101, 3) := by decide +kernel
theorem dX0_fill_5 : decode cX0_fill 5 = .ok (.iload_n 2, 1) := by decide +kernel
theorem dX0_fill_6 : decode cX0_fill 6 = .ok (.iconst 1, 1) := by decide +kernel
theorem dX0_fill_7 : decode cX0_fill 7 = .ok (.bipush 24, 2) := by decide +kernel
theorem dX0_fill_9 : decode cX0_fill 9 = .ok (.invokestatic 56, 3) := by decide +kernel
theorem dX0_fill_12 : decode cX0_fill 12 = .ok (.invokestatic 60, 3) := by decide +kernel
theorem dX0_fill_15 : decode cX0_fill 15 = .ok (.aload_n 0, 1) := by decide +kernel
theorem dX0_fill_16 : decode cX0_fill 16 = .ok (.getfield 41, 3) := by decide +kernel
theorem dX0_fill_19 : decode cX0_fill 19 = .ok (.iload_n 1, 1) := by decide +kernel
theorem dX0_fill_20 : decode cX0_fill 20 = .ok (.baload, 1) := by decide +kernel
theorem dX0_fill_21 : decode cX0_fill 21 = .ok (.ifCond .ne 7, 3) := by decide +kernel
theorem dX0_fill_24 : decode cX0_fill 24 = .ok (.iconst 1, 1) := by decide +kernel
theorem dX0_fill_25 : decode cX0_fill 25 = .ok (.goto 4, 3) := by decide +kernel
theorem dX0_fill_28 : decode cX0_fill 28 = .ok (.iconst 0, 1) := by decide +kernel
theorem dX0_fill_29 : decode cX0_fill 29 = .ok (.invokestatic 68, 3) := by decide +kernel
theorem dX0_fill_32 : decode cX0_fill 32 = .ok (.iconst 0, 1) := by decide +kernel
theorem dX0_fill_33 : decode cX0_fill 33 = .ok (.istore_n 3, 1) := by decide +kernel
theorem dX0_fill_34 : decode cX0_fill 34 = .ok (.iload_n 3, 1) := by decide +kernel
theorem dX0_fill_35 : decode cX0_fill 35 = .ok (.iload_n 2, 1) := by decide +kernel
theorem dX0_fill_36 : decode cX0_fill 36 = .ok (.if_icmp .ge 52, 3) := by decide +kernel
theorem dX0_fill_39 : decode cX0_fill 39 = .ok (.aload_n 0, 1) := by decide +kernel
theorem dX0_fill_40 : decode cX0_fill 40 = .ok (.getfield 84, 3) := by decide +kernel
theorem dX0_fill_43 : decode cX0_fill 43 = .ok (.sipush 150, 3) := by decide +kernel
theorem dX0_fill_46 : decode cX0_fill 46 = .ok (.if_icmp .ge 42, 3) := by decide +kernel
theorem dX0_fill_49 : decode cX0_fill 49 = .ok (.aload_n 0, 1) := by decide +kernel
theorem dX0_fill_50 : decode cX0_fill 50 = .ok (.iload_n 1, 1) := by decide +kernel
theorem dX0_fill_51 : decode cX0_fill 51 = .ok (.invokevirtual 117, 3) := by decide +kernel
theorem dX0_fill_54 : decode cX0_fill 54 = .ok (.ifCond .eq 34, 3) := by decide +kernel
theorem dX0_fill_57 : decode cX0_fill 57 = .ok (.aload_n 0, 1) := by decide +kernel
theorem dX0_fill_58 : decode cX0_fill 58 = .ok (.iload_n 1, 1) := by decide +kernel
theorem dX0_fill_59 : decode cX0_fill 59 = .ok (.invokevirtual 120, 3) := by decide +kernel
theorem dX0_fill_62 : decode cX0_fill 62 = .ok (.istore 4, 2) := by decide +kernel
theorem dX0_fill_64 : decode cX0_fill 64 = .ok (.iload 4, 2) := by decide +kernel
theorem dX0_fill_66 : decode cX0_fill 66 = .ok (.iconst (-1), 1) := by decide +kernel
theorem dX0_fill_67 : decode cX0_fill 67 = .ok (.if_icmp .ne 6, 3) := by decide +kernel
theorem dX0_fill_70 : decode cX0_fill 70 = .ok (.goto 18, 3) := by decide +kernel
theorem dX0_fill_73 : decode cX0_fill 73 = .ok (.aload_n 0, 1) := by decide +kernel
theorem dX0_fill_74 : decode cX0_fill 74 = .ok (.iload_n 1, 1) := by decide +kernel
theorem dX0_fill_75 : decode cX0_fill 75 = .ok (.iload 4, 2) := by decide +kernel
theorem dX0_fill_77 : decode cX0_fill 77 = .ok (.iconst 0, 1) := by decide +kernel
theorem dX0_fill_78 : decode cX0_fill 78 = .ok (.invokevirtual 110, 3) := by decide +kernel
theorem dX0_fill_81 : decode cX0_fill 81 = .ok (.pop, 1) := by decide +kernel
theorem dX0_fill_82 : decode cX0_fill 82 = .ok (.iinc 3 1, 3) := by decide +kernel
theorem dX0_fill_85 : decode cX0_fill 85 = .ok (.goto (-51), 3) := by decide +kernel
theorem dX0_fill_88 : decode cX0_fill 88 = .ok (.iload_n 3, 1) := by decide +kernel
theorem dX0_fill_89 : decode cX0_fill 89 = .ok (.ireturn, 1) := by decide +kernel
set_option maxRecDepth 20000 in
theorem ggX0_move_X0_checkSpot : GoodIn wsX0_move wsX0_checkSpot := goodIn_ca (goodIn_r _ [8, 9, 10, 11, 7, 12, 13, 14, 64, 65, 66, 67, 68, 69, 70, 71, 72, 73, 74, 75, 76, 77, 78, 79, 80, 81] (by decide +kernel) (by decide +kernel)) (goodIn_sub (fun _ h => List.mem_cons_of_mem _ (List.mem_append_left _ (List.mem_append_right _ h))) (by decide +kernel))
set_option maxRecDepth 20000 in
theorem gX0_move_X0_checkSpot : GoodIn wsX0_move (wsV RX0 123 RX0 yX0_checkSpot wsX0_checkSpot) := goodIn_app (goodIn_of _ (by decide +kernel)) ggX0_move_X0_checkSpot
set_option maxRecDepth 20000 in
theorem ggX0_move_X0_checkBreak : GoodIn wsX0_move wsX0_checkBreak := goodIn_ca (goodIn_r _ [18, 19, 10, 11, 7, 12, 13, 14, 64, 65, 66, 67, 68, 69, 70, 71, 72, 73, 74, 75, 76, 77, 78, 79, 80, 81] (by decide +kernel) (by decide +kernel)) (goodIn_sub (fun _ h => List.mem_cons_of_mem _ (List.mem_append_left _ (List.mem_append_right _ h))) (by decide +kernel))
set_option maxRecDepth 20000 in
theorem gX0_move_X0_checkBreak : GoodIn wsX0_move (wsV RX0 71 RX0 yX0_checkBreak wsX0_checkBreak) := goodIn_app (goodIn_of _ (by decide +kernel)) ggX0_move_X0_checkBreak
set_option maxRecDepth 20000 in
theorem ggX0_move_X0_checkState : GoodIn wsX0_move wsX0_checkState := goodIn_ca (goodIn_r _ [22, 23, 24] (by decide +kernel) (by decide +kernel)) (goodIn_sub (fun _ h => List.mem_cons_of_mem _ (List.mem_append_right _ h)) (by decide +kernel))
set_option maxRecDepth 20000 in
theorem gX0_move_X0_checkState : GoodIn wsX0_move (va_wsS RX0 68 yX0_checkState wsX0_checkState) := goodIn_app (goodIn_of _ (by decide +kernel)) ggX0_move_X0_checkState
set_option maxRecDepth 20000 in
theorem ggX0_move_X0_obstacle : GoodIn wsX0_move wsX0_obstacle := goodIn_r _ [28, 29, 30, 31, 32, 33, 34, 35, 7, 36, 37, 9, 2, 3, 38, 39, 40, 41, 1, 42, 43, 44, 45, 46, 47, 48, 49, 50, 51, 52, 53, 54, 55, 56, 57, 58, 59, 60, 61, 62, 63, 64, 65, 66, 67, 68, 69, 70, 71, 72, 73, 74, 75, 76, 77, 78, 79, 80, 81] (by decide +kernel) (by decide +kernel)
set_option maxRecDepth 20000 in
theorem gX0_move_X0_obstacle : GoodIn wsX0_move (wsV RX0 107 RX0 yX0_obstacle wsX0_obstacle) := goodIn_app (goodIn_of _ (by decide +kernel)) ggX0_move_X0_obstacle
theorem dX0_move_0 : decode cX0_move 0 = .ok (.aload_n 0, 1) := by decide +kernel
theorem dX0_move_1 : decode cX0_move 1 = .ok (.iload_n 1, 1) := by decide +kernel
theorem dX0_move_2 : decode cX0_move 2 = .ok (.invokevirtual 123, 3) := by decide +kernel
theorem dX0_move_5 : decode cX0_move 5 = .ok (.aload_n 0, 1) := by decide +kernel
theorem dX0_move_6 : decode cX0_move 6 = .ok (.iload_n 2, 1) := by decide +kernel
theorem dX0_move_7 : decode cX0_move 7 = .ok (.invokevirtual 71, 3) := by decide +kernel
theorem dX0_move_10 : decode cX0_move 10 = .ok (.aload_n 0, 1) := by decide +kernel
theorem dX0_move_11 : decode cX0_move 11 = .ok (.getfield 50, 3) := by decide +kernel
theorem dX0_move_14 : decode cX0_move 14 = .ok (.iload_n 1, 1) := by decide +kernel
theorem dX0_move_15 : decode cX0_move 15 = .ok (.iaload, 1) := by decide +kernel
theorem dX0_move_16 : decode cX0_move 16 = .ok (.ifCond .ne 7, 3) := by decide +kernel
theorem dX0_move_19 : decode cX0_move 19 = .ok (.iconst 1, 1) := by decide +kernel
theorem dX0_move_20 : decode cX0_move 20 = .ok (.goto 4, 3) := by decide +kernel
theorem dX0_move_23 : decode cX0_move 23 = .ok (.iconst 0, 1) := by decide +kernel
theorem dX0_move_24 : decode cX0_move 24 = .ok (.invokestatic 68, 3) := by decide +kernel
theorem dX0_move_27 : decode cX0_move 27 = .ok (.aload_n 0, 1) := by decide +kernel
theorem dX0_move_28 : decode cX0_move 28 = .ok (.getfield 47, 3) := by decide +kernel
theorem dX0_move_31 : decode cX0_move 31 = .ok (.iload_n 1, 1) := by decide +kernel
theorem dX0_move_32 : decode cX0_move 32 = .ok (.iaload, 1) := by decide +kernel
theorem dX0_move_33 : decode cX0_move 33 = .ok (.istore_n 3, 1) := by decide +kernel
theorem dX0_move_34 : decode cX0_move 34 = .ok (.iload_n 2, 1) := by decide +kernel
theorem dX0_move_35 : decode cX0_move 35 = .ok (.iload_n 3, 1) := by decide +kernel
theorem dX0_move_36 : decode cX0_move 36 = .ok (.if_icmp .eq 17, 3) := by decide +kernel
theorem dX0_move_39 : decode cX0_move 39 = .ok (.aload_n 0, 1) := by decide +kernel
theorem dX0_move_40 : decode cX0_move 40 = .ok (.aload_n 0, 1) := by decide +kernel
theorem dX0_move_41 : decode cX0_move 41 = .ok (.getfield 44, 3) := by decide +kernel
theorem dX0_move_44 : decode cX0_move 44 = .ok (.iload_n 1, 1) := by decide +kernel
theorem dX0_move_45 : decode cX0_move 45 = .ok (.iaload, 1) := by decide +kernel
theorem dX0_move_46 : decode cX0_move 46 = .ok (.iload_n 2, 1) := by decide +kernel
theorem dX0_move_47 : decode cX0_move 47 = .ok (.invokevirtual 107, 3) := by decide +kernel
theorem dX0_move_50 : decode cX0_move 50 = .ok (.ifCond .ne 7, 3) := by decide +kernel
theorem dX0_move_53 : decode cX0_move 53 = .ok (.iconst 1, 1) := by decide +kernel
theorem dX0_move_54 : decode cX0_move 54 = .ok (.goto 4, 3) := by decide +kernel
theorem dX0_move_57 : decode cX0_move 57 = .ok (.iconst 0, 1) := by decide +kernel
theorem dX0_move_58 : decode cX0_move 58 = .ok (.invokestatic 68, 3) := by decide +kernel
theorem dX0_move_61 : decode cX0_move 61 = .ok (.aload_n 0, 1) := by decide +kernel
theorem dX0_move_62 : decode cX0_move 62 = .ok (.getfield 47, 3) := by decide +kernel
theorem dX0_move_65 : decode cX0_move 65 = .ok (.iload_n 1, 1) := by decide +kernel
theorem dX0_move_66 : decode cX0_move 66 = .ok (.iload_n 2, 1) := by decide +kernel
theorem dX0_move_67 : decode cX0_move 67 = .ok (.iastore, 1) := by decide +kernel
theorem dX0_move_68 : decode cX0_move 68 = .ok (.iload_n 3, 1) := by decide +kernel
theorem dX0_move_69 : decode cX0_move 69 = .ok (.ireturn, 1) := by decide +kernel
set_option maxRecDepth 20000 in
theorem ggX0_miss_X0_checkSpot : GoodIn wsX0_miss wsX0_checkSpot := goodIn_ca (goodIn_r _ [6, 7, 8, 9, 5, 10, 11, 12, 22, 23, 24, 25, 26, 27, 28, 29, 30, 31, 32, 33, 34, 35, 36, 37, 38, 39] (by decide +kernel) (by decide +kernel)) (goodIn_sub (fun _ h => List.mem_cons_of_mem _ (List.mem_append_left _ (List.mem_append_right _ h))) (by decide +kernel))
set_option maxRecDepth 20000 in
theorem gX0_miss_X0_checkSpot : GoodIn wsX0_miss (wsV RX0 123 RX0 yX0_checkSpot wsX0_checkSpot) := goodIn_app (goodIn_of _ (by decide +kernel)) ggX0_miss_X0_checkSpot
set_option maxRecDepth 20000 in
theorem ggX0_miss_X0_isInBreak : GoodIn wsX0_miss wsX0_isInBreak := goodIn_r _ [16, 1, 22, 23, 24, 25, 26, 27, 28, 29, 30, 31, 32, 33, 34, 35, 36, 37, 38, 39] (by decide +kernel) (by decide +kernel)
set_option maxRecDepth 20000 in
theorem gX0_miss_X0_isInBreak : GoodIn wsX0_miss (wsV RX0 126 RX0 yX0_isInBreak wsX0_isInBreak) := goodIn_app (goodIn_of _ (by decide +kernel)) ggX0_miss_X0_isInBreak
set_option maxRecDepth 20000 in
theorem ggX0_miss_X0_checkState : GoodIn wsX0_miss wsX0_checkState := goodIn_ca (goodIn_r _ [19, 20, 21] (by decide +kernel) (by decide +kernel)) (goodIn_sub (fun _ h => List.mem_cons_of_mem _ (List.mem_append_right _ h)) (by decide +kernel))
set_option maxRecDepth 20000 in
theorem gX0_miss_X0_checkState : GoodIn wsX0_miss (va_wsS RX0 68 yX0_checkState wsX0_checkState) := goodIn_app (goodIn_of _ (by decide +kernel)) ggX0_miss_X0_checkState
theorem dX0_miss_0 : decode cX0_miss 0 = .ok (.aload_n 0, 1) := by decide +kernel
theorem dX0_miss_1 : decode cX0_miss 1 = .ok (.iload_n 1, 1) := by decide +kernel
theorem dX0_miss_2 : decode cX0_miss 2 = .ok (.invokevirtual 123, 3) := by decide +kernel
theorem dX0_miss_5 : decode cX0_miss 5 = .ok (.aload_n 0, 1) := by decide +kernel
theorem dX0_miss_6 : decode cX0_miss 6 = .ok (.iload_n 1, 1) := by decide +kernel
theorem dX0_miss_7 : decode cX0_miss 7 = .ok (.invokevirtual 126, 3) := by decide +kernel
theorem dX0_miss_10 : decode cX0_miss 10 = .ok (.invokestatic 68, 3) := by decide +kernel
theorem dX0_miss_13 : decode cX0_miss 13 = .ok (.aload_n 0, 1) := by decide +kernel
theorem dX0_miss_14 : decode cX0_miss 14 = .ok (.getfield 50, 3) := by decide +kernel
theorem dX0_miss_17 : decode cX0_miss 17 = .ok (.iload_n 1, 1) := by decide +kernel
theorem dX0_miss_18 : decode cX0_miss 18 = .ok (.iaload, 1) := by decide +kernel
theorem dX0_miss_19 : decode cX0_miss 19 = .ok (.iconst 1, 1) := by decide +kernel
theorem dX0_miss_20 : decode cX0_miss 20 = .ok (.if_icmp .ne 7, 3) := by decide +kernel
theorem dX0_miss_23 : decode cX0_miss 23 = .ok (.iconst 1, 1) := by decide +kernel
theorem dX0_miss_24 : decode cX0_miss 24 = .ok (.goto 4, 3) := by decide +kernel
theorem dX0_miss_27 : decode cX0_miss 27 = .ok (.iconst 0, 1) := by decide +kernel
theorem dX0_miss_28 : decode cX0_miss 28 = .ok (.istore_n 2, 1) := by decide +kernel
theorem dX0_miss_29 : decode cX0_miss 29 = .ok (.aload_n 0, 1) := by decide +kernel
theorem dX0_miss_30 : decode cX0_miss 30 = .ok (.getfield 50, 3) := by decide +kernel
theorem dX0_miss_33 : decode cX0_miss 33 = .ok (.iload_n 1, 1) := by decide +kernel
theorem dX0_miss_34 : decode cX0_miss 34 = .ok (.iconst 2, 1) := by decide +kernel
theorem dX0_miss_35 : decode cX0_miss 35 = .ok (.iastore, 1) := by decide +kernel
theorem dX0_miss_36 : decode cX0_miss 36 = .ok (.iload_n 2, 1) := by decide +kernel
theorem dX0_miss_37 : decode cX0_miss 37 = .ok (.ireturn, 1) := by decide +kernel
set_option maxRecDepth 20000 in
theorem ggX0_drop_X0_checkSpot : GoodIn wsX0_drop wsX0_checkSpot := goodIn_ca (goodIn_r _ [6, 7, 8, 9, 5, 10, 11, 12, 18, 19, 20, 21, 22, 23, 24, 25, 26, 27, 28, 29, 30, 31, 32, 33, 34, 35] (by decide +kernel) (by decide +kernel)) (goodIn_sub (fun _ h => List.mem_cons_of_mem _ (List.mem_append_left _ (List.mem_append_right _ h))) (by decide +kernel))
set_option maxRecDepth 20000 in
theorem gX0_drop_X0_checkSpot : GoodIn wsX0_drop (wsV RX0 123 RX0 yX0_checkSpot wsX0_checkSpot) := goodIn_app (goodIn_of _ (by decide +kernel)) ggX0_drop_X0_checkSpot
set_option maxRecDepth 20000 in
theorem ggX0_drop_X0_checkState : GoodIn wsX0_drop wsX0_checkState := goodIn_ca (goodIn_r _ [15, 16, 17] (by decide +kernel) (by decide +kernel)) (goodIn_sub (fun _ h => List.mem_cons_of_mem _ (List.mem_append_right _ h)) (by decide +kernel))
set_option maxRecDepth 20000 in
theorem gX0_drop_X0_checkState : GoodIn wsX0_drop (va_wsS RX0 68 yX0_checkState wsX0_checkState) := goodIn_app (goodIn_of _ (by decide +kernel)) ggX0_drop_X0_checkState
theorem dX0_drop_0 : decode cX0_drop 0 = .ok (.aload_n 0, 1) := by decide +kernel
theorem dX0_drop_1 : decode cX0_drop 1 = .ok (.iload_n 1, 1) := by decide +kernel
theorem dX0_drop_2 : decode cX0_drop 2 = .ok (.invokevirtual 123, 3) := by decide +kernel
theorem dX0_drop_5 : decode cX0_drop 5 = .ok (.aload_n 0, 1) := by decide +kernel
theorem dX0_drop_6 : decode cX0_drop 6 = .ok (.getfield 50, 3) := by decide +kernel
theorem dX0_drop_9 : decode cX0_drop 9 = .ok (.iload_n 1, 1) := by decide +kernel
theorem dX0_drop_10 : decode cX0_drop 10 = .ok (.iaload, 1) := by decide +kernel
theorem dX0_drop_11 : decode cX0_drop 11 = .ok (.ifCond .ne 7, 3) := by decide +kernel
theorem dX0_drop_14 : decode cX0_drop 14 = .ok (.iconst 1, 1) := by decide +kernel
theorem dX0_drop_15 : decode cX0_drop 15 = .ok (.goto 4, 3) := by decide +kernel
theorem dX0_drop_18 : decode cX0_drop 18 = .ok (.iconst 0, 1) := by decide +kernel
theorem dX0_drop_19 : decode cX0_drop 19 = .ok (.invokestatic 68, 3) := by decide +kernel
theorem dX0_drop_22 : decode cX0_drop 22 = .ok (.aload_n 0, 1) := by decide +kernel
theorem dX0_drop_23 : decode cX0_drop 23 = .ok (.getfield 50, 3) := by decide +kernel
theorem dX0_drop_26 : decode cX0_drop 26 = .ok (.iload_n 1, 1) := by decide +kernel
theorem dX0_drop_27 : decode cX0_drop 27 = .ok (.iconst 3, 1) := by decide +kernel
theorem dX0_drop_28 : decode cX0_drop 28 = .ok (.iastore, 1) := by decide +kernel
theorem dX0_drop_29 : decode cX0_drop 29 = .ok (.return_, 1) := by decide +kernel
theorem dX0_spots_0 : decode cX0_spots 0 = .ok (.aload_n 0, 1) := by decide +kernel
theorem dX0_spots_1 : decode cX0_spots 1 = .ok (.getfield 84, 3) := by decide +kernel
theorem dX0_spots_4 : decode cX0_spots 4 = .ok (.ireturn, 1) := by decide +kernel
set_option maxRecDepth 20000 in
theorem ggX0_stateOf_X0_checkSpot : GoodIn wsX0_stateOf wsX0_checkSpot := goodIn_ca (goodIn_r _ [6, 7, 8, 9, 5, 10, 11, 12, 13, 14, 15, 16, 17, 18, 19, 20, 21, 22, 23, 24, 25, 26, 27, 28, 29, 30] (by decide +kernel) (by decide +kernel)) (goodIn_sub (fun _ h => List.mem_cons_of_mem _ (List.mem_append_right _ h)) (by decide +kernel))
set_option maxRecDepth 20000 in
theorem gX0_stateOf_X0_checkSpot : GoodIn wsX0_stateOf (wsV RX0 123 RX0 yX0_checkSpot wsX0_checkSpot) := goodIn_app (goodIn_of _ (by decide +kernel)) ggX0_stateOf_X0_checkSpot
theorem dX0_stateOf_0 : decode cX0_stateOf 0 = .ok (.aload_n 0, 1) := by decide +kernel
theorem dX0_stateOf_1 : decode cX0_stateOf 1 = .ok (.iload_n 1, 1) := by decide +kernel
theorem dX0_stateOf_2 : decode cX0_stateOf 2 = .ok (.invokevirtual 123, 3) := by decide +kernel
theorem dX0_stateOf_5 : decode cX0_stateOf 5 = .ok (.aload_n 0, 1) := by decide +kernel
theorem dX0_stateOf_6 : decode cX0_stateOf 6 = .ok (.getfield 50, 3) := by decide +kernel
theorem dX0_stateOf_9 : decode cX0_stateOf 9 = .ok (.iload_n 1, 1) := by decide +kernel
theorem dX0_stateOf_10 : decode cX0_stateOf 10 = .ok (.iaload, 1) := by decide +kernel
theorem dX0_stateOf_11 : decode cX0_stateOf 11 = .ok (.ireturn, 1) := by decide +kernel
set_option maxRecDepth 20000 in
theorem ggX0_breakOf_X0_checkSpot : GoodIn wsX0_breakOf wsX0_checkSpot := goodIn_ca (goodIn_r _ [6, 7, 8, 9, 5, 10, 11, 12, 13, 14, 15, 16, 17, 18, 19, 20, 21, 22, 23, 24, 25, 26, 27, 28, 29, 30] (by decide +kernel) (by decide +kernel)) (goodIn_sub (fun _ h => List.mem_cons_of_mem _ (List.mem_append_right _ h)) (by decide +kernel))
set_option maxRecDepth 20000 in
theorem gX0_breakOf_X0_checkSpot : GoodIn wsX0_breakOf (wsV RX0 123 RX0 yX0_checkSpot wsX0_checkSpot) := goodIn_app (goodIn_of _ (by decide +kernel)) ggX0_breakOf_X0_checkSpot
theorem dX0_breakOf_0 : decode cX0_breakOf 0 = .ok (.aload_n 0, 1) := by decide +kernel
theorem dX0_breakOf_1 : decode cX0_breakOf 1 = .ok (.iload_n 1, 1) := by decide +kernel
theorem dX0_breakOf_2 : decode cX0_breakOf 2 = .ok (.invokevirtual 123, 3) := by decide +kernel
theorem dX0_breakOf_5 : decode cX0_breakOf 5 = .ok (.aload_n 0, 1) := by decide +kernel
theorem dX0_breakOf_6 : decode cX0_breakOf 6 = .ok (.getfield 47, 3) := by decide +kernel
theorem dX0_breakOf_9 : decode cX0_breakOf 9 = .ok (.iload_n 1, 1) := by decide +kernel
theorem dX0_breakOf_10 : decode cX0_breakOf 10 = .ok (.iaload, 1) := by decide +kernel
theorem dX0_breakOf_11 : decode cX0_breakOf 11 = .ok (.ireturn, 1) := by decide +kernel
set_option maxRecDepth 20000 in
theorem ggX0_delivered_X0_checkOrder : GoodIn wsX0_delivered wsX0_checkOrder := goodIn_ca (goodIn_r _ [5, 6, 7, 8, 4, 9, 10, 11, 29, 30, 31, 32, 33, 34, 35, 36, 37, 38, 39, 40, 41, 42, 43, 44, 45, 46] (by decide +kernel) (by decide +kernel)) (goodIn_sub (fun _ h => List.mem_cons_of_mem _ (List.mem_append_right _ h)) (by decide +kernel))
set_option maxRecDepth 20000 in
theorem gX0_delivered_X0_checkOrder : GoodIn wsX0_delivered (wsV RX0 101 RX0 yX0_checkOrder wsX0_checkOrder) := goodIn_app (goodIn_of _ (by decide +kernel)) ggX0_delivered_X0_checkOrder
set_option maxRecDepth 20000 in
theorem ggX0_delivered_X0_audience : GoodIn wsX0_delivered wsX0_audience := goodIn_r _ [15, 16, 17, 18, 19, 20, 21, 22, 4, 23, 24, 25, 26, 27, 28, 29, 30, 31, 32, 33, 34, 35, 36, 37, 38, 39, 40, 41, 42, 43, 44, 45, 46] (by decide +kernel) (by decide +kernel)
set_option maxRecDepth 20000 in
theorem gX0_delivered_X0_audience : GoodIn wsX0_delivered (wsV RX0 129 RX0 yX0_audience wsX0_audience) := goodIn_app (goodIn_of _ (by decide +kernel)) ggX0_delivered_X0_audience
theorem dX0_delivered_0 : decode cX0_delivered 0 = .ok (.aload_n 0, 1) := by decide +kernel
theorem dX0_delivered_1 : decode cX0_delivered 1 = .ok (.iload_n 1, 1) := by decide +kernel
theorem dX0_delivered_2 : decode cX0_delivered 2 = .ok (.invokevirtual 101, 3) := by decide +kernel
theorem dX0_delivered_5 : decode cX0_delivered 5 = .ok (.aload_n 0, 1) := by decide +kernel
theorem dX0_delivered_6 : decode cX0_delivered 6 = .ok (.iload_n 1, 1) := by decide +kernel
theorem dX0_delivered_7 : decode cX0_delivered 7 = .ok (.iconst 1, 1) := by decide +kernel
theorem dX0_delivered_8 : decode cX0_delivered 8 = .ok (.invokevirtual 129, 3) := by decide +kernel
theorem dX0_delivered_11 : decode cX0_delivered 11 = .ok (.ireturn, 1) := by decide +kernel
set_option maxRecDepth 20000 in
theorem ggX0_owed_X0_checkOrder : GoodIn wsX0_owed wsX0_checkOrder := goodIn_ca (goodIn_r _ [5, 6, 7, 8, 4, 9, 10, 11, 39, 40, 41, 42, 43, 44, 45, 46, 47, 48, 49, 50, 51, 52, 53, 54, 55, 56] (by decide +kernel) (by decide +kernel)) (goodIn_sub (fun _ h => List.mem_cons_of_mem _ (List.mem_append_right _ h)) (by decide +kernel))
set_option maxRecDepth 20000 in
theorem gX0_owed_X0_checkOrder : GoodIn wsX0_owed (wsV RX0 101 RX0 yX0_checkOrder wsX0_checkOrder) := goodIn_app (goodIn_of _ (by decide +kernel)) ggX0_owed_X0_checkOrder
set_option maxRecDepth 20000 in
theorem ggX0_owed_X0_owedTo : GoodIn wsX0_owed wsX0_owedTo := goodIn_r _ [15, 16, 17, 18, 19, 20, 21, 22, 23, 24, 4, 25, 26, 27, 28, 29, 30, 31, 32, 33, 34, 35, 36, 37, 38, 39, 40, 41, 42, 43, 44, 45, 46, 47, 48, 49, 50, 51, 52, 53, 54, 55, 56] (by decide +kernel) (by decide +kernel)
set_option maxRecDepth 20000 in
theorem gX0_owed_X0_owedTo : GoodIn wsX0_owed (wsV RX0 104 RX0 yX0_owedTo wsX0_owedTo) := goodIn_app (goodIn_of _ (by decide +kernel)) ggX0_owed_X0_owedTo
theorem dX0_owed_0 : decode cX0_owed 0 = .ok (.aload_n 0, 1) := by decide +kernel
theorem dX0_owed_1 : decode cX0_owed 1 = .ok (.iload_n 1, 1) := by decide +kernel
theorem dX0_owed_2 : decode cX0_owed 2 = .ok (.invokevirtual 101, 3) := by decide +kernel
theorem dX0_owed_5 : decode cX0_owed 5 = .ok (.aload_n 0, 1) := by decide +kernel
theorem dX0_owed_6 : decode cX0_owed 6 = .ok (.iload_n 1, 1) := by decide +kernel
theorem dX0_owed_7 : decode cX0_owed 7 = .ok (.invokevirtual 104, 3) := by decide +kernel
theorem dX0_owed_10 : decode cX0_owed 10 = .ok (.ireturn, 1) := by decide +kernel
set_option maxRecDepth 20000 in
theorem ggX0_rest_X0_checkOrder : GoodIn wsX0_rest wsX0_checkOrder := goodIn_ca (goodIn_r _ [5, 6, 7, 8, 4, 9, 10, 11, 44, 45, 46, 47, 48, 49, 50, 51, 52, 53, 54, 55, 56, 57, 58, 59, 60, 61] (by decide +kernel) (by decide +kernel)) (goodIn_sub (fun _ h => List.mem_cons_of_mem _ (List.mem_append_right _ h)) (by decide +kernel))
set_option maxRecDepth 20000 in
theorem gX0_rest_X0_checkOrder : GoodIn wsX0_rest (wsV RX0 101 RX0 yX0_checkOrder wsX0_checkOrder) := goodIn_app (goodIn_of _ (by decide +kernel)) ggX0_rest_X0_checkOrder
set_option maxRecDepth 20000 in
theorem ggX0_rest_X0_restOf : GoodIn wsX0_rest wsX0_restOf := goodIn_r _ [15, 16, 17, 18, 19, 20, 21, 22, 23, 24, 25, 26, 27, 4, 28, 29, 30, 31, 32, 33, 34, 35, 36, 37, 38, 39, 40, 41, 42, 43, 44, 45, 46, 47, 48, 49, 50, 51, 52, 53, 54, 55, 56, 57, 58, 59, 60, 61] (by decide +kernel) (by decide +kernel)
set_option maxRecDepth 20000 in
theorem gX0_rest_X0_restOf : GoodIn wsX0_rest (wsV RX0 114 RX0 yX0_restOf wsX0_restOf) := goodIn_app (goodIn_of _ (by decide +kernel)) ggX0_rest_X0_restOf
theorem dX0_rest_0 : decode cX0_rest 0 = .ok (.aload_n 0, 1) := by decide +kernel
theorem dX0_rest_1 : decode cX0_rest 1 = .ok (.iload_n 1, 1) := by decide +kernel
theorem dX0_rest_2 : decode cX0_rest 2 = .ok (.invokevirtual 101, 3) := by decide +kernel
theorem dX0_rest_5 : decode cX0_rest 5 = .ok (.aload_n 0, 1) := by decide +kernel
theorem dX0_rest_6 : decode cX0_rest 6 = .ok (.iload_n 1, 1) := by decide +kernel
theorem dX0_rest_7 : decode cX0_rest 7 = .ok (.invokevirtual 114, 3) := by decide +kernel
theorem dX0_rest_10 : decode cX0_rest 10 = .ok (.ireturn, 1) := by decide +kernel
set_option maxRecDepth 20000 in
theorem ggX0_bill_X0_checkOrder : GoodIn wsX0_bill wsX0_checkOrder := goodIn_ca (goodIn_r _ [5, 6, 7, 8, 4, 9, 10, 11, 21, 22, 23, 24, 25, 26, 27, 28, 29, 30, 31, 32, 33, 34, 35, 36, 37, 38] (by decide +kernel) (by decide +kernel)) (goodIn_sub (fun _ h => List.mem_cons_of_mem _ (List.mem_append_right _ h)) (by decide +kernel))
set_option maxRecDepth 20000 in
theorem gX0_bill_X0_checkOrder : GoodIn wsX0_bill (wsV RX0 101 RX0 yX0_checkOrder wsX0_checkOrder) := goodIn_app (goodIn_of _ (by decide +kernel)) ggX0_bill_X0_checkOrder
set_option maxRecDepth 20000 in
theorem ggX0_bill_X0_billOf : GoodIn wsX0_bill wsX0_billOf := goodIn_r _ [15, 16, 17, 18, 19, 20, 21, 22, 23, 24, 25, 26, 27, 28, 29, 30, 31, 32, 33, 34, 35, 36, 37, 38] (by decide +kernel) (by decide +kernel)
set_option maxRecDepth 20000 in
theorem gX0_bill_X0_billOf : GoodIn wsX0_bill (wsV RX0 132 RX0 yX0_billOf wsX0_billOf) := goodIn_app (goodIn_of _ (by decide +kernel)) ggX0_bill_X0_billOf
theorem dX0_bill_0 : decode cX0_bill 0 = .ok (.aload_n 0, 1) := by decide +kernel
theorem dX0_bill_1 : decode cX0_bill 1 = .ok (.iload_n 1, 1) := by decide +kernel
theorem dX0_bill_2 : decode cX0_bill 2 = .ok (.invokevirtual 101, 3) := by decide +kernel
theorem dX0_bill_5 : decode cX0_bill 5 = .ok (.aload_n 0, 1) := by decide +kernel
theorem dX0_bill_6 : decode cX0_bill 6 = .ok (.iload_n 1, 1) := by decide +kernel
theorem dX0_bill_7 : decode cX0_bill 7 = .ok (.invokevirtual 132, 3) := by decide +kernel
theorem dX0_bill_10 : decode cX0_bill 10 = .ok (.ireturn, 1) := by decide +kernel
set_option maxRecDepth 20000 in
theorem ggX0_billTo_X0_isAdvertiser : GoodIn wsX0_billTo wsX0_isAdvertiser := goodIn_r _ [6, 7, 8, 5, 9] (by decide +kernel) (by decide +kernel)
set_option maxRecDepth 20000 in
theorem gX0_billTo_X0_isAdvertiser : GoodIn wsX0_billTo (va_wsS RX0 91 yX0_isAdvertiser wsX0_isAdvertiser) := goodIn_app (goodIn_of _ (by decide +kernel)) ggX0_billTo_X0_isAdvertiser
set_option maxRecDepth 20000 in
theorem ggX0_billTo_X0_checkArgument : GoodIn wsX0_billTo wsX0_checkArgument := goodIn_ca (goodIn_r _ [12, 13, 14] (by decide +kernel) (by decide +kernel)) (goodIn_sub (fun _ h => List.mem_cons_of_mem _ (List.mem_append_right _ h)) (by decide +kernel))
set_option maxRecDepth 20000 in
theorem gX0_billTo_X0_checkArgument : GoodIn wsX0_billTo (va_wsS RX0 60 yX0_checkArgument wsX0_checkArgument) := goodIn_app (goodIn_of _ (by decide +kernel)) ggX0_billTo_X0_checkArgument
set_option maxRecDepth 20000 in
theorem ggX0_billTo_X0_billOf : GoodIn wsX0_billTo wsX0_billOf := goodIn_r _ [18, 19, 20, 21, 22, 23, 24, 25, 26, 27, 28, 29, 30, 31, 32, 33, 34, 35, 36, 37, 38, 39, 40, 41] (by decide +kernel) (by decide +kernel)
set_option maxRecDepth 20000 in
theorem gX0_billTo_X0_billOf : GoodIn wsX0_billTo (wsV RX0 132 RX0 yX0_billOf wsX0_billOf) := goodIn_app (goodIn_of _ (by decide +kernel)) ggX0_billTo_X0_billOf
theorem dX0_billTo_0 : decode cX0_billTo 0 = .ok (.iload_n 1, 1) := by decide +kernel
theorem dX0_billTo_1 : decode cX0_billTo 1 = .ok (.invokestatic 91, 3) := by decide +kernel
theorem dX0_billTo_4 : decode cX0_billTo 4 = .ok (.invokestatic 60, 3) := by decide +kernel
theorem dX0_billTo_7 : decode cX0_billTo 7 = .ok (.iconst 0, 1) := by decide +kernel
theorem dX0_billTo_8 : decode cX0_billTo 8 = .ok (.istore_n 2, 1) := by decide +kernel
theorem dX0_billTo_9 : decode cX0_billTo 9 = .ok (.iconst 0, 1) := by decide +kernel
theorem dX0_billTo_10 : decode cX0_billTo 10 = .ok (.istore_n 3, 1) := by decide +kernel
theorem dX0_billTo_11 : decode cX0_billTo 11 = .ok (.iload_n 3, 1) := by decide +kernel
theorem dX0_billTo_12 : decode cX0_billTo 12 = .ok (.aload_n 0, 1) := by decide +kernel
theorem dX0_billTo_13 : decode cX0_billTo 13 = .ok (.getfield 98, 3) := by decide +kernel
theorem dX0_billTo_16 : decode cX0_billTo 16 = .ok (.if_icmp .ge 27, 3) := by decide +kernel
theorem dX0_billTo_19 : decode cX0_billTo 19 = .ok (.aload_n 0, 1) := by decide +kernel
theorem dX0_billTo_20 : decode cX0_billTo 20 = .ok (.getfield 20, 3) := by decide +kernel
theorem dX0_billTo_23 : decode cX0_billTo 23 = .ok (.iload_n 3, 1) := by decide +kernel
theorem dX0_billTo_24 : decode cX0_billTo 24 = .ok (.iaload, 1) := by decide +kernel
theorem dX0_billTo_25 : decode cX0_billTo 25 = .ok (.iload_n 1, 1) := by decide +kernel
theorem dX0_billTo_26 : decode cX0_billTo 26 = .ok (.if_icmp .ne 11, 3) := by decide +kernel
theorem dX0_billTo_29 : decode cX0_billTo 29 = .ok (.iload_n 2, 1) := by decide +kernel
theorem dX0_billTo_30 : decode cX0_billTo 30 = .ok (.aload_n 0, 1) := by decide +kernel
theorem dX0_billTo_31 : decode cX0_billTo 31 = .ok (.iload_n 3, 1) := by decide +kernel
theorem dX0_billTo_32 : decode cX0_billTo 32 = .ok (.invokevirtual 132, 3) := by decide +kernel
theorem dX0_billTo_35 : decode cX0_billTo 35 = .ok (.iadd, 1) := by decide +kernel
theorem dX0_billTo_36 : decode cX0_billTo 36 = .ok (.istore_n 2, 1) := by decide +kernel
theorem dX0_billTo_37 : decode cX0_billTo 37 = .ok (.iinc 3 1, 3) := by decide +kernel
theorem dX0_billTo_40 : decode cX0_billTo 40 = .ok (.goto (-29), 3) := by decide +kernel
theorem dX0_billTo_43 : decode cX0_billTo 43 = .ok (.iload_n 2, 1) := by decide +kernel
theorem dX0_billTo_44 : decode cX0_billTo 44 = .ok (.ireturn, 1) := by decide +kernel
set_option maxRecDepth 20000 in
theorem ggX0_mostOwed_X0_restOf : GoodIn wsX0_mostOwed wsX0_restOf := goodIn_r _ [6, 7, 8, 9, 10, 11, 12, 13, 14, 15, 16, 17, 18, 5, 19, 20, 21, 22, 23, 24, 25, 26, 27, 28, 29, 30, 31, 32, 33, 34, 35, 36, 37, 38, 39, 40, 41, 42, 43, 44, 45, 46, 47, 48, 49, 50, 51, 52] (by decide +kernel) (by decide +kernel)
set_option maxRecDepth 20000 in
theorem gX0_mostOwed_X0_restOf : GoodIn wsX0_mostOwed (wsV RX0 114 RX0 yX0_restOf wsX0_restOf) := goodIn_app (goodIn_of _ (by decide +kernel)) ggX0_mostOwed_X0_restOf
theorem dX0_mostOwed_0 : decode cX0_mostOwed 0 = .ok (.iconst (-1), 1) := by decide +kernel
theorem dX0_mostOwed_1 : decode cX0_mostOwed 1 = .ok (.istore_n 1, 1) := by decide +kernel
theorem dX0_mostOwed_2 : decode cX0_mostOwed 2 = .ok (.iconst 0, 1) := by decide +kernel
theorem dX0_mostOwed_3 : decode cX0_mostOwed 3 = .ok (.istore_n 2, 1) := by decide +kernel
theorem dX0_mostOwed_4 : decode cX0_mostOwed 4 = .ok (.iconst 0, 1) := by decide +kernel
theorem dX0_mostOwed_5 : decode cX0_mostOwed 5 = .ok (.istore_n 3, 1) := by decide +kernel
theorem dX0_mostOwed_6 : decode cX0_mostOwed 6 = .ok (.iload_n 3, 1) := by decide +kernel
theorem dX0_mostOwed_7 : decode cX0_mostOwed 7 = .ok (.aload_n 0, 1) := by decide +kernel
theorem dX0_mostOwed_8 : decode cX0_mostOwed 8 = .ok (.getfield 98, 3) := by decide +kernel
theorem dX0_mostOwed_11 : decode cX0_mostOwed 11 = .ok (.if_icmp .ge 27, 3) := by decide +kernel
theorem dX0_mostOwed_14 : decode cX0_mostOwed 14 = .ok (.aload_n 0, 1) := by decide +kernel
theorem dX0_mostOwed_15 : decode cX0_mostOwed 15 = .ok (.iload_n 3, 1) := by decide +kernel
theorem dX0_mostOwed_16 : decode cX0_mostOwed 16 = .ok (.invokevirtual 114, 3) := by decide +kernel
theorem dX0_mostOwed_19 : decode cX0_mostOwed 19 = .ok (.istore 4, 2) := by decide +kernel
theorem dX0_mostOwed_21 : decode cX0_mostOwed 21 = .ok (.iload 4, 2) := by decide +kernel
theorem dX0_mostOwed_23 : decode cX0_mostOwed 23 = .ok (.iload_n 2, 1) := by decide +kernel
theorem dX0_mostOwed_24 : decode cX0_mostOwed 24 = .ok (.if_icmp .le 8, 3) := by decide +kernel
theorem dX0_mostOwed_27 : decode cX0_mostOwed 27 = .ok (.iload 4, 2) := by decide +kernel
theorem dX0_mostOwed_29 : decode cX0_mostOwed 29 = .ok (.istore_n 2, 1) := by decide +kernel
theorem dX0_mostOwed_30 : decode cX0_mostOwed 30 = .ok (.iload_n 3, 1) := by decide +kernel
theorem dX0_mostOwed_31 : decode cX0_mostOwed 31 = .ok (.istore_n 1, 1) := by decide +kernel
theorem dX0_mostOwed_32 : decode cX0_mostOwed 32 = .ok (.iinc 3 1, 3) := by decide +kernel
theorem dX0_mostOwed_35 : decode cX0_mostOwed 35 = .ok (.goto (-29), 3) := by decide +kernel
theorem dX0_mostOwed_38 : decode cX0_mostOwed 38 = .ok (.iload_n 1, 1) := by decide +kernel
theorem dX0_mostOwed_39 : decode cX0_mostOwed 39 = .ok (.ireturn, 1) := by decide +kernel
set_option maxRecDepth 20000 in
theorem ggX0_checkBreak_X0_checkIndex : GoodIn wsX0_checkBreak wsX0_checkIndex := goodIn_ca (goodIn_r _ [5, 6, 7] (by decide +kernel) (by decide +kernel)) (goodIn_sub (fun _ h => List.mem_cons_of_mem _ (List.mem_append_right _ h)) (by decide +kernel))
set_option maxRecDepth 20000 in
theorem gX0_checkBreak_X0_checkIndex : GoodIn wsX0_checkBreak (va_wsS RX0 135 yX0_checkIndex wsX0_checkIndex) := goodIn_app (goodIn_of _ (by decide +kernel)) ggX0_checkBreak_X0_checkIndex
theorem dX0_checkBreak_0 : decode cX0_checkBreak 0 = .ok (.iload_n 1, 1) := by decide +kernel
theorem dX0_checkBreak_1 : decode cX0_checkBreak 1 = .ok (.aload_n 0, 1) := by decide +kernel
theorem dX0_checkBreak_2 : decode cX0_checkBreak 2 = .ok (.getfield 64, 3) := by decide +kernel
theorem dX0_checkBreak_5 : decode cX0_checkBreak 5 = .ok (.invokestatic 135, 3) := by decide +kernel
theorem dX0_checkBreak_8 : decode cX0_checkBreak 8 = .ok (.return_, 1) := by decide +kernel
set_option maxRecDepth 20000 in
theorem ggX0_checkOrder_X0_checkIndex : GoodIn wsX0_checkOrder wsX0_checkIndex := goodIn_ca (goodIn_r _ [5, 6, 7] (by decide +kernel) (by decide +kernel)) (goodIn_sub (fun _ h => List.mem_cons_of_mem _ (List.mem_append_right _ h)) (by decide +kernel))
set_option maxRecDepth 20000 in
theorem gX0_checkOrder_X0_checkIndex : GoodIn wsX0_checkOrder (va_wsS RX0 135 yX0_checkIndex wsX0_checkIndex) := goodIn_app (goodIn_of _ (by decide +kernel)) ggX0_checkOrder_X0_checkIndex
theorem dX0_checkOrder_0 : decode cX0_checkOrder 0 = .ok (.iload_n 1, 1) := by decide +kernel
theorem dX0_checkOrder_1 : decode cX0_checkOrder 1 = .ok (.aload_n 0, 1) := by decide +kernel
theorem dX0_checkOrder_2 : decode cX0_checkOrder 2 = .ok (.getfield 98, 3) := by decide +kernel
theorem dX0_checkOrder_5 : decode cX0_checkOrder 5 = .ok (.invokestatic 135, 3) := by decide +kernel
theorem dX0_checkOrder_8 : decode cX0_checkOrder 8 = .ok (.return_, 1) := by decide +kernel
set_option maxRecDepth 20000 in
theorem ggX0_checkSpot_X0_checkIndex : GoodIn wsX0_checkSpot wsX0_checkIndex := goodIn_ca (goodIn_r _ [5, 6, 7] (by decide +kernel) (by decide +kernel)) (goodIn_sub (fun _ h => List.mem_cons_of_mem _ (List.mem_append_right _ h)) (by decide +kernel))
set_option maxRecDepth 20000 in
theorem gX0_checkSpot_X0_checkIndex : GoodIn wsX0_checkSpot (va_wsS RX0 135 yX0_checkIndex wsX0_checkIndex) := goodIn_app (goodIn_of _ (by decide +kernel)) ggX0_checkSpot_X0_checkIndex
theorem dX0_checkSpot_0 : decode cX0_checkSpot 0 = .ok (.iload_n 1, 1) := by decide +kernel
theorem dX0_checkSpot_1 : decode cX0_checkSpot 1 = .ok (.aload_n 0, 1) := by decide +kernel
theorem dX0_checkSpot_2 : decode cX0_checkSpot 2 = .ok (.getfield 84, 3) := by decide +kernel
theorem dX0_checkSpot_5 : decode cX0_checkSpot 5 = .ok (.invokestatic 135, 3) := by decide +kernel
theorem dX0_checkSpot_8 : decode cX0_checkSpot 8 = .ok (.return_, 1) := by decide +kernel
theorem dX0_checkIndex_0 : decode cX0_checkIndex 0 = .ok (.iload_n 0, 1) := by decide +kernel
theorem dX0_checkIndex_1 : decode cX0_checkIndex 1 = .ok (.ifCond .lt 8, 3) := by decide +kernel
theorem dX0_checkIndex_4 : decode cX0_checkIndex 4 = .ok (.iload_n 0, 1) := by decide +kernel
theorem dX0_checkIndex_5 : decode cX0_checkIndex 5 = .ok (.iload_n 1, 1) := by decide +kernel
theorem dX0_checkIndex_6 : decode cX0_checkIndex 6 = .ok (.if_icmp .lt 13, 3) := by decide +kernel
theorem dX0_checkIndex_9 : decode cX0_checkIndex 9 = .ok (.new 139, 3) := by decide +kernel
theorem dX0_checkIndex_12 : decode cX0_checkIndex 12 = .ok (.dup, 1) := by decide +kernel
theorem dX0_checkIndex_13 : decode cX0_checkIndex 13 = .ok (.ldc 141, 2) := by decide +kernel
theorem dX0_checkIndex_15 : decode cX0_checkIndex 15 = .ok (.invokespecial 143, 3) := by decide +kernel
theorem dX0_checkIndex_18 : decode cX0_checkIndex 18 = .ok (.athrow, 1) := by decide +kernel
theorem dX0_checkIndex_19 : decode cX0_checkIndex 19 = .ok (.return_, 1) := by decide +kernel
theorem dX0_checkArgument_0 : decode cX0_checkArgument 0 = .ok (.iload_n 0, 1) := by decide +kernel
theorem dX0_checkArgument_1 : decode cX0_checkArgument 1 = .ok (.ifCond .ne 13, 3) := by decide +kernel
theorem dX0_checkArgument_4 : decode cX0_checkArgument 4 = .ok (.new 146, 3) := by decide +kernel
theorem dX0_checkArgument_7 : decode cX0_checkArgument 7 = .ok (.dup, 1) := by decide +kernel
theorem dX0_checkArgument_8 : decode cX0_checkArgument 8 = .ok (.ldc 148, 2) := by decide +kernel
theorem dX0_checkArgument_10 : decode cX0_checkArgument 10 = .ok (.invokespecial 150, 3) := by decide +kernel
theorem dX0_checkArgument_13 : decode cX0_checkArgument 13 = .ok (.athrow, 1) := by decide +kernel
theorem dX0_checkArgument_14 : decode cX0_checkArgument 14 = .ok (.return_, 1) := by decide +kernel
theorem dX0_checkState_0 : decode cX0_checkState 0 = .ok (.iload_n 0, 1) := by decide +kernel
theorem dX0_checkState_1 : decode cX0_checkState 1 = .ok (.ifCond .ne 13, 3) := by decide +kernel
theorem dX0_checkState_4 : decode cX0_checkState 4 = .ok (.new 151, 3) := by decide +kernel
theorem dX0_checkState_7 : decode cX0_checkState 7 = .ok (.dup, 1) := by decide +kernel
theorem dX0_checkState_8 : decode cX0_checkState 8 = .ok (.ldc 153, 2) := by decide +kernel
theorem dX0_checkState_10 : decode cX0_checkState 10 = .ok (.invokespecial 155, 3) := by decide +kernel
theorem dX0_checkState_13 : decode cX0_checkState 13 = .ok (.athrow, 1) := by decide +kernel
theorem dX0_checkState_14 : decode cX0_checkState 14 = .ok (.return_, 1) := by decide +kernel
theorem dX0_isWithin_0 : decode cX0_isWithin 0 = .ok (.iload_n 0, 1) := by decide +kernel
theorem dX0_isWithin_1 : decode cX0_isWithin 1 = .ok (.iload_n 1, 1) := by decide +kernel
theorem dX0_isWithin_2 : decode cX0_isWithin 2 = .ok (.if_icmp .lt 12, 3) := by decide +kernel
theorem dX0_isWithin_5 : decode cX0_isWithin 5 = .ok (.iload_n 0, 1) := by decide +kernel
theorem dX0_isWithin_6 : decode cX0_isWithin 6 = .ok (.iload_n 2, 1) := by decide +kernel
theorem dX0_isWithin_7 : decode cX0_isWithin 7 = .ok (.if_icmp .gt 7, 3) := by decide +kernel
theorem dX0_isWithin_10 : decode cX0_isWithin 10 = .ok (.iconst 1, 1) := by decide +kernel
theorem dX0_isWithin_11 : decode cX0_isWithin 11 = .ok (.goto 4, 3) := by decide +kernel
theorem dX0_isWithin_14 : decode cX0_isWithin 14 = .ok (.iconst 0, 1) := by decide +kernel
theorem dX0_isWithin_15 : decode cX0_isWithin 15 = .ok (.ireturn, 1) := by decide +kernel
set_option maxRecDepth 20000 in
theorem ggX0_isGroup_X0_isWithin : GoodIn wsX0_isGroup wsX0_isWithin := goodIn_r _ [4] (by decide +kernel) (by decide +kernel)
set_option maxRecDepth 20000 in
theorem gX0_isGroup_X0_isWithin : GoodIn wsX0_isGroup (va_wsS RX0 56 yX0_isWithin wsX0_isWithin) := goodIn_app (goodIn_of _ (by decide +kernel)) ggX0_isGroup_X0_isWithin
theorem dX0_isGroup_0 : decode cX0_isGroup 0 = .ok (.iload_n 0, 1) := by decide +kernel
theorem dX0_isGroup_1 : decode cX0_isGroup 1 = .ok (.iconst 0, 1) := by decide +kernel
theorem dX0_isGroup_2 : decode cX0_isGroup 2 = .ok (.iconst 2, 1) := by decide +kernel
theorem dX0_isGroup_3 : decode cX0_isGroup 3 = .ok (.invokestatic 56, 3) := by decide +kernel
theorem dX0_isGroup_6 : decode cX0_isGroup 6 = .ok (.ireturn, 1) := by decide +kernel
set_option maxRecDepth 20000 in
theorem ggX0_isAdvertiser_X0_isWithin : GoodIn wsX0_isAdvertiser wsX0_isWithin := goodIn_r _ [4] (by decide +kernel) (by decide +kernel)
set_option maxRecDepth 20000 in
theorem gX0_isAdvertiser_X0_isWithin : GoodIn wsX0_isAdvertiser (va_wsS RX0 56 yX0_isWithin wsX0_isWithin) := goodIn_app (goodIn_of _ (by decide +kernel)) ggX0_isAdvertiser_X0_isWithin
theorem dX0_isAdvertiser_0 : decode cX0_isAdvertiser 0 = .ok (.iload_n 0, 1) := by decide +kernel
theorem dX0_isAdvertiser_1 : decode cX0_isAdvertiser 1 = .ok (.iconst 0, 1) := by decide +kernel
theorem dX0_isAdvertiser_2 : decode cX0_isAdvertiser 2 = .ok (.bipush 9, 2) := by decide +kernel
theorem dX0_isAdvertiser_4 : decode cX0_isAdvertiser 4 = .ok (.invokestatic 56, 3) := by decide +kernel
theorem dX0_isAdvertiser_7 : decode cX0_isAdvertiser 7 = .ok (.ireturn, 1) := by decide +kernel
theorem dX0_isSpotLength_0 : decode cX0_isSpotLength 0 = .ok (.iload_n 0, 1) := by decide +kernel
theorem dX0_isSpotLength_1 : decode cX0_isSpotLength 1 = .ok (.bipush 15, 2) := by decide +kernel
theorem dX0_isSpotLength_3 : decode cX0_isSpotLength 3 = .ok (.if_icmp .eq 15, 3) := by decide +kernel
theorem dX0_isSpotLength_6 : decode cX0_isSpotLength 6 = .ok (.iload_n 0, 1) := by decide +kernel
theorem dX0_isSpotLength_7 : decode cX0_isSpotLength 7 = .ok (.bipush 30, 2) := by decide +kernel
theorem dX0_isSpotLength_9 : decode cX0_isSpotLength 9 = .ok (.if_icmp .eq 9, 3) := by decide +kernel
theorem dX0_isSpotLength_12 : decode cX0_isSpotLength 12 = .ok (.iload_n 0, 1) := by decide +kernel
theorem dX0_isSpotLength_13 : decode cX0_isSpotLength 13 = .ok (.bipush 60, 2) := by decide +kernel
theorem dX0_isSpotLength_15 : decode cX0_isSpotLength 15 = .ok (.if_icmp .ne 7, 3) := by decide +kernel
theorem dX0_isSpotLength_18 : decode cX0_isSpotLength 18 = .ok (.iconst 1, 1) := by decide +kernel
theorem dX0_isSpotLength_19 : decode cX0_isSpotLength 19 = .ok (.goto 4, 3) := by decide +kernel
theorem dX0_isSpotLength_22 : decode cX0_isSpotLength 22 = .ok (.iconst 0, 1) := by decide +kernel
theorem dX0_isSpotLength_23 : decode cX0_isSpotLength 23 = .ok (.ireturn, 1) := by decide +kernel
set_option maxRecDepth 20000 in
theorem ggX0_obstacle_X0_secondsLeft : GoodIn wsX0_obstacle wsX0_secondsLeft := goodIn_r _ [9, 10, 11, 12, 2, 13, 14, 15, 16, 8, 17, 18, 41, 42, 43, 44, 45, 46, 47, 48, 49, 50, 51, 52, 53, 54, 55, 56, 57, 58] (by decide +kernel) (by decide +kernel)
set_option maxRecDepth 20000 in
theorem gX0_obstacle_X0_secondsLeft : GoodIn wsX0_obstacle (wsV RX0 87 RX0 yX0_secondsLeft wsX0_secondsLeft) := goodIn_app (goodIn_of _ (by decide +kernel)) ggX0_obstacle_X0_secondsLeft
set_option maxRecDepth 20000 in
theorem ggX0_obstacle_X0_ratingFor : GoodIn wsX0_obstacle wsX0_ratingFor := goodIn_r _ [22, 23, 24, 25, 26, 8, 27, 41, 42, 43, 44, 45, 46, 47, 48, 49, 50, 51, 52, 53, 54, 55, 56, 57, 58] (by decide +kernel) (by decide +kernel)
set_option maxRecDepth 20000 in
theorem gX0_obstacle_X0_ratingFor : GoodIn wsX0_obstacle (wsV RX0 156 RX0 yX0_ratingFor wsX0_ratingFor) := goodIn_app (goodIn_of _ (by decide +kernel)) ggX0_obstacle_X0_ratingFor
set_option maxRecDepth 20000 in
theorem ggX0_obstacle_X0_holdsAdvertiser : GoodIn wsX0_obstacle wsX0_holdsAdvertiser := goodIn_r _ [31, 11, 12, 4, 13, 14, 15, 16, 8, 17, 18, 41, 42, 43, 44, 45, 46, 47, 48, 49, 50, 51, 52, 53, 54, 55, 56, 57, 58] (by decide +kernel) (by decide +kernel)
set_option maxRecDepth 20000 in
theorem gX0_obstacle_X0_holdsAdvertiser : GoodIn wsX0_obstacle (wsV RX0 159 RX0 yX0_holdsAdvertiser wsX0_holdsAdvertiser) := goodIn_app (goodIn_of _ (by decide +kernel)) ggX0_obstacle_X0_holdsAdvertiser
set_option maxRecDepth 20000 in
theorem ggX0_obstacle_X0_holdsRival : GoodIn wsX0_obstacle wsX0_holdsRival := goodIn_r _ [35, 11, 12, 13, 14, 15, 16, 8, 17, 18, 36, 37, 38, 39, 40, 4, 41, 42, 43, 44, 45, 46, 47, 48, 49, 50, 51, 52, 53, 54, 55, 56, 57, 58] (by decide +kernel) (by decide +kernel)
set_option maxRecDepth 20000 in
theorem gX0_obstacle_X0_holdsRival : GoodIn wsX0_obstacle (wsV RX0 163 RX0 yX0_holdsRival wsX0_holdsRival) := goodIn_app (goodIn_of _ (by decide +kernel)) ggX0_obstacle_X0_holdsRival
theorem dX0_obstacle_0 : decode cX0_obstacle 0 = .ok (.aload_n 0, 1) := by decide +kernel
theorem dX0_obstacle_1 : decode cX0_obstacle 1 = .ok (.getfield 13, 3) := by decide +kernel
theorem dX0_obstacle_4 : decode cX0_obstacle 4 = .ok (.iload_n 2, 1) := by decide +kernel
theorem dX0_obstacle_5 : decode cX0_obstacle 5 = .ok (.baload, 1) := by decide +kernel
theorem dX0_obstacle_6 : decode cX0_obstacle 6 = .ok (.ifCond .eq 5, 3) := by decide +kernel
theorem dX0_obstacle_9 : decode cX0_obstacle 9 = .ok (.iconst 1, 1) := by decide +kernel
theorem dX0_obstacle_10 : decode cX0_obstacle 10 = .ok (.ireturn, 1) := by decide +kernel
theorem dX0_obstacle_11 : decode cX0_obstacle 11 = .ok (.aload_n 0, 1) := by decide +kernel
theorem dX0_obstacle_12 : decode cX0_obstacle 12 = .ok (.iload_n 2, 1) := by decide +kernel
theorem dX0_obstacle_13 : decode cX0_obstacle 13 = .ok (.invokevirtual 87, 3) := by decide +kernel
theorem dX0_obstacle_16 : decode cX0_obstacle 16 = .ok (.aload_n 0, 1) := by decide +kernel
theorem dX0_obstacle_17 : decode cX0_obstacle 17 = .ok (.getfield 29, 3) := by decide +kernel
theorem dX0_obstacle_20 : decode cX0_obstacle 20 = .ok (.iload_n 1, 1) := by decide +kernel
theorem dX0_obstacle_21 : decode cX0_obstacle 21 = .ok (.iaload, 1) := by decide +kernel
theorem dX0_obstacle_22 : decode cX0_obstacle 22 = .ok (.if_icmp .ge 5, 3) := by decide +kernel
theorem dX0_obstacle_25 : decode cX0_obstacle 25 = .ok (.iconst 2, 1) := by decide +kernel
theorem dX0_obstacle_26 : decode cX0_obstacle 26 = .ok (.ireturn, 1) := by decide +kernel
theorem dX0_obstacle_27 : decode cX0_obstacle 27 = .ok (.aload_n 0, 1) := by decide +kernel
theorem dX0_obstacle_28 : decode cX0_obstacle 28 = .ok (.iload_n 1, 1) := by decide +kernel
theorem dX0_obstacle_29 : decode cX0_obstacle 29 = .ok (.iload_n 2, 1) := by decide +kernel
theorem dX0_obstacle_30 : decode cX0_obstacle 30 = .ok (.invokevirtual 156, 3) := by decide +kernel
theorem dX0_obstacle_33 : decode cX0_obstacle 33 = .ok (.aload_n 0, 1) := by decide +kernel
theorem dX0_obstacle_34 : decode cX0_obstacle 34 = .ok (.getfield 38, 3) := by decide +kernel
theorem dX0_obstacle_37 : decode cX0_obstacle 37 = .ok (.iload_n 1, 1) := by decide +kernel
theorem dX0_obstacle_38 : decode cX0_obstacle 38 = .ok (.iaload, 1) := by decide +kernel
theorem dX0_obstacle_39 : decode cX0_obstacle 39 = .ok (.if_icmp .ge 5, 3) := by decide +kernel
theorem dX0_obstacle_42 : decode cX0_obstacle 42 = .ok (.iconst 3, 1) := by decide +kernel
theorem dX0_obstacle_43 : decode cX0_obstacle 43 = .ok (.ireturn, 1) := by decide +kernel
theorem dX0_obstacle_44 : decode cX0_obstacle 44 = .ok (.aload_n 0, 1) := by decide +kernel
theorem dX0_obstacle_45 : decode cX0_obstacle 45 = .ok (.iload_n 2, 1) := by decide +kernel
theorem dX0_obstacle_46 : decode cX0_obstacle 46 = .ok (.aload_n 0, 1) := by decide +kernel
theorem dX0_obstacle_47 : decode cX0_obstacle 47 = .ok (.getfield 20, 3) := by decide +kernel
theorem dX0_obstacle_50 : decode cX0_obstacle 50 = .ok (.iload_n 1, 1) := by decide +kernel
theorem dX0_obstacle_51 : decode cX0_obstacle 51 = .ok (.iaload, 1) := by decide +kernel
theorem dX0_obstacle_52 : decode cX0_obstacle 52 = .ok (.invokevirtual 159, 3) := by decide +kernel
theorem dX0_obstacle_55 : decode cX0_obstacle 55 = .ok (.ifCond .eq 5, 3) := by decide +kernel
theorem dX0_obstacle_58 : decode cX0_obstacle 58 = .ok (.iconst 4, 1) := by decide +kernel
theorem dX0_obstacle_59 : decode cX0_obstacle 59 = .ok (.ireturn, 1) := by decide +kernel
theorem dX0_obstacle_60 : decode cX0_obstacle 60 = .ok (.aload_n 0, 1) := by decide +kernel
theorem dX0_obstacle_61 : decode cX0_obstacle 61 = .ok (.iload_n 2, 1) := by decide +kernel
theorem dX0_obstacle_62 : decode cX0_obstacle 62 = .ok (.iload_n 1, 1) := by decide +kernel
theorem dX0_obstacle_63 : decode cX0_obstacle 63 = .ok (.invokevirtual 163, 3) := by decide +kernel
theorem dX0_obstacle_66 : decode cX0_obstacle 66 = .ok (.ifCond .eq 5, 3) := by decide +kernel
theorem dX0_obstacle_69 : decode cX0_obstacle 69 = .ok (.iconst 5, 1) := by decide +kernel
theorem dX0_obstacle_70 : decode cX0_obstacle 70 = .ok (.ireturn, 1) := by decide +kernel
theorem dX0_obstacle_71 : decode cX0_obstacle 71 = .ok (.aload_n 0, 1) := by decide +kernel
theorem dX0_obstacle_72 : decode cX0_obstacle 72 = .ok (.iload_n 2, 1) := by decide +kernel
theorem dX0_obstacle_73 : decode cX0_obstacle 73 = .ok (.iconst 1, 1) := by decide +kernel
theorem dX0_obstacle_74 : decode cX0_obstacle 74 = .ok (.isub, 1) := by decide +kernel
theorem dX0_obstacle_75 : decode cX0_obstacle 75 = .ok (.iload_n 1, 1) := by decide +kernel
theorem dX0_obstacle_76 : decode cX0_obstacle 76 = .ok (.invokevirtual 163, 3) := by decide +kernel
theorem dX0_obstacle_79 : decode cX0_obstacle 79 = .ok (.ifCond .ne 14, 3) := by decide +kernel
theorem dX0_obstacle_82 : decode cX0_obstacle 82 = .ok (.aload_n 0, 1) := by decide +kernel
theorem dX0_obstacle_83 : decode cX0_obstacle 83 = .ok (.iload_n 2, 1) := by decide +kernel
theorem dX0_obstacle_84 : decode cX0_obstacle 84 = .ok (.iconst 1, 1) := by decide +kernel
theorem dX0_obstacle_85 : decode cX0_obstacle 85 = .ok (.iadd, 1) := by decide +kernel
theorem dX0_obstacle_86 : decode cX0_obstacle 86 = .ok (.iload_n 1, 1) := by decide +kernel
theorem dX0_obstacle_87 : decode cX0_obstacle 87 = .ok (.invokevirtual 163, 3) := by decide +kernel
theorem dX0_obstacle_90 : decode cX0_obstacle 90 = .ok (.ifCond .eq 6, 3) := by decide +kernel
theorem dX0_obstacle_93 : decode cX0_obstacle 93 = .ok (.bipush 6, 2) := by decide +kernel
theorem dX0_obstacle_95 : decode cX0_obstacle 95 = .ok (.ireturn, 1) := by decide +kernel
theorem dX0_obstacle_96 : decode cX0_obstacle 96 = .ok (.iconst 0, 1) := by decide +kernel
theorem dX0_obstacle_97 : decode cX0_obstacle 97 = .ok (.ireturn, 1) := by decide +kernel
set_option maxRecDepth 20000 in
theorem ggX0_bestBreak_X0_ratingFor : GoodIn wsX0_bestBreak wsX0_ratingFor := goodIn_r _ [6, 7, 8, 9, 10, 5, 11, 46, 47, 48, 49, 50, 51, 52, 53, 54, 55, 56, 57, 58, 59, 60, 61, 62, 63] (by decide +kernel) (by decide +kernel)
set_option maxRecDepth 20000 in
theorem gX0_bestBreak_X0_ratingFor : GoodIn wsX0_bestBreak (wsV RX0 156 RX0 yX0_ratingFor wsX0_ratingFor) := goodIn_app (goodIn_of _ (by decide +kernel)) ggX0_bestBreak_X0_ratingFor
set_option maxRecDepth 20000 in
theorem ggX0_bestBreak_X0_obstacle : GoodIn wsX0_bestBreak wsX0_obstacle := goodIn_r _ [15, 16, 17, 18, 19, 20, 21, 22, 5, 23, 24, 25, 26, 27, 28, 29, 30, 31, 32, 2, 3, 4, 6, 7, 8, 9, 10, 11, 33, 34, 35, 36, 37, 38, 39, 40, 41, 42, 43, 44, 45, 46, 47, 48, 49, 50, 51, 52, 53, 54, 55, 56, 57, 58, 59, 60, 61, 62, 63] (by decide +kernel) (by decide +kernel)
set_option maxRecDepth 20000 in
theorem gX0_bestBreak_X0_obstacle : GoodIn wsX0_bestBreak (wsV RX0 107 RX0 yX0_obstacle wsX0_obstacle) := goodIn_app (goodIn_of _ (by decide +kernel)) ggX0_bestBreak_X0_obstacle
theorem dX0_bestBreak_0 : decode cX0_bestBreak 0 = .ok (.iconst (-1), 1) := by decide +kernel
theorem dX0_bestBreak_1 : decode cX0_bestBreak 1 = .ok (.istore_n 2, 1) := by decide +kernel
theorem dX0_bestBreak_2 : decode cX0_bestBreak 2 = .ok (.iconst 0, 1) := by decide +kernel
theorem dX0_bestBreak_3 : decode cX0_bestBreak 3 = .ok (.istore_n 3, 1) := by decide +kernel
theorem dX0_bestBreak_4 : decode cX0_bestBreak 4 = .ok (.iconst 0, 1) := by decide +kernel
theorem dX0_bestBreak_5 : decode cX0_bestBreak 5 = .ok (.istore 4, 2) := by decide +kernel
theorem dX0_bestBreak_7 : decode cX0_bestBreak 7 = .ok (.iload 4, 2) := by decide +kernel
theorem dX0_bestBreak_9 : decode cX0_bestBreak 9 = .ok (.aload_n 0, 1) := by decide +kernel
theorem dX0_bestBreak_10 : decode cX0_bestBreak 10 = .ok (.getfield 64, 3) := by decide +kernel
theorem dX0_bestBreak_13 : decode cX0_bestBreak 13 = .ok (.if_icmp .ge 45, 3) := by decide +kernel
theorem dX0_bestBreak_16 : decode cX0_bestBreak 16 = .ok (.aload_n 0, 1) := by decide +kernel
theorem dX0_bestBreak_17 : decode cX0_bestBreak 17 = .ok (.iload_n 1, 1) := by decide +kernel
theorem dX0_bestBreak_18 : decode cX0_bestBreak 18 = .ok (.iload 4, 2) := by decide +kernel
theorem dX0_bestBreak_20 : decode cX0_bestBreak 20 = .ok (.invokevirtual 156, 3) := by decide +kernel
theorem dX0_bestBreak_23 : decode cX0_bestBreak 23 = .ok (.istore 5, 2) := by decide +kernel
theorem dX0_bestBreak_25 : decode cX0_bestBreak 25 = .ok (.iload_n 2, 1) := by decide +kernel
theorem dX0_bestBreak_26 : decode cX0_bestBreak 26 = .ok (.iconst (-1), 1) := by decide +kernel
theorem dX0_bestBreak_27 : decode cX0_bestBreak 27 = .ok (.if_icmp .eq 9, 3) := by decide +kernel
theorem dX0_bestBreak_30 : decode cX0_bestBreak 30 = .ok (.iload 5, 2) := by decide +kernel
theorem dX0_bestBreak_32 : decode cX0_bestBreak 32 = .ok (.iload_n 3, 1) := by decide +kernel
theorem dX0_bestBreak_33 : decode cX0_bestBreak 33 = .ok (.if_icmp .le 19, 3) := by decide +kernel
theorem dX0_bestBreak_36 : decode cX0_bestBreak 36 = .ok (.aload_n 0, 1) := by decide +kernel
theorem dX0_bestBreak_37 : decode cX0_bestBreak 37 = .ok (.iload_n 1, 1) := by decide +kernel
theorem dX0_bestBreak_38 : decode cX0_bestBreak 38 = .ok (.iload 4, 2) := by decide +kernel
theorem dX0_bestBreak_40 : decode cX0_bestBreak 40 = .ok (.invokevirtual 107, 3) := by decide +kernel
theorem dX0_bestBreak_43 : decode cX0_bestBreak 43 = .ok (.ifCond .ne 9, 3) := by decide +kernel
theorem dX0_bestBreak_46 : decode cX0_bestBreak 46 = .ok (.iload 5, 2) := by decide +kernel
theorem dX0_bestBreak_48 : decode cX0_bestBreak 48 = .ok (.istore_n 3, 1) := by decide +kernel
theorem dX0_bestBreak_49 : decode cX0_bestBreak 49 = .ok (.iload 4, 2) := by decide +kernel
theorem dX0_bestBreak_51 : decode cX0_bestBreak 51 = .ok (.istore_n 2, 1) := by decide +kernel
theorem dX0_bestBreak_52 : decode cX0_bestBreak 52 = .ok (.iinc 4 1, 3) := by decide +kernel
theorem dX0_bestBreak_55 : decode cX0_bestBreak 55 = .ok (.goto (-48), 3) := by decide +kernel
theorem dX0_bestBreak_58 : decode cX0_bestBreak 58 = .ok (.iload_n 2, 1) := by decide +kernel
theorem dX0_bestBreak_59 : decode cX0_bestBreak 59 = .ok (.ireturn, 1) := by decide +kernel
theorem dX0_addSpot_0 : decode cX0_addSpot 0 = .ok (.aload_n 0, 1) := by decide +kernel
theorem dX0_addSpot_1 : decode cX0_addSpot 1 = .ok (.getfield 84, 3) := by decide +kernel
theorem dX0_addSpot_4 : decode cX0_addSpot 4 = .ok (.istore 4, 2) := by decide +kernel
theorem dX0_addSpot_6 : decode cX0_addSpot 6 = .ok (.aload_n 0, 1) := by decide +kernel
theorem dX0_addSpot_7 : decode cX0_addSpot 7 = .ok (.getfield 44, 3) := by decide +kernel
theorem dX0_addSpot_10 : decode cX0_addSpot 10 = .ok (.iload 4, 2) := by decide +kernel
theorem dX0_addSpot_12 : decode cX0_addSpot 12 = .ok (.iload_n 1, 1) := by decide +kernel
theorem dX0_addSpot_13 : decode cX0_addSpot 13 = .ok (.iastore, 1) := by decide +kernel
theorem dX0_addSpot_14 : decode cX0_addSpot 14 = .ok (.aload_n 0, 1) := by decide +kernel
theorem dX0_addSpot_15 : decode cX0_addSpot 15 = .ok (.getfield 47, 3) := by decide +kernel
theorem dX0_addSpot_18 : decode cX0_addSpot 18 = .ok (.iload 4, 2) := by decide +kernel
theorem dX0_addSpot_20 : decode cX0_addSpot 20 = .ok (.iload_n 2, 1) := by decide +kernel
theorem dX0_addSpot_21 : decode cX0_addSpot 21 = .ok (.iastore, 1) := by decide +kernel
theorem dX0_addSpot_22 : decode cX0_addSpot 22 = .ok (.aload_n 0, 1) := by decide +kernel
theorem dX0_addSpot_23 : decode cX0_addSpot 23 = .ok (.getfield 50, 3) := by decide +kernel
theorem dX0_addSpot_26 : decode cX0_addSpot 26 = .ok (.iload 4, 2) := by decide +kernel
theorem dX0_addSpot_28 : decode cX0_addSpot 28 = .ok (.iconst 0, 1) := by decide +kernel
theorem dX0_addSpot_29 : decode cX0_addSpot 29 = .ok (.iastore, 1) := by decide +kernel
theorem dX0_addSpot_30 : decode cX0_addSpot 30 = .ok (.aload_n 0, 1) := by decide +kernel
theorem dX0_addSpot_31 : decode cX0_addSpot 31 = .ok (.getfield 53, 3) := by decide +kernel
theorem dX0_addSpot_34 : decode cX0_addSpot 34 = .ok (.iload 4, 2) := by decide +kernel
theorem dX0_addSpot_36 : decode cX0_addSpot 36 = .ok (.iload_n 3, 1) := by decide +kernel
theorem dX0_addSpot_37 : decode cX0_addSpot 37 = .ok (.bastore, 1) := by decide +kernel
theorem dX0_addSpot_38 : decode cX0_addSpot 38 = .ok (.aload_n 0, 1) := by decide +kernel
theorem dX0_addSpot_39 : decode cX0_addSpot 39 = .ok (.dup, 1) := by decide +kernel
theorem dX0_addSpot_40 : decode cX0_addSpot 40 = .ok (.getfield 84, 3) := by decide +kernel
theorem dX0_addSpot_43 : decode cX0_addSpot 43 = .ok (.iconst 1, 1) := by decide +kernel
theorem dX0_addSpot_44 : decode cX0_addSpot 44 = .ok (.iadd, 1) := by decide +kernel
theorem dX0_addSpot_45 : decode cX0_addSpot 45 = .ok (.putfield 84, 3) := by decide +kernel
theorem dX0_addSpot_48 : decode cX0_addSpot 48 = .ok (.iload 4, 2) := by decide +kernel
theorem dX0_addSpot_50 : decode cX0_addSpot 50 = .ok (.ireturn, 1) := by decide +kernel
theorem dX0_isInBreak_0 : decode cX0_isInBreak 0 = .ok (.aload_n 0, 1) := by decide +kernel
theorem dX0_isInBreak_1 : decode cX0_isInBreak 1 = .ok (.getfield 50, 3) := by decide +kernel
theorem dX0_isInBreak_4 : decode cX0_isInBreak 4 = .ok (.iload_n 1, 1) := by decide +kernel
theorem dX0_isInBreak_5 : decode cX0_isInBreak 5 = .ok (.iaload, 1) := by decide +kernel
theorem dX0_isInBreak_6 : decode cX0_isInBreak 6 = .ok (.ifCond .eq 13, 3) := by decide +kernel
theorem dX0_isInBreak_9 : decode cX0_isInBreak 9 = .ok (.aload_n 0, 1) := by decide +kernel
theorem dX0_isInBreak_10 : decode cX0_isInBreak 10 = .ok (.getfield 50, 3) := by decide +kernel
theorem dX0_isInBreak_13 : decode cX0_isInBreak 13 = .ok (.iload_n 1, 1) := by decide +kernel
theorem dX0_isInBreak_14 : decode cX0_isInBreak 14 = .ok (.iaload, 1) := by decide +kernel
theorem dX0_isInBreak_15 : decode cX0_isInBreak 15 = .ok (.iconst 1, 1) := by decide +kernel
theorem dX0_isInBreak_16 : decode cX0_isInBreak 16 = .ok (.if_icmp .ne 7, 3) := by decide +kernel
theorem dX0_isInBreak_19 : decode cX0_isInBreak 19 = .ok (.iconst 1, 1) := by decide +kernel
theorem dX0_isInBreak_20 : decode cX0_isInBreak 20 = .ok (.goto 4, 3) := by decide +kernel
theorem dX0_isInBreak_23 : decode cX0_isInBreak 23 = .ok (.iconst 0, 1) := by decide +kernel
theorem dX0_isInBreak_24 : decode cX0_isInBreak 24 = .ok (.ireturn, 1) := by decide +kernel
set_option maxRecDepth 20000 in
theorem ggX0_secondsLeft_X0_isInBreak : GoodIn wsX0_secondsLeft wsX0_isInBreak := goodIn_r _ [10, 11, 12, 13, 14, 15, 16, 17, 18, 19, 20, 21, 22, 23, 24, 25, 26, 27, 28, 29] (by decide +kernel) (by decide +kernel)
set_option maxRecDepth 20000 in
theorem gX0_secondsLeft_X0_isInBreak : GoodIn wsX0_secondsLeft (wsV RX0 126 RX0 yX0_isInBreak wsX0_isInBreak) := goodIn_app (goodIn_of _ (by decide +kernel)) ggX0_secondsLeft_X0_isInBreak
theorem dX0_secondsLeft_0 : decode cX0_secondsLeft 0 = .ok (.aload_n 0, 1) := by decide +kernel
theorem dX0_secondsLeft_1 : decode cX0_secondsLeft 1 = .ok (.getfield 9, 3) := by decide +kernel
theorem dX0_secondsLeft_4 : decode cX0_secondsLeft 4 = .ok (.iload_n 1, 1) := by decide +kernel
theorem dX0_secondsLeft_5 : decode cX0_secondsLeft 5 = .ok (.iaload, 1) := by decide +kernel
theorem dX0_secondsLeft_6 : decode cX0_secondsLeft 6 = .ok (.istore_n 2, 1) := by decide +kernel
theorem dX0_secondsLeft_7 : decode cX0_secondsLeft 7 = .ok (.iconst 0, 1) := by decide +kernel
theorem dX0_secondsLeft_8 : decode cX0_secondsLeft 8 = .ok (.istore_n 3, 1) := by decide +kernel
theorem dX0_secondsLeft_9 : decode cX0_secondsLeft 9 = .ok (.iload_n 3, 1) := by decide +kernel
theorem dX0_secondsLeft_10 : decode cX0_secondsLeft 10 = .ok (.aload_n 0, 1) := by decide +kernel
theorem dX0_secondsLeft_11 : decode cX0_secondsLeft 11 = .ok (.getfield 84, 3) := by decide +kernel
theorem dX0_secondsLeft_14 : decode cX0_secondsLeft 14 = .ok (.if_icmp .ge 41, 3) := by decide +kernel
theorem dX0_secondsLeft_17 : decode cX0_secondsLeft 17 = .ok (.aload_n 0, 1) := by decide +kernel
theorem dX0_secondsLeft_18 : decode cX0_secondsLeft 18 = .ok (.getfield 47, 3) := by decide +kernel
theorem dX0_secondsLeft_21 : decode cX0_secondsLeft 21 = .ok (.iload_n 3, 1) := by decide +kernel
theorem dX0_secondsLeft_22 : decode cX0_secondsLeft 22 = .ok (.iaload, 1) := by decide +kernel
theorem dX0_secondsLeft_23 : decode cX0_secondsLeft 23 = .ok (.iload_n 1, 1) := by decide +kernel
theorem dX0_secondsLeft_24 : decode cX0_secondsLeft 24 = .ok (.if_icmp .ne 25, 3) := by decide +kernel
theorem dX0_secondsLeft_27 : decode cX0_secondsLeft 27 = .ok (.aload_n 0, 1) := by decide +kernel
theorem dX0_secondsLeft_28 : decode cX0_secondsLeft 28 = .ok (.iload_n 3, 1) := by decide +kernel
theorem dX0_secondsLeft_29 : decode cX0_secondsLeft 29 = .ok (.invokevirtual 126, 3) := by decide +kernel
theorem dX0_secondsLeft_32 : decode cX0_secondsLeft 32 = .ok (.ifCond .eq 17, 3) := by decide +kernel
theorem dX0_secondsLeft_35 : decode cX0_secondsLeft 35 = .ok (.iload_n 2, 1) := by decide +kernel
theorem dX0_secondsLeft_36 : decode cX0_secondsLeft 36 = .ok (.aload_n 0, 1) := by decide +kernel
theorem dX0_secondsLeft_37 : decode cX0_secondsLeft 37 = .ok (.getfield 29, 3) := by decide +kernel
theorem dX0_secondsLeft_40 : decode cX0_secondsLeft 40 = .ok (.aload_n 0, 1) := by decide +kernel
theorem dX0_secondsLeft_41 : decode cX0_secondsLeft 41 = .ok (.getfield 44, 3) := by decide +kernel
theorem dX0_secondsLeft_44 : decode cX0_secondsLeft 44 = .ok (.iload_n 3, 1) := by decide +kernel
theorem dX0_secondsLeft_45 : decode cX0_secondsLeft 45 = .ok (.iaload, 1) := by decide +kernel
theorem dX0_secondsLeft_46 : decode cX0_secondsLeft 46 = .ok (.iaload, 1) := by decide +kernel
theorem dX0_secondsLeft_47 : decode cX0_secondsLeft 47 = .ok (.isub, 1) := by decide +kernel
theorem dX0_secondsLeft_48 : decode cX0_secondsLeft 48 = .ok (.istore_n 2, 1) := by decide +kernel
theorem dX0_secondsLeft_49 : decode cX0_secondsLeft 49 = .ok (.iinc 3 1, 3) := by decide +kernel
theorem dX0_secondsLeft_52 : decode cX0_secondsLeft 52 = .ok (.goto (-43), 3) := by decide +kernel
theorem dX0_secondsLeft_55 : decode cX0_secondsLeft 55 = .ok (.iload_n 2, 1) := by decide +kernel
theorem dX0_secondsLeft_56 : decode cX0_secondsLeft 56 = .ok (.ireturn, 1) := by decide +kernel
set_option maxRecDepth 20000 in
theorem ggX0_holdsAdvertiser_X0_isInBreak : GoodIn wsX0_holdsAdvertiser wsX0_isInBreak := goodIn_r _ [9, 10, 11, 12, 13, 14, 15, 16, 17, 18, 19, 20, 21, 22, 23, 24, 25, 26, 27, 28] (by decide +kernel) (by decide +kernel)
set_option maxRecDepth 20000 in
theorem gX0_holdsAdvertiser_X0_isInBreak : GoodIn wsX0_holdsAdvertiser (wsV RX0 126 RX0 yX0_isInBreak wsX0_isInBreak) := goodIn_app (goodIn_of _ (by decide +kernel)) ggX0_holdsAdvertiser_X0_isInBreak
theorem dX0_holdsAdvertiser_0 : decode cX0_holdsAdvertiser 0 = .ok (.iconst 0, 1) := by decide +kernel
theorem dX0_holdsAdvertiser_1 : decode cX0_holdsAdvertiser 1 = .ok (.istore_n 3, 1) := by decide +kernel
theorem dX0_holdsAdvertiser_2 : decode cX0_holdsAdvertiser 2 = .ok (.iload_n 3, 1) := by decide +kernel
theorem dX0_holdsAdvertiser_3 : decode cX0_holdsAdvertiser 3 = .ok (.aload_n 0, 1) := by decide +kernel
theorem dX0_holdsAdvertiser_4 : decode cX0_holdsAdvertiser 4 = .ok (.getfield 84, 3) := by decide +kernel
theorem dX0_holdsAdvertiser_7 : decode cX0_holdsAdvertiser 7 = .ok (.if_icmp .ge 44, 3) := by decide +kernel
theorem dX0_holdsAdvertiser_10 : decode cX0_holdsAdvertiser 10 = .ok (.aload_n 0, 1) := by decide +kernel
theorem dX0_holdsAdvertiser_11 : decode cX0_holdsAdvertiser 11 = .ok (.getfield 47, 3) := by decide +kernel
theorem dX0_holdsAdvertiser_14 : decode cX0_holdsAdvertiser 14 = .ok (.iload_n 3, 1) := by decide +kernel
theorem dX0_holdsAdvertiser_15 : decode cX0_holdsAdvertiser 15 = .ok (.iaload, 1) := by decide +kernel
theorem dX0_holdsAdvertiser_16 : decode cX0_holdsAdvertiser 16 = .ok (.iload_n 1, 1) := by decide +kernel
theorem dX0_holdsAdvertiser_17 : decode cX0_holdsAdvertiser 17 = .ok (.if_icmp .ne 28, 3) := by decide +kernel
theorem dX0_holdsAdvertiser_20 : decode cX0_holdsAdvertiser 20 = .ok (.aload_n 0, 1) := by decide +kernel
theorem dX0_holdsAdvertiser_21 : decode cX0_holdsAdvertiser 21 = .ok (.iload_n 3, 1) := by decide +kernel
theorem dX0_holdsAdvertiser_22 : decode cX0_holdsAdvertiser 22 = .ok (.invokevirtual 126, 3) := by decide +kernel
theorem dX0_holdsAdvertiser_25 : decode cX0_holdsAdvertiser 25 = .ok (.ifCond .eq 20, 3) := by decide +kernel
theorem dX0_holdsAdvertiser_28 : decode cX0_holdsAdvertiser 28 = .ok (.aload_n 0, 1) := by decide +kernel
theorem dX0_holdsAdvertiser_29 : decode cX0_holdsAdvertiser 29 = .ok (.getfield 20, 3) := by decide +kernel
theorem dX0_holdsAdvertiser_32 : decode cX0_holdsAdvertiser 32 = .ok (.aload_n 0, 1) := by decide +kernel
theorem dX0_holdsAdvertiser_33 : decode cX0_holdsAdvertiser 33 = .ok (.getfield 44, 3) := by decide +kernel
theorem dX0_holdsAdvertiser_36 : decode cX0_holdsAdvertiser 36 = .ok (.iload_n 3, 1) := by decide +kernel
theorem dX0_holdsAdvertiser_37 : decode cX0_holdsAdvertiser 37 = .ok (.iaload, 1) := by decide +kernel
theorem dX0_holdsAdvertiser_38 : decode cX0_holdsAdvertiser 38 = .ok (.iaload, 1) := by decide +kernel
theorem dX0_holdsAdvertiser_39 : decode cX0_holdsAdvertiser 39 = .ok (.iload_n 2, 1) := by decide +kernel
theorem dX0_holdsAdvertiser_40 : decode cX0_holdsAdvertiser 40 = .ok (.if_icmp .ne 5, 3) := by decide +kernel
theorem dX0_holdsAdvertiser_43 : decode cX0_holdsAdvertiser 43 = .ok (.iconst 1, 1) := by decide +kernel
theorem dX0_holdsAdvertiser_44 : decode cX0_holdsAdvertiser 44 = .ok (.ireturn, 1) := by decide +kernel
theorem dX0_holdsAdvertiser_45 : decode cX0_holdsAdvertiser 45 = .ok (.iinc 3 1, 3) := by decide +kernel
theorem dX0_holdsAdvertiser_48 : decode cX0_holdsAdvertiser 48 = .ok (.goto (-46), 3) := by decide +kernel
theorem dX0_holdsAdvertiser_51 : decode cX0_holdsAdvertiser 51 = .ok (.iconst 0, 1) := by decide +kernel
theorem dX0_holdsAdvertiser_52 : decode cX0_holdsAdvertiser 52 = .ok (.ireturn, 1) := by decide +kernel
set_option maxRecDepth 20000 in
theorem ggX0_holdsRival_X0_isInBreak : GoodIn wsX0_holdsRival wsX0_isInBreak := goodIn_r _ [8, 9, 16, 17, 18, 19, 20, 21, 22, 23, 24, 25, 26, 27, 28, 29, 30, 31, 32, 33] (by decide +kernel) (by decide +kernel)
set_option maxRecDepth 20000 in
theorem gX0_holdsRival_X0_isInBreak : GoodIn wsX0_holdsRival (wsV RX0 126 RX0 yX0_isInBreak wsX0_isInBreak) := goodIn_app (goodIn_of _ (by decide +kernel)) ggX0_holdsRival_X0_isInBreak
set_option maxRecDepth 20000 in
theorem ggX0_holdsRival_X0_areRivals : GoodIn wsX0_holdsRival wsX0_areRivals := goodIn_r _ [13, 14, 15, 16, 17, 18, 19, 20, 21, 22, 23, 24, 25, 26, 27, 28, 29, 30, 31, 32, 33] (by decide +kernel) (by decide +kernel)
set_option maxRecDepth 20000 in
theorem gX0_holdsRival_X0_areRivals : GoodIn wsX0_holdsRival (wsV RX0 166 RX0 yX0_areRivals wsX0_areRivals) := goodIn_app (goodIn_of _ (by decide +kernel)) ggX0_holdsRival_X0_areRivals
theorem dX0_holdsRival_0 : decode cX0_holdsRival 0 = .ok (.iconst 0, 1) := by decide +kernel
theorem dX0_holdsRival_1 : decode cX0_holdsRival 1 = .ok (.istore_n 3, 1) := by decide +kernel
theorem dX0_holdsRival_2 : decode cX0_holdsRival 2 = .ok (.iload_n 3, 1) := by decide +kernel
theorem dX0_holdsRival_3 : decode cX0_holdsRival 3 = .ok (.aload_n 0, 1) := by decide +kernel
theorem dX0_holdsRival_4 : decode cX0_holdsRival 4 = .ok (.getfield 84, 3) := by decide +kernel
theorem dX0_holdsRival_7 : decode cX0_holdsRival 7 = .ok (.if_icmp .ge 43, 3) := by decide +kernel
theorem dX0_holdsRival_10 : decode cX0_holdsRival 10 = .ok (.aload_n 0, 1) := by decide +kernel
theorem dX0_holdsRival_11 : decode cX0_holdsRival 11 = .ok (.getfield 47, 3) := by decide +kernel
theorem dX0_holdsRival_14 : decode cX0_holdsRival 14 = .ok (.iload_n 3, 1) := by decide +kernel
theorem dX0_holdsRival_15 : decode cX0_holdsRival 15 = .ok (.iaload, 1) := by decide +kernel
theorem dX0_holdsRival_16 : decode cX0_holdsRival 16 = .ok (.iload_n 1, 1) := by decide +kernel
theorem dX0_holdsRival_17 : decode cX0_holdsRival 17 = .ok (.if_icmp .ne 27, 3) := by decide +kernel
theorem dX0_holdsRival_20 : decode cX0_holdsRival 20 = .ok (.aload_n 0, 1) := by decide +kernel
theorem dX0_holdsRival_21 : decode cX0_holdsRival 21 = .ok (.iload_n 3, 1) := by decide +kernel
theorem dX0_holdsRival_22 : decode cX0_holdsRival 22 = .ok (.invokevirtual 126, 3) := by decide +kernel
theorem dX0_holdsRival_25 : decode cX0_holdsRival 25 = .ok (.ifCond .eq 19, 3) := by decide +kernel
theorem dX0_holdsRival_28 : decode cX0_holdsRival 28 = .ok (.aload_n 0, 1) := by decide +kernel
theorem dX0_holdsRival_29 : decode cX0_holdsRival 29 = .ok (.aload_n 0, 1) := by decide +kernel
theorem dX0_holdsRival_30 : decode cX0_holdsRival 30 = .ok (.getfield 44, 3) := by decide +kernel
theorem dX0_holdsRival_33 : decode cX0_holdsRival 33 = .ok (.iload_n 3, 1) := by decide +kernel
theorem dX0_holdsRival_34 : decode cX0_holdsRival 34 = .ok (.iaload, 1) := by decide +kernel
theorem dX0_holdsRival_35 : decode cX0_holdsRival 35 = .ok (.iload_n 2, 1) := by decide +kernel
theorem dX0_holdsRival_36 : decode cX0_holdsRival 36 = .ok (.invokevirtual 166, 3) := by decide +kernel
theorem dX0_holdsRival_39 : decode cX0_holdsRival 39 = .ok (.ifCond .eq 5, 3) := by decide +kernel
theorem dX0_holdsRival_42 : decode cX0_holdsRival 42 = .ok (.iconst 1, 1) := by decide +kernel
theorem dX0_holdsRival_43 : decode cX0_holdsRival 43 = .ok (.ireturn, 1) := by decide +kernel
theorem dX0_holdsRival_44 : decode cX0_holdsRival 44 = .ok (.iinc 3 1, 3) := by decide +kernel
theorem dX0_holdsRival_47 : decode cX0_holdsRival 47 = .ok (.goto (-45), 3) := by decide +kernel
theorem dX0_holdsRival_50 : decode cX0_holdsRival 50 = .ok (.iconst 0, 1) := by decide +kernel
theorem dX0_holdsRival_51 : decode cX0_holdsRival 51 = .ok (.ireturn, 1) := by decide +kernel
theorem dX0_areRivals_0 : decode cX0_areRivals 0 = .ok (.aload_n 0, 1) := by decide +kernel
theorem dX0_areRivals_1 : decode cX0_areRivals 1 = .ok (.getfield 23, 3) := by decide +kernel
theorem dX0_areRivals_4 : decode cX0_areRivals 4 = .ok (.iload_n 1, 1) := by decide +kernel
theorem dX0_areRivals_5 : decode cX0_areRivals 5 = .ok (.iaload, 1) := by decide +kernel
theorem dX0_areRivals_6 : decode cX0_areRivals 6 = .ok (.aload_n 0, 1) := by decide +kernel
theorem dX0_areRivals_7 : decode cX0_areRivals 7 = .ok (.getfield 23, 3) := by decide +kernel
theorem dX0_areRivals_10 : decode cX0_areRivals 10 = .ok (.iload_n 2, 1) := by decide +kernel
theorem dX0_areRivals_11 : decode cX0_areRivals 11 = .ok (.iaload, 1) := by decide +kernel
theorem dX0_areRivals_12 : decode cX0_areRivals 12 = .ok (.if_icmp .ne 22, 3) := by decide +kernel
theorem dX0_areRivals_15 : decode cX0_areRivals 15 = .ok (.aload_n 0, 1) := by decide +kernel
theorem dX0_areRivals_16 : decode cX0_areRivals 16 = .ok (.getfield 20, 3) := by decide +kernel
theorem dX0_areRivals_19 : decode cX0_areRivals 19 = .ok (.iload_n 1, 1) := by decide +kernel
theorem dX0_areRivals_20 : decode cX0_areRivals 20 = .ok (.iaload, 1) := by decide +kernel
theorem dX0_areRivals_21 : decode cX0_areRivals 21 = .ok (.aload_n 0, 1) := by decide +kernel
theorem dX0_areRivals_22 : decode cX0_areRivals 22 = .ok (.getfield 20, 3) := by decide +kernel
theorem dX0_areRivals_25 : decode cX0_areRivals 25 = .ok (.iload_n 2, 1) := by decide +kernel
theorem dX0_areRivals_26 : decode cX0_areRivals 26 = .ok (.iaload, 1) := by decide +kernel
theorem dX0_areRivals_27 : decode cX0_areRivals 27 = .ok (.if_icmp .eq 7, 3) := by decide +kernel
theorem dX0_areRivals_30 : decode cX0_areRivals 30 = .ok (.iconst 1, 1) := by decide +kernel
theorem dX0_areRivals_31 : decode cX0_areRivals 31 = .ok (.goto 4, 3) := by decide +kernel
theorem dX0_areRivals_34 : decode cX0_areRivals 34 = .ok (.iconst 0, 1) := by decide +kernel
theorem dX0_areRivals_35 : decode cX0_areRivals 35 = .ok (.ireturn, 1) := by decide +kernel
theorem dX0_ratingCell_0 : decode cX0_ratingCell 0 = .ok (.iload_n 0, 1) := by decide +kernel
theorem dX0_ratingCell_1 : decode cX0_ratingCell 1 = .ok (.iconst 3, 1) := by decide +kernel
theorem dX0_ratingCell_2 : decode cX0_ratingCell 2 = .ok (.imul, 1) := by decide +kernel
theorem dX0_ratingCell_3 : decode cX0_ratingCell 3 = .ok (.iload_n 1, 1) := by decide +kernel
theorem dX0_ratingCell_4 : decode cX0_ratingCell 4 = .ok (.iadd, 1) := by decide +kernel
theorem dX0_ratingCell_5 : decode cX0_ratingCell 5 = .ok (.ireturn, 1) := by decide +kernel
set_option maxRecDepth 20000 in
theorem ggX0_ratingFor_X0_ratingCell : GoodIn wsX0_ratingFor wsX0_ratingCell := goodIn_r _ [6] (by decide +kernel) (by decide +kernel)
set_option maxRecDepth 20000 in
theorem gX0_ratingFor_X0_ratingCell : GoodIn wsX0_ratingFor (va_wsS RX0 80 yX0_ratingCell wsX0_ratingCell) := goodIn_app (goodIn_of _ (by decide +kernel)) ggX0_ratingFor_X0_ratingCell
theorem dX0_ratingFor_0 : decode cX0_ratingFor 0 = .ok (.aload_n 0, 1) := by decide +kernel
theorem dX0_ratingFor_1 : decode cX0_ratingFor 1 = .ok (.getfield 17, 3) := by decide +kernel
theorem dX0_ratingFor_4 : decode cX0_ratingFor 4 = .ok (.iload_n 2, 1) := by decide +kernel
theorem dX0_ratingFor_5 : decode cX0_ratingFor 5 = .ok (.aload_n 0, 1) := by decide +kernel
theorem dX0_ratingFor_6 : decode cX0_ratingFor 6 = .ok (.getfield 26, 3) := by decide +kernel
theorem dX0_ratingFor_9 : decode cX0_ratingFor 9 = .ok (.iload_n 1, 1) := by decide +kernel
theorem dX0_ratingFor_10 : decode cX0_ratingFor 10 = .ok (.iaload, 1) := by decide +kernel
theorem dX0_ratingFor_11 : decode cX0_ratingFor 11 = .ok (.invokestatic 80, 3) := by decide +kernel
theorem dX0_ratingFor_14 : decode cX0_ratingFor 14 = .ok (.iaload, 1) := by decide +kernel
theorem dX0_ratingFor_15 : decode cX0_ratingFor 15 = .ok (.ireturn, 1) := by decide +kernel
set_option maxRecDepth 20000 in
theorem ggX0_audience_X0_ratingFor : GoodIn wsX0_audience wsX0_ratingFor := goodIn_r _ [9, 10, 11, 12, 13, 8, 14, 15, 16, 17, 18, 19, 20, 21, 22, 23, 24, 25, 26, 27, 28, 29, 30, 31, 32] (by decide +kernel) (by decide +kernel)
set_option maxRecDepth 20000 in
theorem gX0_audience_X0_ratingFor : GoodIn wsX0_audience (wsV RX0 156 RX0 yX0_ratingFor wsX0_ratingFor) := goodIn_app (goodIn_of _ (by decide +kernel)) ggX0_audience_X0_ratingFor
theorem dX0_audience_0 : decode cX0_audience 0 = .ok (.iconst 0, 1) := by decide +kernel
theorem dX0_audience_1 : decode cX0_audience 1 = .ok (.istore_n 3, 1) := by decide +kernel
theorem dX0_audience_2 : decode cX0_audience 2 = .ok (.iconst 0, 1) := by decide +kernel
theorem dX0_audience_3 : decode cX0_audience 3 = .ok (.istore 4, 2) := by decide +kernel
theorem dX0_audience_5 : decode cX0_audience 5 = .ok (.iload 4, 2) := by decide +kernel
theorem dX0_audience_7 : decode cX0_audience 7 = .ok (.aload_n 0, 1) := by decide +kernel
theorem dX0_audience_8 : decode cX0_audience 8 = .ok (.getfield 84, 3) := by decide +kernel
theorem dX0_audience_11 : decode cX0_audience 11 = .ok (.if_icmp .ge 46, 3) := by decide +kernel
theorem dX0_audience_14 : decode cX0_audience 14 = .ok (.aload_n 0, 1) := by decide +kernel
theorem dX0_audience_15 : decode cX0_audience 15 = .ok (.getfield 44, 3) := by decide +kernel
theorem dX0_audience_18 : decode cX0_audience 18 = .ok (.iload 4, 2) := by decide +kernel
theorem dX0_audience_20 : decode cX0_audience 20 = .ok (.iaload, 1) := by decide +kernel
theorem dX0_audience_21 : decode cX0_audience 21 = .ok (.iload_n 1, 1) := by decide +kernel
theorem dX0_audience_22 : decode cX0_audience 22 = .ok (.if_icmp .ne 29, 3) := by decide +kernel
theorem dX0_audience_25 : decode cX0_audience 25 = .ok (.aload_n 0, 1) := by decide +kernel
theorem dX0_audience_26 : decode cX0_audience 26 = .ok (.getfield 50, 3) := by decide +kernel
theorem dX0_audience_29 : decode cX0_audience 29 = .ok (.iload 4, 2) := by decide +kernel
theorem dX0_audience_31 : decode cX0_audience 31 = .ok (.iaload, 1) := by decide +kernel
theorem dX0_audience_32 : decode cX0_audience 32 = .ok (.iload_n 2, 1) := by decide +kernel
theorem dX0_audience_33 : decode cX0_audience 33 = .ok (.if_icmp .ne 18, 3) := by decide +kernel
theorem dX0_audience_36 : decode cX0_audience 36 = .ok (.iload_n 3, 1) := by decide +kernel
theorem dX0_audience_37 : decode cX0_audience 37 = .ok (.aload_n 0, 1) := by decide +kernel
theorem dX0_audience_38 : decode cX0_audience 38 = .ok (.iload_n 1, 1) := by decide +kernel
theorem dX0_audience_39 : decode cX0_audience 39 = .ok (.aload_n 0, 1) := by decide +kernel
theorem dX0_audience_40 : decode cX0_audience 40 = .ok (.getfield 47, 3) := by decide +kernel
theorem dX0_audience_43 : decode cX0_audience 43 = .ok (.iload 4, 2) := by decide +kernel
theorem dX0_audience_45 : decode cX0_audience 45 = .ok (.iaload, 1) := by decide +kernel
theorem dX0_audience_46 : decode cX0_audience 46 = .ok (.invokevirtual 156, 3) := by decide +kernel
theorem dX0_audience_49 : decode cX0_audience 49 = .ok (.iadd, 1) := by decide +kernel
theorem dX0_audience_50 : decode cX0_audience 50 = .ok (.istore_n 3, 1) := by decide +kernel
theorem dX0_audience_51 : decode cX0_audience 51 = .ok (.iinc 4 1, 3) := by decide +kernel
theorem dX0_audience_54 : decode cX0_audience 54 = .ok (.goto (-49), 3) := by decide +kernel
theorem dX0_audience_57 : decode cX0_audience 57 = .ok (.iload_n 3, 1) := by decide +kernel
theorem dX0_audience_58 : decode cX0_audience 58 = .ok (.ireturn, 1) := by decide +kernel
set_option maxRecDepth 20000 in
theorem ggX0_isShortOfPromise_X0_audience : GoodIn wsX0_isShortOfPromise wsX0_audience := goodIn_r _ [6, 7, 8, 9, 10, 11, 12, 13, 5, 14, 15, 16, 17, 18, 19, 20, 21, 22, 23, 24, 25, 26, 27, 28, 29, 30, 31, 32, 33, 34, 35, 36, 37] (by decide +kernel) (by decide +kernel)
set_option maxRecDepth 20000 in
theorem gX0_isShortOfPromise_X0_audience : GoodIn wsX0_isShortOfPromise (wsV RX0 129 RX0 yX0_audience wsX0_audience) := goodIn_app (goodIn_of _ (by decide +kernel)) ggX0_isShortOfPromise_X0_audience
theorem dX0_isShortOfPromise_0 : decode cX0_isShortOfPromise 0 = .ok (.aload_n 0, 1) := by decide +kernel
theorem dX0_isShortOfPromise_1 : decode cX0_isShortOfPromise 1 = .ok (.iload_n 1, 1) := by decide +kernel
theorem dX0_isShortOfPromise_2 : decode cX0_isShortOfPromise 2 = .ok (.iconst 1, 1) := by decide +kernel
theorem dX0_isShortOfPromise_3 : decode cX0_isShortOfPromise 3 = .ok (.invokevirtual 129, 3) := by decide +kernel
theorem dX0_isShortOfPromise_6 : decode cX0_isShortOfPromise 6 = .ok (.aload_n 0, 1) := by decide +kernel
theorem dX0_isShortOfPromise_7 : decode cX0_isShortOfPromise 7 = .ok (.iload_n 1, 1) := by decide +kernel
theorem dX0_isShortOfPromise_8 : decode cX0_isShortOfPromise 8 = .ok (.iconst 0, 1) := by decide +kernel
theorem dX0_isShortOfPromise_9 : decode cX0_isShortOfPromise 9 = .ok (.invokevirtual 129, 3) := by decide +kernel
theorem dX0_isShortOfPromise_12 : decode cX0_isShortOfPromise 12 = .ok (.iadd, 1) := by decide +kernel
theorem dX0_isShortOfPromise_13 : decode cX0_isShortOfPromise 13 = .ok (.aload_n 0, 1) := by decide +kernel
theorem dX0_isShortOfPromise_14 : decode cX0_isShortOfPromise 14 = .ok (.getfield 35, 3) := by decide +kernel
theorem dX0_isShortOfPromise_17 : decode cX0_isShortOfPromise 17 = .ok (.iload_n 1, 1) := by decide +kernel
theorem dX0_isShortOfPromise_18 : decode cX0_isShortOfPromise 18 = .ok (.iaload, 1) := by decide +kernel
theorem dX0_isShortOfPromise_19 : decode cX0_isShortOfPromise 19 = .ok (.if_icmp .ge 7, 3) := by decide +kernel
theorem dX0_isShortOfPromise_22 : decode cX0_isShortOfPromise 22 = .ok (.iconst 1, 1) := by decide +kernel
theorem dX0_isShortOfPromise_23 : decode cX0_isShortOfPromise 23 = .ok (.goto 4, 3) := by decide +kernel
theorem dX0_isShortOfPromise_26 : decode cX0_isShortOfPromise 26 = .ok (.iconst 0, 1) := by decide +kernel
theorem dX0_isShortOfPromise_27 : decode cX0_isShortOfPromise 27 = .ok (.ireturn, 1) := by decide +kernel
set_option maxRecDepth 20000 in
theorem ggX0_owedTo_X0_audience : GoodIn wsX0_owedTo wsX0_audience := goodIn_r _ [11, 12, 13, 14, 15, 16, 17, 18, 10, 19, 20, 21, 22, 23, 24, 25, 26, 27, 28, 29, 30, 31, 32, 33, 34, 35, 36, 37, 38, 39, 40, 41, 42] (by decide +kernel) (by decide +kernel)
set_option maxRecDepth 20000 in
theorem gX0_owedTo_X0_audience : GoodIn wsX0_owedTo (wsV RX0 129 RX0 yX0_audience wsX0_audience) := goodIn_app (goodIn_of _ (by decide +kernel)) ggX0_owedTo_X0_audience
theorem dX0_owedTo_0 : decode cX0_owedTo 0 = .ok (.aload_n 0, 1) := by decide +kernel
theorem dX0_owedTo_1 : decode cX0_owedTo 1 = .ok (.getfield 41, 3) := by decide +kernel
theorem dX0_owedTo_4 : decode cX0_owedTo 4 = .ok (.iload_n 1, 1) := by decide +kernel
theorem dX0_owedTo_5 : decode cX0_owedTo 5 = .ok (.baload, 1) := by decide +kernel
theorem dX0_owedTo_6 : decode cX0_owedTo 6 = .ok (.ifCond .ne 5, 3) := by decide +kernel
theorem dX0_owedTo_9 : decode cX0_owedTo 9 = .ok (.iconst 0, 1) := by decide +kernel
theorem dX0_owedTo_10 : decode cX0_owedTo 10 = .ok (.ireturn, 1) := by decide +kernel
theorem dX0_owedTo_11 : decode cX0_owedTo 11 = .ok (.aload_n 0, 1) := by decide +kernel
theorem dX0_owedTo_12 : decode cX0_owedTo 12 = .ok (.getfield 35, 3) := by decide +kernel
theorem dX0_owedTo_15 : decode cX0_owedTo 15 = .ok (.iload_n 1, 1) := by decide +kernel
theorem dX0_owedTo_16 : decode cX0_owedTo 16 = .ok (.iaload, 1) := by decide +kernel
theorem dX0_owedTo_17 : decode cX0_owedTo 17 = .ok (.aload_n 0, 1) := by decide +kernel
theorem dX0_owedTo_18 : decode cX0_owedTo 18 = .ok (.iload_n 1, 1) := by decide +kernel
theorem dX0_owedTo_19 : decode cX0_owedTo 19 = .ok (.iconst 1, 1) := by decide +kernel
theorem dX0_owedTo_20 : decode cX0_owedTo 20 = .ok (.invokevirtual 129, 3) := by decide +kernel
theorem dX0_owedTo_23 : decode cX0_owedTo 23 = .ok (.isub, 1) := by decide +kernel
theorem dX0_owedTo_24 : decode cX0_owedTo 24 = .ok (.iconst 0, 1) := by decide +kernel
theorem dX0_owedTo_25 : decode cX0_owedTo 25 = .ok (.invokestatic 169, 3) := by decide +kernel
theorem dX0_owedTo_28 : decode cX0_owedTo 28 = .ok (.ireturn, 1) := by decide +kernel
set_option maxRecDepth 20000 in
theorem ggX0_restOf_X0_owedTo : GoodIn wsX0_restOf wsX0_owedTo := goodIn_r _ [14, 15, 16, 6, 7, 8, 9, 17, 18, 19, 13, 20, 1, 2, 4, 5, 21, 22, 23, 24, 25, 26, 27, 28, 29, 30, 31, 32, 33, 34, 35, 36, 37, 38, 39, 40, 41, 42, 43, 44, 45, 46, 47] (by decide +kernel) (by decide +kernel)
set_option maxRecDepth 20000 in
theorem gX0_restOf_X0_owedTo : GoodIn wsX0_restOf (wsV RX0 104 RX0 yX0_owedTo wsX0_owedTo) := goodIn_app (goodIn_of _ (by decide +kernel)) ggX0_restOf_X0_owedTo
set_option maxRecDepth 20000 in
theorem ggX0_restOf_X0_ratingFor : GoodIn wsX0_restOf wsX0_ratingFor := goodIn_r _ [24, 25, 26, 27, 28, 13, 29, 30, 31, 32, 33, 34, 35, 36, 37, 38, 39, 40, 41, 42, 43, 44, 45, 46, 47] (by decide +kernel) (by decide +kernel)
set_option maxRecDepth 20000 in
theorem gX0_restOf_X0_ratingFor : GoodIn wsX0_restOf (wsV RX0 156 RX0 yX0_ratingFor wsX0_ratingFor) := goodIn_app (goodIn_of _ (by decide +kernel)) ggX0_restOf_X0_ratingFor
theorem dX0_restOf_0 : decode cX0_restOf 0 = .ok (.aload_n 0, 1) := by decide +kernel
theorem dX0_restOf_1 : decode cX0_restOf 1 = .ok (.iload_n 1, 1) := by decide +kernel
theorem dX0_restOf_2 : decode cX0_restOf 2 = .ok (.invokevirtual 104, 3) := by decide +kernel
theorem dX0_restOf_5 : decode cX0_restOf 5 = .ok (.istore_n 2, 1) := by decide +kernel
theorem dX0_restOf_6 : decode cX0_restOf 6 = .ok (.iconst 0, 1) := by decide +kernel
theorem dX0_restOf_7 : decode cX0_restOf 7 = .ok (.istore_n 3, 1) := by decide +kernel
theorem dX0_restOf_8 : decode cX0_restOf 8 = .ok (.iload_n 3, 1) := by decide +kernel
theorem dX0_restOf_9 : decode cX0_restOf 9 = .ok (.aload_n 0, 1) := by decide +kernel
theorem dX0_restOf_10 : decode cX0_restOf 10 = .ok (.getfield 84, 3) := by decide +kernel
theorem dX0_restOf_13 : decode cX0_restOf 13 = .ok (.if_icmp .ge 51, 3) := by decide +kernel
theorem dX0_restOf_16 : decode cX0_restOf 16 = .ok (.aload_n 0, 1) := by decide +kernel
theorem dX0_restOf_17 : decode cX0_restOf 17 = .ok (.getfield 44, 3) := by decide +kernel
theorem dX0_restOf_20 : decode cX0_restOf 20 = .ok (.iload_n 3, 1) := by decide +kernel
theorem dX0_restOf_21 : decode cX0_restOf 21 = .ok (.iaload, 1) := by decide +kernel
theorem dX0_restOf_22 : decode cX0_restOf 22 = .ok (.iload_n 1, 1) := by decide +kernel
theorem dX0_restOf_23 : decode cX0_restOf 23 = .ok (.if_icmp .ne 35, 3) := by decide +kernel
theorem dX0_restOf_26 : decode cX0_restOf 26 = .ok (.aload_n 0, 1) := by decide +kernel
theorem dX0_restOf_27 : decode cX0_restOf 27 = .ok (.getfield 53, 3) := by decide +kernel
theorem dX0_restOf_30 : decode cX0_restOf 30 = .ok (.iload_n 3, 1) := by decide +kernel
theorem dX0_restOf_31 : decode cX0_restOf 31 = .ok (.baload, 1) := by decide +kernel
theorem dX0_restOf_32 : decode cX0_restOf 32 = .ok (.ifCond .eq 26, 3) := by decide +kernel
theorem dX0_restOf_35 : decode cX0_restOf 35 = .ok (.aload_n 0, 1) := by decide +kernel
theorem dX0_restOf_36 : decode cX0_restOf 36 = .ok (.getfield 50, 3) := by decide +kernel
theorem dX0_restOf_39 : decode cX0_restOf 39 = .ok (.iload_n 3, 1) := by decide +kernel
theorem dX0_restOf_40 : decode cX0_restOf 40 = .ok (.iaload, 1) := by decide +kernel
theorem dX0_restOf_41 : decode cX0_restOf 41 = .ok (.ifCond .ne 17, 3) := by decide +kernel
theorem dX0_restOf_44 : decode cX0_restOf 44 = .ok (.iload_n 2, 1) := by decide +kernel
theorem dX0_restOf_45 : decode cX0_restOf 45 = .ok (.aload_n 0, 1) := by decide +kernel
theorem dX0_restOf_46 : decode cX0_restOf 46 = .ok (.iload_n 1, 1) := by decide +kernel
theorem dX0_restOf_47 : decode cX0_restOf 47 = .ok (.aload_n 0, 1) := by decide +kernel
theorem dX0_restOf_48 : decode cX0_restOf 48 = .ok (.getfield 47, 3) := by decide +kernel
theorem dX0_restOf_51 : decode cX0_restOf 51 = .ok (.iload_n 3, 1) := by decide +kernel
theorem dX0_restOf_52 : decode cX0_restOf 52 = .ok (.iaload, 1) := by decide +kernel
theorem dX0_restOf_53 : decode cX0_restOf 53 = .ok (.invokevirtual 156, 3) := by decide +kernel
theorem dX0_restOf_56 : decode cX0_restOf 56 = .ok (.isub, 1) := by decide +kernel
theorem dX0_restOf_57 : decode cX0_restOf 57 = .ok (.istore_n 2, 1) := by decide +kernel
theorem dX0_restOf_58 : decode cX0_restOf 58 = .ok (.iinc 3 1, 3) := by decide +kernel
theorem dX0_restOf_61 : decode cX0_restOf 61 = .ok (.goto (-53), 3) := by decide +kernel
theorem dX0_restOf_64 : decode cX0_restOf 64 = .ok (.iload_n 2, 1) := by decide +kernel
theorem dX0_restOf_65 : decode cX0_restOf 65 = .ok (.iconst 0, 1) := by decide +kernel
theorem dX0_restOf_66 : decode cX0_restOf 66 = .ok (.invokestatic 169, 3) := by decide +kernel
theorem dX0_restOf_69 : decode cX0_restOf 69 = .ok (.ireturn, 1) := by decide +kernel
theorem dX0_billOf_0 : decode cX0_billOf 0 = .ok (.iconst 0, 1) := by decide +kernel
theorem dX0_billOf_1 : decode cX0_billOf 1 = .ok (.istore_n 2, 1) := by decide +kernel
theorem dX0_billOf_2 : decode cX0_billOf 2 = .ok (.iconst 0, 1) := by decide +kernel
theorem dX0_billOf_3 : decode cX0_billOf 3 = .ok (.istore_n 3, 1) := by decide +kernel
theorem dX0_billOf_4 : decode cX0_billOf 4 = .ok (.iload_n 3, 1) := by decide +kernel
theorem dX0_billOf_5 : decode cX0_billOf 5 = .ok (.aload_n 0, 1) := by decide +kernel
theorem dX0_billOf_6 : decode cX0_billOf 6 = .ok (.getfield 84, 3) := by decide +kernel
theorem dX0_billOf_9 : decode cX0_billOf 9 = .ok (.if_icmp .ge 47, 3) := by decide +kernel
theorem dX0_billOf_12 : decode cX0_billOf 12 = .ok (.aload_n 0, 1) := by decide +kernel
theorem dX0_billOf_13 : decode cX0_billOf 13 = .ok (.getfield 44, 3) := by decide +kernel
theorem dX0_billOf_16 : decode cX0_billOf 16 = .ok (.iload_n 3, 1) := by decide +kernel
theorem dX0_billOf_17 : decode cX0_billOf 17 = .ok (.iaload, 1) := by decide +kernel
theorem dX0_billOf_18 : decode cX0_billOf 18 = .ok (.iload_n 1, 1) := by decide +kernel
theorem dX0_billOf_19 : decode cX0_billOf 19 = .ok (.if_icmp .ne 31, 3) := by decide +kernel
theorem dX0_billOf_22 : decode cX0_billOf 22 = .ok (.aload_n 0, 1) := by decide +kernel
theorem dX0_billOf_23 : decode cX0_billOf 23 = .ok (.getfield 53, 3) := by decide +kernel
theorem dX0_billOf_26 : decode cX0_billOf 26 = .ok (.iload_n 3, 1) := by decide +kernel
theorem dX0_billOf_27 : decode cX0_billOf 27 = .ok (.baload, 1) := by decide +kernel
theorem dX0_billOf_28 : decode cX0_billOf 28 = .ok (.ifCond .ne 22, 3) := by decide +kernel
theorem dX0_billOf_31 : decode cX0_billOf 31 = .ok (.aload_n 0, 1) := by decide +kernel
theorem dX0_billOf_32 : decode cX0_billOf 32 = .ok (.getfield 50, 3) := by decide +kernel
theorem dX0_billOf_35 : decode cX0_billOf 35 = .ok (.iload_n 3, 1) := by decide +kernel
theorem dX0_billOf_36 : decode cX0_billOf 36 = .ok (.iaload, 1) := by decide +kernel
theorem dX0_billOf_37 : decode cX0_billOf 37 = .ok (.iconst 1, 1) := by decide +kernel
theorem dX0_billOf_38 : decode cX0_billOf 38 = .ok (.if_icmp .ne 12, 3) := by decide +kernel
theorem dX0_billOf_41 : decode cX0_billOf 41 = .ok (.iload_n 2, 1) := by decide +kernel
theorem dX0_billOf_42 : decode cX0_billOf 42 = .ok (.aload_n 0, 1) := by decide +kernel
theorem dX0_billOf_43 : decode cX0_billOf 43 = .ok (.getfield 32, 3) := by decide +kernel
theorem dX0_billOf_46 : decode cX0_billOf 46 = .ok (.iload_n 1, 1) := by decide +kernel
theorem dX0_billOf_47 : decode cX0_billOf 47 = .ok (.iaload, 1) := by decide +kernel
theorem dX0_billOf_48 : decode cX0_billOf 48 = .ok (.iadd, 1) := by decide +kernel
theorem dX0_billOf_49 : decode cX0_billOf 49 = .ok (.istore_n 2, 1) := by decide +kernel
theorem dX0_billOf_50 : decode cX0_billOf 50 = .ok (.iinc 3 1, 3) := by decide +kernel
theorem dX0_billOf_53 : decode cX0_billOf 53 = .ok (.goto (-49), 3) := by decide +kernel
theorem dX0_billOf_56 : decode cX0_billOf 56 = .ok (.iload_n 2, 1) := by decide +kernel
theorem dX0_billOf_57 : decode cX0_billOf 57 = .ok (.ireturn, 1) := by decide +kernel
